/-! Methods as functions, and their contracts (by wip/gen/run.py). -/
theorem cv_ru_39 {p : Program} {l : Launch} {e : Env} {R : Room} {s : State} {m : MethodId} {args : Array Value} {below : List Frame} {meth : Method} {c : Code} {H : Heap} {locs : List Loc} {cells slots : Nat} {Q : State → Prop} {D : va_G} {cA : Nat → ClassId} {base : Nat} {w w' : WW} {cc : ByteArray} {pc nL : Nat} {ls : Array Slot} {rest st0 As : List Value} {ov : Option Value} {b : Nat} (hx : p.tables.exec = Jvm.exec) (hb : c.code = cc) (hml : c.maxLocals = nL) (hown : s.vm.findClass Rc_ru = some m.cls) (hts : ∀ w ∈ gt, w.before args s = true) (hK : va_K D cls (wo_tys cA) s) (hG : wo_G base s) (hW : wo_S D cls cA base s w H locs) (hM : mt l D cls (wo_tys cA) cA base y_ru_begin (Cond.code y_ru_begin b_ru_begin 2 (none) :: gt) rm_ru_begin (.ref b :: As) w ov w' rm_ru_begin.cells rm_ru_begin.slots) (hkb : kb w b 5 = true) (hR : rm_ru_begin.frames + 1 ≤ R.frames ∧ 8 + (2 + 11) + rm_ru_begin.locals ≤ R.locals) (hf : cells + rm_ru_begin.cells ≤ R.cells ∧ slots + rm_ru_begin.slots ≤ R.slots) (hn : As.length = 0) (hsz : ls.size = nL) (hst : st0 = As.reverse ++ .ref b :: rest) (hcat : (rest.map fun v => v.category).sum ≤ 8) (hdg : decode cc pc = .ok (.invokevirtual 39, 3)) (kk : ∀ (H1 : Heap) (locs1 : List Loc), wo_S D cls cA base s w' H1 locs1 → W p l e R s m args below meth c H1 locs1 (cells + rm_ru_begin.cells) (slots + rm_ru_begin.slots) Q (F0 m (pc + 3) ls (ov.toList ++ rest))) : W p l e R s m args below meth c H locs cells slots Q (F0 m pc ls st0) :=
  wo_callV (C := Rc_ru) hx hb hml hown hts hK hG hW hM hkb rfl (gt_of (i := 758) (by decide +kernel) (by decide +kernel)) (gt_of (i := 760) (by decide +kernel) (by decide +kernel)) (gt_sel (i := 21) (by decide +kernel) (by decide +kernel)) (gt_of (i := 6) (by decide +kernel) (by decide +kernel)) (gt_of (i := 761) (by decide +kernel) (by decide +kernel)) (by decide +kernel) hR hf hn hsz hst hcat hdg kk
theorem xv_ru_48 {p : Program} {l : Launch} {e : Env} {R : Room} {s : State} {m : MethodId} {args : Array Value} {below : List Frame} {meth : Method} {c : Code} {H : Heap} {locs : List Loc} {cells slots : Nat} {Q : State → Prop} {D : va_G} {cA : Nat → ClassId} {base : Nat} {w w' : WW} {cc : ByteArray} {pc nL : Nat} {ls : Array Slot} {rest st0 As : List Value} {E : String} {b : Nat} (hx : p.tables.exec = Jvm.exec) (hb : c.code = cc) (hml : c.maxLocals = nL) (hown : s.vm.findClass Rc_ru = some m.cls) (hts : ∀ w ∈ gt, w.before args s = true) (hK : va_K D cls (wo_tys cA) s) (hG : wo_G base s) (hW : wo_S D cls cA base s w H locs) (hM : xt l D cls (wo_tys cA) cA base y_ru_doStatements (Cond.code y_ru_doStatements b_ru_doStatements 4 (some .boolean) :: gt) rx_ru_doStatements (.ref b :: As) w E w' rx_ru_doStatements.cells rx_ru_doStatements.slots) (hkb : kb w b 5 = true) (hR : rx_ru_doStatements.frames + 1 ≤ R.frames ∧ 8 + (4 + 11) + rx_ru_doStatements.locals ≤ R.locals) (hf : cells + rx_ru_doStatements.cells ≤ R.cells ∧ slots + rx_ru_doStatements.slots ≤ R.slots) (hn : As.length = 2) (hsz : ls.size = nL) (hst : st0 = As.reverse ++ .ref b :: rest) (hcat : (rest.map fun v => v.category).sum ≤ 8) (hdg : decode cc pc = .ok (.invokevirtual 48, 3)) (kk : ∀ (H1 : Heap) (locs1 : List Loc) (q : Addr) (ce : Cell), wo_S D cls cA base s w' H1 locs1 → H1[q]? = some ce → ce.vm = .none → s.vm.findClass E = some ce.cls → XW p l e R s m args below meth c H1 locs1 (cells + rx_ru_doStatements.cells) (slots + rx_ru_doStatements.slots) Q (F0 m pc ls rest) q) : W p l e R s m args below meth c H locs cells slots Q (F0 m pc ls st0) :=
  wo_xcallV (C := Rc_ru) hx hb hml hown hts hK hG hW hM hkb rfl (gt_of (i := 762) (by decide +kernel) (by decide +kernel)) (gt_of (i := 764) (by decide +kernel) (by decide +kernel)) (gt_sel (i := 22) (by decide +kernel) (by decide +kernel)) (gt_of (i := 6) (by decide +kernel) (by decide +kernel)) (gt_of (i := 765) (by decide +kernel) (by decide +kernel)) (by decide +kernel) hR hf hn hsz hst hcat hdg kk
theorem cv_ru_48 {p : Program} {l : Launch} {e : Env} {R : Room} {s : State} {m : MethodId} {args : Array Value} {below : List Frame} {meth : Method} {c : Code} {H : Heap} {locs : List Loc} {cells slots : Nat} {Q : State → Prop} {D : va_G} {cA : Nat → ClassId} {base : Nat} {w w' : WW} {cc : ByteArray} {pc nL : Nat} {ls : Array Slot} {rest st0 As : List Value} {ov : Option Value} {b : Nat} (hx : p.tables.exec = Jvm.exec) (hb : c.code = cc) (hml : c.maxLocals = nL) (hown : s.vm.findClass Rc_ru = some m.cls) (hts : ∀ w ∈ gt, w.before args s = true) (hK : va_K D cls (wo_tys cA) s) (hG : wo_G base s) (hW : wo_S D cls cA base s w H locs) (hM : mt l D cls (wo_tys cA) cA base y_ru_doStatements (Cond.code y_ru_doStatements b_ru_doStatements 4 (some .boolean) :: gt) rm_ru_doStatements (.ref b :: As) w ov w' rm_ru_doStatements.cells rm_ru_doStatements.slots) (hkb : kb w b 5 = true) (hR : rm_ru_doStatements.frames + 1 ≤ R.frames ∧ 8 + (4 + 11) + rm_ru_doStatements.locals ≤ R.locals) (hf : cells + rm_ru_doStatements.cells ≤ R.cells ∧ slots + rm_ru_doStatements.slots ≤ R.slots) (hn : As.length = 2) (hsz : ls.size = nL) (hst : st0 = As.reverse ++ .ref b :: rest) (hcat : (rest.map fun v => v.category).sum ≤ 8) (hdg : decode cc pc = .ok (.invokevirtual 48, 3)) (kk : ∀ (H1 : Heap) (locs1 : List Loc), wo_S D cls cA base s w' H1 locs1 → W p l e R s m args below meth c H1 locs1 (cells + rm_ru_doStatements.cells) (slots + rm_ru_doStatements.slots) Q (F0 m (pc + 3) ls (ov.toList ++ rest))) : W p l e R s m args below meth c H locs cells slots Q (F0 m pc ls st0) :=
  wo_callV (C := Rc_ru) hx hb hml hown hts hK hG hW hM hkb rfl (gt_of (i := 762) (by decide +kernel) (by decide +kernel)) (gt_of (i := 764) (by decide +kernel) (by decide +kernel)) (gt_sel (i := 22) (by decide +kernel) (by decide +kernel)) (gt_of (i := 6) (by decide +kernel) (by decide +kernel)) (gt_of (i := 765) (by decide +kernel) (by decide +kernel)) (by decide +kernel) hR hf hn hsz hst hcat hdg kk
abbrev b_ru_doProgram : ByteArray := prog_6_method_3_code
def y_ru_doProgram : MethodName := ⟨"AlarmForge$Runner", "doProgram", "(LAlarmForge$Program;I)Z"⟩
def rm_ru_doProgram : Room := { frames := 7, cells := 0, slots := 0, locals := 123 }
def rx_ru_doProgram : Room := { frames := 7, cells := 1, slots := 6, locals := 123 }
theorem d_ru_doProgram_0 : decode b_ru_doProgram 0 = .ok (.aload_n 0, 1) := by decide +kernel
theorem d_ru_doProgram_1 : decode b_ru_doProgram 1 = .ok (.aload_n 1, 1) := by decide +kernel
theorem d_ru_doProgram_2 : decode b_ru_doProgram 2 = .ok (.putfield 32, 3) := by decide +kernel
theorem d_ru_doProgram_5 : decode b_ru_doProgram 5 = .ok (.aload_n 0, 1) := by decide +kernel
theorem d_ru_doProgram_6 : decode b_ru_doProgram 6 = .ok (.iload_n 2, 1) := by decide +kernel
theorem d_ru_doProgram_7 : decode b_ru_doProgram 7 = .ok (.putfield 36, 3) := by decide +kernel
theorem d_ru_doProgram_10 : decode b_ru_doProgram 10 = .ok (.aload_n 0, 1) := by decide +kernel
theorem d_ru_doProgram_11 : decode b_ru_doProgram 11 = .ok (.invokevirtual 39, 3) := by decide +kernel
theorem d_ru_doProgram_14 : decode b_ru_doProgram 14 = .ok (.aload_n 0, 1) := by decide +kernel
theorem d_ru_doProgram_15 : decode b_ru_doProgram 15 = .ok (.aload_n 0, 1) := by decide +kernel
theorem d_ru_doProgram_16 : decode b_ru_doProgram 16 = .ok (.getfield 32, 3) := by decide +kernel
theorem d_ru_doProgram_19 : decode b_ru_doProgram 19 = .ok (.getfield 42, 3) := by decide +kernel
theorem d_ru_doProgram_22 : decode b_ru_doProgram 22 = .ok (.iconst 0, 1) := by decide +kernel
theorem d_ru_doProgram_23 : decode b_ru_doProgram 23 = .ok (.invokevirtual 48, 3) := by decide +kernel
theorem d_ru_doProgram_26 : decode b_ru_doProgram 26 = .ok (.ireturn, 1) := by decide +kernel
def f_ru_doProgram (a0 : Nat) (a1 : Nat) (a2 : Int32) (w : WW) : Option ((Int32 ⊕ String) × WW) :=
  if kb w a0 5 = true then
    (pv w a0 5 6 (.ref a1)).bind fun w1 =>
    (pv w1 a0 5 7 (.int a2)).bind fun w2 =>
    (f_ru_begin a0 w2).bind fun w3 =>
    (gR w3 a0 5 6).bind fun x4 =>
    x4.bind fun x5 =>
    (gR w3 x5 3 6).bind fun x6 =>
    bdx (f_ru_doStatements a0 x6 (0 : Int32) w3) fun x8 w7 =>
    if x8 = 0 ∨ x8 = 1 then some (.inl x8, w7) else none
  else none
theorem kb_ru_doProgram {a0 a1 : Nat} {a2 : Int32} {w : WW} {r : ((Int32 ⊕ String) × WW)} (h : f_ru_doProgram a0 a1 a2 w = some r) : kb w a0 5 = true := (its h).1
set_option maxHeartbeats 4000000 in
set_option maxRecDepth 100000 in
theorem c_ru_doProgram (l : Launch) (D : va_G) (cA : Nat → ClassId) (base : Nat) {a0 : Nat} {a1 : Nat} {a2 : Int32} {w w' : WW} {r : Int32} (h : f_ru_doProgram a0 a1 a2 w = some (.inl r, w')) : mt l D cls (wo_tys cA) cA base y_ru_doProgram (Cond.code y_ru_doProgram b_ru_doProgram 3 (some .boolean) :: gt) rm_ru_doProgram [.ref a0, .ref a1, .int a2] w (some (.int r)) w' rm_ru_doProgram.cells rm_ru_doProgram.slots := by
  refine mt_start (by decide) (Nat.le_of_ble_eq_true rfl) ?_
  intro p e s m below meth c ls hx hb hr hml hown hts hlk hnm hK hG hW hl
  have C : cx b_ru_doProgram (some .boolean) 3 y_ru_doProgram.cls "doProgram" p s m [.ref a0, .ref a1, .int a2].toArray meth c D cA base := ⟨hx, hb, hr, hml, hown, hts, hlk, hnm, hK, hG⟩
  have hl : lv_has ls 3 [(0, .ref a0), (1, .ref a1), (2, .int a2)] := hl
  unfold f_ru_doProgram at h
  replace h := its h
  obtain ⟨-, h⟩ := h
  refine lv_aload_n hx hb d_ru_doProgram_0 rfl (lv_at hl 0 rfl) ?_
  refine lv_aload_n hx hb d_ru_doProgram_1 rfl (lv_at hl 1 rfl) ?_
  replace h := bs h
  obtain ⟨w1, hw1, h⟩ := h
  refine pf_ru_32 hx hb hts hown hK hG hW rfl rfl hw1 d_ru_doProgram_2 (fun H locs hW => ?_)
  refine lv_aload_n hx hb d_ru_doProgram_5 rfl (lv_at hl 0 rfl) ?_
  refine lv_iload_n hx hb d_ru_doProgram_6 rfl (lv_at hl 2 rfl) ?_
  replace h := bs h
  obtain ⟨w2, hw2, h⟩ := h
  refine pf_ru_36 hx hb hts hown hK hG hW rfl rfl hw2 d_ru_doProgram_7 (fun H locs hW => ?_)
  refine lv_aload_n hx hb d_ru_doProgram_10 rfl (lv_at hl 0 rfl) ?_
  replace h := bs h
  obtain ⟨w3, hw3, h⟩ := h
  refine cv_ru_39 (As := []) (rest := []) hx hb hml hown hts hK hG hW (c_ru_begin l D cA base hw3) (kb_ru_begin hw3) ⟨Nat.le_of_ble_eq_true rfl, Nat.le_of_ble_eq_true rfl⟩ ⟨Nat.le_of_ble_eq_true rfl, Nat.le_of_ble_eq_true rfl⟩ rfl hl.1 rfl (Nat.le_of_ble_eq_true rfl) d_ru_doProgram_11 (fun H locs hW => ?_)
  refine lv_aload_n hx hb d_ru_doProgram_14 rfl (lv_at hl 0 rfl) ?_
  refine lv_aload_n hx hb d_ru_doProgram_15 rfl (lv_at hl 0 rfl) ?_
  replace h := bs h
  obtain ⟨x4, hx4, h⟩ := h
  refine gf_ru_32 hx hb hts hown hK hG hW (gR_s hx4) d_ru_doProgram_16 ?_
  replace h := bs h
  obtain ⟨x5, ex5, h⟩ := h
  subst ex5
  replace h := bs h
  obtain ⟨x6, hx6, h⟩ := h
  refine gf_ru_42 hx hb hts hown hK hG hW (gR_s hx6) d_ru_doProgram_19 ?_
  refine lv_iconst (v := (0 : Int32)) hx hb d_ru_doProgram_22 (by decide) ?_
  replace h := bsx h
  obtain ⟨x8, w7, hw7, h⟩ := h
  refine cv_ru_48 (As := [va_rf x6, .int (0 : Int32)]) (rest := []) hx hb hml hown hts hK hG hW (c_ru_doStatements l D cA base hw7) (kb_ru_doStatements hw7) ⟨Nat.le_of_ble_eq_true rfl, Nat.le_of_ble_eq_true rfl⟩ ⟨Nat.le_of_ble_eq_true rfl, Nat.le_of_ble_eq_true rfl⟩ rfl hl.1 rfl (Nat.le_of_ble_eq_true rfl) d_ru_doProgram_23 (fun H locs hW => ?_)
  replace h := its h
  obtain ⟨c9, h⟩ := h
  cases h
  exact wo_zret hx hb hr hlk hW c9 d_ru_doProgram_26
set_option maxHeartbeats 4000000 in
set_option maxRecDepth 100000 in
theorem x_ru_doProgram (l : Launch) (hst : l.stackTraces = false) (D : va_G) (cA : Nat → ClassId) (base : Nat) {a0 : Nat} {a1 : Nat} {a2 : Int32} {w w' : WW} {E : String} (h : f_ru_doProgram a0 a1 a2 w = some (.inr E, w')) : xt l D cls (wo_tys cA) cA base y_ru_doProgram (Cond.code y_ru_doProgram b_ru_doProgram 3 (some .boolean) :: gt) rx_ru_doProgram [.ref a0, .ref a1, .int a2] w E w' rx_ru_doProgram.cells rx_ru_doProgram.slots := by
  refine xt_start (by decide) (Nat.le_of_ble_eq_true rfl) ?_
  intro p e s m below meth c ls hx hb hr hml hown hts hlk hnm hK hG hW hl hnt
  have C : cx b_ru_doProgram (some .boolean) 3 y_ru_doProgram.cls "doProgram" p s m [.ref a0, .ref a1, .int a2].toArray meth c D cA base ∧ (∀ x ∈ c.exceptionTable.toList, ∀ k : Nat, covers x k = false) ∧ l.stackTraces = false := ⟨⟨hx, hb, hr, hml, hown, hts, hlk, hnm, hK, hG⟩, hnt, hst⟩
  have hl : lv_has ls 3 [(0, .ref a0), (1, .ref a1), (2, .int a2)] := hl
  unfold f_ru_doProgram at h
  replace h := its h
  obtain ⟨-, h⟩ := h
  refine lv_aload_n hx hb d_ru_doProgram_0 rfl (lv_at hl 0 rfl) ?_
  refine lv_aload_n hx hb d_ru_doProgram_1 rfl (lv_at hl 1 rfl) ?_
  replace h := bs h
  obtain ⟨w1, hw1, h⟩ := h
  refine pf_ru_32 hx hb hts hown hK hG hW rfl rfl hw1 d_ru_doProgram_2 (fun H locs hW => ?_)
  refine lv_aload_n hx hb d_ru_doProgram_5 rfl (lv_at hl 0 rfl) ?_
  refine lv_iload_n hx hb d_ru_doProgram_6 rfl (lv_at hl 2 rfl) ?_
  replace h := bs h
  obtain ⟨w2, hw2, h⟩ := h
  refine pf_ru_36 hx hb hts hown hK hG hW rfl rfl hw2 d_ru_doProgram_7 (fun H locs hW => ?_)
  refine lv_aload_n hx hb d_ru_doProgram_10 rfl (lv_at hl 0 rfl) ?_
  replace h := bs h
  obtain ⟨w3, hw3, h⟩ := h
  refine cv_ru_39 (As := []) (rest := []) hx hb hml hown hts hK hG hW (c_ru_begin l D cA base hw3) (kb_ru_begin hw3) ⟨Nat.le_of_ble_eq_true rfl, Nat.le_of_ble_eq_true rfl⟩ ⟨Nat.le_of_ble_eq_true rfl, Nat.le_of_ble_eq_true rfl⟩ rfl hl.1 rfl (Nat.le_of_ble_eq_true rfl) d_ru_doProgram_11 (fun H locs hW => ?_)
  refine lv_aload_n hx hb d_ru_doProgram_14 rfl (lv_at hl 0 rfl) ?_
  refine lv_aload_n hx hb d_ru_doProgram_15 rfl (lv_at hl 0 rfl) ?_
  replace h := bs h
  obtain ⟨x4, hx4, h⟩ := h
  refine gf_ru_32 hx hb hts hown hK hG hW (gR_s hx4) d_ru_doProgram_16 ?_
  replace h := bs h
  obtain ⟨x5, ex5, h⟩ := h
  subst ex5
  replace h := bs h
  obtain ⟨x6, hx6, h⟩ := h
  refine gf_ru_42 hx hb hts hown hK hG hW (gR_s hx6) d_ru_doProgram_19 ?_
  refine lv_iconst (v := (0 : Int32)) hx hb d_ru_doProgram_22 (by decide) ?_
  rcases bsy h with hw7 | ⟨x8, w7, hw7, hnw7⟩
  · exact xv_ru_48 (As := [va_rf x6, .int (0 : Int32)]) (rest := []) hx hb hml hown hts hK hG hW (x_ru_doStatements l hst D cA base hw7) (kb_ru_doStatements hw7) ⟨Nat.le_of_ble_eq_true rfl, Nat.le_of_ble_eq_true rfl⟩ ⟨Nat.le_of_ble_eq_true rfl, Nat.le_of_ble_eq_true rfl⟩ rfl hl.1 rfl (Nat.le_of_ble_eq_true rfl) d_ru_doProgram_23 (fun H locs q ce hW h1 h2 h3 => wo_xout hnt hlk hW h1 h2 h3 (Nat.le_of_ble_eq_true rfl) (Nat.le_of_ble_eq_true rfl))
  clear h
  have h := hnw7
  clear hnw7
  refine cv_ru_48 (As := [va_rf x6, .int (0 : Int32)]) (rest := []) hx hb hml hown hts hK hG hW (c_ru_doStatements l D cA base hw7) (kb_ru_doStatements hw7) ⟨Nat.le_of_ble_eq_true rfl, Nat.le_of_ble_eq_true rfl⟩ ⟨Nat.le_of_ble_eq_true rfl, Nat.le_of_ble_eq_true rfl⟩ rfl hl.1 rfl (Nat.le_of_ble_eq_true rfl) d_ru_doProgram_23 (fun H locs hW => ?_)
  replace h := its h
  obtain ⟨c9, h⟩ := h
  cases h
theorem xv_a_98 {p : Program} {l : Launch} {e : Env} {R : Room} {s : State} {m : MethodId} {args : Array Value} {below : List Frame} {meth : Method} {c : Code} {H : Heap} {locs : List Loc} {cells slots : Nat} {Q : State → Prop} {D : va_G} {cA : Nat → ClassId} {base : Nat} {w w' : WW} {cc : ByteArray} {pc nL : Nat} {ls : Array Slot} {rest st0 As : List Value} {E : String} {b : Nat} (hx : p.tables.exec = Jvm.exec) (hb : c.code = cc) (hml : c.maxLocals = nL) (hown : s.vm.findClass Rc_a = some m.cls) (hts : ∀ w ∈ gt, w.before args s = true) (hK : va_K D cls (wo_tys cA) s) (hG : wo_G base s) (hW : wo_S D cls cA base s w H locs) (hM : xt l D cls (wo_tys cA) cA base y_ru_doProgram (Cond.code y_ru_doProgram b_ru_doProgram 3 (some .boolean) :: gt) rx_ru_doProgram (.ref b :: As) w E w' rx_ru_doProgram.cells rx_ru_doProgram.slots) (hkb : kb w b 5 = true) (hR : rx_ru_doProgram.frames + 1 ≤ R.frames ∧ 8 + (3 + 11) + rx_ru_doProgram.locals ≤ R.locals) (hf : cells + rx_ru_doProgram.cells ≤ R.cells ∧ slots + rx_ru_doProgram.slots ≤ R.slots) (hn : As.length = 2) (hsz : ls.size = nL) (hst : st0 = As.reverse ++ .ref b :: rest) (hcat : (rest.map fun v => v.category).sum ≤ 8) (hdg : decode cc pc = .ok (.invokevirtual 98, 3)) (kk : ∀ (H1 : Heap) (locs1 : List Loc) (q : Addr) (ce : Cell), wo_S D cls cA base s w' H1 locs1 → H1[q]? = some ce → ce.vm = .none → s.vm.findClass E = some ce.cls → XW p l e R s m args below meth c H1 locs1 (cells + rx_ru_doProgram.cells) (slots + rx_ru_doProgram.slots) Q (F0 m pc ls rest) q) : W p l e R s m args below meth c H locs cells slots Q (F0 m pc ls st0) :=
  wo_xcallV (C := Rc_ru) hx hb hml hown hts hK hG hW hM hkb rfl (gt_of (i := 754) (by decide +kernel) (by decide +kernel)) (gt_of (i := 755) (by decide +kernel) (by decide +kernel)) (gt_of (i := 756) (by decide +kernel) (by decide +kernel)) (gt_of (i := 6) (by decide +kernel) (by decide +kernel)) (gt_of (i := 757) (by decide +kernel) (by decide +kernel)) (by decide +kernel) hR hf hn hsz hst hcat hdg kk
theorem cv_a_98 {p : Program} {l : Launch} {e : Env} {R : Room} {s : State} {m : MethodId} {args : Array Value} {below : List Frame} {meth : Method} {c : Code} {H : Heap} {locs : List Loc} {cells slots : Nat} {Q : State → Prop} {D : va_G} {cA : Nat → ClassId} {base : Nat} {w w' : WW} {cc : ByteArray} {pc nL : Nat} {ls : Array Slot} {rest st0 As : List Value} {ov : Option Value} {b : Nat} (hx : p.tables.exec = Jvm.exec) (hb : c.code = cc) (hml : c.maxLocals = nL) (hown : s.vm.findClass Rc_a = some m.cls) (hts : ∀ w ∈ gt, w.before args s = true) (hK : va_K D cls (wo_tys cA) s) (hG : wo_G base s) (hW : wo_S D cls cA base s w H locs) (hM : mt l D cls (wo_tys cA) cA base y_ru_doProgram (Cond.code y_ru_doProgram b_ru_doProgram 3 (some .boolean) :: gt) rm_ru_doProgram (.ref b :: As) w ov w' rm_ru_doProgram.cells rm_ru_doProgram.slots) (hkb : kb w b 5 = true) (hR : rm_ru_doProgram.frames + 1 ≤ R.frames ∧ 8 + (3 + 11) + rm_ru_doProgram.locals ≤ R.locals) (hf : cells + rm_ru_doProgram.cells ≤ R.cells ∧ slots + rm_ru_doProgram.slots ≤ R.slots) (hn : As.length = 2) (hsz : ls.size = nL) (hst : st0 = As.reverse ++ .ref b :: rest) (hcat : (rest.map fun v => v.category).sum ≤ 8) (hdg : decode cc pc = .ok (.invokevirtual 98, 3)) (kk : ∀ (H1 : Heap) (locs1 : List Loc), wo_S D cls cA base s w' H1 locs1 → W p l e R s m args below meth c H1 locs1 (cells + rm_ru_doProgram.cells) (slots + rm_ru_doProgram.slots) Q (F0 m (pc + 3) ls (ov.toList ++ rest))) : W p l e R s m args below meth c H locs cells slots Q (F0 m pc ls st0) :=
  wo_callV (C := Rc_ru) hx hb hml hown hts hK hG hW hM hkb rfl (gt_of (i := 754) (by decide +kernel) (by decide +kernel)) (gt_of (i := 755) (by decide +kernel) (by decide +kernel)) (gt_of (i := 756) (by decide +kernel) (by decide +kernel)) (gt_of (i := 6) (by decide +kernel) (by decide +kernel)) (gt_of (i := 757) (by decide +kernel) (by decide +kernel)) (by decide +kernel) hR hf hn hsz hst hcat hdg kk
abbrev b_a_run : ByteArray := prog_1_method_11_code
def y_a_run : MethodName := ⟨"AlarmForge", "run", "(I)I"⟩
def rm_a_run : Room := { frames := 8, cells := 0, slots := 0, locals := 145 }
def rx_a_run : Room := { frames := 8, cells := 1, slots := 6, locals := 145 }
theorem d_a_run_0 : decode b_a_run 0 = .ok (.iload_n 1, 1) := by decide +kernel
theorem d_a_run_1 : decode b_a_run 1 = .ok (.ifCond .lt (10), 3) := by decide +kernel
theorem d_a_run_4 : decode b_a_run 4 = .ok (.iload_n 1, 1) := by decide +kernel
theorem d_a_run_5 : decode b_a_run 5 = .ok (.sipush (500), 3) := by decide +kernel
theorem d_a_run_8 : decode b_a_run 8 = .ok (.if_icmp .le (11), 3) := by decide +kernel
theorem d_a_run_11 : decode b_a_run 11 = .ok (.new 62, 3) := by decide +kernel
theorem d_a_run_14 : decode b_a_run 14 = .ok (.dup, 1) := by decide +kernel
theorem d_a_run_15 : decode b_a_run 15 = .ok (.invokespecial 64, 3) := by decide +kernel
theorem d_a_run_18 : decode b_a_run 18 = .ok (.athrow, 1) := by decide +kernel
theorem d_a_run_19 : decode b_a_run 19 = .ok (.aload_n 0, 1) := by decide +kernel
theorem d_a_run_20 : decode b_a_run 20 = .ok (.getfield 81, 3) := by decide +kernel
theorem d_a_run_23 : decode b_a_run 23 = .ok (.ifCond .ne (11), 3) := by decide +kernel
theorem d_a_run_26 : decode b_a_run 26 = .ok (.new 70, 3) := by decide +kernel
theorem d_a_run_29 : decode b_a_run 29 = .ok (.dup, 1) := by decide +kernel
theorem d_a_run_30 : decode b_a_run 30 = .ok (.invokespecial 72, 3) := by decide +kernel
theorem d_a_run_33 : decode b_a_run 33 = .ok (.athrow, 1) := by decide +kernel
theorem d_a_run_34 : decode b_a_run 34 = .ok (.aload_n 0, 1) := by decide +kernel
theorem d_a_run_35 : decode b_a_run 35 = .ok (.getfield 43, 3) := by decide +kernel
theorem d_a_run_38 : decode b_a_run 38 = .ok (.aload_n 0, 1) := by decide +kernel
theorem d_a_run_39 : decode b_a_run 39 = .ok (.getfield 33, 3) := by decide +kernel
theorem d_a_run_42 : decode b_a_run 42 = .ok (.iload_n 1, 1) := by decide +kernel
theorem d_a_run_43 : decode b_a_run 43 = .ok (.invokevirtual 98, 3) := by decide +kernel
theorem d_a_run_46 : decode b_a_run 46 = .ok (.ifCond .eq (7), 3) := by decide +kernel
theorem d_a_run_49 : decode b_a_run 49 = .ok (.iconst 0, 1) := by decide +kernel
theorem d_a_run_50 : decode b_a_run 50 = .ok (.goto (5), 3) := by decide +kernel
theorem d_a_run_53 : decode b_a_run 53 = .ok (.bipush (-5), 2) := by decide +kernel
theorem d_a_run_55 : decode b_a_run 55 = .ok (.ireturn, 1) := by decide +kernel
def f_a_run_11   (w : WW) : Option ((Int32 ⊕ String) × WW) :=
  some (.inr "java/lang/IllegalArgumentException", w)
def f_a_run_55  (z0 : Int32) (w : WW) : Option ((Int32 ⊕ String) × WW) :=
  some (.inl z0, w)
def f_a_run (a0 : Nat) (a1 : Int32) (w : WW) : Option ((Int32 ⊕ String) × WW) :=
  if kb w a0 0 = true then
    if a1 < 0 then
      f_a_run_11 w
    else
      if a1 ≤ (500 : Int32) then
        (gI w a0 0 6).bind fun x3 =>
        if x3 = 0 then
          some (.inr "java/lang/IllegalStateException", w)
        else
          (gN w a0 0 7).bind fun x5 =>
          (gN w a0 0 4).bind fun x6 =>
          bdx (f_ru_doProgram x5 x6 a1 w) fun x8 w7 =>
          if x8 = 0 then
            f_a_run_55 (-5 : Int32) w7
          else
            f_a_run_55 (0 : Int32) w7
      else
        f_a_run_11 w
  else none
theorem kb_a_run {a0 : Nat} {a1 : Int32} {w : WW} {r : ((Int32 ⊕ String) × WW)} (h : f_a_run a0 a1 w = some r) : kb w a0 0 = true := (its h).1
set_option maxHeartbeats 4000000 in
set_option maxRecDepth 100000 in
theorem j_a_run_11 {p : Program} {l : Launch} {e : Env} {s : State} {m : MethodId} {args : Array Value} {below : List Frame} {meth : Method} {c : Code} {D : va_G} {cA : Nat → ClassId} {base : Nat} {r : Int32} {w' : WW} (C : cx b_a_run (some .int) 2 y_a_run.cls "run" p s m args meth c D cA base)   : ∀  (w : WW), f_a_run_11  w = some (.inl r, w') → ∀ (H : Heap) (locs : List Loc) (ls : Array Slot), wo_S D cls cA base s w H locs → lv_has ls 2 [] → W p l e rm_a_run s m args below meth c H locs 0 0 (MQ below (wo_Q D cls cA base (some (.int r)) w') args s rm_a_run.cells rm_a_run.slots (wo_B base)) (F0 m 11 ls []) := by
  obtain ⟨hx, hb, hr, hml, hown, hts, hlk, hnm, hK, hG⟩ := id C
  intro  w h H locs ls hW hl
  unfold f_a_run_11 at h
  cases h
set_option maxHeartbeats 4000000 in
set_option maxRecDepth 100000 in
theorem j_a_run_55 {p : Program} {l : Launch} {e : Env} {s : State} {m : MethodId} {args : Array Value} {below : List Frame} {meth : Method} {c : Code} {D : va_G} {cA : Nat → ClassId} {base : Nat} {r : Int32} {w' : WW} (C : cx b_a_run (some .int) 2 y_a_run.cls "run" p s m args meth c D cA base)   : ∀ (z0 : Int32) (w : WW), f_a_run_55 z0 w = some (.inl r, w') → ∀ (H : Heap) (locs : List Loc) (ls : Array Slot), wo_S D cls cA base s w H locs → lv_has ls 2 [] → W p l e rm_a_run s m args below meth c H locs 0 0 (MQ below (wo_Q D cls cA base (some (.int r)) w') args s rm_a_run.cells rm_a_run.slots (wo_B base)) (F0 m 55 ls [.int z0]) := by
  obtain ⟨hx, hb, hr, hml, hown, hts, hlk, hnm, hK, hG⟩ := id C
  intro z0 w h H locs ls hW hl
  unfold f_a_run_55 at h
  cases h
  exact wo_iret hx hb hr hlk hW d_a_run_55
set_option maxHeartbeats 4000000 in
set_option maxRecDepth 100000 in
theorem c_a_run (l : Launch) (D : va_G) (cA : Nat → ClassId) (base : Nat) {a0 : Nat} {a1 : Int32} {w w' : WW} {r : Int32} (h : f_a_run a0 a1 w = some (.inl r, w')) : mt l D cls (wo_tys cA) cA base y_a_run (Cond.code y_a_run b_a_run 2 (some .int) :: gt) rm_a_run [.ref a0, .int a1] w (some (.int r)) w' rm_a_run.cells rm_a_run.slots := by
  refine mt_start (by decide) (Nat.le_of_ble_eq_true rfl) ?_
  intro p e s m below meth c ls hx hb hr hml hown hts hlk hnm hK hG hW hl
  have C : cx b_a_run (some .int) 2 y_a_run.cls "run" p s m [.ref a0, .int a1].toArray meth c D cA base := ⟨hx, hb, hr, hml, hown, hts, hlk, hnm, hK, hG⟩
  have hl : lv_has ls 2 [(0, .ref a0), (1, .int a1)] := hl
  unfold f_a_run at h
  replace h := its h
  obtain ⟨-, h⟩ := h
  refine lv_iload_n hx hb d_a_run_0 rfl (lv_at hl 1 rfl) ?_
  refine lv_if_lt (tgt := 11) hx hb d_a_run_1 (by decide) (fun c1 => ?_) (fun c1 => ?_)
  · rw [if_pos c1] at h
    exact j_a_run_11 C w h _ _ _ hW (lv_sub hl [] rfl)
  · rw [if_neg c1] at h
    refine lv_iload_n hx hb d_a_run_4 rfl (lv_at hl 1 rfl) ?_
    refine lv_sipush (v := (500 : Int32)) hx hb d_a_run_5 (by decide) ?_
    refine lv_icmp_le (tgt := 19) hx hb d_a_run_8 (by decide) (fun c2 => ?_) (fun c2 => ?_)
    · rw [if_pos c2] at h
      refine lv_aload_n hx hb d_a_run_19 rfl (lv_at hl 0 rfl) ?_
      replace h := bs h
      obtain ⟨x3, hx3, h⟩ := h
      refine gf_a_81 hx hb hts hown hK hG hW (gI_s hx3) d_a_run_20 ?_
      refine lv_if_ne (tgt := 34) hx hb d_a_run_23 (by decide) (fun c4 => ?_) (fun c4 => ?_)
      · rw [if_neg c4] at h
        refine lv_aload_n hx hb d_a_run_34 rfl (lv_at hl 0 rfl) ?_
        replace h := bs h
        obtain ⟨x5, hx5, h⟩ := h
        refine gf_a_43 hx hb hts hown hK hG hW (gN_s hx5) d_a_run_35 ?_
        refine lv_aload_n hx hb d_a_run_38 rfl (lv_at hl 0 rfl) ?_
        replace h := bs h
        obtain ⟨x6, hx6, h⟩ := h
        refine gf_a_33 hx hb hts hown hK hG hW (gN_s hx6) d_a_run_39 ?_
        refine lv_iload_n hx hb d_a_run_42 rfl (lv_at hl 1 rfl) ?_
        replace h := bsx h
        obtain ⟨x8, w7, hw7, h⟩ := h
        refine cv_a_98 (As := [.ref x6, .int a1]) (rest := []) hx hb hml hown hts hK hG hW (c_ru_doProgram l D cA base hw7) (kb_ru_doProgram hw7) ⟨Nat.le_of_ble_eq_true rfl, Nat.le_of_ble_eq_true rfl⟩ ⟨Nat.le_of_ble_eq_true rfl, Nat.le_of_ble_eq_true rfl⟩ rfl hl.1 rfl (Nat.le_of_ble_eq_true rfl) d_a_run_43 (fun H locs hW => ?_)
        refine lv_if_eq (tgt := 53) hx hb d_a_run_46 (by decide) (fun c9 => ?_) (fun c9 => ?_)
        · rw [if_pos c9] at h
          refine lv_bipush (v := (-5 : Int32)) hx hb d_a_run_53 (by decide) ?_
          exact j_a_run_55 C (-5 : Int32) w7 h _ _ _ hW (lv_sub hl [] rfl)
        · rw [if_neg c9] at h
          refine lv_iconst (v := (0 : Int32)) hx hb d_a_run_49 (by decide) ?_
          refine lv_goto (tgt := 55) hx hb d_a_run_50 (by decide) ?_
          exact j_a_run_55 C (0 : Int32) w7 h _ _ _ hW (lv_sub hl [] rfl)
      · rw [if_pos c4] at h
        cases h
    · rw [if_neg c2] at h
      exact j_a_run_11 C w h _ _ _ hW (lv_sub hl [] rfl)
set_option maxHeartbeats 4000000 in
set_option maxRecDepth 100000 in
theorem jx_a_run_11 {p : Program} {l : Launch} {e : Env} {s : State} {m : MethodId} {args : Array Value} {below : List Frame} {meth : Method} {c : Code} {D : va_G} {cA : Nat → ClassId} {base : Nat} {E : String} {w' : WW} (C : cx b_a_run (some .int) 2 y_a_run.cls "run" p s m args meth c D cA base ∧ (∀ x ∈ c.exceptionTable.toList, ∀ k : Nat, covers x k = false) ∧ l.stackTraces = false)   : ∀  (w : WW), f_a_run_11  w = some (.inr E, w') → ∀ (H : Heap) (locs : List Loc) (ls : Array Slot), wo_S D cls cA base s w H locs → lv_has ls 2 [] → W p l e rx_a_run s m args below meth c H locs 0 0 (XQ below (wo_X D cls cA base E w' rx_a_run.cells rx_a_run.slots) args s) (F0 m 11 ls []) := by
  obtain ⟨hx, hb, hr, hml, hown, hts, hlk, hnm, hK, hG⟩ := id C.1
  have hnt := C.2.1
  have hst := C.2.2
  intro  w h H locs ls hW hl
  unfold f_a_run_11 at h
  cases h
  exact wo_throw (names := ["java/lang/RuntimeException", "java/lang/Exception"]) hx hb hst hown hts hG hW hnt hlk (by decide) (by decide) (gt_of (i := 395) (by decide +kernel) (by decide +kernel)) (gt_of (i := 14) (by decide +kernel) (by decide +kernel)) ow_a_64 (hl.1.trans hml.symm) d_a_run_11 d_a_run_14 d_a_run_15 d_a_run_18 (Nat.le_of_ble_eq_true rfl) (Nat.le_of_ble_eq_true rfl) (Nat.le_of_ble_eq_true rfl) (Nat.le_of_ble_eq_true rfl) (Nat.le_of_ble_eq_true rfl) (Nat.le_of_ble_eq_true rfl)
set_option maxHeartbeats 4000000 in
set_option maxRecDepth 100000 in
theorem jx_a_run_55 {p : Program} {l : Launch} {e : Env} {s : State} {m : MethodId} {args : Array Value} {below : List Frame} {meth : Method} {c : Code} {D : va_G} {cA : Nat → ClassId} {base : Nat} {E : String} {w' : WW} (C : cx b_a_run (some .int) 2 y_a_run.cls "run" p s m args meth c D cA base ∧ (∀ x ∈ c.exceptionTable.toList, ∀ k : Nat, covers x k = false) ∧ l.stackTraces = false)   : ∀ (z0 : Int32) (w : WW), f_a_run_55 z0 w = some (.inr E, w') → ∀ (H : Heap) (locs : List Loc) (ls : Array Slot), wo_S D cls cA base s w H locs → lv_has ls 2 [] → W p l e rx_a_run s m args below meth c H locs 0 0 (XQ below (wo_X D cls cA base E w' rx_a_run.cells rx_a_run.slots) args s) (F0 m 55 ls [.int z0]) := by
  obtain ⟨hx, hb, hr, hml, hown, hts, hlk, hnm, hK, hG⟩ := id C.1
  have hnt := C.2.1
  have hst := C.2.2
  intro z0 w h H locs ls hW hl
  unfold f_a_run_55 at h
  cases h
set_option maxHeartbeats 4000000 in
set_option maxRecDepth 100000 in
theorem x_a_run (l : Launch) (hst : l.stackTraces = false) (D : va_G) (cA : Nat → ClassId) (base : Nat) {a0 : Nat} {a1 : Int32} {w w' : WW} {E : String} (h : f_a_run a0 a1 w = some (.inr E, w')) : xt l D cls (wo_tys cA) cA base y_a_run (Cond.code y_a_run b_a_run 2 (some .int) :: gt) rx_a_run [.ref a0, .int a1] w E w' rx_a_run.cells rx_a_run.slots := by
  refine xt_start (by decide) (Nat.le_of_ble_eq_true rfl) ?_
  intro p e s m below meth c ls hx hb hr hml hown hts hlk hnm hK hG hW hl hnt
  have C : cx b_a_run (some .int) 2 y_a_run.cls "run" p s m [.ref a0, .int a1].toArray meth c D cA base ∧ (∀ x ∈ c.exceptionTable.toList, ∀ k : Nat, covers x k = false) ∧ l.stackTraces = false := ⟨⟨hx, hb, hr, hml, hown, hts, hlk, hnm, hK, hG⟩, hnt, hst⟩
  have hl : lv_has ls 2 [(0, .ref a0), (1, .int a1)] := hl
  unfold f_a_run at h
  replace h := its h
  obtain ⟨-, h⟩ := h
  refine lv_iload_n hx hb d_a_run_0 rfl (lv_at hl 1 rfl) ?_
  refine lv_if_lt (tgt := 11) hx hb d_a_run_1 (by decide) (fun c1 => ?_) (fun c1 => ?_)
  · rw [if_pos c1] at h
    exact jx_a_run_11 C w h _ _ _ hW (lv_sub hl [] rfl)
  · rw [if_neg c1] at h
    refine lv_iload_n hx hb d_a_run_4 rfl (lv_at hl 1 rfl) ?_
    refine lv_sipush (v := (500 : Int32)) hx hb d_a_run_5 (by decide) ?_
    refine lv_icmp_le (tgt := 19) hx hb d_a_run_8 (by decide) (fun c2 => ?_) (fun c2 => ?_)
    · rw [if_pos c2] at h
      refine lv_aload_n hx hb d_a_run_19 rfl (lv_at hl 0 rfl) ?_
      replace h := bs h
      obtain ⟨x3, hx3, h⟩ := h
      refine gf_a_81 hx hb hts hown hK hG hW (gI_s hx3) d_a_run_20 ?_
      refine lv_if_ne (tgt := 34) hx hb d_a_run_23 (by decide) (fun c4 => ?_) (fun c4 => ?_)
      · rw [if_neg c4] at h
        refine lv_aload_n hx hb d_a_run_34 rfl (lv_at hl 0 rfl) ?_
        replace h := bs h
        obtain ⟨x5, hx5, h⟩ := h
        refine gf_a_43 hx hb hts hown hK hG hW (gN_s hx5) d_a_run_35 ?_
        refine lv_aload_n hx hb d_a_run_38 rfl (lv_at hl 0 rfl) ?_
        replace h := bs h
        obtain ⟨x6, hx6, h⟩ := h
        refine gf_a_33 hx hb hts hown hK hG hW (gN_s hx6) d_a_run_39 ?_
        refine lv_iload_n hx hb d_a_run_42 rfl (lv_at hl 1 rfl) ?_
        rcases bsy h with hw7 | ⟨x8, w7, hw7, hnw7⟩
        · exact xv_a_98 (As := [.ref x6, .int a1]) (rest := []) hx hb hml hown hts hK hG hW (x_ru_doProgram l hst D cA base hw7) (kb_ru_doProgram hw7) ⟨Nat.le_of_ble_eq_true rfl, Nat.le_of_ble_eq_true rfl⟩ ⟨Nat.le_of_ble_eq_true rfl, Nat.le_of_ble_eq_true rfl⟩ rfl hl.1 rfl (Nat.le_of_ble_eq_true rfl) d_a_run_43 (fun H locs q ce hW h1 h2 h3 => wo_xout hnt hlk hW h1 h2 h3 (Nat.le_of_ble_eq_true rfl) (Nat.le_of_ble_eq_true rfl))
        clear h
        have h := hnw7
        clear hnw7
        refine cv_a_98 (As := [.ref x6, .int a1]) (rest := []) hx hb hml hown hts hK hG hW (c_ru_doProgram l D cA base hw7) (kb_ru_doProgram hw7) ⟨Nat.le_of_ble_eq_true rfl, Nat.le_of_ble_eq_true rfl⟩ ⟨Nat.le_of_ble_eq_true rfl, Nat.le_of_ble_eq_true rfl⟩ rfl hl.1 rfl (Nat.le_of_ble_eq_true rfl) d_a_run_43 (fun H locs hW => ?_)
        refine lv_if_eq (tgt := 53) hx hb d_a_run_46 (by decide) (fun c9 => ?_) (fun c9 => ?_)
        · rw [if_pos c9] at h
          refine lv_bipush (v := (-5 : Int32)) hx hb d_a_run_53 (by decide) ?_
          exact jx_a_run_55 C (-5 : Int32) w7 h _ _ _ hW (lv_sub hl [] rfl)
        · rw [if_neg c9] at h
          refine lv_iconst (v := (0 : Int32)) hx hb d_a_run_49 (by decide) ?_
          refine lv_goto (tgt := 55) hx hb d_a_run_50 (by decide) ?_
          exact jx_a_run_55 C (0 : Int32) w7 h _ _ _ hW (lv_sub hl [] rfl)
      · rw [if_pos c4] at h
        cases h
        exact wo_throw (names := ["java/lang/RuntimeException", "java/lang/Exception"]) hx hb hst hown hts hG hW hnt hlk (by decide) (by decide) (gt_of (i := 460) (by decide +kernel) (by decide +kernel)) (gt_of (i := 15) (by decide +kernel) (by decide +kernel)) ow_a_72 (hl.1.trans hml.symm) d_a_run_26 d_a_run_29 d_a_run_30 d_a_run_33 (Nat.le_of_ble_eq_true rfl) (Nat.le_of_ble_eq_true rfl) (Nat.le_of_ble_eq_true rfl) (Nat.le_of_ble_eq_true rfl) (Nat.le_of_ble_eq_true rfl) (Nat.le_of_ble_eq_true rfl)
    · rw [if_neg c2] at h
      exact jx_a_run_11 C w h _ _ _ hW (lv_sub hl [] rfl)
abbrev b_pg_growthOf : ByteArray := prog_4_method_5_code
def y_pg_growthOf : MethodName := ⟨"AlarmForge$Program", "growthOf", "(I)I"⟩
def rm_pg_growthOf : Room := { frames := 0, cells := 0, slots := 0, locals := 0 }
theorem d_pg_growthOf_0 : decode b_pg_growthOf 0 = .ok (.aload_n 0, 1) := by decide +kernel
theorem d_pg_growthOf_1 : decode b_pg_growthOf 1 = .ok (.getfield 18, 3) := by decide +kernel
theorem d_pg_growthOf_4 : decode b_pg_growthOf 4 = .ok (.iload_n 1, 1) := by decide +kernel
theorem d_pg_growthOf_5 : decode b_pg_growthOf 5 = .ok (.iaload, 1) := by decide +kernel
theorem d_pg_growthOf_6 : decode b_pg_growthOf 6 = .ok (.istore_n 2, 1) := by decide +kernel
theorem d_pg_growthOf_7 : decode b_pg_growthOf 7 = .ok (.iload_n 2, 1) := by decide +kernel
theorem d_pg_growthOf_8 : decode b_pg_growthOf 8 = .ok (.iconst 1, 1) := by decide +kernel
theorem d_pg_growthOf_9 : decode b_pg_growthOf 9 = .ok (.if_icmp .eq (8), 3) := by decide +kernel
theorem d_pg_growthOf_12 : decode b_pg_growthOf 12 = .ok (.iload_n 2, 1) := by decide +kernel
theorem d_pg_growthOf_13 : decode b_pg_growthOf 13 = .ok (.iconst 2, 1) := by decide +kernel
theorem d_pg_growthOf_14 : decode b_pg_growthOf 14 = .ok (.if_icmp .ne (5), 3) := by decide +kernel
theorem d_pg_growthOf_17 : decode b_pg_growthOf 17 = .ok (.iconst 1, 1) := by decide +kernel
theorem d_pg_growthOf_18 : decode b_pg_growthOf 18 = .ok (.ireturn, 1) := by decide +kernel
theorem d_pg_growthOf_19 : decode b_pg_growthOf 19 = .ok (.iload_n 2, 1) := by decide +kernel
theorem d_pg_growthOf_20 : decode b_pg_growthOf 20 = .ok (.iconst 3, 1) := by decide +kernel
theorem d_pg_growthOf_21 : decode b_pg_growthOf 21 = .ok (.if_icmp .eq (10), 3) := by decide +kernel
theorem d_pg_growthOf_24 : decode b_pg_growthOf 24 = .ok (.iload_n 2, 1) := by decide +kernel
theorem d_pg_growthOf_25 : decode b_pg_growthOf 25 = .ok (.sipush (259), 3) := by decide +kernel
theorem d_pg_growthOf_28 : decode b_pg_growthOf 28 = .ok (.if_icmp .ne (7), 3) := by decide +kernel
theorem d_pg_growthOf_31 : decode b_pg_growthOf 31 = .ok (.iconst 0, 1) := by decide +kernel
theorem d_pg_growthOf_32 : decode b_pg_growthOf 32 = .ok (.goto (4), 3) := by decide +kernel
theorem d_pg_growthOf_35 : decode b_pg_growthOf 35 = .ok (.iconst (-1), 1) := by decide +kernel
theorem d_pg_growthOf_36 : decode b_pg_growthOf 36 = .ok (.ireturn, 1) := by decide +kernel
def f_pg_growthOf_17   (w : WW) : Option (Int32 × WW) :=
  some ((1 : Int32), w)
def f_pg_growthOf_36  (z0 : Int32) (w : WW) : Option (Int32 × WW) :=
  some (z0, w)
def f_pg_growthOf_31   (w : WW) : Option (Int32 × WW) :=
  f_pg_growthOf_36 (0 : Int32) w
def f_pg_growthOf (a0 : Nat) (a1 : Int32) (w : WW) : Option (Int32 × WW) :=
  if kb w a0 3 = true then
    (gN w a0 3 2).bind fun x1 =>
    (rI w x1 0 a1).bind fun x2 =>
    if x2 = (1 : Int32) then
      f_pg_growthOf_17 w
    else
      if x2 = (2 : Int32) then
        f_pg_growthOf_17 w
      else
        if x2 = (3 : Int32) then
          f_pg_growthOf_31 w
        else
          if x2 = (259 : Int32) then
            f_pg_growthOf_31 w
          else
            f_pg_growthOf_36 (-1 : Int32) w
  else none
theorem kb_pg_growthOf {a0 : Nat} {a1 : Int32} {w : WW} {r : (Int32 × WW)} (h : f_pg_growthOf a0 a1 w = some r) : kb w a0 3 = true := (its h).1
set_option maxHeartbeats 4000000 in
set_option maxRecDepth 100000 in
theorem j_pg_growthOf_17 {p : Program} {l : Launch} {e : Env} {s : State} {m : MethodId} {args : Array Value} {below : List Frame} {meth : Method} {c : Code} {D : va_G} {cA : Nat → ClassId} {base : Nat} {r : Int32} {w' : WW} (C : cx b_pg_growthOf (some .int) 3 y_pg_growthOf.cls "growthOf" p s m args meth c D cA base)   : ∀  (w : WW), f_pg_growthOf_17  w = some (r, w') → ∀ (H : Heap) (locs : List Loc) (ls : Array Slot), wo_S D cls cA base s w H locs → lv_has ls 3 [] → W p l e rm_pg_growthOf s m args below meth c H locs 0 0 (MQ below (wo_Q D cls cA base (some (.int r)) w') args s rm_pg_growthOf.cells rm_pg_growthOf.slots (wo_B base)) (F0 m 17 ls []) := by
  obtain ⟨hx, hb, hr, hml, hown, hts, hlk, hnm, hK, hG⟩ := id C
  intro  w h H locs ls hW hl
  unfold f_pg_growthOf_17 at h
  refine lv_iconst (v := (1 : Int32)) hx hb d_pg_growthOf_17 (by decide) ?_
  cases h
  exact wo_iret hx hb hr hlk hW d_pg_growthOf_18
set_option maxHeartbeats 4000000 in
set_option maxRecDepth 100000 in
theorem j_pg_growthOf_36 {p : Program} {l : Launch} {e : Env} {s : State} {m : MethodId} {args : Array Value} {below : List Frame} {meth : Method} {c : Code} {D : va_G} {cA : Nat → ClassId} {base : Nat} {r : Int32} {w' : WW} (C : cx b_pg_growthOf (some .int) 3 y_pg_growthOf.cls "growthOf" p s m args meth c D cA base)   : ∀ (z0 : Int32) (w : WW), f_pg_growthOf_36 z0 w = some (r, w') → ∀ (H : Heap) (locs : List Loc) (ls : Array Slot), wo_S D cls cA base s w H locs → lv_has ls 3 [] → W p l e rm_pg_growthOf s m args below meth c H locs 0 0 (MQ below (wo_Q D cls cA base (some (.int r)) w') args s rm_pg_growthOf.cells rm_pg_growthOf.slots (wo_B base)) (F0 m 36 ls [.int z0]) := by
  obtain ⟨hx, hb, hr, hml, hown, hts, hlk, hnm, hK, hG⟩ := id C
  intro z0 w h H locs ls hW hl
  unfold f_pg_growthOf_36 at h
  cases h
  exact wo_iret hx hb hr hlk hW d_pg_growthOf_36
set_option maxHeartbeats 4000000 in
set_option maxRecDepth 100000 in
theorem j_pg_growthOf_31 {p : Program} {l : Launch} {e : Env} {s : State} {m : MethodId} {args : Array Value} {below : List Frame} {meth : Method} {c : Code} {D : va_G} {cA : Nat → ClassId} {base : Nat} {r : Int32} {w' : WW} (C : cx b_pg_growthOf (some .int) 3 y_pg_growthOf.cls "growthOf" p s m args meth c D cA base)   : ∀  (w : WW), f_pg_growthOf_31  w = some (r, w') → ∀ (H : Heap) (locs : List Loc) (ls : Array Slot), wo_S D cls cA base s w H locs → lv_has ls 3 [] → W p l e rm_pg_growthOf s m args below meth c H locs 0 0 (MQ below (wo_Q D cls cA base (some (.int r)) w') args s rm_pg_growthOf.cells rm_pg_growthOf.slots (wo_B base)) (F0 m 31 ls []) := by
  obtain ⟨hx, hb, hr, hml, hown, hts, hlk, hnm, hK, hG⟩ := id C
  intro  w h H locs ls hW hl
  unfold f_pg_growthOf_31 at h
  refine lv_iconst (v := (0 : Int32)) hx hb d_pg_growthOf_31 (by decide) ?_
  refine lv_goto (tgt := 36) hx hb d_pg_growthOf_32 (by decide) ?_
  exact j_pg_growthOf_36 C (0 : Int32) w h _ _ _ hW (lv_sub hl [] rfl)
set_option maxHeartbeats 4000000 in
set_option maxRecDepth 100000 in
theorem c_pg_growthOf (l : Launch) (D : va_G) (cA : Nat → ClassId) (base : Nat) {a0 : Nat} {a1 : Int32} {w w' : WW} {r : Int32} (h : f_pg_growthOf a0 a1 w = some (r, w')) : mt l D cls (wo_tys cA) cA base y_pg_growthOf (Cond.code y_pg_growthOf b_pg_growthOf 3 (some .int) :: gt) rm_pg_growthOf [.ref a0, .int a1] w (some (.int r)) w' rm_pg_growthOf.cells rm_pg_growthOf.slots := by
  refine mt_start (by decide) (Nat.le_of_ble_eq_true rfl) ?_
  intro p e s m below meth c ls hx hb hr hml hown hts hlk hnm hK hG hW hl
  have C : cx b_pg_growthOf (some .int) 3 y_pg_growthOf.cls "growthOf" p s m [.ref a0, .int a1].toArray meth c D cA base := ⟨hx, hb, hr, hml, hown, hts, hlk, hnm, hK, hG⟩
  have hl : lv_has ls 3 [(0, .ref a0), (1, .int a1)] := hl
  unfold f_pg_growthOf at h
  replace h := its h
  obtain ⟨-, h⟩ := h
  refine lv_aload_n hx hb d_pg_growthOf_0 rfl (lv_at hl 0 rfl) ?_
  replace h := bs h
  obtain ⟨x1, hx1, h⟩ := h
  refine gf_pg_18 hx hb hts hown hK hG hW (gN_s hx1) d_pg_growthOf_1 ?_
  refine lv_iload_n hx hb d_pg_growthOf_4 rfl (lv_at hl 1 rfl) ?_
  replace h := bs h
  obtain ⟨x2, hx2, h⟩ := h
  refine wo_iald hx hb hK hW (t := 0) rfl hx2 d_pg_growthOf_5 ?_
  refine lv_istore_n (lv' := [(2, .int x2), (0, .ref a0), (1, .int a1)]) hx hb d_pg_growthOf_6 rfl hl (by decide) rfl (fun ls hl => ?_)
  refine lv_iload_n hx hb d_pg_growthOf_7 rfl (lv_at hl 0 rfl) ?_
  refine lv_iconst (v := (1 : Int32)) hx hb d_pg_growthOf_8 (by decide) ?_
  refine lv_icmp_eq (tgt := 17) hx hb d_pg_growthOf_9 (by decide) (fun c3 => ?_) (fun c3 => ?_)
  · rw [if_pos c3] at h
    exact j_pg_growthOf_17 C w h _ _ _ hW (lv_sub hl [] rfl)
  · rw [if_neg c3] at h
    refine lv_iload_n hx hb d_pg_growthOf_12 rfl (lv_at hl 0 rfl) ?_
    refine lv_iconst (v := (2 : Int32)) hx hb d_pg_growthOf_13 (by decide) ?_
    refine lv_icmp_ne (tgt := 19) hx hb d_pg_growthOf_14 (by decide) (fun c4 => ?_) (fun c4 => ?_)
    · rw [if_neg c4] at h
      refine lv_iload_n hx hb d_pg_growthOf_19 rfl (lv_at hl 0 rfl) ?_
      refine lv_iconst (v := (3 : Int32)) hx hb d_pg_growthOf_20 (by decide) ?_
      refine lv_icmp_eq (tgt := 31) hx hb d_pg_growthOf_21 (by decide) (fun c5 => ?_) (fun c5 => ?_)
      · rw [if_pos c5] at h
        exact j_pg_growthOf_31 C w h _ _ _ hW (lv_sub hl [] rfl)
      · rw [if_neg c5] at h
        refine lv_iload_n hx hb d_pg_growthOf_24 rfl (lv_at hl 0 rfl) ?_
        refine lv_sipush (v := (259 : Int32)) hx hb d_pg_growthOf_25 (by decide) ?_
        refine lv_icmp_ne (tgt := 35) hx hb d_pg_growthOf_28 (by decide) (fun c6 => ?_) (fun c6 => ?_)
        · rw [if_neg c6] at h
          refine lv_iconst (v := (-1 : Int32)) hx hb d_pg_growthOf_35 (by decide) ?_
          exact j_pg_growthOf_36 C (-1 : Int32) w h _ _ _ hW (lv_sub hl [] rfl)
        · rw [if_pos c6] at h
          exact j_pg_growthOf_31 C w h _ _ _ hW (lv_sub hl [] rfl)
    · rw [if_pos c4] at h
      exact j_pg_growthOf_17 C w h _ _ _ hW (lv_sub hl [] rfl)
abbrev b_ru_fail : ByteArray := prog_6_method_19_code
def y_ru_fail : MethodName := ⟨"AlarmForge$Runner", "fail", "(II)V"⟩
def rm_ru_fail : Room := { frames := 6, cells := 0, slots := 0, locals := 100 }
def rx_ru_fail : Room := { frames := 6, cells := 1, slots := 6, locals := 100 }
theorem ow_ru_163 : (Bundle.ownAtoms0 "AlarmForge$Runner" 163 "java/lang/IllegalStateException" ["java/lang/RuntimeException", "java/lang/Exception"]).all ow_ok = true := by decide +kernel
theorem ow_ru_166 : (Bundle.ownAtoms0 "AlarmForge$Runner" 166 "java/lang/IndexOutOfBoundsException" ["java/lang/RuntimeException", "java/lang/Exception"]).all ow_ok = true := by decide +kernel
theorem ow_ru_169 : (Bundle.ownAtoms0 "AlarmForge$Runner" 169 "java/lang/UnsupportedOperationException" ["java/lang/RuntimeException", "java/lang/Exception"]).all ow_ok = true := by decide +kernel
theorem ow_ru_172 : (Bundle.ownAtoms0 "AlarmForge$Runner" 172 "java/lang/ArithmeticException" ["java/lang/RuntimeException", "java/lang/Exception"]).all ow_ok = true := by decide +kernel
theorem d_ru_fail_0 : decode b_ru_fail 0 = .ok (.aload_n 0, 1) := by decide +kernel
theorem d_ru_fail_1 : decode b_ru_fail 1 = .ok (.sipush (1024), 3) := by decide +kernel
theorem d_ru_fail_4 : decode b_ru_fail 4 = .ok (.iload_n 1, 1) := by decide +kernel
theorem d_ru_fail_5 : decode b_ru_fail 5 = .ok (.imul, 1) := by decide +kernel
theorem d_ru_fail_6 : decode b_ru_fail 6 = .ok (.iload_n 2, 1) := by decide +kernel
theorem d_ru_fail_7 : decode b_ru_fail 7 = .ok (.iadd, 1) := by decide +kernel
theorem d_ru_fail_8 : decode b_ru_fail 8 = .ok (.putfield 58, 3) := by decide +kernel
theorem d_ru_fail_11 : decode b_ru_fail 11 = .ok (.iload_n 1, 1) := by decide +kernel
theorem d_ru_fail_12 : decode b_ru_fail 12 = .ok (.tableswitch (60) (1) (5) #[36, 44, 60, 60, 52], 36) := by decide +kernel
theorem d_ru_fail_48 : decode b_ru_fail 48 = .ok (.new 161, 3) := by decide +kernel
theorem d_ru_fail_51 : decode b_ru_fail 51 = .ok (.dup, 1) := by decide +kernel
theorem d_ru_fail_52 : decode b_ru_fail 52 = .ok (.invokespecial 163, 3) := by decide +kernel
theorem d_ru_fail_55 : decode b_ru_fail 55 = .ok (.athrow, 1) := by decide +kernel
theorem d_ru_fail_56 : decode b_ru_fail 56 = .ok (.new 164, 3) := by decide +kernel
theorem d_ru_fail_59 : decode b_ru_fail 59 = .ok (.dup, 1) := by decide +kernel
theorem d_ru_fail_60 : decode b_ru_fail 60 = .ok (.invokespecial 166, 3) := by decide +kernel
theorem d_ru_fail_63 : decode b_ru_fail 63 = .ok (.athrow, 1) := by decide +kernel
theorem d_ru_fail_64 : decode b_ru_fail 64 = .ok (.new 167, 3) := by decide +kernel
theorem d_ru_fail_67 : decode b_ru_fail 67 = .ok (.dup, 1) := by decide +kernel
theorem d_ru_fail_68 : decode b_ru_fail 68 = .ok (.invokespecial 169, 3) := by decide +kernel
theorem d_ru_fail_71 : decode b_ru_fail 71 = .ok (.athrow, 1) := by decide +kernel
theorem d_ru_fail_72 : decode b_ru_fail 72 = .ok (.new 170, 3) := by decide +kernel
theorem d_ru_fail_75 : decode b_ru_fail 75 = .ok (.dup, 1) := by decide +kernel
theorem d_ru_fail_76 : decode b_ru_fail 76 = .ok (.invokespecial 172, 3) := by decide +kernel
theorem d_ru_fail_79 : decode b_ru_fail 79 = .ok (.athrow, 1) := by decide +kernel
def f_ru_fail (a0 : Nat) (a1 : Int32) (a2 : Int32) (w : WW) : Option ((Unit ⊕ String) × WW) :=
  if kb w a0 5 = true then
    (pv w a0 5 10 (.int (((1024 : Int32) * a1) + a2))).bind fun w1 =>
    if a1 = (1 : Int32) then
      some (.inr "java/lang/IllegalStateException", w1)
    else
      if a1 = (2 : Int32) then
        some (.inr "java/lang/IndexOutOfBoundsException", w1)
      else
        if a1 = (3 : Int32) then
          some (.inr "java/lang/ArithmeticException", w1)
        else
          if a1 = (4 : Int32) then
            some (.inr "java/lang/ArithmeticException", w1)
          else
            if a1 = (5 : Int32) then
              some (.inr "java/lang/UnsupportedOperationException", w1)
            else
              some (.inr "java/lang/ArithmeticException", w1)
  else none
theorem kb_ru_fail {a0 : Nat} {a1 : Int32} {a2 : Int32} {w : WW} {r : ((Unit ⊕ String) × WW)} (h : f_ru_fail a0 a1 a2 w = some r) : kb w a0 5 = true := (its h).1
set_option maxHeartbeats 4000000 in
set_option maxRecDepth 100000 in
theorem c_ru_fail (l : Launch) (D : va_G) (cA : Nat → ClassId) (base : Nat) {a0 : Nat} {a1 : Int32} {a2 : Int32} {w w' : WW} (h : f_ru_fail a0 a1 a2 w = some (.inl (), w')) : mt l D cls (wo_tys cA) cA base y_ru_fail (Cond.code y_ru_fail b_ru_fail 3 (none) :: gt) rm_ru_fail [.ref a0, .int a1, .int a2] w none w' rm_ru_fail.cells rm_ru_fail.slots := by
  refine mt_start (by decide) (Nat.le_of_ble_eq_true rfl) ?_
  intro p e s m below meth c ls hx hb hr hml hown hts hlk hnm hK hG hW hl
  have C : cx b_ru_fail (none) 3 y_ru_fail.cls "fail" p s m [.ref a0, .int a1, .int a2].toArray meth c D cA base := ⟨hx, hb, hr, hml, hown, hts, hlk, hnm, hK, hG⟩
  have hl : lv_has ls 3 [(0, .ref a0), (1, .int a1), (2, .int a2)] := hl
  unfold f_ru_fail at h
  replace h := its h
  obtain ⟨-, h⟩ := h
  refine lv_aload_n hx hb d_ru_fail_0 rfl (lv_at hl 0 rfl) ?_
  refine lv_sipush (v := (1024 : Int32)) hx hb d_ru_fail_1 (by decide) ?_
  refine lv_iload_n hx hb d_ru_fail_4 rfl (lv_at hl 1 rfl) ?_
  refine lv_imul hx hb d_ru_fail_5 ?_
  refine lv_iload_n hx hb d_ru_fail_6 rfl (lv_at hl 2 rfl) ?_
  refine lv_iadd hx hb d_ru_fail_7 ?_
  replace h := bs h
  obtain ⟨w1, hw1, h⟩ := h
  refine pf_ru_58 hx hb hts hown hK hG hW rfl rfl hw1 d_ru_fail_8 (fun H locs hW => ?_)
  refine lv_iload_n hx hb d_ru_fail_11 rfl (lv_at hl 1 rfl) ?_
  by_cases c2 : a1 = (1 : Int32)
  · rw [if_pos c2] at h
    refine lv_tableIn (off := 36) (tgt := 48) hx hb d_ru_fail_12 (by rw [c2]; decide) (by rw [c2]; decide) (by rw [c2]; rfl) (by decide) ?_
    cases h
  · rw [if_neg c2] at h
    by_cases c3 : a1 = (2 : Int32)
    · rw [if_pos c3] at h
      refine lv_tableIn (off := 44) (tgt := 56) hx hb d_ru_fail_12 (by rw [c3]; decide) (by rw [c3]; decide) (by rw [c3]; rfl) (by decide) ?_
      cases h
    · rw [if_neg c3] at h
      by_cases c4 : a1 = (3 : Int32)
      · rw [if_pos c4] at h
        refine lv_tableIn (off := 60) (tgt := 72) hx hb d_ru_fail_12 (by rw [c4]; decide) (by rw [c4]; decide) (by rw [c4]; rfl) (by decide) ?_
        cases h
      · rw [if_neg c4] at h
        by_cases c5 : a1 = (4 : Int32)
        · rw [if_pos c5] at h
          refine lv_tableIn (off := 60) (tgt := 72) hx hb d_ru_fail_12 (by rw [c5]; decide) (by rw [c5]; decide) (by rw [c5]; rfl) (by decide) ?_
          cases h
        · rw [if_neg c5] at h
          by_cases c6 : a1 = (5 : Int32)
          · rw [if_pos c6] at h
            refine lv_tableIn (off := 52) (tgt := 64) hx hb d_ru_fail_12 (by rw [c6]; decide) (by rw [c6]; decide) (by rw [c6]; rfl) (by decide) ?_
            cases h
          · rw [if_neg c6] at h
            refine lv_tableOut (tgt := 72) hx hb d_ru_fail_12 (by have n0 := lv_neT c2 (show (1 : Int32).toInt = 1 from rfl); have n1 := lv_neT c3 (show (2 : Int32).toInt = 2 from rfl); have n2 := lv_neT c4 (show (3 : Int32).toInt = 3 from rfl); have n3 := lv_neT c5 (show (4 : Int32).toInt = 4 from rfl); have n4 := lv_neT c6 (show (5 : Int32).toInt = 5 from rfl); omega) (by decide) ?_
            cases h
set_option maxHeartbeats 4000000 in
set_option maxRecDepth 100000 in
theorem x_ru_fail (l : Launch) (hst : l.stackTraces = false) (D : va_G) (cA : Nat → ClassId) (base : Nat) {a0 : Nat} {a1 : Int32} {a2 : Int32} {w w' : WW} {E : String} (h : f_ru_fail a0 a1 a2 w = some (.inr E, w')) : xt l D cls (wo_tys cA) cA base y_ru_fail (Cond.code y_ru_fail b_ru_fail 3 (none) :: gt) rx_ru_fail [.ref a0, .int a1, .int a2] w E w' rx_ru_fail.cells rx_ru_fail.slots := by
  refine xt_start (by decide) (Nat.le_of_ble_eq_true rfl) ?_
  intro p e s m below meth c ls hx hb hr hml hown hts hlk hnm hK hG hW hl hnt
  have C : cx b_ru_fail (none) 3 y_ru_fail.cls "fail" p s m [.ref a0, .int a1, .int a2].toArray meth c D cA base ∧ (∀ x ∈ c.exceptionTable.toList, ∀ k : Nat, covers x k = false) ∧ l.stackTraces = false := ⟨⟨hx, hb, hr, hml, hown, hts, hlk, hnm, hK, hG⟩, hnt, hst⟩
  have hl : lv_has ls 3 [(0, .ref a0), (1, .int a1), (2, .int a2)] := hl
  unfold f_ru_fail at h
  replace h := its h
  obtain ⟨-, h⟩ := h
  refine lv_aload_n hx hb d_ru_fail_0 rfl (lv_at hl 0 rfl) ?_
  refine lv_sipush (v := (1024 : Int32)) hx hb d_ru_fail_1 (by decide) ?_
  refine lv_iload_n hx hb d_ru_fail_4 rfl (lv_at hl 1 rfl) ?_
  refine lv_imul hx hb d_ru_fail_5 ?_
  refine lv_iload_n hx hb d_ru_fail_6 rfl (lv_at hl 2 rfl) ?_
  refine lv_iadd hx hb d_ru_fail_7 ?_
  replace h := bs h
  obtain ⟨w1, hw1, h⟩ := h
  refine pf_ru_58 hx hb hts hown hK hG hW rfl rfl hw1 d_ru_fail_8 (fun H locs hW => ?_)
  refine lv_iload_n hx hb d_ru_fail_11 rfl (lv_at hl 1 rfl) ?_
  by_cases c2 : a1 = (1 : Int32)
  · rw [if_pos c2] at h
    refine lv_tableIn (off := 36) (tgt := 48) hx hb d_ru_fail_12 (by rw [c2]; decide) (by rw [c2]; decide) (by rw [c2]; rfl) (by decide) ?_
    cases h
    exact wo_throw (names := ["java/lang/RuntimeException", "java/lang/Exception"]) hx hb hst hown hts hG hW hnt hlk (by decide) (by decide) (gt_of (i := 790) (by decide +kernel) (by decide +kernel)) (gt_of (i := 15) (by decide +kernel) (by decide +kernel)) ow_ru_163 (hl.1.trans hml.symm) d_ru_fail_48 d_ru_fail_51 d_ru_fail_52 d_ru_fail_55 (Nat.le_of_ble_eq_true rfl) (Nat.le_of_ble_eq_true rfl) (Nat.le_of_ble_eq_true rfl) (Nat.le_of_ble_eq_true rfl) (Nat.le_of_ble_eq_true rfl) (Nat.le_of_ble_eq_true rfl)
  · rw [if_neg c2] at h
    by_cases c3 : a1 = (2 : Int32)
    · rw [if_pos c3] at h
      refine lv_tableIn (off := 44) (tgt := 56) hx hb d_ru_fail_12 (by rw [c3]; decide) (by rw [c3]; decide) (by rw [c3]; rfl) (by decide) ?_
      cases h
      exact wo_throw (names := ["java/lang/RuntimeException", "java/lang/Exception"]) hx hb hst hown hts hG hW hnt hlk (by decide) (by decide) (gt_of (i := 792) (by decide +kernel) (by decide +kernel)) (gt_of (i := 22) (by decide +kernel) (by decide +kernel)) ow_ru_166 (hl.1.trans hml.symm) d_ru_fail_56 d_ru_fail_59 d_ru_fail_60 d_ru_fail_63 (Nat.le_of_ble_eq_true rfl) (Nat.le_of_ble_eq_true rfl) (Nat.le_of_ble_eq_true rfl) (Nat.le_of_ble_eq_true rfl) (Nat.le_of_ble_eq_true rfl) (Nat.le_of_ble_eq_true rfl)
    · rw [if_neg c3] at h
      by_cases c4 : a1 = (3 : Int32)
      · rw [if_pos c4] at h
        refine lv_tableIn (off := 60) (tgt := 72) hx hb d_ru_fail_12 (by rw [c4]; decide) (by rw [c4]; decide) (by rw [c4]; rfl) (by decide) ?_
        cases h
        exact wo_throw (names := ["java/lang/RuntimeException", "java/lang/Exception"]) hx hb hst hown hts hG hW hnt hlk (by decide) (by decide) (gt_of (i := 822) (by decide +kernel) (by decide +kernel)) (gt_of (i := 24) (by decide +kernel) (by decide +kernel)) ow_ru_172 (hl.1.trans hml.symm) d_ru_fail_72 d_ru_fail_75 d_ru_fail_76 d_ru_fail_79 (Nat.le_of_ble_eq_true rfl) (Nat.le_of_ble_eq_true rfl) (Nat.le_of_ble_eq_true rfl) (Nat.le_of_ble_eq_true rfl) (Nat.le_of_ble_eq_true rfl) (Nat.le_of_ble_eq_true rfl)
      · rw [if_neg c4] at h
        by_cases c5 : a1 = (4 : Int32)
        · rw [if_pos c5] at h
          refine lv_tableIn (off := 60) (tgt := 72) hx hb d_ru_fail_12 (by rw [c5]; decide) (by rw [c5]; decide) (by rw [c5]; rfl) (by decide) ?_
          cases h
          exact wo_throw (names := ["java/lang/RuntimeException", "java/lang/Exception"]) hx hb hst hown hts hG hW hnt hlk (by decide) (by decide) (gt_of (i := 822) (by decide +kernel) (by decide +kernel)) (gt_of (i := 24) (by decide +kernel) (by decide +kernel)) ow_ru_172 (hl.1.trans hml.symm) d_ru_fail_72 d_ru_fail_75 d_ru_fail_76 d_ru_fail_79 (Nat.le_of_ble_eq_true rfl) (Nat.le_of_ble_eq_true rfl) (Nat.le_of_ble_eq_true rfl) (Nat.le_of_ble_eq_true rfl) (Nat.le_of_ble_eq_true rfl) (Nat.le_of_ble_eq_true rfl)
        · rw [if_neg c5] at h
          by_cases c6 : a1 = (5 : Int32)
          · rw [if_pos c6] at h
            refine lv_tableIn (off := 52) (tgt := 64) hx hb d_ru_fail_12 (by rw [c6]; decide) (by rw [c6]; decide) (by rw [c6]; rfl) (by decide) ?_
            cases h
            exact wo_throw (names := ["java/lang/RuntimeException", "java/lang/Exception"]) hx hb hst hown hts hG hW hnt hlk (by decide) (by decide) (gt_of (i := 807) (by decide +kernel) (by decide +kernel)) (gt_of (i := 23) (by decide +kernel) (by decide +kernel)) ow_ru_169 (hl.1.trans hml.symm) d_ru_fail_64 d_ru_fail_67 d_ru_fail_68 d_ru_fail_71 (Nat.le_of_ble_eq_true rfl) (Nat.le_of_ble_eq_true rfl) (Nat.le_of_ble_eq_true rfl) (Nat.le_of_ble_eq_true rfl) (Nat.le_of_ble_eq_true rfl) (Nat.le_of_ble_eq_true rfl)
          · rw [if_neg c6] at h
            refine lv_tableOut (tgt := 72) hx hb d_ru_fail_12 (by have n0 := lv_neT c2 (show (1 : Int32).toInt = 1 from rfl); have n1 := lv_neT c3 (show (2 : Int32).toInt = 2 from rfl); have n2 := lv_neT c4 (show (3 : Int32).toInt = 3 from rfl); have n3 := lv_neT c5 (show (4 : Int32).toInt = 4 from rfl); have n4 := lv_neT c6 (show (5 : Int32).toInt = 5 from rfl); omega) (by decide) ?_
            cases h
            exact wo_throw (names := ["java/lang/RuntimeException", "java/lang/Exception"]) hx hb hst hown hts hG hW hnt hlk (by decide) (by decide) (gt_of (i := 822) (by decide +kernel) (by decide +kernel)) (gt_of (i := 24) (by decide +kernel) (by decide +kernel)) ow_ru_172 (hl.1.trans hml.symm) d_ru_fail_72 d_ru_fail_75 d_ru_fail_76 d_ru_fail_79 (Nat.le_of_ble_eq_true rfl) (Nat.le_of_ble_eq_true rfl) (Nat.le_of_ble_eq_true rfl) (Nat.le_of_ble_eq_true rfl) (Nat.le_of_ble_eq_true rfl) (Nat.le_of_ble_eq_true rfl)
theorem xv_ru_117 {p : Program} {l : Launch} {e : Env} {R : Room} {s : State} {m : MethodId} {args : Array Value} {below : List Frame} {meth : Method} {c : Code} {H : Heap} {locs : List Loc} {cells slots : Nat} {Q : State → Prop} {D : va_G} {cA : Nat → ClassId} {base : Nat} {w w' : WW} {cc : ByteArray} {pc nL : Nat} {ls : Array Slot} {rest st0 As : List Value} {E : String} {b : Nat} (hx : p.tables.exec = Jvm.exec) (hb : c.code = cc) (hml : c.maxLocals = nL) (hown : s.vm.findClass Rc_ru = some m.cls) (hts : ∀ w ∈ gt, w.before args s = true) (hK : va_K D cls (wo_tys cA) s) (hG : wo_G base s) (hW : wo_S D cls cA base s w H locs) (hM : xt l D cls (wo_tys cA) cA base y_ru_fail (Cond.code y_ru_fail b_ru_fail 3 (none) :: gt) rx_ru_fail (.ref b :: As) w E w' rx_ru_fail.cells rx_ru_fail.slots) (hkb : kb w b 5 = true) (hR : rx_ru_fail.frames + 1 ≤ R.frames ∧ 8 + (3 + 11) + rx_ru_fail.locals ≤ R.locals) (hf : cells + rx_ru_fail.cells ≤ R.cells ∧ slots + rx_ru_fail.slots ≤ R.slots) (hn : As.length = 2) (hsz : ls.size = nL) (hst : st0 = As.reverse ++ .ref b :: rest) (hcat : (rest.map fun v => v.category).sum ≤ 8) (hdg : decode cc pc = .ok (.invokevirtual 117, 3)) (kk : ∀ (H1 : Heap) (locs1 : List Loc) (q : Addr) (ce : Cell), wo_S D cls cA base s w' H1 locs1 → H1[q]? = some ce → ce.vm = .none → s.vm.findClass E = some ce.cls → XW p l e R s m args below meth c H1 locs1 (cells + rx_ru_fail.cells) (slots + rx_ru_fail.slots) Q (F0 m pc ls rest) q) : W p l e R s m args below meth c H locs cells slots Q (F0 m pc ls st0) :=
  wo_xcallV (C := Rc_ru) hx hb hml hown hts hK hG hW hM hkb rfl (gt_of (i := 786) (by decide +kernel) (by decide +kernel)) (gt_of (i := 788) (by decide +kernel) (by decide +kernel)) (gt_sel (i := 27) (by decide +kernel) (by decide +kernel)) (gt_of (i := 6) (by decide +kernel) (by decide +kernel)) (gt_of (i := 789) (by decide +kernel) (by decide +kernel)) (by decide +kernel) hR hf hn hsz hst hcat hdg kk
theorem cv_ru_117 {p : Program} {l : Launch} {e : Env} {R : Room} {s : State} {m : MethodId} {args : Array Value} {below : List Frame} {meth : Method} {c : Code} {H : Heap} {locs : List Loc} {cells slots : Nat} {Q : State → Prop} {D : va_G} {cA : Nat → ClassId} {base : Nat} {w w' : WW} {cc : ByteArray} {pc nL : Nat} {ls : Array Slot} {rest st0 As : List Value} {ov : Option Value} {b : Nat} (hx : p.tables.exec = Jvm.exec) (hb : c.code = cc) (hml : c.maxLocals = nL) (hown : s.vm.findClass Rc_ru = some m.cls) (hts : ∀ w ∈ gt, w.before args s = true) (hK : va_K D cls (wo_tys cA) s) (hG : wo_G base s) (hW : wo_S D cls cA base s w H locs) (hM : mt l D cls (wo_tys cA) cA base y_ru_fail (Cond.code y_ru_fail b_ru_fail 3 (none) :: gt) rm_ru_fail (.ref b :: As) w ov w' rm_ru_fail.cells rm_ru_fail.slots) (hkb : kb w b 5 = true) (hR : rm_ru_fail.frames + 1 ≤ R.frames ∧ 8 + (3 + 11) + rm_ru_fail.locals ≤ R.locals) (hf : cells + rm_ru_fail.cells ≤ R.cells ∧ slots + rm_ru_fail.slots ≤ R.slots) (hn : As.length = 2) (hsz : ls.size = nL) (hst : st0 = As.reverse ++ .ref b :: rest) (hcat : (rest.map fun v => v.category).sum ≤ 8) (hdg : decode cc pc = .ok (.invokevirtual 117, 3)) (kk : ∀ (H1 : Heap) (locs1 : List Loc), wo_S D cls cA base s w' H1 locs1 → W p l e R s m args below meth c H1 locs1 (cells + rm_ru_fail.cells) (slots + rm_ru_fail.slots) Q (F0 m (pc + 3) ls (ov.toList ++ rest))) : W p l e R s m args below meth c H locs cells slots Q (F0 m pc ls st0) :=
  wo_callV (C := Rc_ru) hx hb hml hown hts hK hG hW hM hkb rfl (gt_of (i := 786) (by decide +kernel) (by decide +kernel)) (gt_of (i := 788) (by decide +kernel) (by decide +kernel)) (gt_sel (i := 27) (by decide +kernel) (by decide +kernel)) (gt_of (i := 6) (by decide +kernel) (by decide +kernel)) (gt_of (i := 789) (by decide +kernel) (by decide +kernel)) (by decide +kernel) hR hf hn hsz hst hcat hdg kk
abbrev b_ru_cellOf : ByteArray := prog_6_method_12_code
def y_ru_cellOf : MethodName := ⟨"AlarmForge$Runner", "cellOf", "(III)I"⟩
def rm_ru_cellOf : Room := { frames := 7, cells := 0, slots := 0, locals := 122 }
def rx_ru_cellOf : Room := { frames := 7, cells := 1, slots := 6, locals := 122 }
theorem d_ru_cellOf_0 : decode b_ru_cellOf 0 = .ok (.iload_n 2, 1) := by decide +kernel
theorem d_ru_cellOf_1 : decode b_ru_cellOf 1 = .ok (.ifCond .lt (8), 3) := by decide +kernel
theorem d_ru_cellOf_4 : decode b_ru_cellOf 4 = .ok (.iload_n 2, 1) := by decide +kernel
theorem d_ru_cellOf_5 : decode b_ru_cellOf 5 = .ok (.iconst 4, 1) := by decide +kernel
theorem d_ru_cellOf_6 : decode b_ru_cellOf 6 = .ok (.if_icmp .lt (9), 3) := by decide +kernel
theorem d_ru_cellOf_9 : decode b_ru_cellOf 9 = .ok (.aload_n 0, 1) := by decide +kernel
theorem d_ru_cellOf_10 : decode b_ru_cellOf 10 = .ok (.iconst 2, 1) := by decide +kernel
theorem d_ru_cellOf_11 : decode b_ru_cellOf 11 = .ok (.iload_n 3, 1) := by decide +kernel
theorem d_ru_cellOf_12 : decode b_ru_cellOf 12 = .ok (.invokevirtual 117, 3) := by decide +kernel
theorem d_ru_cellOf_15 : decode b_ru_cellOf 15 = .ok (.iload_n 1, 1) := by decide +kernel
theorem d_ru_cellOf_16 : decode b_ru_cellOf 16 = .ok (.iload_n 2, 1) := by decide +kernel
theorem d_ru_cellOf_17 : decode b_ru_cellOf 17 = .ok (.iadd, 1) := by decide +kernel
theorem d_ru_cellOf_18 : decode b_ru_cellOf 18 = .ok (.ireturn, 1) := by decide +kernel
def f_ru_cellOf_15  (y1 : Int32) (y2 : Int32) (w : WW) : Option ((Int32 ⊕ String) × WW) :=
  some (.inl (y1 + y2), w)
def f_ru_cellOf_9  (y0 : Nat) (y1 : Int32) (y2 : Int32) (y3 : Int32) (w : WW) : Option ((Int32 ⊕ String) × WW) :=
  bdx (f_ru_fail y0 (2 : Int32) y3 w) fun x3 w2 =>
  f_ru_cellOf_15 y1 y2 w2
def f_ru_cellOf (a0 : Nat) (a1 : Int32) (a2 : Int32) (a3 : Int32) (w : WW) : Option ((Int32 ⊕ String) × WW) :=
  if kb w a0 5 = true then
    if a2 < 0 then
      f_ru_cellOf_9 a0 a1 a2 a3 w
    else
      if a2 < (4 : Int32) then
        f_ru_cellOf_15 a1 a2 w
      else
        f_ru_cellOf_9 a0 a1 a2 a3 w
  else none
theorem kb_ru_cellOf {a0 : Nat} {a1 : Int32} {a2 : Int32} {a3 : Int32} {w : WW} {r : ((Int32 ⊕ String) × WW)} (h : f_ru_cellOf a0 a1 a2 a3 w = some r) : kb w a0 5 = true := (its h).1
set_option maxHeartbeats 4000000 in
set_option maxRecDepth 100000 in
theorem j_ru_cellOf_15 {p : Program} {l : Launch} {e : Env} {s : State} {m : MethodId} {args : Array Value} {below : List Frame} {meth : Method} {c : Code} {D : va_G} {cA : Nat → ClassId} {base : Nat} {r : Int32} {w' : WW} (C : cx b_ru_cellOf (some .int) 4 y_ru_cellOf.cls "cellOf" p s m args meth c D cA base)   : ∀ (y1 : Int32) (y2 : Int32) (w : WW), f_ru_cellOf_15 y1 y2 w = some (.inl r, w') → ∀ (H : Heap) (locs : List Loc) (ls : Array Slot), wo_S D cls cA base s w H locs → lv_has ls 4 [(1, .int y1), (2, .int y2)] → W p l e rm_ru_cellOf s m args below meth c H locs 0 0 (MQ below (wo_Q D cls cA base (some (.int r)) w') args s rm_ru_cellOf.cells rm_ru_cellOf.slots (wo_B base)) (F0 m 15 ls []) := by
  obtain ⟨hx, hb, hr, hml, hown, hts, hlk, hnm, hK, hG⟩ := id C
  intro y1 y2 w h H locs ls hW hl
  unfold f_ru_cellOf_15 at h
  refine lv_iload_n hx hb d_ru_cellOf_15 rfl (lv_at hl 0 rfl) ?_
  refine lv_iload_n hx hb d_ru_cellOf_16 rfl (lv_at hl 1 rfl) ?_
  refine lv_iadd hx hb d_ru_cellOf_17 ?_
  cases h
  exact wo_iret hx hb hr hlk hW d_ru_cellOf_18
set_option maxHeartbeats 4000000 in
set_option maxRecDepth 100000 in
theorem j_ru_cellOf_9 {p : Program} {l : Launch} {e : Env} {s : State} {m : MethodId} {args : Array Value} {below : List Frame} {meth : Method} {c : Code} {D : va_G} {cA : Nat → ClassId} {base : Nat} {r : Int32} {w' : WW} (C : cx b_ru_cellOf (some .int) 4 y_ru_cellOf.cls "cellOf" p s m args meth c D cA base)   : ∀ (y0 : Nat) (y1 : Int32) (y2 : Int32) (y3 : Int32) (w : WW), f_ru_cellOf_9 y0 y1 y2 y3 w = some (.inl r, w') → ∀ (H : Heap) (locs : List Loc) (ls : Array Slot), wo_S D cls cA base s w H locs → lv_has ls 4 [(0, .ref y0), (1, .int y1), (2, .int y2), (3, .int y3)] → W p l e rm_ru_cellOf s m args below meth c H locs 0 0 (MQ below (wo_Q D cls cA base (some (.int r)) w') args s rm_ru_cellOf.cells rm_ru_cellOf.slots (wo_B base)) (F0 m 9 ls []) := by
  obtain ⟨hx, hb, hr, hml, hown, hts, hlk, hnm, hK, hG⟩ := id C
  intro y0 y1 y2 y3 w h H locs ls hW hl
  unfold f_ru_cellOf_9 at h
  refine lv_aload_n hx hb d_ru_cellOf_9 rfl (lv_at hl 0 rfl) ?_
  refine lv_iconst (v := (2 : Int32)) hx hb d_ru_cellOf_10 (by decide) ?_
  refine lv_iload_n hx hb d_ru_cellOf_11 rfl (lv_at hl 3 rfl) ?_
  replace h := bsx h
  obtain ⟨x3, w2, hw2, h⟩ := h
  refine cv_ru_117 (As := [.int (2 : Int32), .int y3]) (rest := []) hx hb hml hown hts hK hG hW (c_ru_fail l D cA base hw2) (kb_ru_fail hw2) ⟨Nat.le_of_ble_eq_true rfl, Nat.le_of_ble_eq_true rfl⟩ ⟨Nat.le_of_ble_eq_true rfl, Nat.le_of_ble_eq_true rfl⟩ rfl hl.1 rfl (Nat.le_of_ble_eq_true rfl) d_ru_cellOf_12 (fun H locs hW => ?_)
  exact j_ru_cellOf_15 C y1 y2 w2 h _ _ _ hW (lv_sub hl [1, 2] rfl)
set_option maxHeartbeats 4000000 in
set_option maxRecDepth 100000 in
theorem c_ru_cellOf (l : Launch) (D : va_G) (cA : Nat → ClassId) (base : Nat) {a0 : Nat} {a1 : Int32} {a2 : Int32} {a3 : Int32} {w w' : WW} {r : Int32} (h : f_ru_cellOf a0 a1 a2 a3 w = some (.inl r, w')) : mt l D cls (wo_tys cA) cA base y_ru_cellOf (Cond.code y_ru_cellOf b_ru_cellOf 4 (some .int) :: gt) rm_ru_cellOf [.ref a0, .int a1, .int a2, .int a3] w (some (.int r)) w' rm_ru_cellOf.cells rm_ru_cellOf.slots := by
  refine mt_start (by decide) (Nat.le_of_ble_eq_true rfl) ?_
  intro p e s m below meth c ls hx hb hr hml hown hts hlk hnm hK hG hW hl
  have C : cx b_ru_cellOf (some .int) 4 y_ru_cellOf.cls "cellOf" p s m [.ref a0, .int a1, .int a2, .int a3].toArray meth c D cA base := ⟨hx, hb, hr, hml, hown, hts, hlk, hnm, hK, hG⟩
  have hl : lv_has ls 4 [(0, .ref a0), (1, .int a1), (2, .int a2), (3, .int a3)] := hl
  unfold f_ru_cellOf at h
  replace h := its h
  obtain ⟨-, h⟩ := h
  refine lv_iload_n hx hb d_ru_cellOf_0 rfl (lv_at hl 2 rfl) ?_
  refine lv_if_lt (tgt := 9) hx hb d_ru_cellOf_1 (by decide) (fun c1 => ?_) (fun c1 => ?_)
  · rw [if_pos c1] at h
    exact j_ru_cellOf_9 C a0 a1 a2 a3 w h _ _ _ hW (lv_sub hl [0, 1, 2, 3] rfl)
  · rw [if_neg c1] at h
    refine lv_iload_n hx hb d_ru_cellOf_4 rfl (lv_at hl 2 rfl) ?_
    refine lv_iconst (v := (4 : Int32)) hx hb d_ru_cellOf_5 (by decide) ?_
    refine lv_icmp_lt (tgt := 15) hx hb d_ru_cellOf_6 (by decide) (fun c4 => ?_) (fun c4 => ?_)
    · rw [if_pos c4] at h
      exact j_ru_cellOf_15 C a1 a2 w h _ _ _ hW (lv_sub hl [1, 2] rfl)
    · rw [if_neg c4] at h
      exact j_ru_cellOf_9 C a0 a1 a2 a3 w h _ _ _ hW (lv_sub hl [0, 1, 2, 3] rfl)
set_option maxHeartbeats 4000000 in
set_option maxRecDepth 100000 in
theorem jx_ru_cellOf_15 {p : Program} {l : Launch} {e : Env} {s : State} {m : MethodId} {args : Array Value} {below : List Frame} {meth : Method} {c : Code} {D : va_G} {cA : Nat → ClassId} {base : Nat} {E : String} {w' : WW} (C : cx b_ru_cellOf (some .int) 4 y_ru_cellOf.cls "cellOf" p s m args meth c D cA base ∧ (∀ x ∈ c.exceptionTable.toList, ∀ k : Nat, covers x k = false) ∧ l.stackTraces = false)   : ∀ (y1 : Int32) (y2 : Int32) (w : WW), f_ru_cellOf_15 y1 y2 w = some (.inr E, w') → ∀ (H : Heap) (locs : List Loc) (ls : Array Slot), wo_S D cls cA base s w H locs → lv_has ls 4 [(1, .int y1), (2, .int y2)] → W p l e rx_ru_cellOf s m args below meth c H locs 0 0 (XQ below (wo_X D cls cA base E w' rx_ru_cellOf.cells rx_ru_cellOf.slots) args s) (F0 m 15 ls []) := by
  obtain ⟨hx, hb, hr, hml, hown, hts, hlk, hnm, hK, hG⟩ := id C.1
  have hnt := C.2.1
  have hst := C.2.2
  intro y1 y2 w h H locs ls hW hl
  unfold f_ru_cellOf_15 at h
  refine lv_iload_n hx hb d_ru_cellOf_15 rfl (lv_at hl 0 rfl) ?_
  refine lv_iload_n hx hb d_ru_cellOf_16 rfl (lv_at hl 1 rfl) ?_
  refine lv_iadd hx hb d_ru_cellOf_17 ?_
  cases h
set_option maxHeartbeats 4000000 in
set_option maxRecDepth 100000 in
theorem jx_ru_cellOf_9 {p : Program} {l : Launch} {e : Env} {s : State} {m : MethodId} {args : Array Value} {below : List Frame} {meth : Method} {c : Code} {D : va_G} {cA : Nat → ClassId} {base : Nat} {E : String} {w' : WW} (C : cx b_ru_cellOf (some .int) 4 y_ru_cellOf.cls "cellOf" p s m args meth c D cA base ∧ (∀ x ∈ c.exceptionTable.toList, ∀ k : Nat, covers x k = false) ∧ l.stackTraces = false)   : ∀ (y0 : Nat) (y1 : Int32) (y2 : Int32) (y3 : Int32) (w : WW), f_ru_cellOf_9 y0 y1 y2 y3 w = some (.inr E, w') → ∀ (H : Heap) (locs : List Loc) (ls : Array Slot), wo_S D cls cA base s w H locs → lv_has ls 4 [(0, .ref y0), (1, .int y1), (2, .int y2), (3, .int y3)] → W p l e rx_ru_cellOf s m args below meth c H locs 0 0 (XQ below (wo_X D cls cA base E w' rx_ru_cellOf.cells rx_ru_cellOf.slots) args s) (F0 m 9 ls []) := by
  obtain ⟨hx, hb, hr, hml, hown, hts, hlk, hnm, hK, hG⟩ := id C.1
  have hnt := C.2.1
  have hst := C.2.2
  intro y0 y1 y2 y3 w h H locs ls hW hl
  unfold f_ru_cellOf_9 at h
  refine lv_aload_n hx hb d_ru_cellOf_9 rfl (lv_at hl 0 rfl) ?_
  refine lv_iconst (v := (2 : Int32)) hx hb d_ru_cellOf_10 (by decide) ?_
  refine lv_iload_n hx hb d_ru_cellOf_11 rfl (lv_at hl 3 rfl) ?_
  rcases bsy h with hw2 | ⟨x3, w2, hw2, hnw2⟩
  · exact xv_ru_117 (As := [.int (2 : Int32), .int y3]) (rest := []) hx hb hml hown hts hK hG hW (x_ru_fail l hst D cA base hw2) (kb_ru_fail hw2) ⟨Nat.le_of_ble_eq_true rfl, Nat.le_of_ble_eq_true rfl⟩ ⟨Nat.le_of_ble_eq_true rfl, Nat.le_of_ble_eq_true rfl⟩ rfl hl.1 rfl (Nat.le_of_ble_eq_true rfl) d_ru_cellOf_12 (fun H locs q ce hW h1 h2 h3 => wo_xout hnt hlk hW h1 h2 h3 (Nat.le_of_ble_eq_true rfl) (Nat.le_of_ble_eq_true rfl))
  clear h
  have h := hnw2
  clear hnw2
  refine cv_ru_117 (As := [.int (2 : Int32), .int y3]) (rest := []) hx hb hml hown hts hK hG hW (c_ru_fail l D cA base hw2) (kb_ru_fail hw2) ⟨Nat.le_of_ble_eq_true rfl, Nat.le_of_ble_eq_true rfl⟩ ⟨Nat.le_of_ble_eq_true rfl, Nat.le_of_ble_eq_true rfl⟩ rfl hl.1 rfl (Nat.le_of_ble_eq_true rfl) d_ru_cellOf_12 (fun H locs hW => ?_)
  exact jx_ru_cellOf_15 C y1 y2 w2 h _ _ _ hW (lv_sub hl [1, 2] rfl)
set_option maxHeartbeats 4000000 in
set_option maxRecDepth 100000 in
theorem x_ru_cellOf (l : Launch) (hst : l.stackTraces = false) (D : va_G) (cA : Nat → ClassId) (base : Nat) {a0 : Nat} {a1 : Int32} {a2 : Int32} {a3 : Int32} {w w' : WW} {E : String} (h : f_ru_cellOf a0 a1 a2 a3 w = some (.inr E, w')) : xt l D cls (wo_tys cA) cA base y_ru_cellOf (Cond.code y_ru_cellOf b_ru_cellOf 4 (some .int) :: gt) rx_ru_cellOf [.ref a0, .int a1, .int a2, .int a3] w E w' rx_ru_cellOf.cells rx_ru_cellOf.slots := by
  refine xt_start (by decide) (Nat.le_of_ble_eq_true rfl) ?_
  intro p e s m below meth c ls hx hb hr hml hown hts hlk hnm hK hG hW hl hnt
  have C : cx b_ru_cellOf (some .int) 4 y_ru_cellOf.cls "cellOf" p s m [.ref a0, .int a1, .int a2, .int a3].toArray meth c D cA base ∧ (∀ x ∈ c.exceptionTable.toList, ∀ k : Nat, covers x k = false) ∧ l.stackTraces = false := ⟨⟨hx, hb, hr, hml, hown, hts, hlk, hnm, hK, hG⟩, hnt, hst⟩
  have hl : lv_has ls 4 [(0, .ref a0), (1, .int a1), (2, .int a2), (3, .int a3)] := hl
  unfold f_ru_cellOf at h
  replace h := its h
  obtain ⟨-, h⟩ := h
  refine lv_iload_n hx hb d_ru_cellOf_0 rfl (lv_at hl 2 rfl) ?_
  refine lv_if_lt (tgt := 9) hx hb d_ru_cellOf_1 (by decide) (fun c1 => ?_) (fun c1 => ?_)
  · rw [if_pos c1] at h
    exact jx_ru_cellOf_9 C a0 a1 a2 a3 w h _ _ _ hW (lv_sub hl [0, 1, 2, 3] rfl)
  · rw [if_neg c1] at h
    refine lv_iload_n hx hb d_ru_cellOf_4 rfl (lv_at hl 2 rfl) ?_
    refine lv_iconst (v := (4 : Int32)) hx hb d_ru_cellOf_5 (by decide) ?_
    refine lv_icmp_lt (tgt := 15) hx hb d_ru_cellOf_6 (by decide) (fun c4 => ?_) (fun c4 => ?_)
    · rw [if_pos c4] at h
      exact jx_ru_cellOf_15 C a1 a2 w h _ _ _ hW (lv_sub hl [1, 2] rfl)
    · rw [if_neg c4] at h
      exact jx_ru_cellOf_9 C a0 a1 a2 a3 w h _ _ _ hW (lv_sub hl [0, 1, 2, 3] rfl)
abbrev b_ru_intOf : ByteArray := prog_6_method_18_code
def y_ru_intOf : MethodName := ⟨"AlarmForge$Runner", "intOf", "(JI)I"⟩
def rm_ru_intOf : Room := { frames := 7, cells := 0, slots := 0, locals := 122 }
def rx_ru_intOf : Room := { frames := 7, cells := 1, slots := 6, locals := 122 }
theorem d_ru_intOf_0 : decode b_ru_intOf 0 = .ok (.lload_n 1, 1) := by decide +kernel
theorem d_ru_intOf_1 : decode b_ru_intOf 1 = .ok (.ldc2_w 157, 3) := by decide +kernel
theorem d_ru_intOf_4 : decode b_ru_intOf 4 = .ok (.lcmp, 1) := by decide +kernel
theorem d_ru_intOf_5 : decode b_ru_intOf 5 = .ok (.ifCond .lt (11), 3) := by decide +kernel
theorem d_ru_intOf_8 : decode b_ru_intOf 8 = .ok (.lload_n 1, 1) := by decide +kernel
theorem d_ru_intOf_9 : decode b_ru_intOf 9 = .ok (.ldc2_w 159, 3) := by decide +kernel
theorem d_ru_intOf_12 : decode b_ru_intOf 12 = .ok (.lcmp, 1) := by decide +kernel
theorem d_ru_intOf_13 : decode b_ru_intOf 13 = .ok (.ifCond .le (9), 3) := by decide +kernel
theorem d_ru_intOf_16 : decode b_ru_intOf 16 = .ok (.aload_n 0, 1) := by decide +kernel
theorem d_ru_intOf_17 : decode b_ru_intOf 17 = .ok (.iconst 3, 1) := by decide +kernel
theorem d_ru_intOf_18 : decode b_ru_intOf 18 = .ok (.iload_n 3, 1) := by decide +kernel
theorem d_ru_intOf_19 : decode b_ru_intOf 19 = .ok (.invokevirtual 117, 3) := by decide +kernel
theorem d_ru_intOf_22 : decode b_ru_intOf 22 = .ok (.lload_n 1, 1) := by decide +kernel
theorem d_ru_intOf_23 : decode b_ru_intOf 23 = .ok (.l2i, 1) := by decide +kernel
theorem d_ru_intOf_24 : decode b_ru_intOf 24 = .ok (.ireturn, 1) := by decide +kernel
def f_ru_intOf_22  (y1 : Int64) (w : WW) : Option ((Int32 ⊕ String) × WW) :=
  some (.inl (Int64.toInt32 y1), w)
def f_ru_intOf_16  (y0 : Nat) (y1 : Int64) (y3 : Int32) (w : WW) : Option ((Int32 ⊕ String) × WW) :=
  bdx (f_ru_fail y0 (3 : Int32) y3 w) fun x3 w2 =>
  f_ru_intOf_22 y1 w2
def f_ru_intOf (a0 : Nat) (a1 : Int64) (a3 : Int32) (w : WW) : Option ((Int32 ⊕ String) × WW) :=
  if kb w a0 5 = true then
    if a1 < (-2147483648 : Int64) then
      f_ru_intOf_16 a0 a1 a3 w
    else
      if a1 ≤ (2147483647 : Int64) then
        f_ru_intOf_22 a1 w
      else
        f_ru_intOf_16 a0 a1 a3 w
  else none
theorem kb_ru_intOf {a0 : Nat} {a1 : Int64} {a3 : Int32} {w : WW} {r : ((Int32 ⊕ String) × WW)} (h : f_ru_intOf a0 a1 a3 w = some r) : kb w a0 5 = true := (its h).1
set_option maxHeartbeats 4000000 in
set_option maxRecDepth 100000 in
theorem j_ru_intOf_22 {p : Program} {l : Launch} {e : Env} {s : State} {m : MethodId} {args : Array Value} {below : List Frame} {meth : Method} {c : Code} {D : va_G} {cA : Nat → ClassId} {base : Nat} {r : Int32} {w' : WW} (C : cx b_ru_intOf (some .int) 4 y_ru_intOf.cls "intOf" p s m args meth c D cA base)   : ∀ (y1 : Int64) (w : WW), f_ru_intOf_22 y1 w = some (.inl r, w') → ∀ (H : Heap) (locs : List Loc) (ls : Array Slot), wo_S D cls cA base s w H locs → lv_has ls 4 [(1, .long y1)] → W p l e rm_ru_intOf s m args below meth c H locs 0 0 (MQ below (wo_Q D cls cA base (some (.int r)) w') args s rm_ru_intOf.cells rm_ru_intOf.slots (wo_B base)) (F0 m 22 ls []) := by
  obtain ⟨hx, hb, hr, hml, hown, hts, hlk, hnm, hK, hG⟩ := id C
  intro y1 w h H locs ls hW hl
  unfold f_ru_intOf_22 at h
  refine lv_lload_n hx hb d_ru_intOf_22 rfl (lv_at hl 0 rfl) ?_
  refine lv_l2i hx hb d_ru_intOf_23 rfl ?_
  cases h
  exact wo_iret hx hb hr hlk hW d_ru_intOf_24
set_option maxHeartbeats 4000000 in
set_option maxRecDepth 100000 in
theorem j_ru_intOf_16 {p : Program} {l : Launch} {e : Env} {s : State} {m : MethodId} {args : Array Value} {below : List Frame} {meth : Method} {c : Code} {D : va_G} {cA : Nat → ClassId} {base : Nat} {r : Int32} {w' : WW} (C : cx b_ru_intOf (some .int) 4 y_ru_intOf.cls "intOf" p s m args meth c D cA base)   : ∀ (y0 : Nat) (y1 : Int64) (y3 : Int32) (w : WW), f_ru_intOf_16 y0 y1 y3 w = some (.inl r, w') → ∀ (H : Heap) (locs : List Loc) (ls : Array Slot), wo_S D cls cA base s w H locs → lv_has ls 4 [(0, .ref y0), (1, .long y1), (3, .int y3)] → W p l e rm_ru_intOf s m args below meth c H locs 0 0 (MQ below (wo_Q D cls cA base (some (.int r)) w') args s rm_ru_intOf.cells rm_ru_intOf.slots (wo_B base)) (F0 m 16 ls []) := by
  obtain ⟨hx, hb, hr, hml, hown, hts, hlk, hnm, hK, hG⟩ := id C
  intro y0 y1 y3 w h H locs ls hW hl
  unfold f_ru_intOf_16 at h
  refine lv_aload_n hx hb d_ru_intOf_16 rfl (lv_at hl 0 rfl) ?_
  refine lv_iconst (v := (3 : Int32)) hx hb d_ru_intOf_17 (by decide) ?_
  refine lv_iload_n hx hb d_ru_intOf_18 rfl (lv_at hl 2 rfl) ?_
  replace h := bsx h
  obtain ⟨x3, w2, hw2, h⟩ := h
  refine cv_ru_117 (As := [.int (3 : Int32), .int y3]) (rest := []) hx hb hml hown hts hK hG hW (c_ru_fail l D cA base hw2) (kb_ru_fail hw2) ⟨Nat.le_of_ble_eq_true rfl, Nat.le_of_ble_eq_true rfl⟩ ⟨Nat.le_of_ble_eq_true rfl, Nat.le_of_ble_eq_true rfl⟩ rfl hl.1 rfl (Nat.le_of_ble_eq_true rfl) d_ru_intOf_19 (fun H locs hW => ?_)
  exact j_ru_intOf_22 C y1 w2 h _ _ _ hW (lv_sub hl [1] rfl)
set_option maxHeartbeats 4000000 in
set_option maxRecDepth 100000 in
theorem c_ru_intOf (l : Launch) (D : va_G) (cA : Nat → ClassId) (base : Nat) {a0 : Nat} {a1 : Int64} {a3 : Int32} {w w' : WW} {r : Int32} (h : f_ru_intOf a0 a1 a3 w = some (.inl r, w')) : mt l D cls (wo_tys cA) cA base y_ru_intOf (Cond.code y_ru_intOf b_ru_intOf 4 (some .int) :: gt) rm_ru_intOf [.ref a0, .long a1, .int a3] w (some (.int r)) w' rm_ru_intOf.cells rm_ru_intOf.slots := by
  refine mt_start (by decide) (Nat.le_of_ble_eq_true rfl) ?_
  intro p e s m below meth c ls hx hb hr hml hown hts hlk hnm hK hG hW hl
  have C : cx b_ru_intOf (some .int) 4 y_ru_intOf.cls "intOf" p s m [.ref a0, .long a1, .int a3].toArray meth c D cA base := ⟨hx, hb, hr, hml, hown, hts, hlk, hnm, hK, hG⟩
  have hl : lv_has ls 4 [(0, .ref a0), (1, .long a1), (3, .int a3)] := hl
  unfold f_ru_intOf at h
  replace h := its h
  obtain ⟨-, h⟩ := h
  refine lv_lload_n hx hb d_ru_intOf_0 rfl (lv_at hl 1 rfl) ?_
  refine lv_ldc2 (own := Rc_ru) (v := (-2147483648 : Int64)) hx hb hown (hts (.constantLong "AlarmForge$Runner" 157 (-2147483648 : Int64)) (gt_of (i := 845) (by decide +kernel) (by decide +kernel))) d_ru_intOf_1 ?_
  refine lc_lt (tgt := 16) hx hb d_ru_intOf_4 d_ru_intOf_5 (by decide) (fun c1 => ?_) (fun c1 => ?_)
  · rw [if_pos c1] at h
    exact j_ru_intOf_16 C a0 a1 a3 w h _ _ _ hW (lv_sub hl [0, 1, 2] rfl)
  · rw [if_neg c1] at h
    refine lv_lload_n hx hb d_ru_intOf_8 rfl (lv_at hl 1 rfl) ?_
    refine lv_ldc2 (own := Rc_ru) (v := (2147483647 : Int64)) hx hb hown (hts (.constantLong "AlarmForge$Runner" 159 (2147483647 : Int64)) (gt_of (i := 846) (by decide +kernel) (by decide +kernel))) d_ru_intOf_9 ?_
    refine lc_le (tgt := 22) hx hb d_ru_intOf_12 d_ru_intOf_13 (by decide) (fun c4 => ?_) (fun c4 => ?_)
    · rw [if_pos c4] at h
      exact j_ru_intOf_22 C a1 w h _ _ _ hW (lv_sub hl [1] rfl)
    · rw [if_neg c4] at h
      exact j_ru_intOf_16 C a0 a1 a3 w h _ _ _ hW (lv_sub hl [0, 1, 2] rfl)
set_option maxHeartbeats 4000000 in
set_option maxRecDepth 100000 in
theorem jx_ru_intOf_22 {p : Program} {l : Launch} {e : Env} {s : State} {m : MethodId} {args : Array Value} {below : List Frame} {meth : Method} {c : Code} {D : va_G} {cA : Nat → ClassId} {base : Nat} {E : String} {w' : WW} (C : cx b_ru_intOf (some .int) 4 y_ru_intOf.cls "intOf" p s m args meth c D cA base ∧ (∀ x ∈ c.exceptionTable.toList, ∀ k : Nat, covers x k = false) ∧ l.stackTraces = false)   : ∀ (y1 : Int64) (w : WW), f_ru_intOf_22 y1 w = some (.inr E, w') → ∀ (H : Heap) (locs : List Loc) (ls : Array Slot), wo_S D cls cA base s w H locs → lv_has ls 4 [(1, .long y1)] → W p l e rx_ru_intOf s m args below meth c H locs 0 0 (XQ below (wo_X D cls cA base E w' rx_ru_intOf.cells rx_ru_intOf.slots) args s) (F0 m 22 ls []) := by
  obtain ⟨hx, hb, hr, hml, hown, hts, hlk, hnm, hK, hG⟩ := id C.1
  have hnt := C.2.1
  have hst := C.2.2
  intro y1 w h H locs ls hW hl
  unfold f_ru_intOf_22 at h
  refine lv_lload_n hx hb d_ru_intOf_22 rfl (lv_at hl 0 rfl) ?_
  refine lv_l2i hx hb d_ru_intOf_23 rfl ?_
  cases h
set_option maxHeartbeats 4000000 in
set_option maxRecDepth 100000 in
theorem jx_ru_intOf_16 {p : Program} {l : Launch} {e : Env} {s : State} {m : MethodId} {args : Array Value} {below : List Frame} {meth : Method} {c : Code} {D : va_G} {cA : Nat → ClassId} {base : Nat} {E : String} {w' : WW} (C : cx b_ru_intOf (some .int) 4 y_ru_intOf.cls "intOf" p s m args meth c D cA base ∧ (∀ x ∈ c.exceptionTable.toList, ∀ k : Nat, covers x k = false) ∧ l.stackTraces = false)   : ∀ (y0 : Nat) (y1 : Int64) (y3 : Int32) (w : WW), f_ru_intOf_16 y0 y1 y3 w = some (.inr E, w') → ∀ (H : Heap) (locs : List Loc) (ls : Array Slot), wo_S D cls cA base s w H locs → lv_has ls 4 [(0, .ref y0), (1, .long y1), (3, .int y3)] → W p l e rx_ru_intOf s m args below meth c H locs 0 0 (XQ below (wo_X D cls cA base E w' rx_ru_intOf.cells rx_ru_intOf.slots) args s) (F0 m 16 ls []) := by
  obtain ⟨hx, hb, hr, hml, hown, hts, hlk, hnm, hK, hG⟩ := id C.1
  have hnt := C.2.1
  have hst := C.2.2
  intro y0 y1 y3 w h H locs ls hW hl
  unfold f_ru_intOf_16 at h
  refine lv_aload_n hx hb d_ru_intOf_16 rfl (lv_at hl 0 rfl) ?_
  refine lv_iconst (v := (3 : Int32)) hx hb d_ru_intOf_17 (by decide) ?_
  refine lv_iload_n hx hb d_ru_intOf_18 rfl (lv_at hl 2 rfl) ?_
  rcases bsy h with hw2 | ⟨x3, w2, hw2, hnw2⟩
  · exact xv_ru_117 (As := [.int (3 : Int32), .int y3]) (rest := []) hx hb hml hown hts hK hG hW (x_ru_fail l hst D cA base hw2) (kb_ru_fail hw2) ⟨Nat.le_of_ble_eq_true rfl, Nat.le_of_ble_eq_true rfl⟩ ⟨Nat.le_of_ble_eq_true rfl, Nat.le_of_ble_eq_true rfl⟩ rfl hl.1 rfl (Nat.le_of_ble_eq_true rfl) d_ru_intOf_19 (fun H locs q ce hW h1 h2 h3 => wo_xout hnt hlk hW h1 h2 h3 (Nat.le_of_ble_eq_true rfl) (Nat.le_of_ble_eq_true rfl))
  clear h
  have h := hnw2
  clear hnw2
  refine cv_ru_117 (As := [.int (3 : Int32), .int y3]) (rest := []) hx hb hml hown hts hK hG hW (c_ru_fail l D cA base hw2) (kb_ru_fail hw2) ⟨Nat.le_of_ble_eq_true rfl, Nat.le_of_ble_eq_true rfl⟩ ⟨Nat.le_of_ble_eq_true rfl, Nat.le_of_ble_eq_true rfl⟩ rfl hl.1 rfl (Nat.le_of_ble_eq_true rfl) d_ru_intOf_19 (fun H locs hW => ?_)
  exact jx_ru_intOf_22 C y1 w2 h _ _ _ hW (lv_sub hl [1] rfl)
set_option maxHeartbeats 4000000 in
set_option maxRecDepth 100000 in
theorem x_ru_intOf (l : Launch) (hst : l.stackTraces = false) (D : va_G) (cA : Nat → ClassId) (base : Nat) {a0 : Nat} {a1 : Int64} {a3 : Int32} {w w' : WW} {E : String} (h : f_ru_intOf a0 a1 a3 w = some (.inr E, w')) : xt l D cls (wo_tys cA) cA base y_ru_intOf (Cond.code y_ru_intOf b_ru_intOf 4 (some .int) :: gt) rx_ru_intOf [.ref a0, .long a1, .int a3] w E w' rx_ru_intOf.cells rx_ru_intOf.slots := by
  refine xt_start (by decide) (Nat.le_of_ble_eq_true rfl) ?_
  intro p e s m below meth c ls hx hb hr hml hown hts hlk hnm hK hG hW hl hnt
  have C : cx b_ru_intOf (some .int) 4 y_ru_intOf.cls "intOf" p s m [.ref a0, .long a1, .int a3].toArray meth c D cA base ∧ (∀ x ∈ c.exceptionTable.toList, ∀ k : Nat, covers x k = false) ∧ l.stackTraces = false := ⟨⟨hx, hb, hr, hml, hown, hts, hlk, hnm, hK, hG⟩, hnt, hst⟩
  have hl : lv_has ls 4 [(0, .ref a0), (1, .long a1), (3, .int a3)] := hl
  unfold f_ru_intOf at h
  replace h := its h
  obtain ⟨-, h⟩ := h
  refine lv_lload_n hx hb d_ru_intOf_0 rfl (lv_at hl 1 rfl) ?_
  refine lv_ldc2 (own := Rc_ru) (v := (-2147483648 : Int64)) hx hb hown (hts (.constantLong "AlarmForge$Runner" 157 (-2147483648 : Int64)) (gt_of (i := 845) (by decide +kernel) (by decide +kernel))) d_ru_intOf_1 ?_
  refine lc_lt (tgt := 16) hx hb d_ru_intOf_4 d_ru_intOf_5 (by decide) (fun c1 => ?_) (fun c1 => ?_)
  · rw [if_pos c1] at h
    exact jx_ru_intOf_16 C a0 a1 a3 w h _ _ _ hW (lv_sub hl [0, 1, 2] rfl)
  · rw [if_neg c1] at h
    refine lv_lload_n hx hb d_ru_intOf_8 rfl (lv_at hl 1 rfl) ?_
    refine lv_ldc2 (own := Rc_ru) (v := (2147483647 : Int64)) hx hb hown (hts (.constantLong "AlarmForge$Runner" 159 (2147483647 : Int64)) (gt_of (i := 846) (by decide +kernel) (by decide +kernel))) d_ru_intOf_9 ?_
    refine lc_le (tgt := 22) hx hb d_ru_intOf_12 d_ru_intOf_13 (by decide) (fun c4 => ?_) (fun c4 => ?_)
    · rw [if_pos c4] at h
      exact jx_ru_intOf_22 C a1 w h _ _ _ hW (lv_sub hl [1] rfl)
    · rw [if_neg c4] at h
      exact jx_ru_intOf_16 C a0 a1 a3 w h _ _ _ hW (lv_sub hl [0, 1, 2] rfl)
abbrev b_ru_divide : ByteArray := prog_6_method_16_code
def y_ru_divide : MethodName := ⟨"AlarmForge$Runner", "divide", "(IJJI)J"⟩
def rm_ru_divide : Room := { frames := 7, cells := 0, slots := 0, locals := 122 }
def rx_ru_divide : Room := { frames := 7, cells := 1, slots := 6, locals := 122 }
theorem d_ru_divide_0 : decode b_ru_divide 0 = .ok (.lload 4, 2) := by decide +kernel
theorem d_ru_divide_2 : decode b_ru_divide 2 = .ok (.lconst 0, 1) := by decide +kernel
theorem d_ru_divide_3 : decode b_ru_divide 3 = .ok (.lcmp, 1) := by decide +kernel
theorem d_ru_divide_4 : decode b_ru_divide 4 = .ok (.ifCond .ne (12), 3) := by decide +kernel
theorem d_ru_divide_7 : decode b_ru_divide 7 = .ok (.aload_n 0, 1) := by decide +kernel
theorem d_ru_divide_8 : decode b_ru_divide 8 = .ok (.iconst 4, 1) := by decide +kernel
theorem d_ru_divide_9 : decode b_ru_divide 9 = .ok (.iload 6, 2) := by decide +kernel
theorem d_ru_divide_11 : decode b_ru_divide 11 = .ok (.invokevirtual 117, 3) := by decide +kernel
theorem d_ru_divide_14 : decode b_ru_divide 14 = .ok (.lconst 0, 1) := by decide +kernel
theorem d_ru_divide_15 : decode b_ru_divide 15 = .ok (.lreturn, 1) := by decide +kernel
theorem d_ru_divide_16 : decode b_ru_divide 16 = .ok (.iload_n 1, 1) := by decide +kernel
theorem d_ru_divide_17 : decode b_ru_divide 17 = .ok (.bipush (47), 2) := by decide +kernel
theorem d_ru_divide_19 : decode b_ru_divide 19 = .ok (.if_icmp .ne (10), 3) := by decide +kernel
theorem d_ru_divide_22 : decode b_ru_divide 22 = .ok (.lload_n 2, 1) := by decide +kernel
theorem d_ru_divide_23 : decode b_ru_divide 23 = .ok (.lload 4, 2) := by decide +kernel
theorem d_ru_divide_25 : decode b_ru_divide 25 = .ok (.ldiv, 1) := by decide +kernel
theorem d_ru_divide_26 : decode b_ru_divide 26 = .ok (.goto (7), 3) := by decide +kernel
theorem d_ru_divide_29 : decode b_ru_divide 29 = .ok (.lload_n 2, 1) := by decide +kernel
theorem d_ru_divide_30 : decode b_ru_divide 30 = .ok (.lload 4, 2) := by decide +kernel
theorem d_ru_divide_32 : decode b_ru_divide 32 = .ok (.lrem, 1) := by decide +kernel
theorem d_ru_divide_33 : decode b_ru_divide 33 = .ok (.lreturn, 1) := by decide +kernel
def f_ru_divide_33  (z0 : Int64) (w : WW) : Option ((Int64 ⊕ String) × WW) :=
  some (.inl z0, w)
def f_ru_divide (a0 : Nat) (a1 : Int32) (a2 : Int64) (a4 : Int64) (a6 : Int32) (w : WW) : Option ((Int64 ⊕ String) × WW) :=
  if kb w a0 5 = true then
    if a4 = (0 : Int64) then
      bdx (f_ru_fail a0 (4 : Int32) a6 w) fun x6 w5 =>
      some (.inl (0 : Int64), w5)
    else
      if a1 = (47 : Int32) then
        if ¬ a4 = 0 then
          f_ru_divide_33 (a2 / a4) w
        else none
      else
        if ¬ a4 = 0 then
          f_ru_divide_33 (a2 - a2 / a4 * a4) w
        else none
  else none
theorem kb_ru_divide {a0 : Nat} {a1 : Int32} {a2 : Int64} {a4 : Int64} {a6 : Int32} {w : WW} {r : ((Int64 ⊕ String) × WW)} (h : f_ru_divide a0 a1 a2 a4 a6 w = some r) : kb w a0 5 = true := (its h).1
set_option maxHeartbeats 4000000 in
set_option maxRecDepth 100000 in
theorem j_ru_divide_33 {p : Program} {l : Launch} {e : Env} {s : State} {m : MethodId} {args : Array Value} {below : List Frame} {meth : Method} {c : Code} {D : va_G} {cA : Nat → ClassId} {base : Nat} {r : Int64} {w' : WW} (C : cx b_ru_divide (some .long) 7 y_ru_divide.cls "divide" p s m args meth c D cA base)   : ∀ (z0 : Int64) (w : WW), f_ru_divide_33 z0 w = some (.inl r, w') → ∀ (H : Heap) (locs : List Loc) (ls : Array Slot), wo_S D cls cA base s w H locs → lv_has ls 7 [] → W p l e rm_ru_divide s m args below meth c H locs 0 0 (MQ below (wo_Q D cls cA base (some (.long r)) w') args s rm_ru_divide.cells rm_ru_divide.slots (wo_B base)) (F0 m 33 ls [.long z0]) := by
  obtain ⟨hx, hb, hr, hml, hown, hts, hlk, hnm, hK, hG⟩ := id C
  intro z0 w h H locs ls hW hl
  unfold f_ru_divide_33 at h
  cases h
  exact wo_lret hx hb hr hlk hW d_ru_divide_33
set_option maxHeartbeats 4000000 in
set_option maxRecDepth 100000 in
theorem c_ru_divide (l : Launch) (D : va_G) (cA : Nat → ClassId) (base : Nat) {a0 : Nat} {a1 : Int32} {a2 : Int64} {a4 : Int64} {a6 : Int32} {w w' : WW} {r : Int64} (h : f_ru_divide a0 a1 a2 a4 a6 w = some (.inl r, w')) : mt l D cls (wo_tys cA) cA base y_ru_divide (Cond.code y_ru_divide b_ru_divide 7 (some .long) :: gt) rm_ru_divide [.ref a0, .int a1, .long a2, .long a4, .int a6] w (some (.long r)) w' rm_ru_divide.cells rm_ru_divide.slots := by
  refine mt_start (by decide) (Nat.le_of_ble_eq_true rfl) ?_
  intro p e s m below meth c ls hx hb hr hml hown hts hlk hnm hK hG hW hl
  have C : cx b_ru_divide (some .long) 7 y_ru_divide.cls "divide" p s m [.ref a0, .int a1, .long a2, .long a4, .int a6].toArray meth c D cA base := ⟨hx, hb, hr, hml, hown, hts, hlk, hnm, hK, hG⟩
  have hl : lv_has ls 7 [(0, .ref a0), (1, .int a1), (2, .long a2), (4, .long a4), (6, .int a6)] := hl
  unfold f_ru_divide at h
  replace h := its h
  obtain ⟨-, h⟩ := h
  refine lv_lload hx hb d_ru_divide_0 (lv_at hl 3 rfl) ?_
  refine lv_lconst (v := (0 : Int64)) hx hb d_ru_divide_2 (by decide) ?_
  refine lc_ne (tgt := 16) hx hb d_ru_divide_3 d_ru_divide_4 (by decide) (fun c1 => ?_) (fun c1 => ?_)
  · rw [if_neg c1] at h
    refine lv_iload_n hx hb d_ru_divide_16 rfl (lv_at hl 1 rfl) ?_
    refine lv_bipush (v := (47 : Int32)) hx hb d_ru_divide_17 (by decide) ?_
    refine lv_icmp_ne (tgt := 29) hx hb d_ru_divide_19 (by decide) (fun c2 => ?_) (fun c2 => ?_)
    · rw [if_neg c2] at h
      refine lv_lload_n hx hb d_ru_divide_29 rfl (lv_at hl 2 rfl) ?_
      refine lv_lload hx hb d_ru_divide_30 (lv_at hl 3 rfl) ?_
      replace h := its h
      obtain ⟨c3, h⟩ := h
      refine lv_lrem hx hb d_ru_divide_32 c3 ?_
      exact j_ru_divide_33 C (a2 - a2 / a4 * a4) w h _ _ _ hW (lv_sub hl [] rfl)
    · rw [if_pos c2] at h
      refine lv_lload_n hx hb d_ru_divide_22 rfl (lv_at hl 2 rfl) ?_
      refine lv_lload hx hb d_ru_divide_23 (lv_at hl 3 rfl) ?_
      replace h := its h
      obtain ⟨c4, h⟩ := h
      refine lv_ldiv hx hb d_ru_divide_25 c4 ?_
      refine lv_goto (tgt := 33) hx hb d_ru_divide_26 (by decide) ?_
      exact j_ru_divide_33 C (a2 / a4) w h _ _ _ hW (lv_sub hl [] rfl)
  · rw [if_pos c1] at h
    refine lv_aload_n hx hb d_ru_divide_7 rfl (lv_at hl 0 rfl) ?_
    refine lv_iconst (v := (4 : Int32)) hx hb d_ru_divide_8 (by decide) ?_
    refine lv_iload hx hb d_ru_divide_9 (lv_at hl 4 rfl) ?_
    replace h := bsx h
    obtain ⟨x6, w5, hw5, h⟩ := h
    refine cv_ru_117 (As := [.int (4 : Int32), .int a6]) (rest := []) hx hb hml hown hts hK hG hW (c_ru_fail l D cA base hw5) (kb_ru_fail hw5) ⟨Nat.le_of_ble_eq_true rfl, Nat.le_of_ble_eq_true rfl⟩ ⟨Nat.le_of_ble_eq_true rfl, Nat.le_of_ble_eq_true rfl⟩ rfl hl.1 rfl (Nat.le_of_ble_eq_true rfl) d_ru_divide_11 (fun H locs hW => ?_)
    refine lv_lconst (v := (0 : Int64)) hx hb d_ru_divide_14 (by decide) ?_
    cases h
    exact wo_lret hx hb hr hlk hW d_ru_divide_15
set_option maxHeartbeats 4000000 in
set_option maxRecDepth 100000 in
theorem jx_ru_divide_33 {p : Program} {l : Launch} {e : Env} {s : State} {m : MethodId} {args : Array Value} {below : List Frame} {meth : Method} {c : Code} {D : va_G} {cA : Nat → ClassId} {base : Nat} {E : String} {w' : WW} (C : cx b_ru_divide (some .long) 7 y_ru_divide.cls "divide" p s m args meth c D cA base ∧ (∀ x ∈ c.exceptionTable.toList, ∀ k : Nat, covers x k = false) ∧ l.stackTraces = false)   : ∀ (z0 : Int64) (w : WW), f_ru_divide_33 z0 w = some (.inr E, w') → ∀ (H : Heap) (locs : List Loc) (ls : Array Slot), wo_S D cls cA base s w H locs → lv_has ls 7 [] → W p l e rx_ru_divide s m args below meth c H locs 0 0 (XQ below (wo_X D cls cA base E w' rx_ru_divide.cells rx_ru_divide.slots) args s) (F0 m 33 ls [.long z0]) := by
  obtain ⟨hx, hb, hr, hml, hown, hts, hlk, hnm, hK, hG⟩ := id C.1
  have hnt := C.2.1
  have hst := C.2.2
  intro z0 w h H locs ls hW hl
  unfold f_ru_divide_33 at h
  cases h
set_option maxHeartbeats 4000000 in
set_option maxRecDepth 100000 in
theorem x_ru_divide (l : Launch) (hst : l.stackTraces = false) (D : va_G) (cA : Nat → ClassId) (base : Nat) {a0 : Nat} {a1 : Int32} {a2 : Int64} {a4 : Int64} {a6 : Int32} {w w' : WW} {E : String} (h : f_ru_divide a0 a1 a2 a4 a6 w = some (.inr E, w')) : xt l D cls (wo_tys cA) cA base y_ru_divide (Cond.code y_ru_divide b_ru_divide 7 (some .long) :: gt) rx_ru_divide [.ref a0, .int a1, .long a2, .long a4, .int a6] w E w' rx_ru_divide.cells rx_ru_divide.slots := by
  refine xt_start (by decide) (Nat.le_of_ble_eq_true rfl) ?_
  intro p e s m below meth c ls hx hb hr hml hown hts hlk hnm hK hG hW hl hnt
  have C : cx b_ru_divide (some .long) 7 y_ru_divide.cls "divide" p s m [.ref a0, .int a1, .long a2, .long a4, .int a6].toArray meth c D cA base ∧ (∀ x ∈ c.exceptionTable.toList, ∀ k : Nat, covers x k = false) ∧ l.stackTraces = false := ⟨⟨hx, hb, hr, hml, hown, hts, hlk, hnm, hK, hG⟩, hnt, hst⟩
  have hl : lv_has ls 7 [(0, .ref a0), (1, .int a1), (2, .long a2), (4, .long a4), (6, .int a6)] := hl
  unfold f_ru_divide at h
  replace h := its h
  obtain ⟨-, h⟩ := h
  refine lv_lload hx hb d_ru_divide_0 (lv_at hl 3 rfl) ?_
  refine lv_lconst (v := (0 : Int64)) hx hb d_ru_divide_2 (by decide) ?_
  refine lc_ne (tgt := 16) hx hb d_ru_divide_3 d_ru_divide_4 (by decide) (fun c1 => ?_) (fun c1 => ?_)
  · rw [if_neg c1] at h
    refine lv_iload_n hx hb d_ru_divide_16 rfl (lv_at hl 1 rfl) ?_
    refine lv_bipush (v := (47 : Int32)) hx hb d_ru_divide_17 (by decide) ?_
    refine lv_icmp_ne (tgt := 29) hx hb d_ru_divide_19 (by decide) (fun c2 => ?_) (fun c2 => ?_)
    · rw [if_neg c2] at h
      refine lv_lload_n hx hb d_ru_divide_29 rfl (lv_at hl 2 rfl) ?_
      refine lv_lload hx hb d_ru_divide_30 (lv_at hl 3 rfl) ?_
      replace h := its h
      obtain ⟨c3, h⟩ := h
      refine lv_lrem hx hb d_ru_divide_32 c3 ?_
      exact jx_ru_divide_33 C (a2 - a2 / a4 * a4) w h _ _ _ hW (lv_sub hl [] rfl)
    · rw [if_pos c2] at h
      refine lv_lload_n hx hb d_ru_divide_22 rfl (lv_at hl 2 rfl) ?_
      refine lv_lload hx hb d_ru_divide_23 (lv_at hl 3 rfl) ?_
      replace h := its h
      obtain ⟨c4, h⟩ := h
      refine lv_ldiv hx hb d_ru_divide_25 c4 ?_
      refine lv_goto (tgt := 33) hx hb d_ru_divide_26 (by decide) ?_
      exact jx_ru_divide_33 C (a2 / a4) w h _ _ _ hW (lv_sub hl [] rfl)
  · rw [if_pos c1] at h
    refine lv_aload_n hx hb d_ru_divide_7 rfl (lv_at hl 0 rfl) ?_
    refine lv_iconst (v := (4 : Int32)) hx hb d_ru_divide_8 (by decide) ?_
    refine lv_iload hx hb d_ru_divide_9 (lv_at hl 4 rfl) ?_
    rcases bsy h with hw5 | ⟨x6, w5, hw5, hnw5⟩
    · exact xv_ru_117 (As := [.int (4 : Int32), .int a6]) (rest := []) hx hb hml hown hts hK hG hW (x_ru_fail l hst D cA base hw5) (kb_ru_fail hw5) ⟨Nat.le_of_ble_eq_true rfl, Nat.le_of_ble_eq_true rfl⟩ ⟨Nat.le_of_ble_eq_true rfl, Nat.le_of_ble_eq_true rfl⟩ rfl hl.1 rfl (Nat.le_of_ble_eq_true rfl) d_ru_divide_11 (fun H locs q ce hW h1 h2 h3 => wo_xout hnt hlk hW h1 h2 h3 (Nat.le_of_ble_eq_true rfl) (Nat.le_of_ble_eq_true rfl))
    clear h
    have h := hnw5
    clear hnw5
    refine cv_ru_117 (As := [.int (4 : Int32), .int a6]) (rest := []) hx hb hml hown hts hK hG hW (c_ru_fail l D cA base hw5) (kb_ru_fail hw5) ⟨Nat.le_of_ble_eq_true rfl, Nat.le_of_ble_eq_true rfl⟩ ⟨Nat.le_of_ble_eq_true rfl, Nat.le_of_ble_eq_true rfl⟩ rfl hl.1 rfl (Nat.le_of_ble_eq_true rfl) d_ru_divide_11 (fun H locs hW => ?_)
    refine lv_lconst (v := (0 : Int64)) hx hb d_ru_divide_14 (by decide) ?_
    cases h
abbrev b_ru_combine : ByteArray := prog_6_method_17_code
def y_ru_combine : MethodName := ⟨"AlarmForge$Runner", "combine", "(IJJ)J"⟩
def rm_ru_combine : Room := { frames := 0, cells := 0, slots := 0, locals := 0 }
theorem d_ru_combine_0 : decode b_ru_combine 0 = .ok (.iload_n 1, 1) := by decide +kernel
theorem d_ru_combine_1 : decode b_ru_combine 1 = .ok (.bipush (43), 2) := by decide +kernel
theorem d_ru_combine_3 : decode b_ru_combine 3 = .ok (.if_icmp .ne (8), 3) := by decide +kernel
theorem d_ru_combine_6 : decode b_ru_combine 6 = .ok (.lload_n 2, 1) := by decide +kernel
theorem d_ru_combine_7 : decode b_ru_combine 7 = .ok (.lload 4, 2) := by decide +kernel
theorem d_ru_combine_9 : decode b_ru_combine 9 = .ok (.ladd, 1) := by decide +kernel
theorem d_ru_combine_10 : decode b_ru_combine 10 = .ok (.lreturn, 1) := by decide +kernel
theorem d_ru_combine_11 : decode b_ru_combine 11 = .ok (.iload_n 1, 1) := by decide +kernel
theorem d_ru_combine_12 : decode b_ru_combine 12 = .ok (.bipush (45), 2) := by decide +kernel
theorem d_ru_combine_14 : decode b_ru_combine 14 = .ok (.if_icmp .ne (10), 3) := by decide +kernel
theorem d_ru_combine_17 : decode b_ru_combine 17 = .ok (.lload_n 2, 1) := by decide +kernel
theorem d_ru_combine_18 : decode b_ru_combine 18 = .ok (.lload 4, 2) := by decide +kernel
theorem d_ru_combine_20 : decode b_ru_combine 20 = .ok (.lsub, 1) := by decide +kernel
theorem d_ru_combine_21 : decode b_ru_combine 21 = .ok (.goto (7), 3) := by decide +kernel
theorem d_ru_combine_24 : decode b_ru_combine 24 = .ok (.lload_n 2, 1) := by decide +kernel
theorem d_ru_combine_25 : decode b_ru_combine 25 = .ok (.lload 4, 2) := by decide +kernel
theorem d_ru_combine_27 : decode b_ru_combine 27 = .ok (.lmul, 1) := by decide +kernel
theorem d_ru_combine_28 : decode b_ru_combine 28 = .ok (.lreturn, 1) := by decide +kernel
def f_ru_combine_28  (z0 : Int64) (w : WW) : Option (Int64 × WW) :=
  some (z0, w)
def f_ru_combine (a0 : Nat) (a1 : Int32) (a2 : Int64) (a4 : Int64) (w : WW) : Option (Int64 × WW) :=
  if kb w a0 5 = true then
    if a1 = (43 : Int32) then
      some ((a2 + a4), w)
    else
      if a1 = (45 : Int32) then
        f_ru_combine_28 (a2 - a4) w
      else
        f_ru_combine_28 (a2 * a4) w
  else none
theorem kb_ru_combine {a0 : Nat} {a1 : Int32} {a2 : Int64} {a4 : Int64} {w : WW} {r : (Int64 × WW)} (h : f_ru_combine a0 a1 a2 a4 w = some r) : kb w a0 5 = true := (its h).1
set_option maxHeartbeats 4000000 in
set_option maxRecDepth 100000 in
theorem j_ru_combine_28 {p : Program} {l : Launch} {e : Env} {s : State} {m : MethodId} {args : Array Value} {below : List Frame} {meth : Method} {c : Code} {D : va_G} {cA : Nat → ClassId} {base : Nat} {r : Int64} {w' : WW} (C : cx b_ru_combine (some .long) 6 y_ru_combine.cls "combine" p s m args meth c D cA base)   : ∀ (z0 : Int64) (w : WW), f_ru_combine_28 z0 w = some (r, w') → ∀ (H : Heap) (locs : List Loc) (ls : Array Slot), wo_S D cls cA base s w H locs → lv_has ls 6 [] → W p l e rm_ru_combine s m args below meth c H locs 0 0 (MQ below (wo_Q D cls cA base (some (.long r)) w') args s rm_ru_combine.cells rm_ru_combine.slots (wo_B base)) (F0 m 28 ls [.long z0]) := by
  obtain ⟨hx, hb, hr, hml, hown, hts, hlk, hnm, hK, hG⟩ := id C
  intro z0 w h H locs ls hW hl
  unfold f_ru_combine_28 at h
  cases h
  exact wo_lret hx hb hr hlk hW d_ru_combine_28
set_option maxHeartbeats 4000000 in
set_option maxRecDepth 100000 in
theorem c_ru_combine (l : Launch) (D : va_G) (cA : Nat → ClassId) (base : Nat) {a0 : Nat} {a1 : Int32} {a2 : Int64} {a4 : Int64} {w w' : WW} {r : Int64} (h : f_ru_combine a0 a1 a2 a4 w = some (r, w')) : mt l D cls (wo_tys cA) cA base y_ru_combine (Cond.code y_ru_combine b_ru_combine 6 (some .long) :: gt) rm_ru_combine [.ref a0, .int a1, .long a2, .long a4] w (some (.long r)) w' rm_ru_combine.cells rm_ru_combine.slots := by
  refine mt_start (by decide) (Nat.le_of_ble_eq_true rfl) ?_
  intro p e s m below meth c ls hx hb hr hml hown hts hlk hnm hK hG hW hl
  have C : cx b_ru_combine (some .long) 6 y_ru_combine.cls "combine" p s m [.ref a0, .int a1, .long a2, .long a4].toArray meth c D cA base := ⟨hx, hb, hr, hml, hown, hts, hlk, hnm, hK, hG⟩
  have hl : lv_has ls 6 [(0, .ref a0), (1, .int a1), (2, .long a2), (4, .long a4)] := hl
  unfold f_ru_combine at h
  replace h := its h
  obtain ⟨-, h⟩ := h
  refine lv_iload_n hx hb d_ru_combine_0 rfl (lv_at hl 1 rfl) ?_
  refine lv_bipush (v := (43 : Int32)) hx hb d_ru_combine_1 (by decide) ?_
  refine lv_icmp_ne (tgt := 11) hx hb d_ru_combine_3 (by decide) (fun c1 => ?_) (fun c1 => ?_)
  · rw [if_neg c1] at h
    refine lv_iload_n hx hb d_ru_combine_11 rfl (lv_at hl 1 rfl) ?_
    refine lv_bipush (v := (45 : Int32)) hx hb d_ru_combine_12 (by decide) ?_
    refine lv_icmp_ne (tgt := 24) hx hb d_ru_combine_14 (by decide) (fun c2 => ?_) (fun c2 => ?_)
    · rw [if_neg c2] at h
      refine lv_lload_n hx hb d_ru_combine_24 rfl (lv_at hl 2 rfl) ?_
      refine lv_lload hx hb d_ru_combine_25 (lv_at hl 3 rfl) ?_
      refine lv_lmul hx hb d_ru_combine_27 ?_
      exact j_ru_combine_28 C (a2 * a4) w h _ _ _ hW (lv_sub hl [] rfl)
    · rw [if_pos c2] at h
      refine lv_lload_n hx hb d_ru_combine_17 rfl (lv_at hl 2 rfl) ?_
      refine lv_lload hx hb d_ru_combine_18 (lv_at hl 3 rfl) ?_
      refine lv_lsub hx hb d_ru_combine_20 ?_
      refine lv_goto (tgt := 28) hx hb d_ru_combine_21 (by decide) ?_
      exact j_ru_combine_28 C (a2 - a4) w h _ _ _ hW (lv_sub hl [] rfl)
  · rw [if_pos c1] at h
    refine lv_lload_n hx hb d_ru_combine_6 rfl (lv_at hl 2 rfl) ?_
    refine lv_lload hx hb d_ru_combine_7 (lv_at hl 3 rfl) ?_
    refine lv_ladd hx hb d_ru_combine_9 ?_
    cases h
    exact wo_lret hx hb hr hlk hW d_ru_combine_10
theorem xv_ru_123 {p : Program} {l : Launch} {e : Env} {R : Room} {s : State} {m : MethodId} {args : Array Value} {below : List Frame} {meth : Method} {c : Code} {H : Heap} {locs : List Loc} {cells slots : Nat} {Q : State → Prop} {D : va_G} {cA : Nat → ClassId} {base : Nat} {w w' : WW} {cc : ByteArray} {pc nL : Nat} {ls : Array Slot} {rest st0 As : List Value} {E : String} {b : Nat} (hx : p.tables.exec = Jvm.exec) (hb : c.code = cc) (hml : c.maxLocals = nL) (hown : s.vm.findClass Rc_ru = some m.cls) (hts : ∀ w ∈ gt, w.before args s = true) (hK : va_K D cls (wo_tys cA) s) (hG : wo_G base s) (hW : wo_S D cls cA base s w H locs) (hM : xt l D cls (wo_tys cA) cA base y_ru_cellOf (Cond.code y_ru_cellOf b_ru_cellOf 4 (some .int) :: gt) rx_ru_cellOf (.ref b :: As) w E w' rx_ru_cellOf.cells rx_ru_cellOf.slots) (hkb : kb w b 5 = true) (hR : rx_ru_cellOf.frames + 1 ≤ R.frames ∧ 8 + (4 + 11) + rx_ru_cellOf.locals ≤ R.locals) (hf : cells + rx_ru_cellOf.cells ≤ R.cells ∧ slots + rx_ru_cellOf.slots ≤ R.slots) (hn : As.length = 3) (hsz : ls.size = nL) (hst : st0 = As.reverse ++ .ref b :: rest) (hcat : (rest.map fun v => v.category).sum ≤ 8) (hdg : decode cc pc = .ok (.invokevirtual 123, 3)) (kk : ∀ (H1 : Heap) (locs1 : List Loc) (q : Addr) (ce : Cell), wo_S D cls cA base s w' H1 locs1 → H1[q]? = some ce → ce.vm = .none → s.vm.findClass E = some ce.cls → XW p l e R s m args below meth c H1 locs1 (cells + rx_ru_cellOf.cells) (slots + rx_ru_cellOf.slots) Q (F0 m pc ls rest) q) : W p l e R s m args below meth c H locs cells slots Q (F0 m pc ls st0) :=
  wo_xcallV (C := Rc_ru) hx hb hml hown hts hK hG hW hM hkb rfl (gt_of (i := 837) (by decide +kernel) (by decide +kernel)) (gt_of (i := 839) (by decide +kernel) (by decide +kernel)) (gt_sel (i := 28) (by decide +kernel) (by decide +kernel)) (gt_of (i := 6) (by decide +kernel) (by decide +kernel)) (gt_of (i := 840) (by decide +kernel) (by decide +kernel)) (by decide +kernel) hR hf hn hsz hst hcat hdg kk
theorem cv_ru_123 {p : Program} {l : Launch} {e : Env} {R : Room} {s : State} {m : MethodId} {args : Array Value} {below : List Frame} {meth : Method} {c : Code} {H : Heap} {locs : List Loc} {cells slots : Nat} {Q : State → Prop} {D : va_G} {cA : Nat → ClassId} {base : Nat} {w w' : WW} {cc : ByteArray} {pc nL : Nat} {ls : Array Slot} {rest st0 As : List Value} {ov : Option Value} {b : Nat} (hx : p.tables.exec = Jvm.exec) (hb : c.code = cc) (hml : c.maxLocals = nL) (hown : s.vm.findClass Rc_ru = some m.cls) (hts : ∀ w ∈ gt, w.before args s = true) (hK : va_K D cls (wo_tys cA) s) (hG : wo_G base s) (hW : wo_S D cls cA base s w H locs) (hM : mt l D cls (wo_tys cA) cA base y_ru_cellOf (Cond.code y_ru_cellOf b_ru_cellOf 4 (some .int) :: gt) rm_ru_cellOf (.ref b :: As) w ov w' rm_ru_cellOf.cells rm_ru_cellOf.slots) (hkb : kb w b 5 = true) (hR : rm_ru_cellOf.frames + 1 ≤ R.frames ∧ 8 + (4 + 11) + rm_ru_cellOf.locals ≤ R.locals) (hf : cells + rm_ru_cellOf.cells ≤ R.cells ∧ slots + rm_ru_cellOf.slots ≤ R.slots) (hn : As.length = 3) (hsz : ls.size = nL) (hst : st0 = As.reverse ++ .ref b :: rest) (hcat : (rest.map fun v => v.category).sum ≤ 8) (hdg : decode cc pc = .ok (.invokevirtual 123, 3)) (kk : ∀ (H1 : Heap) (locs1 : List Loc), wo_S D cls cA base s w' H1 locs1 → W p l e R s m args below meth c H1 locs1 (cells + rm_ru_cellOf.cells) (slots + rm_ru_cellOf.slots) Q (F0 m (pc + 3) ls (ov.toList ++ rest))) : W p l e R s m args below meth c H locs cells slots Q (F0 m pc ls st0) :=
  wo_callV (C := Rc_ru) hx hb hml hown hts hK hG hW hM hkb rfl (gt_of (i := 837) (by decide +kernel) (by decide +kernel)) (gt_of (i := 839) (by decide +kernel) (by decide +kernel)) (gt_sel (i := 28) (by decide +kernel) (by decide +kernel)) (gt_of (i := 6) (by decide +kernel) (by decide +kernel)) (gt_of (i := 840) (by decide +kernel) (by decide +kernel)) (by decide +kernel) hR hf hn hsz hst hcat hdg kk
theorem xv_ru_145 {p : Program} {l : Launch} {e : Env} {R : Room} {s : State} {m : MethodId} {args : Array Value} {below : List Frame} {meth : Method} {c : Code} {H : Heap} {locs : List Loc} {cells slots : Nat} {Q : State → Prop} {D : va_G} {cA : Nat → ClassId} {base : Nat} {w w' : WW} {cc : ByteArray} {pc nL : Nat} {ls : Array Slot} {rest st0 As : List Value} {E : String} {b : Nat} (hx : p.tables.exec = Jvm.exec) (hb : c.code = cc) (hml : c.maxLocals = nL) (hown : s.vm.findClass Rc_ru = some m.cls) (hts : ∀ w ∈ gt, w.before args s = true) (hK : va_K D cls (wo_tys cA) s) (hG : wo_G base s) (hW : wo_S D cls cA base s w H locs) (hM : xt l D cls (wo_tys cA) cA base y_ru_intOf (Cond.code y_ru_intOf b_ru_intOf 4 (some .int) :: gt) rx_ru_intOf (.ref b :: As) w E w' rx_ru_intOf.cells rx_ru_intOf.slots) (hkb : kb w b 5 = true) (hR : rx_ru_intOf.frames + 1 ≤ R.frames ∧ 8 + (4 + 11) + rx_ru_intOf.locals ≤ R.locals) (hf : cells + rx_ru_intOf.cells ≤ R.cells ∧ slots + rx_ru_intOf.slots ≤ R.slots) (hn : As.length = 2) (hsz : ls.size = nL) (hst : st0 = As.reverse ++ .ref b :: rest) (hcat : (rest.map fun v => v.category).sum ≤ 8) (hdg : decode cc pc = .ok (.invokevirtual 145, 3)) (kk : ∀ (H1 : Heap) (locs1 : List Loc) (q : Addr) (ce : Cell), wo_S D cls cA base s w' H1 locs1 → H1[q]? = some ce → ce.vm = .none → s.vm.findClass E = some ce.cls → XW p l e R s m args below meth c H1 locs1 (cells + rx_ru_intOf.cells) (slots + rx_ru_intOf.slots) Q (F0 m pc ls rest) q) : W p l e R s m args below meth c H locs cells slots Q (F0 m pc ls st0) :=
  wo_xcallV (C := Rc_ru) hx hb hml hown hts hK hG hW hM hkb rfl (gt_of (i := 841) (by decide +kernel) (by decide +kernel)) (gt_of (i := 843) (by decide +kernel) (by decide +kernel)) (gt_sel (i := 29) (by decide +kernel) (by decide +kernel)) (gt_of (i := 6) (by decide +kernel) (by decide +kernel)) (gt_of (i := 844) (by decide +kernel) (by decide +kernel)) (by decide +kernel) hR hf hn hsz hst hcat hdg kk
theorem cv_ru_145 {p : Program} {l : Launch} {e : Env} {R : Room} {s : State} {m : MethodId} {args : Array Value} {below : List Frame} {meth : Method} {c : Code} {H : Heap} {locs : List Loc} {cells slots : Nat} {Q : State → Prop} {D : va_G} {cA : Nat → ClassId} {base : Nat} {w w' : WW} {cc : ByteArray} {pc nL : Nat} {ls : Array Slot} {rest st0 As : List Value} {ov : Option Value} {b : Nat} (hx : p.tables.exec = Jvm.exec) (hb : c.code = cc) (hml : c.maxLocals = nL) (hown : s.vm.findClass Rc_ru = some m.cls) (hts : ∀ w ∈ gt, w.before args s = true) (hK : va_K D cls (wo_tys cA) s) (hG : wo_G base s) (hW : wo_S D cls cA base s w H locs) (hM : mt l D cls (wo_tys cA) cA base y_ru_intOf (Cond.code y_ru_intOf b_ru_intOf 4 (some .int) :: gt) rm_ru_intOf (.ref b :: As) w ov w' rm_ru_intOf.cells rm_ru_intOf.slots) (hkb : kb w b 5 = true) (hR : rm_ru_intOf.frames + 1 ≤ R.frames ∧ 8 + (4 + 11) + rm_ru_intOf.locals ≤ R.locals) (hf : cells + rm_ru_intOf.cells ≤ R.cells ∧ slots + rm_ru_intOf.slots ≤ R.slots) (hn : As.length = 2) (hsz : ls.size = nL) (hst : st0 = As.reverse ++ .ref b :: rest) (hcat : (rest.map fun v => v.category).sum ≤ 8) (hdg : decode cc pc = .ok (.invokevirtual 145, 3)) (kk : ∀ (H1 : Heap) (locs1 : List Loc), wo_S D cls cA base s w' H1 locs1 → W p l e R s m args below meth c H1 locs1 (cells + rm_ru_intOf.cells) (slots + rm_ru_intOf.slots) Q (F0 m (pc + 3) ls (ov.toList ++ rest))) : W p l e R s m args below meth c H locs cells slots Q (F0 m pc ls st0) :=
  wo_callV (C := Rc_ru) hx hb hml hown hts hK hG hW hM hkb rfl (gt_of (i := 841) (by decide +kernel) (by decide +kernel)) (gt_of (i := 843) (by decide +kernel) (by decide +kernel)) (gt_sel (i := 29) (by decide +kernel) (by decide +kernel)) (gt_of (i := 6) (by decide +kernel) (by decide +kernel)) (gt_of (i := 844) (by decide +kernel) (by decide +kernel)) (by decide +kernel) hR hf hn hsz hst hcat hdg kk
theorem xv_ru_149 {p : Program} {l : Launch} {e : Env} {R : Room} {s : State} {m : MethodId} {args : Array Value} {below : List Frame} {meth : Method} {c : Code} {H : Heap} {locs : List Loc} {cells slots : Nat} {Q : State → Prop} {D : va_G} {cA : Nat → ClassId} {base : Nat} {w w' : WW} {cc : ByteArray} {pc nL : Nat} {ls : Array Slot} {rest st0 As : List Value} {E : String} {b : Nat} (hx : p.tables.exec = Jvm.exec) (hb : c.code = cc) (hml : c.maxLocals = nL) (hown : s.vm.findClass Rc_ru = some m.cls) (hts : ∀ w ∈ gt, w.before args s = true) (hK : va_K D cls (wo_tys cA) s) (hG : wo_G base s) (hW : wo_S D cls cA base s w H locs) (hM : xt l D cls (wo_tys cA) cA base y_ru_divide (Cond.code y_ru_divide b_ru_divide 7 (some .long) :: gt) rx_ru_divide (.ref b :: As) w E w' rx_ru_divide.cells rx_ru_divide.slots) (hkb : kb w b 5 = true) (hR : rx_ru_divide.frames + 1 ≤ R.frames ∧ 8 + (7 + 11) + rx_ru_divide.locals ≤ R.locals) (hf : cells + rx_ru_divide.cells ≤ R.cells ∧ slots + rx_ru_divide.slots ≤ R.slots) (hn : As.length = 4) (hsz : ls.size = nL) (hst : st0 = As.reverse ++ .ref b :: rest) (hcat : (rest.map fun v => v.category).sum ≤ 8) (hdg : decode cc pc = .ok (.invokevirtual 149, 3)) (kk : ∀ (H1 : Heap) (locs1 : List Loc) (q : Addr) (ce : Cell), wo_S D cls cA base s w' H1 locs1 → H1[q]? = some ce → ce.vm = .none → s.vm.findClass E = some ce.cls → XW p l e R s m args below meth c H1 locs1 (cells + rx_ru_divide.cells) (slots + rx_ru_divide.slots) Q (F0 m pc ls rest) q) : W p l e R s m args below meth c H locs cells slots Q (F0 m pc ls st0) :=
  wo_xcallV (C := Rc_ru) hx hb hml hown hts hK hG hW hM hkb rfl (gt_of (i := 847) (by decide +kernel) (by decide +kernel)) (gt_of (i := 849) (by decide +kernel) (by decide +kernel)) (gt_sel (i := 30) (by decide +kernel) (by decide +kernel)) (gt_of (i := 6) (by decide +kernel) (by decide +kernel)) (gt_of (i := 850) (by decide +kernel) (by decide +kernel)) (by decide +kernel) hR hf hn hsz hst hcat hdg kk
theorem cv_ru_149 {p : Program} {l : Launch} {e : Env} {R : Room} {s : State} {m : MethodId} {args : Array Value} {below : List Frame} {meth : Method} {c : Code} {H : Heap} {locs : List Loc} {cells slots : Nat} {Q : State → Prop} {D : va_G} {cA : Nat → ClassId} {base : Nat} {w w' : WW} {cc : ByteArray} {pc nL : Nat} {ls : Array Slot} {rest st0 As : List Value} {ov : Option Value} {b : Nat} (hx : p.tables.exec = Jvm.exec) (hb : c.code = cc) (hml : c.maxLocals = nL) (hown : s.vm.findClass Rc_ru = some m.cls) (hts : ∀ w ∈ gt, w.before args s = true) (hK : va_K D cls (wo_tys cA) s) (hG : wo_G base s) (hW : wo_S D cls cA base s w H locs) (hM : mt l D cls (wo_tys cA) cA base y_ru_divide (Cond.code y_ru_divide b_ru_divide 7 (some .long) :: gt) rm_ru_divide (.ref b :: As) w ov w' rm_ru_divide.cells rm_ru_divide.slots) (hkb : kb w b 5 = true) (hR : rm_ru_divide.frames + 1 ≤ R.frames ∧ 8 + (7 + 11) + rm_ru_divide.locals ≤ R.locals) (hf : cells + rm_ru_divide.cells ≤ R.cells ∧ slots + rm_ru_divide.slots ≤ R.slots) (hn : As.length = 4) (hsz : ls.size = nL) (hst : st0 = As.reverse ++ .ref b :: rest) (hcat : (rest.map fun v => v.category).sum ≤ 8) (hdg : decode cc pc = .ok (.invokevirtual 149, 3)) (kk : ∀ (H1 : Heap) (locs1 : List Loc), wo_S D cls cA base s w' H1 locs1 → W p l e R s m args below meth c H1 locs1 (cells + rm_ru_divide.cells) (slots + rm_ru_divide.slots) Q (F0 m (pc + 3) ls (ov.toList ++ rest))) : W p l e R s m args below meth c H locs cells slots Q (F0 m pc ls st0) :=
  wo_callV (C := Rc_ru) hx hb hml hown hts hK hG hW hM hkb rfl (gt_of (i := 847) (by decide +kernel) (by decide +kernel)) (gt_of (i := 849) (by decide +kernel) (by decide +kernel)) (gt_sel (i := 30) (by decide +kernel) (by decide +kernel)) (gt_of (i := 6) (by decide +kernel) (by decide +kernel)) (gt_of (i := 850) (by decide +kernel) (by decide +kernel)) (by decide +kernel) hR hf hn hsz hst hcat hdg kk
theorem cv_ru_153 {p : Program} {l : Launch} {e : Env} {R : Room} {s : State} {m : MethodId} {args : Array Value} {below : List Frame} {meth : Method} {c : Code} {H : Heap} {locs : List Loc} {cells slots : Nat} {Q : State → Prop} {D : va_G} {cA : Nat → ClassId} {base : Nat} {w w' : WW} {cc : ByteArray} {pc nL : Nat} {ls : Array Slot} {rest st0 As : List Value} {ov : Option Value} {b : Nat} (hx : p.tables.exec = Jvm.exec) (hb : c.code = cc) (hml : c.maxLocals = nL) (hown : s.vm.findClass Rc_ru = some m.cls) (hts : ∀ w ∈ gt, w.before args s = true) (hK : va_K D cls (wo_tys cA) s) (hG : wo_G base s) (hW : wo_S D cls cA base s w H locs) (hM : mt l D cls (wo_tys cA) cA base y_ru_combine (Cond.code y_ru_combine b_ru_combine 6 (some .long) :: gt) rm_ru_combine (.ref b :: As) w ov w' rm_ru_combine.cells rm_ru_combine.slots) (hkb : kb w b 5 = true) (hR : rm_ru_combine.frames + 1 ≤ R.frames ∧ 8 + (6 + 11) + rm_ru_combine.locals ≤ R.locals) (hf : cells + rm_ru_combine.cells ≤ R.cells ∧ slots + rm_ru_combine.slots ≤ R.slots) (hn : As.length = 3) (hsz : ls.size = nL) (hst : st0 = As.reverse ++ .ref b :: rest) (hcat : (rest.map fun v => v.category).sum ≤ 8) (hdg : decode cc pc = .ok (.invokevirtual 153, 3)) (kk : ∀ (H1 : Heap) (locs1 : List Loc), wo_S D cls cA base s w' H1 locs1 → W p l e R s m args below meth c H1 locs1 (cells + rm_ru_combine.cells) (slots + rm_ru_combine.slots) Q (F0 m (pc + 3) ls (ov.toList ++ rest))) : W p l e R s m args below meth c H locs cells slots Q (F0 m pc ls st0) :=
  wo_callV (C := Rc_ru) hx hb hml hown hts hK hG hW hM hkb rfl (gt_of (i := 851) (by decide +kernel) (by decide +kernel)) (gt_of (i := 853) (by decide +kernel) (by decide +kernel)) (gt_sel (i := 31) (by decide +kernel) (by decide +kernel)) (gt_of (i := 6) (by decide +kernel) (by decide +kernel)) (gt_of (i := 854) (by decide +kernel) (by decide +kernel)) (by decide +kernel) hR hf hn hsz hst hcat hdg kk
abbrev b_ru_doStep : ByteArray := prog_6_method_15_code
def y_ru_doStep : MethodName := ⟨"AlarmForge$Runner", "doStep", "(III)I"⟩
def rm_ru_doStep : Room := { frames := 8, cells := 0, slots := 0, locals := 148 }
def rx_ru_doStep : Room := { frames := 8, cells := 1, slots := 6, locals := 148 }
theorem d_ru_doStep_0 : decode b_ru_doStep 0 = .ok (.aload_n 0, 1) := by decide +kernel
theorem d_ru_doStep_1 : decode b_ru_doStep 1 = .ok (.getfield 32, 3) := by decide +kernel
theorem d_ru_doStep_4 : decode b_ru_doStep 4 = .ok (.getfield 136, 3) := by decide +kernel
theorem d_ru_doStep_7 : decode b_ru_doStep 7 = .ok (.iload_n 1, 1) := by decide +kernel
theorem d_ru_doStep_8 : decode b_ru_doStep 8 = .ok (.iaload, 1) := by decide +kernel
theorem d_ru_doStep_9 : decode b_ru_doStep 9 = .ok (.istore 4, 2) := by decide +kernel
theorem d_ru_doStep_11 : decode b_ru_doStep 11 = .ok (.aload_n 0, 1) := by decide +kernel
theorem d_ru_doStep_12 : decode b_ru_doStep 12 = .ok (.getfield 32, 3) := by decide +kernel
theorem d_ru_doStep_15 : decode b_ru_doStep 15 = .ok (.getfield 139, 3) := by decide +kernel
theorem d_ru_doStep_18 : decode b_ru_doStep 18 = .ok (.iload_n 1, 1) := by decide +kernel
theorem d_ru_doStep_19 : decode b_ru_doStep 19 = .ok (.iaload, 1) := by decide +kernel
theorem d_ru_doStep_20 : decode b_ru_doStep 20 = .ok (.istore 5, 2) := by decide +kernel
theorem d_ru_doStep_22 : decode b_ru_doStep 22 = .ok (.aload_n 0, 1) := by decide +kernel
theorem d_ru_doStep_23 : decode b_ru_doStep 23 = .ok (.getfield 32, 3) := by decide +kernel
theorem d_ru_doStep_26 : decode b_ru_doStep 26 = .ok (.getfield 142, 3) := by decide +kernel
theorem d_ru_doStep_29 : decode b_ru_doStep 29 = .ok (.iload_n 1, 1) := by decide +kernel
theorem d_ru_doStep_30 : decode b_ru_doStep 30 = .ok (.iaload, 1) := by decide +kernel
theorem d_ru_doStep_31 : decode b_ru_doStep 31 = .ok (.istore 6, 2) := by decide +kernel
theorem d_ru_doStep_33 : decode b_ru_doStep 33 = .ok (.iload 6, 2) := by decide +kernel
theorem d_ru_doStep_35 : decode b_ru_doStep 35 = .ok (.lookupswitch (129) #[(1, 57), (2, 60), (3, 85), (37, 110), (47, 110), (259, 100)], 57) := by decide +kernel
theorem d_ru_doStep_92 : decode b_ru_doStep 92 = .ok (.iload 4, 2) := by decide +kernel
theorem d_ru_doStep_94 : decode b_ru_doStep 94 = .ok (.ireturn, 1) := by decide +kernel
theorem d_ru_doStep_95 : decode b_ru_doStep 95 = .ok (.aload_n 0, 1) := by decide +kernel
theorem d_ru_doStep_96 : decode b_ru_doStep 96 = .ok (.getfield 15, 3) := by decide +kernel
theorem d_ru_doStep_99 : decode b_ru_doStep 99 = .ok (.iload 4, 2) := by decide +kernel
theorem d_ru_doStep_101 : decode b_ru_doStep 101 = .ok (.baload, 1) := by decide +kernel
theorem d_ru_doStep_102 : decode b_ru_doStep 102 = .ok (.ifCond .eq (10), 3) := by decide +kernel
theorem d_ru_doStep_105 : decode b_ru_doStep 105 = .ok (.aload_n 0, 1) := by decide +kernel
theorem d_ru_doStep_106 : decode b_ru_doStep 106 = .ok (.iconst 1, 1) := by decide +kernel
theorem d_ru_doStep_107 : decode b_ru_doStep 107 = .ok (.iload 5, 2) := by decide +kernel
theorem d_ru_doStep_109 : decode b_ru_doStep 109 = .ok (.invokevirtual 117, 3) := by decide +kernel
theorem d_ru_doStep_112 : decode b_ru_doStep 112 = .ok (.aload_n 0, 1) := by decide +kernel
theorem d_ru_doStep_113 : decode b_ru_doStep 113 = .ok (.getfield 9, 3) := by decide +kernel
theorem d_ru_doStep_116 : decode b_ru_doStep 116 = .ok (.iload 4, 2) := by decide +kernel
theorem d_ru_doStep_118 : decode b_ru_doStep 118 = .ok (.iaload, 1) := by decide +kernel
theorem d_ru_doStep_119 : decode b_ru_doStep 119 = .ok (.ireturn, 1) := by decide +kernel
theorem d_ru_doStep_120 : decode b_ru_doStep 120 = .ok (.aload_n 0, 1) := by decide +kernel
theorem d_ru_doStep_121 : decode b_ru_doStep 121 = .ok (.getfield 19, 3) := by decide +kernel
theorem d_ru_doStep_124 : decode b_ru_doStep 124 = .ok (.aload_n 0, 1) := by decide +kernel
theorem d_ru_doStep_125 : decode b_ru_doStep 125 = .ok (.iload 4, 2) := by decide +kernel
theorem d_ru_doStep_127 : decode b_ru_doStep 127 = .ok (.iload_n 2, 1) := by decide +kernel
theorem d_ru_doStep_128 : decode b_ru_doStep 128 = .ok (.iload 5, 2) := by decide +kernel
theorem d_ru_doStep_130 : decode b_ru_doStep 130 = .ok (.invokevirtual 123, 3) := by decide +kernel
theorem d_ru_doStep_133 : decode b_ru_doStep 133 = .ok (.iaload, 1) := by decide +kernel
theorem d_ru_doStep_134 : decode b_ru_doStep 134 = .ok (.ireturn, 1) := by decide +kernel
theorem d_ru_doStep_135 : decode b_ru_doStep 135 = .ok (.aload_n 0, 1) := by decide +kernel
theorem d_ru_doStep_136 : decode b_ru_doStep 136 = .ok (.iload_n 2, 1) := by decide +kernel
theorem d_ru_doStep_137 : decode b_ru_doStep 137 = .ok (.i2l, 1) := by decide +kernel
theorem d_ru_doStep_138 : decode b_ru_doStep 138 = .ok (.lneg, 1) := by decide +kernel
theorem d_ru_doStep_139 : decode b_ru_doStep 139 = .ok (.iload 5, 2) := by decide +kernel
theorem d_ru_doStep_141 : decode b_ru_doStep 141 = .ok (.invokevirtual 145, 3) := by decide +kernel
theorem d_ru_doStep_144 : decode b_ru_doStep 144 = .ok (.ireturn, 1) := by decide +kernel
theorem d_ru_doStep_145 : decode b_ru_doStep 145 = .ok (.aload_n 0, 1) := by decide +kernel
theorem d_ru_doStep_146 : decode b_ru_doStep 146 = .ok (.aload_n 0, 1) := by decide +kernel
theorem d_ru_doStep_147 : decode b_ru_doStep 147 = .ok (.iload 6, 2) := by decide +kernel
theorem d_ru_doStep_149 : decode b_ru_doStep 149 = .ok (.iload_n 2, 1) := by decide +kernel
theorem d_ru_doStep_150 : decode b_ru_doStep 150 = .ok (.i2l, 1) := by decide +kernel
theorem d_ru_doStep_151 : decode b_ru_doStep 151 = .ok (.iload_n 3, 1) := by decide +kernel
theorem d_ru_doStep_152 : decode b_ru_doStep 152 = .ok (.i2l, 1) := by decide +kernel
theorem d_ru_doStep_153 : decode b_ru_doStep 153 = .ok (.iload 5, 2) := by decide +kernel
theorem d_ru_doStep_155 : decode b_ru_doStep 155 = .ok (.invokevirtual 149, 3) := by decide +kernel
theorem d_ru_doStep_158 : decode b_ru_doStep 158 = .ok (.iload 5, 2) := by decide +kernel
theorem d_ru_doStep_160 : decode b_ru_doStep 160 = .ok (.invokevirtual 145, 3) := by decide +kernel
theorem d_ru_doStep_163 : decode b_ru_doStep 163 = .ok (.ireturn, 1) := by decide +kernel
theorem d_ru_doStep_164 : decode b_ru_doStep 164 = .ok (.aload_n 0, 1) := by decide +kernel
theorem d_ru_doStep_165 : decode b_ru_doStep 165 = .ok (.aload_n 0, 1) := by decide +kernel
theorem d_ru_doStep_166 : decode b_ru_doStep 166 = .ok (.iload 6, 2) := by decide +kernel
theorem d_ru_doStep_168 : decode b_ru_doStep 168 = .ok (.iload_n 2, 1) := by decide +kernel
theorem d_ru_doStep_169 : decode b_ru_doStep 169 = .ok (.i2l, 1) := by decide +kernel
theorem d_ru_doStep_170 : decode b_ru_doStep 170 = .ok (.iload_n 3, 1) := by decide +kernel
theorem d_ru_doStep_171 : decode b_ru_doStep 171 = .ok (.i2l, 1) := by decide +kernel
theorem d_ru_doStep_172 : decode b_ru_doStep 172 = .ok (.invokevirtual 153, 3) := by decide +kernel
theorem d_ru_doStep_175 : decode b_ru_doStep 175 = .ok (.iload 5, 2) := by decide +kernel
theorem d_ru_doStep_177 : decode b_ru_doStep 177 = .ok (.invokevirtual 145, 3) := by decide +kernel
theorem d_ru_doStep_180 : decode b_ru_doStep 180 = .ok (.ireturn, 1) := by decide +kernel
def f_ru_doStep_112  (y0 : Nat) (y4 : Int32) (w : WW) : Option ((Int32 ⊕ String) × WW) :=
  (gN w y0 5 0).bind fun x18 =>
  (rI w x18 0 y4).bind fun x19 =>
  some (.inl x19, w)
def f_ru_doStep (a0 : Nat) (a1 : Int32) (a2 : Int32) (a3 : Int32) (w : WW) : Option ((Int32 ⊕ String) × WW) :=
  if kb w a0 5 = true then
    (gR w a0 5 6).bind fun x1 =>
    x1.bind fun x2 =>
    (gN w x2 3 3).bind fun x3 =>
    (rI w x3 0 a1).bind fun x4 =>
    (gR w a0 5 6).bind fun x5 =>
    x5.bind fun x6 =>
    (gN w x6 3 4).bind fun x7 =>
    (rI w x7 0 a1).bind fun x8 =>
    (gR w a0 5 6).bind fun x9 =>
    x9.bind fun x10 =>
    (gN w x10 3 2).bind fun x11 =>
    (rI w x11 0 a1).bind fun x12 =>
    if x12 = (1 : Int32) then
      some (.inl x4, w)
    else
      if x12 = (2 : Int32) then
        (gN w a0 5 1).bind fun x15 =>
        (rI w x15 2 x4).bind fun x16 =>
        if x16 = 0 then
          f_ru_doStep_112 a0 x4 w
        else
          bdx (f_ru_fail a0 (1 : Int32) x8 w) fun x21 w20 =>
          f_ru_doStep_112 a0 x4 w20
      else
        if x12 = (3 : Int32) then
          (gN w a0 5 2).bind fun x23 =>
          bdx (f_ru_cellOf a0 x4 a2 x8 w) fun x25 w24 =>
          (rI w24 x23 0 x25).bind fun x26 =>
          some (.inl x26, w24)
        else
          if x12 = (37 : Int32) then
            bdx (f_ru_divide a0 x12 (Int32.toInt64 a2) (Int32.toInt64 a3) x8 w) fun x29 w28 =>
            bdx (f_ru_intOf a0 x29 x8 w28) fun x31 w30 =>
            some (.inl x31, w30)
          else
            if x12 = (47 : Int32) then
              bdx (f_ru_divide a0 x12 (Int32.toInt64 a2) (Int32.toInt64 a3) x8 w) fun x34 w33 =>
              bdx (f_ru_intOf a0 x34 x8 w33) fun x36 w35 =>
              some (.inl x36, w35)
            else
              if x12 = (259 : Int32) then
                bdx (f_ru_intOf a0 (-(Int32.toInt64 a2)) x8 w) fun x39 w38 =>
                some (.inl x39, w38)
              else
                bd2 (f_ru_combine a0 x12 (Int32.toInt64 a2) (Int32.toInt64 a3) w) fun x41 w40 =>
                bdx (f_ru_intOf a0 x41 x8 w40) fun x43 w42 =>
                some (.inl x43, w42)
  else none
theorem kb_ru_doStep {a0 : Nat} {a1 : Int32} {a2 : Int32} {a3 : Int32} {w : WW} {r : ((Int32 ⊕ String) × WW)} (h : f_ru_doStep a0 a1 a2 a3 w = some r) : kb w a0 5 = true := (its h).1
set_option maxHeartbeats 4000000 in
set_option maxRecDepth 100000 in
theorem j_ru_doStep_112 {p : Program} {l : Launch} {e : Env} {s : State} {m : MethodId} {args : Array Value} {below : List Frame} {meth : Method} {c : Code} {D : va_G} {cA : Nat → ClassId} {base : Nat} {r : Int32} {w' : WW} (C : cx b_ru_doStep (some .int) 7 y_ru_doStep.cls "doStep" p s m args meth c D cA base)   : ∀ (y0 : Nat) (y4 : Int32) (w : WW), f_ru_doStep_112 y0 y4 w = some (.inl r, w') → ∀ (H : Heap) (locs : List Loc) (ls : Array Slot), wo_S D cls cA base s w H locs → lv_has ls 7 [(0, .ref y0), (4, .int y4)] → W p l e rm_ru_doStep s m args below meth c H locs 0 0 (MQ below (wo_Q D cls cA base (some (.int r)) w') args s rm_ru_doStep.cells rm_ru_doStep.slots (wo_B base)) (F0 m 112 ls []) := by
  obtain ⟨hx, hb, hr, hml, hown, hts, hlk, hnm, hK, hG⟩ := id C
  intro y0 y4 w h H locs ls hW hl
  unfold f_ru_doStep_112 at h
  refine lv_aload_n hx hb d_ru_doStep_112 rfl (lv_at hl 0 rfl) ?_
  replace h := bs h
  obtain ⟨x18, hx18, h⟩ := h
  refine gf_ru_9 hx hb hts hown hK hG hW (gN_s hx18) d_ru_doStep_113 ?_
  refine lv_iload hx hb d_ru_doStep_116 (lv_at hl 1 rfl) ?_
  replace h := bs h
  obtain ⟨x19, hx19, h⟩ := h
  refine wo_iald hx hb hK hW (t := 0) rfl hx19 d_ru_doStep_118 ?_
  cases h
  exact wo_iret hx hb hr hlk hW d_ru_doStep_119
set_option maxHeartbeats 4000000 in
set_option maxRecDepth 100000 in
theorem c_ru_doStep (l : Launch) (D : va_G) (cA : Nat → ClassId) (base : Nat) {a0 : Nat} {a1 : Int32} {a2 : Int32} {a3 : Int32} {w w' : WW} {r : Int32} (h : f_ru_doStep a0 a1 a2 a3 w = some (.inl r, w')) : mt l D cls (wo_tys cA) cA base y_ru_doStep (Cond.code y_ru_doStep b_ru_doStep 7 (some .int) :: gt) rm_ru_doStep [.ref a0, .int a1, .int a2, .int a3] w (some (.int r)) w' rm_ru_doStep.cells rm_ru_doStep.slots := by
  refine mt_start (by decide) (Nat.le_of_ble_eq_true rfl) ?_
  intro p e s m below meth c ls hx hb hr hml hown hts hlk hnm hK hG hW hl
  have C : cx b_ru_doStep (some .int) 7 y_ru_doStep.cls "doStep" p s m [.ref a0, .int a1, .int a2, .int a3].toArray meth c D cA base := ⟨hx, hb, hr, hml, hown, hts, hlk, hnm, hK, hG⟩
  have hl : lv_has ls 7 [(0, .ref a0), (1, .int a1), (2, .int a2), (3, .int a3)] := hl
  unfold f_ru_doStep at h
  replace h := its h
  obtain ⟨-, h⟩ := h
  refine lv_aload_n hx hb d_ru_doStep_0 rfl (lv_at hl 0 rfl) ?_
  replace h := bs h
  obtain ⟨x1, hx1, h⟩ := h
  refine gf_ru_32 hx hb hts hown hK hG hW (gR_s hx1) d_ru_doStep_1 ?_
  replace h := bs h
  obtain ⟨x2, ex2, h⟩ := h
  subst ex2
  replace h := bs h
  obtain ⟨x3, hx3, h⟩ := h
  refine gf_ru_136 hx hb hts hown hK hG hW (gN_s hx3) d_ru_doStep_4 ?_
  refine lv_iload_n hx hb d_ru_doStep_7 rfl (lv_at hl 1 rfl) ?_
  replace h := bs h
  obtain ⟨x4, hx4, h⟩ := h
  refine wo_iald hx hb hK hW (t := 0) rfl hx4 d_ru_doStep_8 ?_
  refine lv_istore (lv' := [(4, .int x4), (0, .ref a0), (1, .int a1), (2, .int a2), (3, .int a3)]) hx hb d_ru_doStep_9 hl (by decide) rfl (fun ls hl => ?_)
  refine lv_aload_n hx hb d_ru_doStep_11 rfl (lv_at hl 1 rfl) ?_
  replace h := bs h
  obtain ⟨x5, hx5, h⟩ := h
  refine gf_ru_32 hx hb hts hown hK hG hW (gR_s hx5) d_ru_doStep_12 ?_
  replace h := bs h
  obtain ⟨x6, ex6, h⟩ := h
  subst ex6
  replace h := bs h
  obtain ⟨x7, hx7, h⟩ := h
  refine gf_ru_139 hx hb hts hown hK hG hW (gN_s hx7) d_ru_doStep_15 ?_
  refine lv_iload_n hx hb d_ru_doStep_18 rfl (lv_at hl 2 rfl) ?_
  replace h := bs h
  obtain ⟨x8, hx8, h⟩ := h
  refine wo_iald hx hb hK hW (t := 0) rfl hx8 d_ru_doStep_19 ?_
  refine lv_istore (lv' := [(5, .int x8), (4, .int x4), (0, .ref a0), (1, .int a1), (2, .int a2), (3, .int a3)]) hx hb d_ru_doStep_20 hl (by decide) rfl (fun ls hl => ?_)
  refine lv_aload_n hx hb d_ru_doStep_22 rfl (lv_at hl 2 rfl) ?_
  replace h := bs h
  obtain ⟨x9, hx9, h⟩ := h
  refine gf_ru_32 hx hb hts hown hK hG hW (gR_s hx9) d_ru_doStep_23 ?_
  replace h := bs h
  obtain ⟨x10, ex10, h⟩ := h
  subst ex10
  replace h := bs h
  obtain ⟨x11, hx11, h⟩ := h
  refine gf_ru_142 hx hb hts hown hK hG hW (gN_s hx11) d_ru_doStep_26 ?_
  refine lv_iload_n hx hb d_ru_doStep_29 rfl (lv_at hl 3 rfl) ?_
  replace h := bs h
  obtain ⟨x12, hx12, h⟩ := h
  refine wo_iald hx hb hK hW (t := 0) rfl hx12 d_ru_doStep_30 ?_
  refine lv_istore (lv' := [(6, .int x12), (5, .int x8), (4, .int x4), (0, .ref a0), (1, .int a1), (2, .int a2), (3, .int a3)]) hx hb d_ru_doStep_31 hl (by decide) rfl (fun ls hl => ?_)
  refine lv_iload hx hb d_ru_doStep_33 (lv_at hl 0 rfl) ?_
  by_cases c13 : x12 = (1 : Int32)
  · rw [if_pos c13] at h
    refine lv_lookup (off := 57) (tgt := 92) hx hb d_ru_doStep_35 (by decide) (by rw [c13]; rfl) (by decide) ?_
    refine lv_iload hx hb d_ru_doStep_92 (lv_at hl 2 rfl) ?_
    cases h
    exact wo_iret hx hb hr hlk hW d_ru_doStep_94
  · rw [if_neg c13] at h
    by_cases c14 : x12 = (2 : Int32)
    · rw [if_pos c14] at h
      refine lv_lookup (off := 60) (tgt := 95) hx hb d_ru_doStep_35 (by decide) (by rw [c14]; rfl) (by decide) ?_
      refine lv_aload_n hx hb d_ru_doStep_95 rfl (lv_at hl 3 rfl) ?_
      replace h := bs h
      obtain ⟨x15, hx15, h⟩ := h
      refine gf_ru_15 hx hb hts hown hK hG hW (gN_s hx15) d_ru_doStep_96 ?_
      refine lv_iload hx hb d_ru_doStep_99 (lv_at hl 2 rfl) ?_
      replace h := bs h
      obtain ⟨x16, hx16, h⟩ := h
      refine wo_zald hx hb hK hW (t := 2) rfl hx16 d_ru_doStep_101 ?_
      refine lv_if_eq (tgt := 112) hx hb d_ru_doStep_102 (by decide) (fun c17 => ?_) (fun c17 => ?_)
      · rw [if_pos c17] at h
        exact j_ru_doStep_112 C a0 x4 w h _ _ _ hW (lv_sub hl [3, 2] rfl)
      · rw [if_neg c17] at h
        refine lv_aload_n hx hb d_ru_doStep_105 rfl (lv_at hl 3 rfl) ?_
        refine lv_iconst (v := (1 : Int32)) hx hb d_ru_doStep_106 (by decide) ?_
        refine lv_iload hx hb d_ru_doStep_107 (lv_at hl 1 rfl) ?_
        replace h := bsx h
        obtain ⟨x21, w20, hw20, h⟩ := h
        refine cv_ru_117 (As := [.int (1 : Int32), .int x8]) (rest := []) hx hb hml hown hts hK hG hW (c_ru_fail l D cA base hw20) (kb_ru_fail hw20) ⟨Nat.le_of_ble_eq_true rfl, Nat.le_of_ble_eq_true rfl⟩ ⟨Nat.le_of_ble_eq_true rfl, Nat.le_of_ble_eq_true rfl⟩ rfl hl.1 rfl (Nat.le_of_ble_eq_true rfl) d_ru_doStep_109 (fun H locs hW => ?_)
        exact j_ru_doStep_112 C a0 x4 w20 h _ _ _ hW (lv_sub hl [3, 2] rfl)
    · rw [if_neg c14] at h
      by_cases c22 : x12 = (3 : Int32)
      · rw [if_pos c22] at h
        refine lv_lookup (off := 85) (tgt := 120) hx hb d_ru_doStep_35 (by decide) (by rw [c22]; rfl) (by decide) ?_
        refine lv_aload_n hx hb d_ru_doStep_120 rfl (lv_at hl 3 rfl) ?_
        replace h := bs h
        obtain ⟨x23, hx23, h⟩ := h
        refine gf_ru_19 hx hb hts hown hK hG hW (gN_s hx23) d_ru_doStep_121 ?_
        refine lv_aload_n hx hb d_ru_doStep_124 rfl (lv_at hl 3 rfl) ?_
        refine lv_iload hx hb d_ru_doStep_125 (lv_at hl 2 rfl) ?_
        refine lv_iload_n hx hb d_ru_doStep_127 rfl (lv_at hl 5 rfl) ?_
        refine lv_iload hx hb d_ru_doStep_128 (lv_at hl 1 rfl) ?_
        replace h := bsx h
        obtain ⟨x25, w24, hw24, h⟩ := h
        refine cv_ru_123 (As := [.int x4, .int a2, .int x8]) (rest := [.ref x23]) hx hb hml hown hts hK hG hW (c_ru_cellOf l D cA base hw24) (kb_ru_cellOf hw24) ⟨Nat.le_of_ble_eq_true rfl, Nat.le_of_ble_eq_true rfl⟩ ⟨Nat.le_of_ble_eq_true rfl, Nat.le_of_ble_eq_true rfl⟩ rfl hl.1 rfl (Nat.le_of_ble_eq_true rfl) d_ru_doStep_130 (fun H locs hW => ?_)
        replace h := bs h
        obtain ⟨x26, hx26, h⟩ := h
        refine wo_iald hx hb hK hW (t := 0) rfl hx26 d_ru_doStep_133 ?_
        cases h
        exact wo_iret hx hb hr hlk hW d_ru_doStep_134
      · rw [if_neg c22] at h
        by_cases c27 : x12 = (37 : Int32)
        · rw [if_pos c27] at h
          refine lv_lookup (off := 110) (tgt := 145) hx hb d_ru_doStep_35 (by decide) (by rw [c27]; rfl) (by decide) ?_
          refine lv_aload_n hx hb d_ru_doStep_145 rfl (lv_at hl 3 rfl) ?_
          refine lv_aload_n hx hb d_ru_doStep_146 rfl (lv_at hl 3 rfl) ?_
          refine lv_iload hx hb d_ru_doStep_147 (lv_at hl 0 rfl) ?_
          refine lv_iload_n hx hb d_ru_doStep_149 rfl (lv_at hl 5 rfl) ?_
          refine lv_i2l hx hb d_ru_doStep_150 rfl ?_
          refine lv_iload_n hx hb d_ru_doStep_151 rfl (lv_at hl 6 rfl) ?_
          refine lv_i2l hx hb d_ru_doStep_152 rfl ?_
          refine lv_iload hx hb d_ru_doStep_153 (lv_at hl 1 rfl) ?_
          replace h := bsx h
          obtain ⟨x29, w28, hw28, h⟩ := h
          refine cv_ru_149 (As := [.int x12, .long (Int32.toInt64 a2), .long (Int32.toInt64 a3), .int x8]) (rest := [.ref a0]) hx hb hml hown hts hK hG hW (c_ru_divide l D cA base hw28) (kb_ru_divide hw28) ⟨Nat.le_of_ble_eq_true rfl, Nat.le_of_ble_eq_true rfl⟩ ⟨Nat.le_of_ble_eq_true rfl, Nat.le_of_ble_eq_true rfl⟩ rfl hl.1 rfl (Nat.le_of_ble_eq_true rfl) d_ru_doStep_155 (fun H locs hW => ?_)
          refine lv_iload hx hb d_ru_doStep_158 (lv_at hl 1 rfl) ?_
          replace h := bsx h
          obtain ⟨x31, w30, hw30, h⟩ := h
          refine cv_ru_145 (As := [.long x29, .int x8]) (rest := []) hx hb hml hown hts hK hG hW (c_ru_intOf l D cA base hw30) (kb_ru_intOf hw30) ⟨Nat.le_of_ble_eq_true rfl, Nat.le_of_ble_eq_true rfl⟩ ⟨Nat.le_of_ble_eq_true rfl, Nat.le_of_ble_eq_true rfl⟩ rfl hl.1 rfl (Nat.le_of_ble_eq_true rfl) d_ru_doStep_160 (fun H locs hW => ?_)
          cases h
          exact wo_iret hx hb hr hlk hW d_ru_doStep_163
        · rw [if_neg c27] at h
          by_cases c32 : x12 = (47 : Int32)
          · rw [if_pos c32] at h
            refine lv_lookup (off := 110) (tgt := 145) hx hb d_ru_doStep_35 (by decide) (by rw [c32]; rfl) (by decide) ?_
            refine lv_aload_n hx hb d_ru_doStep_145 rfl (lv_at hl 3 rfl) ?_
            refine lv_aload_n hx hb d_ru_doStep_146 rfl (lv_at hl 3 rfl) ?_
            refine lv_iload hx hb d_ru_doStep_147 (lv_at hl 0 rfl) ?_
            refine lv_iload_n hx hb d_ru_doStep_149 rfl (lv_at hl 5 rfl) ?_
            refine lv_i2l hx hb d_ru_doStep_150 rfl ?_
            refine lv_iload_n hx hb d_ru_doStep_151 rfl (lv_at hl 6 rfl) ?_
            refine lv_i2l hx hb d_ru_doStep_152 rfl ?_
            refine lv_iload hx hb d_ru_doStep_153 (lv_at hl 1 rfl) ?_
            replace h := bsx h
            obtain ⟨x34, w33, hw33, h⟩ := h
            refine cv_ru_149 (As := [.int x12, .long (Int32.toInt64 a2), .long (Int32.toInt64 a3), .int x8]) (rest := [.ref a0]) hx hb hml hown hts hK hG hW (c_ru_divide l D cA base hw33) (kb_ru_divide hw33) ⟨Nat.le_of_ble_eq_true rfl, Nat.le_of_ble_eq_true rfl⟩ ⟨Nat.le_of_ble_eq_true rfl, Nat.le_of_ble_eq_true rfl⟩ rfl hl.1 rfl (Nat.le_of_ble_eq_true rfl) d_ru_doStep_155 (fun H locs hW => ?_)
            refine lv_iload hx hb d_ru_doStep_158 (lv_at hl 1 rfl) ?_
            replace h := bsx h
            obtain ⟨x36, w35, hw35, h⟩ := h
            refine cv_ru_145 (As := [.long x34, .int x8]) (rest := []) hx hb hml hown hts hK hG hW (c_ru_intOf l D cA base hw35) (kb_ru_intOf hw35) ⟨Nat.le_of_ble_eq_true rfl, Nat.le_of_ble_eq_true rfl⟩ ⟨Nat.le_of_ble_eq_true rfl, Nat.le_of_ble_eq_true rfl⟩ rfl hl.1 rfl (Nat.le_of_ble_eq_true rfl) d_ru_doStep_160 (fun H locs hW => ?_)
            cases h
            exact wo_iret hx hb hr hlk hW d_ru_doStep_163
          · rw [if_neg c32] at h
            by_cases c37 : x12 = (259 : Int32)
            · rw [if_pos c37] at h
              refine lv_lookup (off := 100) (tgt := 135) hx hb d_ru_doStep_35 (by decide) (by rw [c37]; rfl) (by decide) ?_
              refine lv_aload_n hx hb d_ru_doStep_135 rfl (lv_at hl 3 rfl) ?_
              refine lv_iload_n hx hb d_ru_doStep_136 rfl (lv_at hl 5 rfl) ?_
              refine lv_i2l hx hb d_ru_doStep_137 rfl ?_
              refine lv_lneg hx hb d_ru_doStep_138 ?_
              refine lv_iload hx hb d_ru_doStep_139 (lv_at hl 1 rfl) ?_
              replace h := bsx h
              obtain ⟨x39, w38, hw38, h⟩ := h
              refine cv_ru_145 (As := [.long (-(Int32.toInt64 a2)), .int x8]) (rest := []) hx hb hml hown hts hK hG hW (c_ru_intOf l D cA base hw38) (kb_ru_intOf hw38) ⟨Nat.le_of_ble_eq_true rfl, Nat.le_of_ble_eq_true rfl⟩ ⟨Nat.le_of_ble_eq_true rfl, Nat.le_of_ble_eq_true rfl⟩ rfl hl.1 rfl (Nat.le_of_ble_eq_true rfl) d_ru_doStep_141 (fun H locs hW => ?_)
              cases h
              exact wo_iret hx hb hr hlk hW d_ru_doStep_144
            · rw [if_neg c37] at h
              refine lv_lookup (off := 129) (tgt := 164) hx hb d_ru_doStep_35 (by decide) (by rw [lv_osw c13 (show (1 : Int32).toInt = 1 from rfl)]; rw [lv_osw c14 (show (2 : Int32).toInt = 2 from rfl)]; rw [lv_osw c22 (show (3 : Int32).toInt = 3 from rfl)]; rw [lv_osw c27 (show (37 : Int32).toInt = 37 from rfl)]; rw [lv_osw c32 (show (47 : Int32).toInt = 47 from rfl)]; rw [lv_osw c37 (show (259 : Int32).toInt = 259 from rfl)]; rfl) (by decide) ?_
              refine lv_aload_n hx hb d_ru_doStep_164 rfl (lv_at hl 3 rfl) ?_
              refine lv_aload_n hx hb d_ru_doStep_165 rfl (lv_at hl 3 rfl) ?_
              refine lv_iload hx hb d_ru_doStep_166 (lv_at hl 0 rfl) ?_
              refine lv_iload_n hx hb d_ru_doStep_168 rfl (lv_at hl 5 rfl) ?_
              refine lv_i2l hx hb d_ru_doStep_169 rfl ?_
              refine lv_iload_n hx hb d_ru_doStep_170 rfl (lv_at hl 6 rfl) ?_
              refine lv_i2l hx hb d_ru_doStep_171 rfl ?_
              replace h := bs2 h
              obtain ⟨x41, w40, hw40, h⟩ := h
              refine cv_ru_153 (As := [.int x12, .long (Int32.toInt64 a2), .long (Int32.toInt64 a3)]) (rest := [.ref a0]) hx hb hml hown hts hK hG hW (c_ru_combine l D cA base hw40) (kb_ru_combine hw40) ⟨Nat.le_of_ble_eq_true rfl, Nat.le_of_ble_eq_true rfl⟩ ⟨Nat.le_of_ble_eq_true rfl, Nat.le_of_ble_eq_true rfl⟩ rfl hl.1 rfl (Nat.le_of_ble_eq_true rfl) d_ru_doStep_172 (fun H locs hW => ?_)
              refine lv_iload hx hb d_ru_doStep_175 (lv_at hl 1 rfl) ?_
              replace h := bsx h
              obtain ⟨x43, w42, hw42, h⟩ := h
              refine cv_ru_145 (As := [.long x41, .int x8]) (rest := []) hx hb hml hown hts hK hG hW (c_ru_intOf l D cA base hw42) (kb_ru_intOf hw42) ⟨Nat.le_of_ble_eq_true rfl, Nat.le_of_ble_eq_true rfl⟩ ⟨Nat.le_of_ble_eq_true rfl, Nat.le_of_ble_eq_true rfl⟩ rfl hl.1 rfl (Nat.le_of_ble_eq_true rfl) d_ru_doStep_177 (fun H locs hW => ?_)
              cases h
              exact wo_iret hx hb hr hlk hW d_ru_doStep_180
set_option maxHeartbeats 4000000 in
set_option maxRecDepth 100000 in
theorem jx_ru_doStep_112 {p : Program} {l : Launch} {e : Env} {s : State} {m : MethodId} {args : Array Value} {below : List Frame} {meth : Method} {c : Code} {D : va_G} {cA : Nat → ClassId} {base : Nat} {E : String} {w' : WW} (C : cx b_ru_doStep (some .int) 7 y_ru_doStep.cls "doStep" p s m args meth c D cA base ∧ (∀ x ∈ c.exceptionTable.toList, ∀ k : Nat, covers x k = false) ∧ l.stackTraces = false)   : ∀ (y0 : Nat) (y4 : Int32) (w : WW), f_ru_doStep_112 y0 y4 w = some (.inr E, w') → ∀ (H : Heap) (locs : List Loc) (ls : Array Slot), wo_S D cls cA base s w H locs → lv_has ls 7 [(0, .ref y0), (4, .int y4)] → W p l e rx_ru_doStep s m args below meth c H locs 0 0 (XQ below (wo_X D cls cA base E w' rx_ru_doStep.cells rx_ru_doStep.slots) args s) (F0 m 112 ls []) := by
  obtain ⟨hx, hb, hr, hml, hown, hts, hlk, hnm, hK, hG⟩ := id C.1
  have hnt := C.2.1
  have hst := C.2.2
  intro y0 y4 w h H locs ls hW hl
  unfold f_ru_doStep_112 at h
  refine lv_aload_n hx hb d_ru_doStep_112 rfl (lv_at hl 0 rfl) ?_
  replace h := bs h
  obtain ⟨x18, hx18, h⟩ := h
  refine gf_ru_9 hx hb hts hown hK hG hW (gN_s hx18) d_ru_doStep_113 ?_
  refine lv_iload hx hb d_ru_doStep_116 (lv_at hl 1 rfl) ?_
  replace h := bs h
  obtain ⟨x19, hx19, h⟩ := h
  refine wo_iald hx hb hK hW (t := 0) rfl hx19 d_ru_doStep_118 ?_
  cases h
set_option maxHeartbeats 4000000 in
set_option maxRecDepth 100000 in
theorem x_ru_doStep (l : Launch) (hst : l.stackTraces = false) (D : va_G) (cA : Nat → ClassId) (base : Nat) {a0 : Nat} {a1 : Int32} {a2 : Int32} {a3 : Int32} {w w' : WW} {E : String} (h : f_ru_doStep a0 a1 a2 a3 w = some (.inr E, w')) : xt l D cls (wo_tys cA) cA base y_ru_doStep (Cond.code y_ru_doStep b_ru_doStep 7 (some .int) :: gt) rx_ru_doStep [.ref a0, .int a1, .int a2, .int a3] w E w' rx_ru_doStep.cells rx_ru_doStep.slots := by
  refine xt_start (by decide) (Nat.le_of_ble_eq_true rfl) ?_
  intro p e s m below meth c ls hx hb hr hml hown hts hlk hnm hK hG hW hl hnt
  have C : cx b_ru_doStep (some .int) 7 y_ru_doStep.cls "doStep" p s m [.ref a0, .int a1, .int a2, .int a3].toArray meth c D cA base ∧ (∀ x ∈ c.exceptionTable.toList, ∀ k : Nat, covers x k = false) ∧ l.stackTraces = false := ⟨⟨hx, hb, hr, hml, hown, hts, hlk, hnm, hK, hG⟩, hnt, hst⟩
  have hl : lv_has ls 7 [(0, .ref a0), (1, .int a1), (2, .int a2), (3, .int a3)] := hl
  unfold f_ru_doStep at h
  replace h := its h
  obtain ⟨-, h⟩ := h
  refine lv_aload_n hx hb d_ru_doStep_0 rfl (lv_at hl 0 rfl) ?_
  replace h := bs h
  obtain ⟨x1, hx1, h⟩ := h
  refine gf_ru_32 hx hb hts hown hK hG hW (gR_s hx1) d_ru_doStep_1 ?_
  replace h := bs h
  obtain ⟨x2, ex2, h⟩ := h
  subst ex2
  replace h := bs h
  obtain ⟨x3, hx3, h⟩ := h
  refine gf_ru_136 hx hb hts hown hK hG hW (gN_s hx3) d_ru_doStep_4 ?_
  refine lv_iload_n hx hb d_ru_doStep_7 rfl (lv_at hl 1 rfl) ?_
  replace h := bs h
  obtain ⟨x4, hx4, h⟩ := h
  refine wo_iald hx hb hK hW (t := 0) rfl hx4 d_ru_doStep_8 ?_
  refine lv_istore (lv' := [(4, .int x4), (0, .ref a0), (1, .int a1), (2, .int a2), (3, .int a3)]) hx hb d_ru_doStep_9 hl (by decide) rfl (fun ls hl => ?_)
  refine lv_aload_n hx hb d_ru_doStep_11 rfl (lv_at hl 1 rfl) ?_
  replace h := bs h
  obtain ⟨x5, hx5, h⟩ := h
  refine gf_ru_32 hx hb hts hown hK hG hW (gR_s hx5) d_ru_doStep_12 ?_
  replace h := bs h
  obtain ⟨x6, ex6, h⟩ := h
  subst ex6
  replace h := bs h
  obtain ⟨x7, hx7, h⟩ := h
  refine gf_ru_139 hx hb hts hown hK hG hW (gN_s hx7) d_ru_doStep_15 ?_
  refine lv_iload_n hx hb d_ru_doStep_18 rfl (lv_at hl 2 rfl) ?_
  replace h := bs h
  obtain ⟨x8, hx8, h⟩ := h
  refine wo_iald hx hb hK hW (t := 0) rfl hx8 d_ru_doStep_19 ?_
  refine lv_istore (lv' := [(5, .int x8), (4, .int x4), (0, .ref a0), (1, .int a1), (2, .int a2), (3, .int a3)]) hx hb d_ru_doStep_20 hl (by decide) rfl (fun ls hl => ?_)
  refine lv_aload_n hx hb d_ru_doStep_22 rfl (lv_at hl 2 rfl) ?_
  replace h := bs h
  obtain ⟨x9, hx9, h⟩ := h
  refine gf_ru_32 hx hb hts hown hK hG hW (gR_s hx9) d_ru_doStep_23 ?_
  replace h := bs h
  obtain ⟨x10, ex10, h⟩ := h
  subst ex10
  replace h := bs h
  obtain ⟨x11, hx11, h⟩ := h
  refine gf_ru_142 hx hb hts hown hK hG hW (gN_s hx11) d_ru_doStep_26 ?_
  refine lv_iload_n hx hb d_ru_doStep_29 rfl (lv_at hl 3 rfl) ?_
  replace h := bs h
  obtain ⟨x12, hx12, h⟩ := h
  refine wo_iald hx hb hK hW (t := 0) rfl hx12 d_ru_doStep_30 ?_
  refine lv_istore (lv' := [(6, .int x12), (5, .int x8), (4, .int x4), (0, .ref a0), (1, .int a1), (2, .int a2), (3, .int a3)]) hx hb d_ru_doStep_31 hl (by decide) rfl (fun ls hl => ?_)
  refine lv_iload hx hb d_ru_doStep_33 (lv_at hl 0 rfl) ?_
  by_cases c13 : x12 = (1 : Int32)
  · rw [if_pos c13] at h
    refine lv_lookup (off := 57) (tgt := 92) hx hb d_ru_doStep_35 (by decide) (by rw [c13]; rfl) (by decide) ?_
    refine lv_iload hx hb d_ru_doStep_92 (lv_at hl 2 rfl) ?_
    cases h
  · rw [if_neg c13] at h
    by_cases c14 : x12 = (2 : Int32)
    · rw [if_pos c14] at h
      refine lv_lookup (off := 60) (tgt := 95) hx hb d_ru_doStep_35 (by decide) (by rw [c14]; rfl) (by decide) ?_
      refine lv_aload_n hx hb d_ru_doStep_95 rfl (lv_at hl 3 rfl) ?_
      replace h := bs h
      obtain ⟨x15, hx15, h⟩ := h
      refine gf_ru_15 hx hb hts hown hK hG hW (gN_s hx15) d_ru_doStep_96 ?_
      refine lv_iload hx hb d_ru_doStep_99 (lv_at hl 2 rfl) ?_
      replace h := bs h
      obtain ⟨x16, hx16, h⟩ := h
      refine wo_zald hx hb hK hW (t := 2) rfl hx16 d_ru_doStep_101 ?_
      refine lv_if_eq (tgt := 112) hx hb d_ru_doStep_102 (by decide) (fun c17 => ?_) (fun c17 => ?_)
      · rw [if_pos c17] at h
        exact jx_ru_doStep_112 C a0 x4 w h _ _ _ hW (lv_sub hl [3, 2] rfl)
      · rw [if_neg c17] at h
        refine lv_aload_n hx hb d_ru_doStep_105 rfl (lv_at hl 3 rfl) ?_
        refine lv_iconst (v := (1 : Int32)) hx hb d_ru_doStep_106 (by decide) ?_
        refine lv_iload hx hb d_ru_doStep_107 (lv_at hl 1 rfl) ?_
        rcases bsy h with hw20 | ⟨x21, w20, hw20, hnw20⟩
        · exact xv_ru_117 (As := [.int (1 : Int32), .int x8]) (rest := []) hx hb hml hown hts hK hG hW (x_ru_fail l hst D cA base hw20) (kb_ru_fail hw20) ⟨Nat.le_of_ble_eq_true rfl, Nat.le_of_ble_eq_true rfl⟩ ⟨Nat.le_of_ble_eq_true rfl, Nat.le_of_ble_eq_true rfl⟩ rfl hl.1 rfl (Nat.le_of_ble_eq_true rfl) d_ru_doStep_109 (fun H locs q ce hW h1 h2 h3 => wo_xout hnt hlk hW h1 h2 h3 (Nat.le_of_ble_eq_true rfl) (Nat.le_of_ble_eq_true rfl))
        clear h
        have h := hnw20
        clear hnw20
        refine cv_ru_117 (As := [.int (1 : Int32), .int x8]) (rest := []) hx hb hml hown hts hK hG hW (c_ru_fail l D cA base hw20) (kb_ru_fail hw20) ⟨Nat.le_of_ble_eq_true rfl, Nat.le_of_ble_eq_true rfl⟩ ⟨Nat.le_of_ble_eq_true rfl, Nat.le_of_ble_eq_true rfl⟩ rfl hl.1 rfl (Nat.le_of_ble_eq_true rfl) d_ru_doStep_109 (fun H locs hW => ?_)
        exact jx_ru_doStep_112 C a0 x4 w20 h _ _ _ hW (lv_sub hl [3, 2] rfl)
    · rw [if_neg c14] at h
      by_cases c22 : x12 = (3 : Int32)
      · rw [if_pos c22] at h
        refine lv_lookup (off := 85) (tgt := 120) hx hb d_ru_doStep_35 (by decide) (by rw [c22]; rfl) (by decide) ?_
        refine lv_aload_n hx hb d_ru_doStep_120 rfl (lv_at hl 3 rfl) ?_
        replace h := bs h
        obtain ⟨x23, hx23, h⟩ := h
        refine gf_ru_19 hx hb hts hown hK hG hW (gN_s hx23) d_ru_doStep_121 ?_
        refine lv_aload_n hx hb d_ru_doStep_124 rfl (lv_at hl 3 rfl) ?_
        refine lv_iload hx hb d_ru_doStep_125 (lv_at hl 2 rfl) ?_
        refine lv_iload_n hx hb d_ru_doStep_127 rfl (lv_at hl 5 rfl) ?_
        refine lv_iload hx hb d_ru_doStep_128 (lv_at hl 1 rfl) ?_
        rcases bsy h with hw24 | ⟨x25, w24, hw24, hnw24⟩
        · exact xv_ru_123 (As := [.int x4, .int a2, .int x8]) (rest := [.ref x23]) hx hb hml hown hts hK hG hW (x_ru_cellOf l hst D cA base hw24) (kb_ru_cellOf hw24) ⟨Nat.le_of_ble_eq_true rfl, Nat.le_of_ble_eq_true rfl⟩ ⟨Nat.le_of_ble_eq_true rfl, Nat.le_of_ble_eq_true rfl⟩ rfl hl.1 rfl (Nat.le_of_ble_eq_true rfl) d_ru_doStep_130 (fun H locs q ce hW h1 h2 h3 => wo_xout hnt hlk hW h1 h2 h3 (Nat.le_of_ble_eq_true rfl) (Nat.le_of_ble_eq_true rfl))
        clear h
        have h := hnw24
        clear hnw24
        refine cv_ru_123 (As := [.int x4, .int a2, .int x8]) (rest := [.ref x23]) hx hb hml hown hts hK hG hW (c_ru_cellOf l D cA base hw24) (kb_ru_cellOf hw24) ⟨Nat.le_of_ble_eq_true rfl, Nat.le_of_ble_eq_true rfl⟩ ⟨Nat.le_of_ble_eq_true rfl, Nat.le_of_ble_eq_true rfl⟩ rfl hl.1 rfl (Nat.le_of_ble_eq_true rfl) d_ru_doStep_130 (fun H locs hW => ?_)
        replace h := bs h
        obtain ⟨x26, hx26, h⟩ := h
        refine wo_iald hx hb hK hW (t := 0) rfl hx26 d_ru_doStep_133 ?_
        cases h
      · rw [if_neg c22] at h
        by_cases c27 : x12 = (37 : Int32)
        · rw [if_pos c27] at h
          refine lv_lookup (off := 110) (tgt := 145) hx hb d_ru_doStep_35 (by decide) (by rw [c27]; rfl) (by decide) ?_
          refine lv_aload_n hx hb d_ru_doStep_145 rfl (lv_at hl 3 rfl) ?_
          refine lv_aload_n hx hb d_ru_doStep_146 rfl (lv_at hl 3 rfl) ?_
          refine lv_iload hx hb d_ru_doStep_147 (lv_at hl 0 rfl) ?_
          refine lv_iload_n hx hb d_ru_doStep_149 rfl (lv_at hl 5 rfl) ?_
          refine lv_i2l hx hb d_ru_doStep_150 rfl ?_
          refine lv_iload_n hx hb d_ru_doStep_151 rfl (lv_at hl 6 rfl) ?_
          refine lv_i2l hx hb d_ru_doStep_152 rfl ?_
          refine lv_iload hx hb d_ru_doStep_153 (lv_at hl 1 rfl) ?_
          rcases bsy h with hw28 | ⟨x29, w28, hw28, hnw28⟩
          · exact xv_ru_149 (As := [.int x12, .long (Int32.toInt64 a2), .long (Int32.toInt64 a3), .int x8]) (rest := [.ref a0]) hx hb hml hown hts hK hG hW (x_ru_divide l hst D cA base hw28) (kb_ru_divide hw28) ⟨Nat.le_of_ble_eq_true rfl, Nat.le_of_ble_eq_true rfl⟩ ⟨Nat.le_of_ble_eq_true rfl, Nat.le_of_ble_eq_true rfl⟩ rfl hl.1 rfl (Nat.le_of_ble_eq_true rfl) d_ru_doStep_155 (fun H locs q ce hW h1 h2 h3 => wo_xout hnt hlk hW h1 h2 h3 (Nat.le_of_ble_eq_true rfl) (Nat.le_of_ble_eq_true rfl))
          clear h
          have h := hnw28
          clear hnw28
          refine cv_ru_149 (As := [.int x12, .long (Int32.toInt64 a2), .long (Int32.toInt64 a3), .int x8]) (rest := [.ref a0]) hx hb hml hown hts hK hG hW (c_ru_divide l D cA base hw28) (kb_ru_divide hw28) ⟨Nat.le_of_ble_eq_true rfl, Nat.le_of_ble_eq_true rfl⟩ ⟨Nat.le_of_ble_eq_true rfl, Nat.le_of_ble_eq_true rfl⟩ rfl hl.1 rfl (Nat.le_of_ble_eq_true rfl) d_ru_doStep_155 (fun H locs hW => ?_)
          refine lv_iload hx hb d_ru_doStep_158 (lv_at hl 1 rfl) ?_
          rcases bsy h with hw30 | ⟨x31, w30, hw30, hnw30⟩
          · exact xv_ru_145 (As := [.long x29, .int x8]) (rest := []) hx hb hml hown hts hK hG hW (x_ru_intOf l hst D cA base hw30) (kb_ru_intOf hw30) ⟨Nat.le_of_ble_eq_true rfl, Nat.le_of_ble_eq_true rfl⟩ ⟨Nat.le_of_ble_eq_true rfl, Nat.le_of_ble_eq_true rfl⟩ rfl hl.1 rfl (Nat.le_of_ble_eq_true rfl) d_ru_doStep_160 (fun H locs q ce hW h1 h2 h3 => wo_xout hnt hlk hW h1 h2 h3 (Nat.le_of_ble_eq_true rfl) (Nat.le_of_ble_eq_true rfl))
          clear h
          have h := hnw30
          clear hnw30
          refine cv_ru_145 (As := [.long x29, .int x8]) (rest := []) hx hb hml hown hts hK hG hW (c_ru_intOf l D cA base hw30) (kb_ru_intOf hw30) ⟨Nat.le_of_ble_eq_true rfl, Nat.le_of_ble_eq_true rfl⟩ ⟨Nat.le_of_ble_eq_true rfl, Nat.le_of_ble_eq_true rfl⟩ rfl hl.1 rfl (Nat.le_of_ble_eq_true rfl) d_ru_doStep_160 (fun H locs hW => ?_)
          cases h
        · rw [if_neg c27] at h
          by_cases c32 : x12 = (47 : Int32)
          · rw [if_pos c32] at h
            refine lv_lookup (off := 110) (tgt := 145) hx hb d_ru_doStep_35 (by decide) (by rw [c32]; rfl) (by decide) ?_
            refine lv_aload_n hx hb d_ru_doStep_145 rfl (lv_at hl 3 rfl) ?_
            refine lv_aload_n hx hb d_ru_doStep_146 rfl (lv_at hl 3 rfl) ?_
            refine lv_iload hx hb d_ru_doStep_147 (lv_at hl 0 rfl) ?_
            refine lv_iload_n hx hb d_ru_doStep_149 rfl (lv_at hl 5 rfl) ?_
            refine lv_i2l hx hb d_ru_doStep_150 rfl ?_
            refine lv_iload_n hx hb d_ru_doStep_151 rfl (lv_at hl 6 rfl) ?_
            refine lv_i2l hx hb d_ru_doStep_152 rfl ?_
            refine lv_iload hx hb d_ru_doStep_153 (lv_at hl 1 rfl) ?_
            rcases bsy h with hw33 | ⟨x34, w33, hw33, hnw33⟩
            · exact xv_ru_149 (As := [.int x12, .long (Int32.toInt64 a2), .long (Int32.toInt64 a3), .int x8]) (rest := [.ref a0]) hx hb hml hown hts hK hG hW (x_ru_divide l hst D cA base hw33) (kb_ru_divide hw33) ⟨Nat.le_of_ble_eq_true rfl, Nat.le_of_ble_eq_true rfl⟩ ⟨Nat.le_of_ble_eq_true rfl, Nat.le_of_ble_eq_true rfl⟩ rfl hl.1 rfl (Nat.le_of_ble_eq_true rfl) d_ru_doStep_155 (fun H locs q ce hW h1 h2 h3 => wo_xout hnt hlk hW h1 h2 h3 (Nat.le_of_ble_eq_true rfl) (Nat.le_of_ble_eq_true rfl))
            clear h
            have h := hnw33
            clear hnw33
            refine cv_ru_149 (As := [.int x12, .long (Int32.toInt64 a2), .long (Int32.toInt64 a3), .int x8]) (rest := [.ref a0]) hx hb hml hown hts hK hG hW (c_ru_divide l D cA base hw33) (kb_ru_divide hw33) ⟨Nat.le_of_ble_eq_true rfl, Nat.le_of_ble_eq_true rfl⟩ ⟨Nat.le_of_ble_eq_true rfl, Nat.le_of_ble_eq_true rfl⟩ rfl hl.1 rfl (Nat.le_of_ble_eq_true rfl) d_ru_doStep_155 (fun H locs hW => ?_)
            refine lv_iload hx hb d_ru_doStep_158 (lv_at hl 1 rfl) ?_
            rcases bsy h with hw35 | ⟨x36, w35, hw35, hnw35⟩
            · exact xv_ru_145 (As := [.long x34, .int x8]) (rest := []) hx hb hml hown hts hK hG hW (x_ru_intOf l hst D cA base hw35) (kb_ru_intOf hw35) ⟨Nat.le_of_ble_eq_true rfl, Nat.le_of_ble_eq_true rfl⟩ ⟨Nat.le_of_ble_eq_true rfl, Nat.le_of_ble_eq_true rfl⟩ rfl hl.1 rfl (Nat.le_of_ble_eq_true rfl) d_ru_doStep_160 (fun H locs q ce hW h1 h2 h3 => wo_xout hnt hlk hW h1 h2 h3 (Nat.le_of_ble_eq_true rfl) (Nat.le_of_ble_eq_true rfl))
            clear h
            have h := hnw35
            clear hnw35
            refine cv_ru_145 (As := [.long x34, .int x8]) (rest := []) hx hb hml hown hts hK hG hW (c_ru_intOf l D cA base hw35) (kb_ru_intOf hw35) ⟨Nat.le_of_ble_eq_true rfl, Nat.le_of_ble_eq_true rfl⟩ ⟨Nat.le_of_ble_eq_true rfl, Nat.le_of_ble_eq_true rfl⟩ rfl hl.1 rfl (Nat.le_of_ble_eq_true rfl) d_ru_doStep_160 (fun H locs hW => ?_)
            cases h
          · rw [if_neg c32] at h
            by_cases c37 : x12 = (259 : Int32)
            · rw [if_pos c37] at h
              refine lv_lookup (off := 100) (tgt := 135) hx hb d_ru_doStep_35 (by decide) (by rw [c37]; rfl) (by decide) ?_
              refine lv_aload_n hx hb d_ru_doStep_135 rfl (lv_at hl 3 rfl) ?_
              refine lv_iload_n hx hb d_ru_doStep_136 rfl (lv_at hl 5 rfl) ?_
              refine lv_i2l hx hb d_ru_doStep_137 rfl ?_
              refine lv_lneg hx hb d_ru_doStep_138 ?_
              refine lv_iload hx hb d_ru_doStep_139 (lv_at hl 1 rfl) ?_
              rcases bsy h with hw38 | ⟨x39, w38, hw38, hnw38⟩
              · exact xv_ru_145 (As := [.long (-(Int32.toInt64 a2)), .int x8]) (rest := []) hx hb hml hown hts hK hG hW (x_ru_intOf l hst D cA base hw38) (kb_ru_intOf hw38) ⟨Nat.le_of_ble_eq_true rfl, Nat.le_of_ble_eq_true rfl⟩ ⟨Nat.le_of_ble_eq_true rfl, Nat.le_of_ble_eq_true rfl⟩ rfl hl.1 rfl (Nat.le_of_ble_eq_true rfl) d_ru_doStep_141 (fun H locs q ce hW h1 h2 h3 => wo_xout hnt hlk hW h1 h2 h3 (Nat.le_of_ble_eq_true rfl) (Nat.le_of_ble_eq_true rfl))
              clear h
              have h := hnw38
              clear hnw38
              refine cv_ru_145 (As := [.long (-(Int32.toInt64 a2)), .int x8]) (rest := []) hx hb hml hown hts hK hG hW (c_ru_intOf l D cA base hw38) (kb_ru_intOf hw38) ⟨Nat.le_of_ble_eq_true rfl, Nat.le_of_ble_eq_true rfl⟩ ⟨Nat.le_of_ble_eq_true rfl, Nat.le_of_ble_eq_true rfl⟩ rfl hl.1 rfl (Nat.le_of_ble_eq_true rfl) d_ru_doStep_141 (fun H locs hW => ?_)
              cases h
            · rw [if_neg c37] at h
              refine lv_lookup (off := 129) (tgt := 164) hx hb d_ru_doStep_35 (by decide) (by rw [lv_osw c13 (show (1 : Int32).toInt = 1 from rfl)]; rw [lv_osw c14 (show (2 : Int32).toInt = 2 from rfl)]; rw [lv_osw c22 (show (3 : Int32).toInt = 3 from rfl)]; rw [lv_osw c27 (show (37 : Int32).toInt = 37 from rfl)]; rw [lv_osw c32 (show (47 : Int32).toInt = 47 from rfl)]; rw [lv_osw c37 (show (259 : Int32).toInt = 259 from rfl)]; rfl) (by decide) ?_
              refine lv_aload_n hx hb d_ru_doStep_164 rfl (lv_at hl 3 rfl) ?_
              refine lv_aload_n hx hb d_ru_doStep_165 rfl (lv_at hl 3 rfl) ?_
              refine lv_iload hx hb d_ru_doStep_166 (lv_at hl 0 rfl) ?_
              refine lv_iload_n hx hb d_ru_doStep_168 rfl (lv_at hl 5 rfl) ?_
              refine lv_i2l hx hb d_ru_doStep_169 rfl ?_
              refine lv_iload_n hx hb d_ru_doStep_170 rfl (lv_at hl 6 rfl) ?_
              refine lv_i2l hx hb d_ru_doStep_171 rfl ?_
              replace h := bs2 h
              obtain ⟨x41, w40, hw40, h⟩ := h
              refine cv_ru_153 (As := [.int x12, .long (Int32.toInt64 a2), .long (Int32.toInt64 a3)]) (rest := [.ref a0]) hx hb hml hown hts hK hG hW (c_ru_combine l D cA base hw40) (kb_ru_combine hw40) ⟨Nat.le_of_ble_eq_true rfl, Nat.le_of_ble_eq_true rfl⟩ ⟨Nat.le_of_ble_eq_true rfl, Nat.le_of_ble_eq_true rfl⟩ rfl hl.1 rfl (Nat.le_of_ble_eq_true rfl) d_ru_doStep_172 (fun H locs hW => ?_)
              refine lv_iload hx hb d_ru_doStep_175 (lv_at hl 1 rfl) ?_
              rcases bsy h with hw42 | ⟨x43, w42, hw42, hnw42⟩
              · exact xv_ru_145 (As := [.long x41, .int x8]) (rest := []) hx hb hml hown hts hK hG hW (x_ru_intOf l hst D cA base hw42) (kb_ru_intOf hw42) ⟨Nat.le_of_ble_eq_true rfl, Nat.le_of_ble_eq_true rfl⟩ ⟨Nat.le_of_ble_eq_true rfl, Nat.le_of_ble_eq_true rfl⟩ rfl hl.1 rfl (Nat.le_of_ble_eq_true rfl) d_ru_doStep_177 (fun H locs q ce hW h1 h2 h3 => wo_xout hnt hlk hW h1 h2 h3 (Nat.le_of_ble_eq_true rfl) (Nat.le_of_ble_eq_true rfl))
              clear h
              have h := hnw42
              clear hnw42
              refine cv_ru_145 (As := [.long x41, .int x8]) (rest := []) hx hb hml hown hts hK hG hW (c_ru_intOf l D cA base hw42) (kb_ru_intOf hw42) ⟨Nat.le_of_ble_eq_true rfl, Nat.le_of_ble_eq_true rfl⟩ ⟨Nat.le_of_ble_eq_true rfl, Nat.le_of_ble_eq_true rfl⟩ rfl hl.1 rfl (Nat.le_of_ble_eq_true rfl) d_ru_doStep_177 (fun H locs hW => ?_)
              cases h
