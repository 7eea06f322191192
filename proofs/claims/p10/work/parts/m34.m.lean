/-! Methods as functions, and their contracts (by wip/gen/run.py). -/
theorem cv_pa_26 {p : Program} {l : Launch} {e : Env} {R : Room} {s : State} {m : MethodId} {args : Array Value} {below : List Frame} {meth : Method} {c : Code} {H : Heap} {locs : List Loc} {cells slots : Nat} {Q : State → Prop} {D : va_G} {cA : Nat → ClassId} {base : Nat} {w w' : WW} {cc : ByteArray} {pc nL : Nat} {ls : Array Slot} {rest st0 As : List Value} {ov : Option Value} {b : Nat} (hx : p.tables.exec = Jvm.exec) (hb : c.code = cc) (hml : c.maxLocals = nL) (hown : s.vm.findClass Rc_pa = some m.cls) (hts : ∀ w ∈ gt, w.before args s = true) (hK : va_K D cls (wo_tys cA) s) (hG : wo_G cA base s) (hW : wo_S D cls cA base s w H locs) (hM : mt l D cls (wo_tys cA) cA base y_pg_empty (Cond.code y_pg_empty b_pg_empty 1 (none) :: gt) rm_pg_empty (.ref (base + b) :: As) w ov w' rm_pg_empty.cells rm_pg_empty.slots) (hkb : kb w b 3 = true) (hR : rm_pg_empty.frames + 1 ≤ R.frames ∧ 8 + (1 + 11) + rm_pg_empty.locals ≤ R.locals) (hf : cells + rm_pg_empty.cells ≤ R.cells ∧ slots + rm_pg_empty.slots ≤ R.slots) (hn : As.length = 0) (hsz : ls.size = nL) (hst : st0 = As.reverse ++ .ref (base + b) :: rest) (hcat : (rest.map fun v => v.category).sum ≤ 8) (hdg : decode cc pc = .ok (.invokevirtual 26, 3)) (kk : ∀ (H1 : Heap) (locs1 : List Loc), wo_S D cls cA base s w' H1 locs1 → W p l e R s m args below meth c H1 locs1 (cells + rm_pg_empty.cells) (slots + rm_pg_empty.slots) Q (F0 m (pc + 3) ls (ov.toList ++ rest))) : W p l e R s m args below meth c H locs cells slots Q (F0 m pc ls st0) :=
  wo_callV (C := Rc_pg) hx hb hml hown hts hK hG hW hM hkb rfl (gt_of (i := 490) (by decide +kernel) (by decide +kernel)) (gt_of (i := 491) (by decide +kernel) (by decide +kernel)) (gt_of (i := 492) (by decide +kernel) (by decide +kernel)) (gt_of (i := 4) (by decide +kernel) (by decide +kernel)) (gt_of (i := 493) (by decide +kernel) (by decide +kernel)) (by decide +kernel) hR hf hn hsz hst hcat hdg kk
theorem cv_pa_31 {p : Program} {l : Launch} {e : Env} {R : Room} {s : State} {m : MethodId} {args : Array Value} {below : List Frame} {meth : Method} {c : Code} {H : Heap} {locs : List Loc} {cells slots : Nat} {Q : State → Prop} {D : va_G} {cA : Nat → ClassId} {base : Nat} {w w' : WW} {cc : ByteArray} {pc nL : Nat} {ls : Array Slot} {rest st0 As : List Value} {ov : Option Value} {b : Nat} (hx : p.tables.exec = Jvm.exec) (hb : c.code = cc) (hml : c.maxLocals = nL) (hown : s.vm.findClass Rc_pa = some m.cls) (hts : ∀ w ∈ gt, w.before args s = true) (hK : va_K D cls (wo_tys cA) s) (hG : wo_G cA base s) (hW : wo_S D cls cA base s w H locs) (hM : mt l D cls (wo_tys cA) cA base y_rd_readAll (Cond.code y_rd_readAll b_rd_readAll 2 (none) :: gt) rm_rd_readAll (.ref (base + b) :: As) w ov w' rm_rd_readAll.cells rm_rd_readAll.slots) (hkb : kb w b 1 = true) (hR : rm_rd_readAll.frames + 1 ≤ R.frames ∧ 8 + (2 + 11) + rm_rd_readAll.locals ≤ R.locals) (hf : cells + rm_rd_readAll.cells ≤ R.cells ∧ slots + rm_rd_readAll.slots ≤ R.slots) (hn : As.length = 0) (hsz : ls.size = nL) (hst : st0 = As.reverse ++ .ref (base + b) :: rest) (hcat : (rest.map fun v => v.category).sum ≤ 8) (hdg : decode cc pc = .ok (.invokevirtual 31, 3)) (kk : ∀ (H1 : Heap) (locs1 : List Loc), wo_S D cls cA base s w' H1 locs1 → W p l e R s m args below meth c H1 locs1 (cells + rm_rd_readAll.cells) (slots + rm_rd_readAll.slots) Q (F0 m (pc + 3) ls (ov.toList ++ rest))) : W p l e R s m args below meth c H locs cells slots Q (F0 m pc ls st0) :=
  wo_callV (C := Rc_rd) hx hb hml hown hts hK hG hW hM hkb rfl (gt_of (i := 494) (by decide +kernel) (by decide +kernel)) (gt_of (i := 495) (by decide +kernel) (by decide +kernel)) (gt_of (i := 496) (by decide +kernel) (by decide +kernel)) (gt_of (i := 3) (by decide +kernel) (by decide +kernel)) (gt_of (i := 497) (by decide +kernel) (by decide +kernel)) (by decide +kernel) hR hf hn hsz hst hcat hdg kk
abbrev b_pa_readProgram : ByteArray := prog_3_method_2_code
def y_pa_readProgram : MethodName := ⟨"AlarmForge$Parser", "readProgram", "(LAlarmForge$Program;)V"⟩
def rm_pa_readProgram : Room := { frames := 139, cells := 0, slots := 0, locals := 3479 }
def rx_pa_readProgram : Room := { frames := 139, cells := 1, slots := 6, locals := 3479 }
theorem d_pa_readProgram_0 : decode b_pa_readProgram 0 = .ok (.aload_n 0, 1) := by decide +kernel
theorem d_pa_readProgram_1 : decode b_pa_readProgram 1 = .ok (.aload_n 1, 1) := by decide +kernel
theorem d_pa_readProgram_2 : decode b_pa_readProgram 2 = .ok (.putfield 22, 3) := by decide +kernel
theorem d_pa_readProgram_5 : decode b_pa_readProgram 5 = .ok (.aload_n 0, 1) := by decide +kernel
theorem d_pa_readProgram_6 : decode b_pa_readProgram 6 = .ok (.getfield 22, 3) := by decide +kernel
theorem d_pa_readProgram_9 : decode b_pa_readProgram 9 = .ok (.invokevirtual 26, 3) := by decide +kernel
theorem d_pa_readProgram_12 : decode b_pa_readProgram 12 = .ok (.aload_n 0, 1) := by decide +kernel
theorem d_pa_readProgram_13 : decode b_pa_readProgram 13 = .ok (.bipush (-2), 2) := by decide +kernel
theorem d_pa_readProgram_15 : decode b_pa_readProgram 15 = .ok (.putfield 18, 3) := by decide +kernel
theorem d_pa_readProgram_18 : decode b_pa_readProgram 18 = .ok (.aload_n 0, 1) := by decide +kernel
theorem d_pa_readProgram_19 : decode b_pa_readProgram 19 = .ok (.getfield 12, 3) := by decide +kernel
theorem d_pa_readProgram_22 : decode b_pa_readProgram 22 = .ok (.invokevirtual 31, 3) := by decide +kernel
theorem d_pa_readProgram_25 : decode b_pa_readProgram 25 = .ok (.aload_n 0, 1) := by decide +kernel
theorem d_pa_readProgram_26 : decode b_pa_readProgram 26 = .ok (.iconst 0, 1) := by decide +kernel
theorem d_pa_readProgram_27 : decode b_pa_readProgram 27 = .ok (.putfield 34, 3) := by decide +kernel
theorem d_pa_readProgram_30 : decode b_pa_readProgram 30 = .ok (.aload_n 0, 1) := by decide +kernel
theorem d_pa_readProgram_31 : decode b_pa_readProgram 31 = .ok (.getfield 22, 3) := by decide +kernel
theorem d_pa_readProgram_34 : decode b_pa_readProgram 34 = .ok (.aload_n 0, 1) := by decide +kernel
theorem d_pa_readProgram_35 : decode b_pa_readProgram 35 = .ok (.iconst 0, 1) := by decide +kernel
theorem d_pa_readProgram_36 : decode b_pa_readProgram 36 = .ok (.iconst 0, 1) := by decide +kernel
theorem d_pa_readProgram_37 : decode b_pa_readProgram 37 = .ok (.invokevirtual 37, 3) := by decide +kernel
theorem d_pa_readProgram_40 : decode b_pa_readProgram 40 = .ok (.putfield 41, 3) := by decide +kernel
theorem d_pa_readProgram_43 : decode b_pa_readProgram 43 = .ok (.return_, 1) := by decide +kernel
theorem kb_pa_readProgram {a0 a1 : Nat}  {w : WW} {r : ((Unit ⊕ String) × WW)} (h : f_pa_readProgram a0 a1 w = some r) : kb w a0 2 = true := (its h).1
set_option maxHeartbeats 4000000 in
set_option maxRecDepth 100000 in
theorem c_pa_readProgram (l : Launch) (D : va_G) (cA : Nat → ClassId) (base : Nat) {a0 : Nat} {a1 : Nat} {w w' : WW} (h : f_pa_readProgram a0 a1 w = some (.inl (), w')) : mt l D cls (wo_tys cA) cA base y_pa_readProgram (Cond.code y_pa_readProgram b_pa_readProgram 2 (none) :: gt) rm_pa_readProgram [.ref (base + a0), .ref (base + a1)] w none w' rm_pa_readProgram.cells rm_pa_readProgram.slots := by
  refine mt_start (by decide) (Nat.le_of_ble_eq_true rfl) ?_
  intro p e s m below meth c ls hx hb hr hml hown hts hlk hnm hK hG hW hl
  have C : cx b_pa_readProgram (none) 2 y_pa_readProgram.cls "readProgram" p s m [.ref (base + a0), .ref (base + a1)].toArray meth c D cA base := ⟨hx, hb, hr, hml, hown, hts, hlk, hnm, hK, hG⟩
  have hl : lv_has ls 2 [(0, .ref (base + a0)), (1, .ref (base + a1))] := hl
  unfold f_pa_readProgram at h
  replace h := its h
  obtain ⟨-, h⟩ := h
  refine lv_aload_n hx hb d_pa_readProgram_0 rfl (lv_at hl 0 rfl) ?_
  refine lv_aload_n hx hb d_pa_readProgram_1 rfl (lv_at hl 1 rfl) ?_
  replace h := bs h
  obtain ⟨w1, hw1, h⟩ := h
  refine pf_pa_22 hx hb hts hown hK hG hW rfl rfl (pbi hw1 rfl) d_pa_readProgram_2 (fun H locs hW => ?_)
  refine lv_aload_n hx hb d_pa_readProgram_5 rfl (lv_at hl 0 rfl) ?_
  replace h := bs h
  obtain ⟨x2, hx2, h⟩ := h
  refine gf_pa_22 hx hb hts hown hK hG hW (gR_s hx2) d_pa_readProgram_6 ?_
  replace h := bs h
  obtain ⟨x3, ex3, h⟩ := h
  subst ex3
  replace h := bs h
  obtain ⟨w4, hw4, h⟩ := h
  refine cv_pa_26 (As := []) (rest := []) hx hb hml hown hts hK hG hW (c_pg_empty l D cA base hw4) (kb_pg_empty hw4) ⟨Nat.le_of_ble_eq_true rfl, Nat.le_of_ble_eq_true rfl⟩ ⟨Nat.le_of_ble_eq_true rfl, Nat.le_of_ble_eq_true rfl⟩ rfl hl.1 rfl (Nat.le_of_ble_eq_true rfl) d_pa_readProgram_9 (fun H locs hW => ?_)
  refine lv_aload_n hx hb d_pa_readProgram_12 rfl (lv_at hl 0 rfl) ?_
  refine lv_bipush (v := (-2 : Int32)) hx hb d_pa_readProgram_13 (by decide) ?_
  replace h := bs h
  obtain ⟨w5, hw5, h⟩ := h
  refine pf_pa_18 hx hb hts hown hK hG hW rfl rfl (pbi hw5 rfl) d_pa_readProgram_15 (fun H locs hW => ?_)
  refine lv_aload_n hx hb d_pa_readProgram_18 rfl (lv_at hl 0 rfl) ?_
  replace h := bs h
  obtain ⟨x6, hx6, h⟩ := h
  refine gf_pa_12 hx hb hts hown hK hG hW (gN_s hx6) d_pa_readProgram_19 ?_
  replace h := bs h
  obtain ⟨w7, hw7, h⟩ := h
  refine cv_pa_31 (As := []) (rest := []) hx hb hml hown hts hK hG hW (c_rd_readAll l D cA base hw7) (kb_rd_readAll hw7) ⟨Nat.le_of_ble_eq_true rfl, Nat.le_of_ble_eq_true rfl⟩ ⟨Nat.le_of_ble_eq_true rfl, Nat.le_of_ble_eq_true rfl⟩ rfl hl.1 rfl (Nat.le_of_ble_eq_true rfl) d_pa_readProgram_22 (fun H locs hW => ?_)
  refine lv_aload_n hx hb d_pa_readProgram_25 rfl (lv_at hl 0 rfl) ?_
  refine lv_iconst (v := (0 : Int32)) hx hb d_pa_readProgram_26 (by decide) ?_
  replace h := bs h
  obtain ⟨w8, hw8, h⟩ := h
  refine pf_pa_34 hx hb hts hown hK hG hW rfl rfl (pbi hw8 rfl) d_pa_readProgram_27 (fun H locs hW => ?_)
  refine lv_aload_n hx hb d_pa_readProgram_30 rfl (lv_at hl 0 rfl) ?_
  replace h := bs h
  obtain ⟨x9, hx9, h⟩ := h
  refine gf_pa_22 hx hb hts hown hK hG hW (gR_s hx9) d_pa_readProgram_31 ?_
  refine lv_aload_n hx hb d_pa_readProgram_34 rfl (lv_at hl 0 rfl) ?_
  refine lv_iconst (v := (0 : Int32)) hx hb d_pa_readProgram_35 (by decide) ?_
  refine lv_iconst (v := (0 : Int32)) hx hb d_pa_readProgram_36 (by decide) ?_
  replace h := bsx h
  obtain ⟨x11, w10, hw10, h⟩ := h
  refine cv_pa_37 (As := [.int (0 : Int32), .int (0 : Int32)]) (rest := [rb base x9]) hx hb hml hown hts hK hG hW (c_pa_readStatements l D cA base hw10) (kb_pa_readStatements hw10) ⟨Nat.le_of_ble_eq_true rfl, Nat.le_of_ble_eq_true rfl⟩ ⟨Nat.le_of_ble_eq_true rfl, Nat.le_of_ble_eq_true rfl⟩ rfl hl.1 rfl (by simp only [List.map_cons, List.map_nil, rf_cat]; exact Nat.le_of_ble_eq_true rfl) d_pa_readProgram_37 (fun H locs hW => ?_)
  replace h := bs h
  obtain ⟨x12, ex12, h⟩ := h
  subst ex12
  replace h := bs h
  obtain ⟨w13, hw13, h⟩ := h
  refine pf_pa_41 hx hb hts hown hK hG hW (rf_n _ _ _) (rf_f _ _ _) (pbi hw13 (ub_rf _ _)) d_pa_readProgram_40 (fun H locs hW => ?_)
  cases h
  exact wo_vret hx hb hr hlk hW d_pa_readProgram_43
set_option maxHeartbeats 4000000 in
set_option maxRecDepth 100000 in
theorem x_pa_readProgram (l : Launch) (hst : l.stackTraces = false) (D : va_G) (cA : Nat → ClassId) (base : Nat) {a0 : Nat} {a1 : Nat} {w w' : WW} {E : String} (h : f_pa_readProgram a0 a1 w = some (.inr E, w')) : xt l D cls (wo_tys cA) cA base y_pa_readProgram (Cond.code y_pa_readProgram b_pa_readProgram 2 (none) :: gt) rx_pa_readProgram [.ref (base + a0), .ref (base + a1)] w E w' rx_pa_readProgram.cells rx_pa_readProgram.slots := by
  refine xt_start (by decide) (Nat.le_of_ble_eq_true rfl) ?_
  intro p e s m below meth c ls hx hb hr hml hown hts hlk hnm hK hG hW hl hnt
  have C : cx b_pa_readProgram (none) 2 y_pa_readProgram.cls "readProgram" p s m [.ref (base + a0), .ref (base + a1)].toArray meth c D cA base ∧ (∀ x ∈ c.exceptionTable.toList, ∀ k : Nat, covers x k = false) ∧ l.stackTraces = false := ⟨⟨hx, hb, hr, hml, hown, hts, hlk, hnm, hK, hG⟩, hnt, hst⟩
  have hl : lv_has ls 2 [(0, .ref (base + a0)), (1, .ref (base + a1))] := hl
  unfold f_pa_readProgram at h
  replace h := its h
  obtain ⟨-, h⟩ := h
  refine lv_aload_n hx hb d_pa_readProgram_0 rfl (lv_at hl 0 rfl) ?_
  refine lv_aload_n hx hb d_pa_readProgram_1 rfl (lv_at hl 1 rfl) ?_
  replace h := bs h
  obtain ⟨w1, hw1, h⟩ := h
  refine pf_pa_22 hx hb hts hown hK hG hW rfl rfl (pbi hw1 rfl) d_pa_readProgram_2 (fun H locs hW => ?_)
  refine lv_aload_n hx hb d_pa_readProgram_5 rfl (lv_at hl 0 rfl) ?_
  replace h := bs h
  obtain ⟨x2, hx2, h⟩ := h
  refine gf_pa_22 hx hb hts hown hK hG hW (gR_s hx2) d_pa_readProgram_6 ?_
  replace h := bs h
  obtain ⟨x3, ex3, h⟩ := h
  subst ex3
  replace h := bs h
  obtain ⟨w4, hw4, h⟩ := h
  refine cv_pa_26 (As := []) (rest := []) hx hb hml hown hts hK hG hW (c_pg_empty l D cA base hw4) (kb_pg_empty hw4) ⟨Nat.le_of_ble_eq_true rfl, Nat.le_of_ble_eq_true rfl⟩ ⟨Nat.le_of_ble_eq_true rfl, Nat.le_of_ble_eq_true rfl⟩ rfl hl.1 rfl (Nat.le_of_ble_eq_true rfl) d_pa_readProgram_9 (fun H locs hW => ?_)
  refine lv_aload_n hx hb d_pa_readProgram_12 rfl (lv_at hl 0 rfl) ?_
  refine lv_bipush (v := (-2 : Int32)) hx hb d_pa_readProgram_13 (by decide) ?_
  replace h := bs h
  obtain ⟨w5, hw5, h⟩ := h
  refine pf_pa_18 hx hb hts hown hK hG hW rfl rfl (pbi hw5 rfl) d_pa_readProgram_15 (fun H locs hW => ?_)
  refine lv_aload_n hx hb d_pa_readProgram_18 rfl (lv_at hl 0 rfl) ?_
  replace h := bs h
  obtain ⟨x6, hx6, h⟩ := h
  refine gf_pa_12 hx hb hts hown hK hG hW (gN_s hx6) d_pa_readProgram_19 ?_
  replace h := bs h
  obtain ⟨w7, hw7, h⟩ := h
  refine cv_pa_31 (As := []) (rest := []) hx hb hml hown hts hK hG hW (c_rd_readAll l D cA base hw7) (kb_rd_readAll hw7) ⟨Nat.le_of_ble_eq_true rfl, Nat.le_of_ble_eq_true rfl⟩ ⟨Nat.le_of_ble_eq_true rfl, Nat.le_of_ble_eq_true rfl⟩ rfl hl.1 rfl (Nat.le_of_ble_eq_true rfl) d_pa_readProgram_22 (fun H locs hW => ?_)
  refine lv_aload_n hx hb d_pa_readProgram_25 rfl (lv_at hl 0 rfl) ?_
  refine lv_iconst (v := (0 : Int32)) hx hb d_pa_readProgram_26 (by decide) ?_
  replace h := bs h
  obtain ⟨w8, hw8, h⟩ := h
  refine pf_pa_34 hx hb hts hown hK hG hW rfl rfl (pbi hw8 rfl) d_pa_readProgram_27 (fun H locs hW => ?_)
  refine lv_aload_n hx hb d_pa_readProgram_30 rfl (lv_at hl 0 rfl) ?_
  replace h := bs h
  obtain ⟨x9, hx9, h⟩ := h
  refine gf_pa_22 hx hb hts hown hK hG hW (gR_s hx9) d_pa_readProgram_31 ?_
  refine lv_aload_n hx hb d_pa_readProgram_34 rfl (lv_at hl 0 rfl) ?_
  refine lv_iconst (v := (0 : Int32)) hx hb d_pa_readProgram_35 (by decide) ?_
  refine lv_iconst (v := (0 : Int32)) hx hb d_pa_readProgram_36 (by decide) ?_
  rcases bsy h with hw10 | ⟨x11, w10, hw10, hnw10⟩
  · exact xv_pa_37 (As := [.int (0 : Int32), .int (0 : Int32)]) (rest := [rb base x9]) hx hb hml hown hts hK hG hW (x_pa_readStatements l hst D cA base hw10) (kb_pa_readStatements hw10) ⟨Nat.le_of_ble_eq_true rfl, Nat.le_of_ble_eq_true rfl⟩ ⟨Nat.le_of_ble_eq_true rfl, Nat.le_of_ble_eq_true rfl⟩ rfl hl.1 rfl (by simp only [List.map_cons, List.map_nil, rf_cat]; exact Nat.le_of_ble_eq_true rfl) d_pa_readProgram_37 (fun H locs q ce hW h1 h2 h3 => wo_xout hnt hlk hW h1 h2 h3 (Nat.le_of_ble_eq_true rfl) (Nat.le_of_ble_eq_true rfl))
  clear h
  have h := hnw10
  clear hnw10
  refine cv_pa_37 (As := [.int (0 : Int32), .int (0 : Int32)]) (rest := [rb base x9]) hx hb hml hown hts hK hG hW (c_pa_readStatements l D cA base hw10) (kb_pa_readStatements hw10) ⟨Nat.le_of_ble_eq_true rfl, Nat.le_of_ble_eq_true rfl⟩ ⟨Nat.le_of_ble_eq_true rfl, Nat.le_of_ble_eq_true rfl⟩ rfl hl.1 rfl (by simp only [List.map_cons, List.map_nil, rf_cat]; exact Nat.le_of_ble_eq_true rfl) d_pa_readProgram_37 (fun H locs hW => ?_)
  replace h := bs h
  obtain ⟨x12, ex12, h⟩ := h
  subst ex12
  replace h := bs h
  obtain ⟨w13, hw13, h⟩ := h
  refine pf_pa_41 hx hb hts hown hK hG hW (rf_n _ _ _) (rf_f _ _ _) (pbi hw13 (ub_rf _ _)) d_pa_readProgram_40 (fun H locs hW => ?_)
  cases h
theorem xv_a_77 {p : Program} {l : Launch} {e : Env} {R : Room} {s : State} {m : MethodId} {args : Array Value} {below : List Frame} {meth : Method} {c : Code} {H : Heap} {locs : List Loc} {cells slots : Nat} {Q : State → Prop} {D : va_G} {cA : Nat → ClassId} {base : Nat} {w w' : WW} {cc : ByteArray} {pc nL : Nat} {ls : Array Slot} {rest st0 As : List Value} {E : String} {b : Nat} (hx : p.tables.exec = Jvm.exec) (hb : c.code = cc) (hml : c.maxLocals = nL) (hown : s.vm.findClass Rc_a = some m.cls) (hts : ∀ w ∈ gt, w.before args s = true) (hK : va_K D cls (wo_tys cA) s) (hG : wo_G cA base s) (hW : wo_S D cls cA base s w H locs) (hM : xt l D cls (wo_tys cA) cA base y_pa_readProgram (Cond.code y_pa_readProgram b_pa_readProgram 2 (none) :: gt) rx_pa_readProgram (.ref (base + b) :: As) w E w' rx_pa_readProgram.cells rx_pa_readProgram.slots) (hkb : kb w b 2 = true) (hR : rx_pa_readProgram.frames + 1 ≤ R.frames ∧ 8 + (2 + 11) + rx_pa_readProgram.locals ≤ R.locals) (hf : cells + rx_pa_readProgram.cells ≤ R.cells ∧ slots + rx_pa_readProgram.slots ≤ R.slots) (hn : As.length = 1) (hsz : ls.size = nL) (hst : st0 = As.reverse ++ .ref (base + b) :: rest) (hcat : (rest.map fun v => v.category).sum ≤ 8) (hdg : decode cc pc = .ok (.invokevirtual 77, 3)) (kk : ∀ (H1 : Heap) (locs1 : List Loc) (q : Addr) (ce : Cell), wo_S D cls cA base s w' H1 locs1 → H1[q]? = some ce → ce.vm = .none → s.vm.findClass E = some ce.cls → XW p l e R s m args below meth c H1 locs1 (cells + rx_pa_readProgram.cells) (slots + rx_pa_readProgram.slots) Q (F0 m pc ls rest) q) : W p l e R s m args below meth c H locs cells slots Q (F0 m pc ls st0) :=
  wo_xcallV (C := Rc_pa) hx hb hml hown hts hK hG hW hM hkb rfl (gt_of (i := 486) (by decide +kernel) (by decide +kernel)) (gt_of (i := 487) (by decide +kernel) (by decide +kernel)) (gt_of (i := 488) (by decide +kernel) (by decide +kernel)) (gt_of (i := 2) (by decide +kernel) (by decide +kernel)) (gt_of (i := 489) (by decide +kernel) (by decide +kernel)) (by decide +kernel) hR hf hn hsz hst hcat hdg kk
theorem cv_a_77 {p : Program} {l : Launch} {e : Env} {R : Room} {s : State} {m : MethodId} {args : Array Value} {below : List Frame} {meth : Method} {c : Code} {H : Heap} {locs : List Loc} {cells slots : Nat} {Q : State → Prop} {D : va_G} {cA : Nat → ClassId} {base : Nat} {w w' : WW} {cc : ByteArray} {pc nL : Nat} {ls : Array Slot} {rest st0 As : List Value} {ov : Option Value} {b : Nat} (hx : p.tables.exec = Jvm.exec) (hb : c.code = cc) (hml : c.maxLocals = nL) (hown : s.vm.findClass Rc_a = some m.cls) (hts : ∀ w ∈ gt, w.before args s = true) (hK : va_K D cls (wo_tys cA) s) (hG : wo_G cA base s) (hW : wo_S D cls cA base s w H locs) (hM : mt l D cls (wo_tys cA) cA base y_pa_readProgram (Cond.code y_pa_readProgram b_pa_readProgram 2 (none) :: gt) rm_pa_readProgram (.ref (base + b) :: As) w ov w' rm_pa_readProgram.cells rm_pa_readProgram.slots) (hkb : kb w b 2 = true) (hR : rm_pa_readProgram.frames + 1 ≤ R.frames ∧ 8 + (2 + 11) + rm_pa_readProgram.locals ≤ R.locals) (hf : cells + rm_pa_readProgram.cells ≤ R.cells ∧ slots + rm_pa_readProgram.slots ≤ R.slots) (hn : As.length = 1) (hsz : ls.size = nL) (hst : st0 = As.reverse ++ .ref (base + b) :: rest) (hcat : (rest.map fun v => v.category).sum ≤ 8) (hdg : decode cc pc = .ok (.invokevirtual 77, 3)) (kk : ∀ (H1 : Heap) (locs1 : List Loc), wo_S D cls cA base s w' H1 locs1 → W p l e R s m args below meth c H1 locs1 (cells + rm_pa_readProgram.cells) (slots + rm_pa_readProgram.slots) Q (F0 m (pc + 3) ls (ov.toList ++ rest))) : W p l e R s m args below meth c H locs cells slots Q (F0 m pc ls st0) :=
  wo_callV (C := Rc_pa) hx hb hml hown hts hK hG hW hM hkb rfl (gt_of (i := 486) (by decide +kernel) (by decide +kernel)) (gt_of (i := 487) (by decide +kernel) (by decide +kernel)) (gt_of (i := 488) (by decide +kernel) (by decide +kernel)) (gt_of (i := 2) (by decide +kernel) (by decide +kernel)) (gt_of (i := 489) (by decide +kernel) (by decide +kernel)) (by decide +kernel) hR hf hn hsz hst hcat hdg kk
abbrev b_a_parse : ByteArray := prog_1_method_6_code
def y_a_parse : MethodName := ⟨"AlarmForge", "parse", "()I"⟩
def rm_a_parse : Room := { frames := 140, cells := 0, slots := 0, locals := 3500 }
def rx_a_parse : Room := { frames := 140, cells := 1, slots := 6, locals := 3500 }
theorem d_a_parse_0 : decode b_a_parse 0 = .ok (.aload_n 0, 1) := by decide +kernel
theorem d_a_parse_1 : decode b_a_parse 1 = .ok (.getfield 21, 3) := by decide +kernel
theorem d_a_parse_4 : decode b_a_parse 4 = .ok (.aload_n 0, 1) := by decide +kernel
theorem d_a_parse_5 : decode b_a_parse 5 = .ok (.getfield 37, 3) := by decide +kernel
theorem d_a_parse_8 : decode b_a_parse 8 = .ok (.invokevirtual 77, 3) := by decide +kernel
theorem d_a_parse_11 : decode b_a_parse 11 = .ok (.aload_n 0, 1) := by decide +kernel
theorem d_a_parse_12 : decode b_a_parse 12 = .ok (.getfield 33, 3) := by decide +kernel
theorem d_a_parse_15 : decode b_a_parse 15 = .ok (.astore_n 1, 1) := by decide +kernel
theorem d_a_parse_16 : decode b_a_parse 16 = .ok (.aload_n 0, 1) := by decide +kernel
theorem d_a_parse_17 : decode b_a_parse 17 = .ok (.aload_n 0, 1) := by decide +kernel
theorem d_a_parse_18 : decode b_a_parse 18 = .ok (.getfield 37, 3) := by decide +kernel
theorem d_a_parse_21 : decode b_a_parse 21 = .ok (.putfield 33, 3) := by decide +kernel
theorem d_a_parse_24 : decode b_a_parse 24 = .ok (.aload_n 0, 1) := by decide +kernel
theorem d_a_parse_25 : decode b_a_parse 25 = .ok (.aload_n 1, 1) := by decide +kernel
theorem d_a_parse_26 : decode b_a_parse 26 = .ok (.putfield 37, 3) := by decide +kernel
theorem d_a_parse_29 : decode b_a_parse 29 = .ok (.aload_n 0, 1) := by decide +kernel
theorem d_a_parse_30 : decode b_a_parse 30 = .ok (.iconst 1, 1) := by decide +kernel
theorem d_a_parse_31 : decode b_a_parse 31 = .ok (.putfield 81, 3) := by decide +kernel
theorem d_a_parse_34 : decode b_a_parse 34 = .ok (.aload_n 0, 1) := by decide +kernel
theorem d_a_parse_35 : decode b_a_parse 35 = .ok (.getfield 33, 3) := by decide +kernel
theorem d_a_parse_38 : decode b_a_parse 38 = .ok (.getfield 85, 3) := by decide +kernel
theorem d_a_parse_41 : decode b_a_parse 41 = .ok (.ireturn, 1) := by decide +kernel
theorem kb_a_parse {a0 : Nat}  {w : WW} {r : ((Int32 ⊕ String) × WW)} (h : f_a_parse a0 w = some r) : kb w a0 0 = true := (its h).1
set_option maxHeartbeats 4000000 in
set_option maxRecDepth 100000 in
theorem c_a_parse (l : Launch) (D : va_G) (cA : Nat → ClassId) (base : Nat) {a0 : Nat} {w w' : WW} {r : Int32} (h : f_a_parse a0 w = some (.inl r, w')) : mt l D cls (wo_tys cA) cA base y_a_parse (Cond.code y_a_parse b_a_parse 2 (some .int) :: gt) rm_a_parse [.ref (base + a0)] w (some (.int r)) w' rm_a_parse.cells rm_a_parse.slots := by
  refine mt_start (by decide) (Nat.le_of_ble_eq_true rfl) ?_
  intro p e s m below meth c ls hx hb hr hml hown hts hlk hnm hK hG hW hl
  have C : cx b_a_parse (some .int) 2 y_a_parse.cls "parse" p s m [.ref (base + a0)].toArray meth c D cA base := ⟨hx, hb, hr, hml, hown, hts, hlk, hnm, hK, hG⟩
  have hl : lv_has ls 2 [(0, .ref (base + a0))] := hl
  unfold f_a_parse at h
  replace h := its h
  obtain ⟨-, h⟩ := h
  refine lv_aload_n hx hb d_a_parse_0 rfl (lv_at hl 0 rfl) ?_
  replace h := bs h
  obtain ⟨x1, hx1, h⟩ := h
  refine gf_a_21 hx hb hts hown hK hG hW (gN_s hx1) d_a_parse_1 ?_
  refine lv_aload_n hx hb d_a_parse_4 rfl (lv_at hl 0 rfl) ?_
  replace h := bs h
  obtain ⟨x2, hx2, h⟩ := h
  refine gf_a_37 hx hb hts hown hK hG hW (gN_s hx2) d_a_parse_5 ?_
  replace h := bsx h
  obtain ⟨x4, w3, hw3, h⟩ := h
  refine cv_a_77 (As := [.ref (base + x2)]) (rest := []) hx hb hml hown hts hK hG hW (c_pa_readProgram l D cA base hw3) (kb_pa_readProgram hw3) ⟨Nat.le_of_ble_eq_true rfl, Nat.le_of_ble_eq_true rfl⟩ ⟨Nat.le_of_ble_eq_true rfl, Nat.le_of_ble_eq_true rfl⟩ rfl hl.1 rfl (Nat.le_of_ble_eq_true rfl) d_a_parse_8 (fun H locs hW => ?_)
  refine lv_aload_n hx hb d_a_parse_11 rfl (lv_at hl 0 rfl) ?_
  replace h := bs h
  obtain ⟨x5, hx5, h⟩ := h
  refine gf_a_33 hx hb hts hown hK hG hW (gN_s hx5) d_a_parse_12 ?_
  refine lv_astore_n (lv' := [(1, .ref (base + x5)), (0, .ref (base + a0))]) hx hb d_a_parse_15 rfl hl (by decide) rfl (fun ls hl => ?_)
  refine lv_aload_n hx hb d_a_parse_16 rfl (lv_at hl 1 rfl) ?_
  refine lv_aload_n hx hb d_a_parse_17 rfl (lv_at hl 1 rfl) ?_
  replace h := bs h
  obtain ⟨x6, hx6, h⟩ := h
  refine gf_a_37 hx hb hts hown hK hG hW (gN_s hx6) d_a_parse_18 ?_
  replace h := bs h
  obtain ⟨w7, hw7, h⟩ := h
  refine pf_a_33 hx hb hts hown hK hG hW rfl rfl (pbi hw7 rfl) d_a_parse_21 (fun H locs hW => ?_)
  refine lv_aload_n hx hb d_a_parse_24 rfl (lv_at hl 1 rfl) ?_
  refine lv_aload_n hx hb d_a_parse_25 rfl (lv_at hl 0 rfl) ?_
  replace h := bs h
  obtain ⟨w8, hw8, h⟩ := h
  refine pf_a_37 hx hb hts hown hK hG hW rfl rfl (pbi hw8 rfl) d_a_parse_26 (fun H locs hW => ?_)
  refine lv_aload_n hx hb d_a_parse_29 rfl (lv_at hl 1 rfl) ?_
  refine lv_iconst (v := (1 : Int32)) hx hb d_a_parse_30 (by decide) ?_
  replace h := its h
  obtain ⟨c10, h⟩ := h
  replace h := bs h
  obtain ⟨w9, hw9, h⟩ := h
  refine pf_a_81 hx hb hts hown hK hG hW (z_n c10) (z_f c10) (pbi hw9 rfl) d_a_parse_31 (fun H locs hW => ?_)
  refine lv_aload_n hx hb d_a_parse_34 rfl (lv_at hl 1 rfl) ?_
  replace h := bs h
  obtain ⟨x11, hx11, h⟩ := h
  refine gf_a_33 hx hb hts hown hK hG hW (gN_s hx11) d_a_parse_35 ?_
  replace h := bs h
  obtain ⟨x12, hx12, h⟩ := h
  refine gf_a_85 hx hb hts hown hK hG hW (gI_s hx12) d_a_parse_38 ?_
  cases h
  exact wo_iret hx hb hr hlk hW d_a_parse_41
set_option maxHeartbeats 4000000 in
set_option maxRecDepth 100000 in
theorem x_a_parse (l : Launch) (hst : l.stackTraces = false) (D : va_G) (cA : Nat → ClassId) (base : Nat) {a0 : Nat} {w w' : WW} {E : String} (h : f_a_parse a0 w = some (.inr E, w')) : xt l D cls (wo_tys cA) cA base y_a_parse (Cond.code y_a_parse b_a_parse 2 (some .int) :: gt) rx_a_parse [.ref (base + a0)] w E w' rx_a_parse.cells rx_a_parse.slots := by
  refine xt_start (by decide) (Nat.le_of_ble_eq_true rfl) ?_
  intro p e s m below meth c ls hx hb hr hml hown hts hlk hnm hK hG hW hl hnt
  have C : cx b_a_parse (some .int) 2 y_a_parse.cls "parse" p s m [.ref (base + a0)].toArray meth c D cA base ∧ (∀ x ∈ c.exceptionTable.toList, ∀ k : Nat, covers x k = false) ∧ l.stackTraces = false := ⟨⟨hx, hb, hr, hml, hown, hts, hlk, hnm, hK, hG⟩, hnt, hst⟩
  have hl : lv_has ls 2 [(0, .ref (base + a0))] := hl
  unfold f_a_parse at h
  replace h := its h
  obtain ⟨-, h⟩ := h
  refine lv_aload_n hx hb d_a_parse_0 rfl (lv_at hl 0 rfl) ?_
  replace h := bs h
  obtain ⟨x1, hx1, h⟩ := h
  refine gf_a_21 hx hb hts hown hK hG hW (gN_s hx1) d_a_parse_1 ?_
  refine lv_aload_n hx hb d_a_parse_4 rfl (lv_at hl 0 rfl) ?_
  replace h := bs h
  obtain ⟨x2, hx2, h⟩ := h
  refine gf_a_37 hx hb hts hown hK hG hW (gN_s hx2) d_a_parse_5 ?_
  rcases bsy h with hw3 | ⟨x4, w3, hw3, hnw3⟩
  · exact xv_a_77 (As := [.ref (base + x2)]) (rest := []) hx hb hml hown hts hK hG hW (x_pa_readProgram l hst D cA base hw3) (kb_pa_readProgram hw3) ⟨Nat.le_of_ble_eq_true rfl, Nat.le_of_ble_eq_true rfl⟩ ⟨Nat.le_of_ble_eq_true rfl, Nat.le_of_ble_eq_true rfl⟩ rfl hl.1 rfl (Nat.le_of_ble_eq_true rfl) d_a_parse_8 (fun H locs q ce hW h1 h2 h3 => wo_xout hnt hlk hW h1 h2 h3 (Nat.le_of_ble_eq_true rfl) (Nat.le_of_ble_eq_true rfl))
  clear h
  have h := hnw3
  clear hnw3
  refine cv_a_77 (As := [.ref (base + x2)]) (rest := []) hx hb hml hown hts hK hG hW (c_pa_readProgram l D cA base hw3) (kb_pa_readProgram hw3) ⟨Nat.le_of_ble_eq_true rfl, Nat.le_of_ble_eq_true rfl⟩ ⟨Nat.le_of_ble_eq_true rfl, Nat.le_of_ble_eq_true rfl⟩ rfl hl.1 rfl (Nat.le_of_ble_eq_true rfl) d_a_parse_8 (fun H locs hW => ?_)
  refine lv_aload_n hx hb d_a_parse_11 rfl (lv_at hl 0 rfl) ?_
  replace h := bs h
  obtain ⟨x5, hx5, h⟩ := h
  refine gf_a_33 hx hb hts hown hK hG hW (gN_s hx5) d_a_parse_12 ?_
  refine lv_astore_n (lv' := [(1, .ref (base + x5)), (0, .ref (base + a0))]) hx hb d_a_parse_15 rfl hl (by decide) rfl (fun ls hl => ?_)
  refine lv_aload_n hx hb d_a_parse_16 rfl (lv_at hl 1 rfl) ?_
  refine lv_aload_n hx hb d_a_parse_17 rfl (lv_at hl 1 rfl) ?_
  replace h := bs h
  obtain ⟨x6, hx6, h⟩ := h
  refine gf_a_37 hx hb hts hown hK hG hW (gN_s hx6) d_a_parse_18 ?_
  replace h := bs h
  obtain ⟨w7, hw7, h⟩ := h
  refine pf_a_33 hx hb hts hown hK hG hW rfl rfl (pbi hw7 rfl) d_a_parse_21 (fun H locs hW => ?_)
  refine lv_aload_n hx hb d_a_parse_24 rfl (lv_at hl 1 rfl) ?_
  refine lv_aload_n hx hb d_a_parse_25 rfl (lv_at hl 0 rfl) ?_
  replace h := bs h
  obtain ⟨w8, hw8, h⟩ := h
  refine pf_a_37 hx hb hts hown hK hG hW rfl rfl (pbi hw8 rfl) d_a_parse_26 (fun H locs hW => ?_)
  refine lv_aload_n hx hb d_a_parse_29 rfl (lv_at hl 1 rfl) ?_
  refine lv_iconst (v := (1 : Int32)) hx hb d_a_parse_30 (by decide) ?_
  replace h := its h
  obtain ⟨c10, h⟩ := h
  replace h := bs h
  obtain ⟨w9, hw9, h⟩ := h
  refine pf_a_81 hx hb hts hown hK hG hW (z_n c10) (z_f c10) (pbi hw9 rfl) d_a_parse_31 (fun H locs hW => ?_)
  refine lv_aload_n hx hb d_a_parse_34 rfl (lv_at hl 1 rfl) ?_
  replace h := bs h
  obtain ⟨x11, hx11, h⟩ := h
  refine gf_a_33 hx hb hts hown hK hG hW (gN_s hx11) d_a_parse_35 ?_
  replace h := bs h
  obtain ⟨x12, hx12, h⟩ := h
  refine gf_a_85 hx hb hts hown hK hG hW (gI_s hx12) d_a_parse_38 ?_
  cases h
abbrev b_a_choose : ByteArray := prog_1_method_8_code
def y_a_choose : MethodName := ⟨"AlarmForge", "choose", "(II)I"⟩
def rm_a_choose : Room := { frames := 6, cells := 0, slots := 0, locals := 100 }
def rx_a_choose : Room := { frames := 6, cells := 1, slots := 6, locals := 100 }
theorem d_a_choose_0 : decode b_a_choose 0 = .ok (.iload_n 1, 1) := by decide +kernel
theorem d_a_choose_1 : decode b_a_choose 1 = .ok (.ifCond .lt (17), 3) := by decide +kernel
theorem d_a_choose_4 : decode b_a_choose 4 = .ok (.iload_n 1, 1) := by decide +kernel
theorem d_a_choose_5 : decode b_a_choose 5 = .ok (.iconst 1, 1) := by decide +kernel
theorem d_a_choose_6 : decode b_a_choose 6 = .ok (.if_icmp .gt (12), 3) := by decide +kernel
theorem d_a_choose_9 : decode b_a_choose 9 = .ok (.iload_n 2, 1) := by decide +kernel
theorem d_a_choose_10 : decode b_a_choose 10 = .ok (.ifCond .lt (8), 3) := by decide +kernel
theorem d_a_choose_13 : decode b_a_choose 13 = .ok (.iload_n 2, 1) := by decide +kernel
theorem d_a_choose_14 : decode b_a_choose 14 = .ok (.iconst 5, 1) := by decide +kernel
theorem d_a_choose_15 : decode b_a_choose 15 = .ok (.if_icmp .le (11), 3) := by decide +kernel
theorem d_a_choose_18 : decode b_a_choose 18 = .ok (.new 62, 3) := by decide +kernel
theorem d_a_choose_21 : decode b_a_choose 21 = .ok (.dup, 1) := by decide +kernel
theorem d_a_choose_22 : decode b_a_choose 22 = .ok (.invokespecial 64, 3) := by decide +kernel
theorem d_a_choose_25 : decode b_a_choose 25 = .ok (.athrow, 1) := by decide +kernel
theorem d_a_choose_26 : decode b_a_choose 26 = .ok (.iload_n 1, 1) := by decide +kernel
theorem d_a_choose_27 : decode b_a_choose 27 = .ok (.ifCond .ne (16), 3) := by decide +kernel
theorem d_a_choose_30 : decode b_a_choose 30 = .ok (.aload_n 0, 1) := by decide +kernel
theorem d_a_choose_31 : decode b_a_choose 31 = .ok (.getfield 11, 3) := by decide +kernel
theorem d_a_choose_34 : decode b_a_choose 34 = .ok (.istore_n 3, 1) := by decide +kernel
theorem d_a_choose_35 : decode b_a_choose 35 = .ok (.aload_n 0, 1) := by decide +kernel
theorem d_a_choose_36 : decode b_a_choose 36 = .ok (.iload_n 2, 1) := by decide +kernel
theorem d_a_choose_37 : decode b_a_choose 37 = .ok (.putfield 11, 3) := by decide +kernel
theorem d_a_choose_40 : decode b_a_choose 40 = .ok (.goto (13), 3) := by decide +kernel
theorem d_a_choose_43 : decode b_a_choose 43 = .ok (.aload_n 0, 1) := by decide +kernel
theorem d_a_choose_44 : decode b_a_choose 44 = .ok (.getfield 15, 3) := by decide +kernel
theorem d_a_choose_47 : decode b_a_choose 47 = .ok (.istore_n 3, 1) := by decide +kernel
theorem d_a_choose_48 : decode b_a_choose 48 = .ok (.aload_n 0, 1) := by decide +kernel
theorem d_a_choose_49 : decode b_a_choose 49 = .ok (.iload_n 2, 1) := by decide +kernel
theorem d_a_choose_50 : decode b_a_choose 50 = .ok (.putfield 15, 3) := by decide +kernel
theorem d_a_choose_53 : decode b_a_choose 53 = .ok (.iload_n 3, 1) := by decide +kernel
theorem d_a_choose_54 : decode b_a_choose 54 = .ok (.ireturn, 1) := by decide +kernel
theorem kb_a_choose {a0 : Nat} {a1 : Int32} {a2 : Int32} {w : WW} {r : ((Int32 ⊕ String) × WW)} (h : f_a_choose a0 a1 a2 w = some r) : kb w a0 0 = true := (its h).1
set_option maxHeartbeats 4000000 in
set_option maxRecDepth 100000 in
theorem j_a_choose_18 {p : Program} {l : Launch} {e : Env} {s : State} {m : MethodId} {args : Array Value} {below : List Frame} {meth : Method} {c : Code} {D : va_G} {cA : Nat → ClassId} {base : Nat} {r : Int32} {w' : WW} (C : cx b_a_choose (some .int) 4 y_a_choose.cls "choose" p s m args meth c D cA base)   : ∀  (w : WW), f_a_choose_18  w = some (.inl r, w') → ∀ (H : Heap) (locs : List Loc) (ls : Array Slot), wo_S D cls cA base s w H locs → lv_has ls 4 [] → W p l e rm_a_choose s m args below meth c H locs 0 0 (MQ below (wo_Q D cls cA base (some (.int r)) w') args s rm_a_choose.cells rm_a_choose.slots (wo_B base)) (F0 m 18 ls []) := by
  obtain ⟨hx, hb, hr, hml, hown, hts, hlk, hnm, hK, hG⟩ := id C
  intro  w h H locs ls hW hl
  unfold f_a_choose_18 at h
  cases h
set_option maxHeartbeats 4000000 in
set_option maxRecDepth 100000 in
theorem j_a_choose_53 {p : Program} {l : Launch} {e : Env} {s : State} {m : MethodId} {args : Array Value} {below : List Frame} {meth : Method} {c : Code} {D : va_G} {cA : Nat → ClassId} {base : Nat} {r : Int32} {w' : WW} (C : cx b_a_choose (some .int) 4 y_a_choose.cls "choose" p s m args meth c D cA base)   : ∀ (y3 : Int32) (w : WW), f_a_choose_53 y3 w = some (.inl r, w') → ∀ (H : Heap) (locs : List Loc) (ls : Array Slot), wo_S D cls cA base s w H locs → lv_has ls 4 [(3, .int y3)] → W p l e rm_a_choose s m args below meth c H locs 0 0 (MQ below (wo_Q D cls cA base (some (.int r)) w') args s rm_a_choose.cells rm_a_choose.slots (wo_B base)) (F0 m 53 ls []) := by
  obtain ⟨hx, hb, hr, hml, hown, hts, hlk, hnm, hK, hG⟩ := id C
  intro y3 w h H locs ls hW hl
  unfold f_a_choose_53 at h
  refine lv_iload_n hx hb d_a_choose_53 rfl (lv_at hl 0 rfl) ?_
  cases h
  exact wo_iret hx hb hr hlk hW d_a_choose_54
set_option maxHeartbeats 4000000 in
set_option maxRecDepth 100000 in
theorem c_a_choose (l : Launch) (D : va_G) (cA : Nat → ClassId) (base : Nat) {a0 : Nat} {a1 : Int32} {a2 : Int32} {w w' : WW} {r : Int32} (h : f_a_choose a0 a1 a2 w = some (.inl r, w')) : mt l D cls (wo_tys cA) cA base y_a_choose (Cond.code y_a_choose b_a_choose 4 (some .int) :: gt) rm_a_choose [.ref (base + a0), .int a1, .int a2] w (some (.int r)) w' rm_a_choose.cells rm_a_choose.slots := by
  refine mt_start (by decide) (Nat.le_of_ble_eq_true rfl) ?_
  intro p e s m below meth c ls hx hb hr hml hown hts hlk hnm hK hG hW hl
  have C : cx b_a_choose (some .int) 4 y_a_choose.cls "choose" p s m [.ref (base + a0), .int a1, .int a2].toArray meth c D cA base := ⟨hx, hb, hr, hml, hown, hts, hlk, hnm, hK, hG⟩
  have hl : lv_has ls 4 [(0, .ref (base + a0)), (1, .int a1), (2, .int a2)] := hl
  unfold f_a_choose at h
  replace h := its h
  obtain ⟨-, h⟩ := h
  refine lv_iload_n hx hb d_a_choose_0 rfl (lv_at hl 1 rfl) ?_
  refine lv_if_lt (tgt := 18) hx hb d_a_choose_1 (by decide) (fun c1 => ?_) (fun c1 => ?_)
  · rw [if_pos c1] at h
    exact j_a_choose_18 C w h _ _ _ hW (lv_sub hl [] rfl)
  · rw [if_neg c1] at h
    refine lv_iload_n hx hb d_a_choose_4 rfl (lv_at hl 1 rfl) ?_
    refine lv_iconst (v := (1 : Int32)) hx hb d_a_choose_5 (by decide) ?_
    refine lv_icmp_gt (tgt := 18) hx hb d_a_choose_6 (by decide) (fun c2 => ?_) (fun c2 => ?_)
    · rw [if_pos c2] at h
      exact j_a_choose_18 C w h _ _ _ hW (lv_sub hl [] rfl)
    · rw [if_neg c2] at h
      refine lv_iload_n hx hb d_a_choose_9 rfl (lv_at hl 2 rfl) ?_
      refine lv_if_lt (tgt := 18) hx hb d_a_choose_10 (by decide) (fun c3 => ?_) (fun c3 => ?_)
      · rw [if_pos c3] at h
        exact j_a_choose_18 C w h _ _ _ hW (lv_sub hl [] rfl)
      · rw [if_neg c3] at h
        refine lv_iload_n hx hb d_a_choose_13 rfl (lv_at hl 2 rfl) ?_
        refine lv_iconst (v := (5 : Int32)) hx hb d_a_choose_14 (by decide) ?_
        refine lv_icmp_le (tgt := 26) hx hb d_a_choose_15 (by decide) (fun c4 => ?_) (fun c4 => ?_)
        · rw [if_pos c4] at h
          refine lv_iload_n hx hb d_a_choose_26 rfl (lv_at hl 1 rfl) ?_
          refine lv_if_ne (tgt := 43) hx hb d_a_choose_27 (by decide) (fun c5 => ?_) (fun c5 => ?_)
          · rw [if_neg c5] at h
            refine lv_aload_n hx hb d_a_choose_43 rfl (lv_at hl 0 rfl) ?_
            replace h := bs h
            obtain ⟨x6, hx6, h⟩ := h
            refine gf_a_15 hx hb hts hown hK hG hW (gI_s hx6) d_a_choose_44 ?_
            refine lv_istore_n (lv' := [(3, .int x6), (0, .ref (base + a0)), (1, .int a1), (2, .int a2)]) hx hb d_a_choose_47 rfl hl (by decide) rfl (fun ls hl => ?_)
            refine lv_aload_n hx hb d_a_choose_48 rfl (lv_at hl 1 rfl) ?_
            refine lv_iload_n hx hb d_a_choose_49 rfl (lv_at hl 3 rfl) ?_
            replace h := bs h
            obtain ⟨w7, hw7, h⟩ := h
            refine pf_a_15 hx hb hts hown hK hG hW rfl rfl (pbi hw7 rfl) d_a_choose_50 (fun H locs hW => ?_)
            exact j_a_choose_53 C x6 w7 h _ _ _ hW (lv_sub hl [0] rfl)
          · rw [if_pos c5] at h
            refine lv_aload_n hx hb d_a_choose_30 rfl (lv_at hl 0 rfl) ?_
            replace h := bs h
            obtain ⟨x8, hx8, h⟩ := h
            refine gf_a_11 hx hb hts hown hK hG hW (gI_s hx8) d_a_choose_31 ?_
            refine lv_istore_n (lv' := [(3, .int x8), (0, .ref (base + a0)), (1, .int a1), (2, .int a2)]) hx hb d_a_choose_34 rfl hl (by decide) rfl (fun ls hl => ?_)
            refine lv_aload_n hx hb d_a_choose_35 rfl (lv_at hl 1 rfl) ?_
            refine lv_iload_n hx hb d_a_choose_36 rfl (lv_at hl 3 rfl) ?_
            replace h := bs h
            obtain ⟨w9, hw9, h⟩ := h
            refine pf_a_11 hx hb hts hown hK hG hW rfl rfl (pbi hw9 rfl) d_a_choose_37 (fun H locs hW => ?_)
            refine lv_goto (tgt := 53) hx hb d_a_choose_40 (by decide) ?_
            exact j_a_choose_53 C x8 w9 h _ _ _ hW (lv_sub hl [0] rfl)
        · rw [if_neg c4] at h
          exact j_a_choose_18 C w h _ _ _ hW (lv_sub hl [] rfl)
set_option maxHeartbeats 4000000 in
set_option maxRecDepth 100000 in
theorem jx_a_choose_18 {p : Program} {l : Launch} {e : Env} {s : State} {m : MethodId} {args : Array Value} {below : List Frame} {meth : Method} {c : Code} {D : va_G} {cA : Nat → ClassId} {base : Nat} {E : String} {w' : WW} (C : cx b_a_choose (some .int) 4 y_a_choose.cls "choose" p s m args meth c D cA base ∧ (∀ x ∈ c.exceptionTable.toList, ∀ k : Nat, covers x k = false) ∧ l.stackTraces = false)   : ∀  (w : WW), f_a_choose_18  w = some (.inr E, w') → ∀ (H : Heap) (locs : List Loc) (ls : Array Slot), wo_S D cls cA base s w H locs → lv_has ls 4 [] → W p l e rx_a_choose s m args below meth c H locs 0 0 (XQ below (wo_X D cls cA base E w' rx_a_choose.cells rx_a_choose.slots) args s) (F0 m 18 ls []) := by
  obtain ⟨hx, hb, hr, hml, hown, hts, hlk, hnm, hK, hG⟩ := id C.1
  have hnt := C.2.1
  have hst := C.2.2
  intro  w h H locs ls hW hl
  unfold f_a_choose_18 at h
  cases h
  exact wo_throw (names := ["java/lang/RuntimeException", "java/lang/Exception"]) hx hb hst hown hts hG hW hnt hlk (by decide) (by decide) (gt_of (i := 395) (by decide +kernel) (by decide +kernel)) (gt_of (i := 14) (by decide +kernel) (by decide +kernel)) ow_a_64 (hl.1.trans hml.symm) d_a_choose_18 d_a_choose_21 d_a_choose_22 d_a_choose_25 (Nat.le_of_ble_eq_true rfl) (Nat.le_of_ble_eq_true rfl) (Nat.le_of_ble_eq_true rfl) (Nat.le_of_ble_eq_true rfl) (Nat.le_of_ble_eq_true rfl) (Nat.le_of_ble_eq_true rfl)
set_option maxHeartbeats 4000000 in
set_option maxRecDepth 100000 in
theorem jx_a_choose_53 {p : Program} {l : Launch} {e : Env} {s : State} {m : MethodId} {args : Array Value} {below : List Frame} {meth : Method} {c : Code} {D : va_G} {cA : Nat → ClassId} {base : Nat} {E : String} {w' : WW} (C : cx b_a_choose (some .int) 4 y_a_choose.cls "choose" p s m args meth c D cA base ∧ (∀ x ∈ c.exceptionTable.toList, ∀ k : Nat, covers x k = false) ∧ l.stackTraces = false)   : ∀ (y3 : Int32) (w : WW), f_a_choose_53 y3 w = some (.inr E, w') → ∀ (H : Heap) (locs : List Loc) (ls : Array Slot), wo_S D cls cA base s w H locs → lv_has ls 4 [(3, .int y3)] → W p l e rx_a_choose s m args below meth c H locs 0 0 (XQ below (wo_X D cls cA base E w' rx_a_choose.cells rx_a_choose.slots) args s) (F0 m 53 ls []) := by
  obtain ⟨hx, hb, hr, hml, hown, hts, hlk, hnm, hK, hG⟩ := id C.1
  have hnt := C.2.1
  have hst := C.2.2
  intro y3 w h H locs ls hW hl
  unfold f_a_choose_53 at h
  refine lv_iload_n hx hb d_a_choose_53 rfl (lv_at hl 0 rfl) ?_
  cases h
set_option maxHeartbeats 4000000 in
set_option maxRecDepth 100000 in
theorem x_a_choose (l : Launch) (hst : l.stackTraces = false) (D : va_G) (cA : Nat → ClassId) (base : Nat) {a0 : Nat} {a1 : Int32} {a2 : Int32} {w w' : WW} {E : String} (h : f_a_choose a0 a1 a2 w = some (.inr E, w')) : xt l D cls (wo_tys cA) cA base y_a_choose (Cond.code y_a_choose b_a_choose 4 (some .int) :: gt) rx_a_choose [.ref (base + a0), .int a1, .int a2] w E w' rx_a_choose.cells rx_a_choose.slots := by
  refine xt_start (by decide) (Nat.le_of_ble_eq_true rfl) ?_
  intro p e s m below meth c ls hx hb hr hml hown hts hlk hnm hK hG hW hl hnt
  have C : cx b_a_choose (some .int) 4 y_a_choose.cls "choose" p s m [.ref (base + a0), .int a1, .int a2].toArray meth c D cA base ∧ (∀ x ∈ c.exceptionTable.toList, ∀ k : Nat, covers x k = false) ∧ l.stackTraces = false := ⟨⟨hx, hb, hr, hml, hown, hts, hlk, hnm, hK, hG⟩, hnt, hst⟩
  have hl : lv_has ls 4 [(0, .ref (base + a0)), (1, .int a1), (2, .int a2)] := hl
  unfold f_a_choose at h
  replace h := its h
  obtain ⟨-, h⟩ := h
  refine lv_iload_n hx hb d_a_choose_0 rfl (lv_at hl 1 rfl) ?_
  refine lv_if_lt (tgt := 18) hx hb d_a_choose_1 (by decide) (fun c1 => ?_) (fun c1 => ?_)
  · rw [if_pos c1] at h
    exact jx_a_choose_18 C w h _ _ _ hW (lv_sub hl [] rfl)
  · rw [if_neg c1] at h
    refine lv_iload_n hx hb d_a_choose_4 rfl (lv_at hl 1 rfl) ?_
    refine lv_iconst (v := (1 : Int32)) hx hb d_a_choose_5 (by decide) ?_
    refine lv_icmp_gt (tgt := 18) hx hb d_a_choose_6 (by decide) (fun c2 => ?_) (fun c2 => ?_)
    · rw [if_pos c2] at h
      exact jx_a_choose_18 C w h _ _ _ hW (lv_sub hl [] rfl)
    · rw [if_neg c2] at h
      refine lv_iload_n hx hb d_a_choose_9 rfl (lv_at hl 2 rfl) ?_
      refine lv_if_lt (tgt := 18) hx hb d_a_choose_10 (by decide) (fun c3 => ?_) (fun c3 => ?_)
      · rw [if_pos c3] at h
        exact jx_a_choose_18 C w h _ _ _ hW (lv_sub hl [] rfl)
      · rw [if_neg c3] at h
        refine lv_iload_n hx hb d_a_choose_13 rfl (lv_at hl 2 rfl) ?_
        refine lv_iconst (v := (5 : Int32)) hx hb d_a_choose_14 (by decide) ?_
        refine lv_icmp_le (tgt := 26) hx hb d_a_choose_15 (by decide) (fun c4 => ?_) (fun c4 => ?_)
        · rw [if_pos c4] at h
          refine lv_iload_n hx hb d_a_choose_26 rfl (lv_at hl 1 rfl) ?_
          refine lv_if_ne (tgt := 43) hx hb d_a_choose_27 (by decide) (fun c5 => ?_) (fun c5 => ?_)
          · rw [if_neg c5] at h
            refine lv_aload_n hx hb d_a_choose_43 rfl (lv_at hl 0 rfl) ?_
            replace h := bs h
            obtain ⟨x6, hx6, h⟩ := h
            refine gf_a_15 hx hb hts hown hK hG hW (gI_s hx6) d_a_choose_44 ?_
            refine lv_istore_n (lv' := [(3, .int x6), (0, .ref (base + a0)), (1, .int a1), (2, .int a2)]) hx hb d_a_choose_47 rfl hl (by decide) rfl (fun ls hl => ?_)
            refine lv_aload_n hx hb d_a_choose_48 rfl (lv_at hl 1 rfl) ?_
            refine lv_iload_n hx hb d_a_choose_49 rfl (lv_at hl 3 rfl) ?_
            replace h := bs h
            obtain ⟨w7, hw7, h⟩ := h
            refine pf_a_15 hx hb hts hown hK hG hW rfl rfl (pbi hw7 rfl) d_a_choose_50 (fun H locs hW => ?_)
            exact jx_a_choose_53 C x6 w7 h _ _ _ hW (lv_sub hl [0] rfl)
          · rw [if_pos c5] at h
            refine lv_aload_n hx hb d_a_choose_30 rfl (lv_at hl 0 rfl) ?_
            replace h := bs h
            obtain ⟨x8, hx8, h⟩ := h
            refine gf_a_11 hx hb hts hown hK hG hW (gI_s hx8) d_a_choose_31 ?_
            refine lv_istore_n (lv' := [(3, .int x8), (0, .ref (base + a0)), (1, .int a1), (2, .int a2)]) hx hb d_a_choose_34 rfl hl (by decide) rfl (fun ls hl => ?_)
            refine lv_aload_n hx hb d_a_choose_35 rfl (lv_at hl 1 rfl) ?_
            refine lv_iload_n hx hb d_a_choose_36 rfl (lv_at hl 3 rfl) ?_
            replace h := bs h
            obtain ⟨w9, hw9, h⟩ := h
            refine pf_a_11 hx hb hts hown hK hG hW rfl rfl (pbi hw9 rfl) d_a_choose_37 (fun H locs hW => ?_)
            refine lv_goto (tgt := 53) hx hb d_a_choose_40 (by decide) ?_
            exact jx_a_choose_53 C x8 w9 h _ _ _ hW (lv_sub hl [0] rfl)
        · rw [if_neg c4] at h
          exact jx_a_choose_18 C w h _ _ _ hW (lv_sub hl [] rfl)
abbrev b_ru_addInput : ByteArray := prog_6_method_2_code
def y_ru_addInput : MethodName := ⟨"AlarmForge$Runner", "addInput", "(I)V"⟩
def rm_ru_addInput : Room := { frames := 0, cells := 0, slots := 0, locals := 0 }
theorem d_ru_addInput_0 : decode b_ru_addInput 0 = .ok (.aload_n 0, 1) := by decide +kernel
theorem d_ru_addInput_1 : decode b_ru_addInput 1 = .ok (.getfield 28, 3) := by decide +kernel
theorem d_ru_addInput_4 : decode b_ru_addInput 4 = .ok (.bipush (8), 2) := by decide +kernel
theorem d_ru_addInput_6 : decode b_ru_addInput 6 = .ok (.if_icmp .ge (23), 3) := by decide +kernel
theorem d_ru_addInput_9 : decode b_ru_addInput 9 = .ok (.aload_n 0, 1) := by decide +kernel
theorem d_ru_addInput_10 : decode b_ru_addInput 10 = .ok (.getfield 25, 3) := by decide +kernel
theorem d_ru_addInput_13 : decode b_ru_addInput 13 = .ok (.aload_n 0, 1) := by decide +kernel
theorem d_ru_addInput_14 : decode b_ru_addInput 14 = .ok (.getfield 28, 3) := by decide +kernel
theorem d_ru_addInput_17 : decode b_ru_addInput 17 = .ok (.iload_n 1, 1) := by decide +kernel
theorem d_ru_addInput_18 : decode b_ru_addInput 18 = .ok (.iastore, 1) := by decide +kernel
theorem d_ru_addInput_19 : decode b_ru_addInput 19 = .ok (.aload_n 0, 1) := by decide +kernel
theorem d_ru_addInput_20 : decode b_ru_addInput 20 = .ok (.dup, 1) := by decide +kernel
theorem d_ru_addInput_21 : decode b_ru_addInput 21 = .ok (.getfield 28, 3) := by decide +kernel
theorem d_ru_addInput_24 : decode b_ru_addInput 24 = .ok (.iconst 1, 1) := by decide +kernel
theorem d_ru_addInput_25 : decode b_ru_addInput 25 = .ok (.iadd, 1) := by decide +kernel
theorem d_ru_addInput_26 : decode b_ru_addInput 26 = .ok (.putfield 28, 3) := by decide +kernel
theorem d_ru_addInput_29 : decode b_ru_addInput 29 = .ok (.return_, 1) := by decide +kernel
theorem kb_ru_addInput {a0 : Nat} {a1 : Int32} {w : WW} {r : WW} (h : f_ru_addInput a0 a1 w = some r) : kb w a0 5 = true := (its h).1
set_option maxHeartbeats 4000000 in
set_option maxRecDepth 100000 in
theorem j_ru_addInput_29 {p : Program} {l : Launch} {e : Env} {s : State} {m : MethodId} {args : Array Value} {below : List Frame} {meth : Method} {c : Code} {D : va_G} {cA : Nat → ClassId} {base : Nat} {w' : WW} (C : cx b_ru_addInput (none) 2 y_ru_addInput.cls "addInput" p s m args meth c D cA base)   : ∀  (w : WW), f_ru_addInput_29  w = some w' → ∀ (H : Heap) (locs : List Loc) (ls : Array Slot), wo_S D cls cA base s w H locs → lv_has ls 2 [] → W p l e rm_ru_addInput s m args below meth c H locs 0 0 (MQ below (wo_Q D cls cA base none w') args s rm_ru_addInput.cells rm_ru_addInput.slots (wo_B base)) (F0 m 29 ls []) := by
  obtain ⟨hx, hb, hr, hml, hown, hts, hlk, hnm, hK, hG⟩ := id C
  intro  w h H locs ls hW hl
  unfold f_ru_addInput_29 at h
  cases h
  exact wo_vret hx hb hr hlk hW d_ru_addInput_29
set_option maxHeartbeats 4000000 in
set_option maxRecDepth 100000 in
theorem c_ru_addInput (l : Launch) (D : va_G) (cA : Nat → ClassId) (base : Nat) {a0 : Nat} {a1 : Int32} {w w' : WW} (h : f_ru_addInput a0 a1 w = some w') : mt l D cls (wo_tys cA) cA base y_ru_addInput (Cond.code y_ru_addInput b_ru_addInput 2 (none) :: gt) rm_ru_addInput [.ref (base + a0), .int a1] w none w' rm_ru_addInput.cells rm_ru_addInput.slots := by
  refine mt_start (by decide) (Nat.le_of_ble_eq_true rfl) ?_
  intro p e s m below meth c ls hx hb hr hml hown hts hlk hnm hK hG hW hl
  have C : cx b_ru_addInput (none) 2 y_ru_addInput.cls "addInput" p s m [.ref (base + a0), .int a1].toArray meth c D cA base := ⟨hx, hb, hr, hml, hown, hts, hlk, hnm, hK, hG⟩
  have hl : lv_has ls 2 [(0, .ref (base + a0)), (1, .int a1)] := hl
  unfold f_ru_addInput at h
  replace h := its h
  obtain ⟨-, h⟩ := h
  refine lv_aload_n hx hb d_ru_addInput_0 rfl (lv_at hl 0 rfl) ?_
  replace h := bs h
  obtain ⟨x1, hx1, h⟩ := h
  refine gf_ru_28 hx hb hts hown hK hG hW (gI_s hx1) d_ru_addInput_1 ?_
  refine lv_bipush (v := (8 : Int32)) hx hb d_ru_addInput_4 (by decide) ?_
  refine lv_icmp_ge (tgt := 29) hx hb d_ru_addInput_6 (by decide) (fun c2 => ?_) (fun c2 => ?_)
  · rw [if_pos c2] at h
    exact j_ru_addInput_29 C w h _ _ _ hW (lv_sub hl [] rfl)
  · rw [if_neg c2] at h
    refine lv_aload_n hx hb d_ru_addInput_9 rfl (lv_at hl 0 rfl) ?_
    replace h := bs h
    obtain ⟨x3, hx3, h⟩ := h
    refine gf_ru_25 hx hb hts hown hK hG hW (gN_s hx3) d_ru_addInput_10 ?_
    refine lv_aload_n hx hb d_ru_addInput_13 rfl (lv_at hl 0 rfl) ?_
    replace h := bs h
    obtain ⟨x4, hx4, h⟩ := h
    refine gf_ru_28 hx hb hts hown hK hG hW (gI_s hx4) d_ru_addInput_14 ?_
    refine lv_iload_n hx hb d_ru_addInput_17 rfl (lv_at hl 1 rfl) ?_
    replace h := bs h
    obtain ⟨w5, hw5, h⟩ := h
    refine wo_iast hx hb hK hW (t := 0) rfl hw5 d_ru_addInput_18 (fun H locs hW => ?_)
    refine lv_aload_n hx hb d_ru_addInput_19 rfl (lv_at hl 0 rfl) ?_
    refine lv_dup hx hb d_ru_addInput_20 rfl ?_
    replace h := bs h
    obtain ⟨x6, hx6, h⟩ := h
    refine gf_ru_28 hx hb hts hown hK hG hW (gI_s hx6) d_ru_addInput_21 ?_
    refine lv_iconst (v := (1 : Int32)) hx hb d_ru_addInput_24 (by decide) ?_
    refine lv_iadd hx hb d_ru_addInput_25 ?_
    replace h := bs h
    obtain ⟨w7, hw7, h⟩ := h
    refine pf_ru_28 hx hb hts hown hK hG hW rfl rfl (pbi hw7 rfl) d_ru_addInput_26 (fun H locs hW => ?_)
    exact j_ru_addInput_29 C w7 h _ _ _ hW (lv_sub hl [] rfl)
theorem cv_a_94 {p : Program} {l : Launch} {e : Env} {R : Room} {s : State} {m : MethodId} {args : Array Value} {below : List Frame} {meth : Method} {c : Code} {H : Heap} {locs : List Loc} {cells slots : Nat} {Q : State → Prop} {D : va_G} {cA : Nat → ClassId} {base : Nat} {w w' : WW} {cc : ByteArray} {pc nL : Nat} {ls : Array Slot} {rest st0 As : List Value} {ov : Option Value} {b : Nat} (hx : p.tables.exec = Jvm.exec) (hb : c.code = cc) (hml : c.maxLocals = nL) (hown : s.vm.findClass Rc_a = some m.cls) (hts : ∀ w ∈ gt, w.before args s = true) (hK : va_K D cls (wo_tys cA) s) (hG : wo_G cA base s) (hW : wo_S D cls cA base s w H locs) (hM : mt l D cls (wo_tys cA) cA base y_ru_addInput (Cond.code y_ru_addInput b_ru_addInput 2 (none) :: gt) rm_ru_addInput (.ref (base + b) :: As) w ov w' rm_ru_addInput.cells rm_ru_addInput.slots) (hkb : kb w b 5 = true) (hR : rm_ru_addInput.frames + 1 ≤ R.frames ∧ 8 + (2 + 11) + rm_ru_addInput.locals ≤ R.locals) (hf : cells + rm_ru_addInput.cells ≤ R.cells ∧ slots + rm_ru_addInput.slots ≤ R.slots) (hn : As.length = 1) (hsz : ls.size = nL) (hst : st0 = As.reverse ++ .ref (base + b) :: rest) (hcat : (rest.map fun v => v.category).sum ≤ 8) (hdg : decode cc pc = .ok (.invokevirtual 94, 3)) (kk : ∀ (H1 : Heap) (locs1 : List Loc), wo_S D cls cA base s w' H1 locs1 → W p l e R s m args below meth c H1 locs1 (cells + rm_ru_addInput.cells) (slots + rm_ru_addInput.slots) Q (F0 m (pc + 3) ls (ov.toList ++ rest))) : W p l e R s m args below meth c H locs cells slots Q (F0 m pc ls st0) :=
  wo_callV (C := Rc_ru) hx hb hml hown hts hK hG hW hM hkb rfl (gt_of (i := 740) (by decide +kernel) (by decide +kernel)) (gt_of (i := 741) (by decide +kernel) (by decide +kernel)) (gt_of (i := 742) (by decide +kernel) (by decide +kernel)) (gt_of (i := 6) (by decide +kernel) (by decide +kernel)) (gt_of (i := 743) (by decide +kernel) (by decide +kernel)) (by decide +kernel) hR hf hn hsz hst hcat hdg kk
abbrev b_a_input : ByteArray := prog_1_method_9_code
def y_a_input : MethodName := ⟨"AlarmForge", "input", "(I)I"⟩
def rm_a_input : Room := { frames := 6, cells := 0, slots := 0, locals := 100 }
def rx_a_input : Room := { frames := 6, cells := 1, slots := 6, locals := 100 }
theorem d_a_input_0 : decode b_a_input 0 = .ok (.aload_n 0, 1) := by decide +kernel
theorem d_a_input_1 : decode b_a_input 1 = .ok (.getfield 43, 3) := by decide +kernel
theorem d_a_input_4 : decode b_a_input 4 = .ok (.getfield 91, 3) := by decide +kernel
theorem d_a_input_7 : decode b_a_input 7 = .ok (.bipush (8), 2) := by decide +kernel
theorem d_a_input_9 : decode b_a_input 9 = .ok (.if_icmp .lt (11), 3) := by decide +kernel
theorem d_a_input_12 : decode b_a_input 12 = .ok (.new 70, 3) := by decide +kernel
theorem d_a_input_15 : decode b_a_input 15 = .ok (.dup, 1) := by decide +kernel
theorem d_a_input_16 : decode b_a_input 16 = .ok (.invokespecial 72, 3) := by decide +kernel
theorem d_a_input_19 : decode b_a_input 19 = .ok (.athrow, 1) := by decide +kernel
theorem d_a_input_20 : decode b_a_input 20 = .ok (.aload_n 0, 1) := by decide +kernel
theorem d_a_input_21 : decode b_a_input 21 = .ok (.getfield 43, 3) := by decide +kernel
theorem d_a_input_24 : decode b_a_input 24 = .ok (.iload_n 1, 1) := by decide +kernel
theorem d_a_input_25 : decode b_a_input 25 = .ok (.invokevirtual 94, 3) := by decide +kernel
theorem d_a_input_28 : decode b_a_input 28 = .ok (.aload_n 0, 1) := by decide +kernel
theorem d_a_input_29 : decode b_a_input 29 = .ok (.getfield 43, 3) := by decide +kernel
theorem d_a_input_32 : decode b_a_input 32 = .ok (.getfield 91, 3) := by decide +kernel
theorem d_a_input_35 : decode b_a_input 35 = .ok (.ireturn, 1) := by decide +kernel
theorem kb_a_input {a0 : Nat} {a1 : Int32} {w : WW} {r : ((Int32 ⊕ String) × WW)} (h : f_a_input a0 a1 w = some r) : kb w a0 0 = true := (its h).1
set_option maxHeartbeats 4000000 in
set_option maxRecDepth 100000 in
theorem c_a_input (l : Launch) (D : va_G) (cA : Nat → ClassId) (base : Nat) {a0 : Nat} {a1 : Int32} {w w' : WW} {r : Int32} (h : f_a_input a0 a1 w = some (.inl r, w')) : mt l D cls (wo_tys cA) cA base y_a_input (Cond.code y_a_input b_a_input 2 (some .int) :: gt) rm_a_input [.ref (base + a0), .int a1] w (some (.int r)) w' rm_a_input.cells rm_a_input.slots := by
  refine mt_start (by decide) (Nat.le_of_ble_eq_true rfl) ?_
  intro p e s m below meth c ls hx hb hr hml hown hts hlk hnm hK hG hW hl
  have C : cx b_a_input (some .int) 2 y_a_input.cls "input" p s m [.ref (base + a0), .int a1].toArray meth c D cA base := ⟨hx, hb, hr, hml, hown, hts, hlk, hnm, hK, hG⟩
  have hl : lv_has ls 2 [(0, .ref (base + a0)), (1, .int a1)] := hl
  unfold f_a_input at h
  replace h := its h
  obtain ⟨-, h⟩ := h
  refine lv_aload_n hx hb d_a_input_0 rfl (lv_at hl 0 rfl) ?_
  replace h := bs h
  obtain ⟨x1, hx1, h⟩ := h
  refine gf_a_43 hx hb hts hown hK hG hW (gN_s hx1) d_a_input_1 ?_
  replace h := bs h
  obtain ⟨x2, hx2, h⟩ := h
  refine gf_a_91 hx hb hts hown hK hG hW (gI_s hx2) d_a_input_4 ?_
  refine lv_bipush (v := (8 : Int32)) hx hb d_a_input_7 (by decide) ?_
  refine lv_icmp_lt (tgt := 20) hx hb d_a_input_9 (by decide) (fun c3 => ?_) (fun c3 => ?_)
  · rw [if_pos c3] at h
    refine lv_aload_n hx hb d_a_input_20 rfl (lv_at hl 0 rfl) ?_
    replace h := bs h
    obtain ⟨x4, hx4, h⟩ := h
    refine gf_a_43 hx hb hts hown hK hG hW (gN_s hx4) d_a_input_21 ?_
    refine lv_iload_n hx hb d_a_input_24 rfl (lv_at hl 1 rfl) ?_
    replace h := bs h
    obtain ⟨w5, hw5, h⟩ := h
    refine cv_a_94 (As := [.int a1]) (rest := []) hx hb hml hown hts hK hG hW (c_ru_addInput l D cA base hw5) (kb_ru_addInput hw5) ⟨Nat.le_of_ble_eq_true rfl, Nat.le_of_ble_eq_true rfl⟩ ⟨Nat.le_of_ble_eq_true rfl, Nat.le_of_ble_eq_true rfl⟩ rfl hl.1 rfl (Nat.le_of_ble_eq_true rfl) d_a_input_25 (fun H locs hW => ?_)
    refine lv_aload_n hx hb d_a_input_28 rfl (lv_at hl 0 rfl) ?_
    replace h := bs h
    obtain ⟨x6, hx6, h⟩ := h
    refine gf_a_43 hx hb hts hown hK hG hW (gN_s hx6) d_a_input_29 ?_
    replace h := bs h
    obtain ⟨x7, hx7, h⟩ := h
    refine gf_a_91 hx hb hts hown hK hG hW (gI_s hx7) d_a_input_32 ?_
    cases h
    exact wo_iret hx hb hr hlk hW d_a_input_35
  · rw [if_neg c3] at h
    cases h
set_option maxHeartbeats 4000000 in
set_option maxRecDepth 100000 in
theorem x_a_input (l : Launch) (hst : l.stackTraces = false) (D : va_G) (cA : Nat → ClassId) (base : Nat) {a0 : Nat} {a1 : Int32} {w w' : WW} {E : String} (h : f_a_input a0 a1 w = some (.inr E, w')) : xt l D cls (wo_tys cA) cA base y_a_input (Cond.code y_a_input b_a_input 2 (some .int) :: gt) rx_a_input [.ref (base + a0), .int a1] w E w' rx_a_input.cells rx_a_input.slots := by
  refine xt_start (by decide) (Nat.le_of_ble_eq_true rfl) ?_
  intro p e s m below meth c ls hx hb hr hml hown hts hlk hnm hK hG hW hl hnt
  have C : cx b_a_input (some .int) 2 y_a_input.cls "input" p s m [.ref (base + a0), .int a1].toArray meth c D cA base ∧ (∀ x ∈ c.exceptionTable.toList, ∀ k : Nat, covers x k = false) ∧ l.stackTraces = false := ⟨⟨hx, hb, hr, hml, hown, hts, hlk, hnm, hK, hG⟩, hnt, hst⟩
  have hl : lv_has ls 2 [(0, .ref (base + a0)), (1, .int a1)] := hl
  unfold f_a_input at h
  replace h := its h
  obtain ⟨-, h⟩ := h
  refine lv_aload_n hx hb d_a_input_0 rfl (lv_at hl 0 rfl) ?_
  replace h := bs h
  obtain ⟨x1, hx1, h⟩ := h
  refine gf_a_43 hx hb hts hown hK hG hW (gN_s hx1) d_a_input_1 ?_
  replace h := bs h
  obtain ⟨x2, hx2, h⟩ := h
  refine gf_a_91 hx hb hts hown hK hG hW (gI_s hx2) d_a_input_4 ?_
  refine lv_bipush (v := (8 : Int32)) hx hb d_a_input_7 (by decide) ?_
  refine lv_icmp_lt (tgt := 20) hx hb d_a_input_9 (by decide) (fun c3 => ?_) (fun c3 => ?_)
  · rw [if_pos c3] at h
    refine lv_aload_n hx hb d_a_input_20 rfl (lv_at hl 0 rfl) ?_
    replace h := bs h
    obtain ⟨x4, hx4, h⟩ := h
    refine gf_a_43 hx hb hts hown hK hG hW (gN_s hx4) d_a_input_21 ?_
    refine lv_iload_n hx hb d_a_input_24 rfl (lv_at hl 1 rfl) ?_
    replace h := bs h
    obtain ⟨w5, hw5, h⟩ := h
    refine cv_a_94 (As := [.int a1]) (rest := []) hx hb hml hown hts hK hG hW (c_ru_addInput l D cA base hw5) (kb_ru_addInput hw5) ⟨Nat.le_of_ble_eq_true rfl, Nat.le_of_ble_eq_true rfl⟩ ⟨Nat.le_of_ble_eq_true rfl, Nat.le_of_ble_eq_true rfl⟩ rfl hl.1 rfl (Nat.le_of_ble_eq_true rfl) d_a_input_25 (fun H locs hW => ?_)
    refine lv_aload_n hx hb d_a_input_28 rfl (lv_at hl 0 rfl) ?_
    replace h := bs h
    obtain ⟨x6, hx6, h⟩ := h
    refine gf_a_43 hx hb hts hown hK hG hW (gN_s hx6) d_a_input_29 ?_
    replace h := bs h
    obtain ⟨x7, hx7, h⟩ := h
    refine gf_a_91 hx hb hts hown hK hG hW (gI_s hx7) d_a_input_32 ?_
    cases h
  · rw [if_neg c3] at h
    cases h
    exact wo_throw (names := ["java/lang/RuntimeException", "java/lang/Exception"]) hx hb hst hown hts hG hW hnt hlk (by decide) (by decide) (gt_of (i := 460) (by decide +kernel) (by decide +kernel)) (gt_of (i := 15) (by decide +kernel) (by decide +kernel)) ow_a_72 (hl.1.trans hml.symm) d_a_input_12 d_a_input_15 d_a_input_16 d_a_input_19 (Nat.le_of_ble_eq_true rfl) (Nat.le_of_ble_eq_true rfl) (Nat.le_of_ble_eq_true rfl) (Nat.le_of_ble_eq_true rfl) (Nat.le_of_ble_eq_true rfl) (Nat.le_of_ble_eq_true rfl)
abbrev b_ru_begin : ByteArray := prog_6_method_4_code
def y_ru_begin : MethodName := ⟨"AlarmForge$Runner", "begin", "()V"⟩
def rm_ru_begin : Room := { frames := 0, cells := 0, slots := 0, locals := 0 }
theorem d_ru_begin_0 : decode b_ru_begin 0 = .ok (.iconst 0, 1) := by decide +kernel
theorem d_ru_begin_1 : decode b_ru_begin 1 = .ok (.istore_n 1, 1) := by decide +kernel
theorem d_ru_begin_2 : decode b_ru_begin 2 = .ok (.iload_n 1, 1) := by decide +kernel
theorem d_ru_begin_3 : decode b_ru_begin 3 = .ok (.bipush (6), 2) := by decide +kernel
theorem d_ru_begin_5 : decode b_ru_begin 5 = .ok (.if_icmp .ge (23), 3) := by decide +kernel
theorem d_ru_begin_8 : decode b_ru_begin 8 = .ok (.aload_n 0, 1) := by decide +kernel
theorem d_ru_begin_9 : decode b_ru_begin 9 = .ok (.getfield 9, 3) := by decide +kernel
theorem d_ru_begin_12 : decode b_ru_begin 12 = .ok (.iload_n 1, 1) := by decide +kernel
theorem d_ru_begin_13 : decode b_ru_begin 13 = .ok (.iconst 0, 1) := by decide +kernel
theorem d_ru_begin_14 : decode b_ru_begin 14 = .ok (.iastore, 1) := by decide +kernel
theorem d_ru_begin_15 : decode b_ru_begin 15 = .ok (.aload_n 0, 1) := by decide +kernel
theorem d_ru_begin_16 : decode b_ru_begin 16 = .ok (.getfield 15, 3) := by decide +kernel
theorem d_ru_begin_19 : decode b_ru_begin 19 = .ok (.iload_n 1, 1) := by decide +kernel
theorem d_ru_begin_20 : decode b_ru_begin 20 = .ok (.iconst 1, 1) := by decide +kernel
theorem d_ru_begin_21 : decode b_ru_begin 21 = .ok (.bastore, 1) := by decide +kernel
theorem d_ru_begin_22 : decode b_ru_begin 22 = .ok (.iinc 1 (1), 3) := by decide +kernel
theorem d_ru_begin_25 : decode b_ru_begin 25 = .ok (.goto (-23), 3) := by decide +kernel
theorem d_ru_begin_28 : decode b_ru_begin 28 = .ok (.iconst 0, 1) := by decide +kernel
theorem d_ru_begin_29 : decode b_ru_begin 29 = .ok (.istore_n 1, 1) := by decide +kernel
theorem d_ru_begin_30 : decode b_ru_begin 30 = .ok (.iload_n 1, 1) := by decide +kernel
theorem d_ru_begin_31 : decode b_ru_begin 31 = .ok (.bipush (8), 2) := by decide +kernel
theorem d_ru_begin_33 : decode b_ru_begin 33 = .ok (.if_icmp .ge (16), 3) := by decide +kernel
theorem d_ru_begin_36 : decode b_ru_begin 36 = .ok (.aload_n 0, 1) := by decide +kernel
theorem d_ru_begin_37 : decode b_ru_begin 37 = .ok (.getfield 19, 3) := by decide +kernel
theorem d_ru_begin_40 : decode b_ru_begin 40 = .ok (.iload_n 1, 1) := by decide +kernel
theorem d_ru_begin_41 : decode b_ru_begin 41 = .ok (.iconst 0, 1) := by decide +kernel
theorem d_ru_begin_42 : decode b_ru_begin 42 = .ok (.iastore, 1) := by decide +kernel
theorem d_ru_begin_43 : decode b_ru_begin 43 = .ok (.iinc 1 (1), 3) := by decide +kernel
theorem d_ru_begin_46 : decode b_ru_begin 46 = .ok (.goto (-16), 3) := by decide +kernel
theorem d_ru_begin_49 : decode b_ru_begin 49 = .ok (.aload_n 0, 1) := by decide +kernel
theorem d_ru_begin_50 : decode b_ru_begin 50 = .ok (.iconst 0, 1) := by decide +kernel
theorem d_ru_begin_51 : decode b_ru_begin 51 = .ok (.putfield 52, 3) := by decide +kernel
theorem d_ru_begin_54 : decode b_ru_begin 54 = .ok (.aload_n 0, 1) := by decide +kernel
theorem d_ru_begin_55 : decode b_ru_begin 55 = .ok (.iconst 0, 1) := by decide +kernel
theorem d_ru_begin_56 : decode b_ru_begin 56 = .ok (.putfield 55, 3) := by decide +kernel
theorem d_ru_begin_59 : decode b_ru_begin 59 = .ok (.aload_n 0, 1) := by decide +kernel
theorem d_ru_begin_60 : decode b_ru_begin 60 = .ok (.iconst 0, 1) := by decide +kernel
theorem d_ru_begin_61 : decode b_ru_begin 61 = .ok (.putfield 58, 3) := by decide +kernel
theorem d_ru_begin_64 : decode b_ru_begin 64 = .ok (.return_, 1) := by decide +kernel
theorem kb_ru_begin {a0 : Nat}  {w : WW} {r : WW} (h : f_ru_begin a0 w = some r) : kb w a0 5 = true := (its h).1
set_option maxHeartbeats 4000000 in
set_option maxRecDepth 100000 in
theorem j_ru_begin_30 {p : Program} {l : Launch} {e : Env} {s : State} {m : MethodId} {args : Array Value} {below : List Frame} {meth : Method} {c : Code} {D : va_G} {cA : Nat → ClassId} {base : Nat} {w' : WW} (C : cx b_ru_begin (none) 2 y_ru_begin.cls "begin" p s m args meth c D cA base)   : ∀ n : Nat, ∀ (y0 : Nat) (y1 : Int32) (w : WW), f_ru_begin_30 n y0 y1 w = some w' → ∀ (H : Heap) (locs : List Loc) (ls : Array Slot), wo_S D cls cA base s w H locs → lv_has ls 2 [(0, .ref (base + y0)), (1, .int y1)] → W p l e rm_ru_begin s m args below meth c H locs 0 0 (MQ below (wo_Q D cls cA base none w') args s rm_ru_begin.cells rm_ru_begin.slots (wo_B base)) (F0 m 30 ls []) := by
  obtain ⟨hx, hb, hr, hml, hown, hts, hlk, hnm, hK, hG⟩ := id C
  intro n
  induction n with
  | zero => intro y0 y1 w h; cases h
  | succ n ih =>
    intro y0 y1 w h H locs ls hW hl
    rw [f_ru_begin_30] at h
    refine lv_iload_n hx hb d_ru_begin_30 rfl (lv_at hl 1 rfl) ?_
    refine lv_bipush (v := (8 : Int32)) hx hb d_ru_begin_31 (by decide) ?_
    refine lv_icmp_ge (tgt := 49) hx hb d_ru_begin_33 (by decide) (fun c2 => ?_) (fun c2 => ?_)
    · rw [if_pos c2] at h
      refine lv_aload_n hx hb d_ru_begin_49 rfl (lv_at hl 0 rfl) ?_
      refine lv_iconst (v := (0 : Int32)) hx hb d_ru_begin_50 (by decide) ?_
      replace h := bs h
      obtain ⟨w3, hw3, h⟩ := h
      refine pf_ru_52 hx hb hts hown hK hG hW rfl rfl (pbi hw3 rfl) d_ru_begin_51 (fun H locs hW => ?_)
      refine lv_aload_n hx hb d_ru_begin_54 rfl (lv_at hl 0 rfl) ?_
      refine lv_iconst (v := (0 : Int32)) hx hb d_ru_begin_55 (by decide) ?_
      replace h := bs h
      obtain ⟨w4, hw4, h⟩ := h
      refine pf_ru_55 hx hb hts hown hK hG hW rfl rfl (pbi hw4 rfl) d_ru_begin_56 (fun H locs hW => ?_)
      refine lv_aload_n hx hb d_ru_begin_59 rfl (lv_at hl 0 rfl) ?_
      refine lv_iconst (v := (0 : Int32)) hx hb d_ru_begin_60 (by decide) ?_
      replace h := bs h
      obtain ⟨w5, hw5, h⟩ := h
      refine pf_ru_58 hx hb hts hown hK hG hW rfl rfl (pbi hw5 rfl) d_ru_begin_61 (fun H locs hW => ?_)
      cases h
      exact wo_vret hx hb hr hlk hW d_ru_begin_64
    · rw [if_neg c2] at h
      refine lv_aload_n hx hb d_ru_begin_36 rfl (lv_at hl 0 rfl) ?_
      replace h := bs h
      obtain ⟨x6, hx6, h⟩ := h
      refine gf_ru_19 hx hb hts hown hK hG hW (gN_s hx6) d_ru_begin_37 ?_
      refine lv_iload_n hx hb d_ru_begin_40 rfl (lv_at hl 1 rfl) ?_
      refine lv_iconst (v := (0 : Int32)) hx hb d_ru_begin_41 (by decide) ?_
      replace h := bs h
      obtain ⟨w7, hw7, h⟩ := h
      refine wo_iast hx hb hK hW (t := 0) rfl hw7 d_ru_begin_42 (fun H locs hW => ?_)
      refine lv_iinc (v := (y1 + (1 : Int32))) (lv' := [(1, .int (y1 + (1 : Int32))), (0, .ref (base + y0))]) hx hb d_ru_begin_43 hl (k := 1) rfl rfl (by decide) rfl (fun ls hl => ?_)
      refine lv_goto (tgt := 30) hx hb d_ru_begin_46 (by decide) ?_
      exact ih y0 (y1 + (1 : Int32)) w7 h _ _ _ hW (lv_sub hl [1, 0] rfl)
set_option maxHeartbeats 4000000 in
set_option maxRecDepth 100000 in
theorem j_ru_begin_2 {p : Program} {l : Launch} {e : Env} {s : State} {m : MethodId} {args : Array Value} {below : List Frame} {meth : Method} {c : Code} {D : va_G} {cA : Nat → ClassId} {base : Nat} {w' : WW} (C : cx b_ru_begin (none) 2 y_ru_begin.cls "begin" p s m args meth c D cA base)   : ∀ n : Nat, ∀ (y0 : Nat) (y1 : Int32) (w : WW), f_ru_begin_2 n y0 y1 w = some w' → ∀ (H : Heap) (locs : List Loc) (ls : Array Slot), wo_S D cls cA base s w H locs → lv_has ls 2 [(0, .ref (base + y0)), (1, .int y1)] → W p l e rm_ru_begin s m args below meth c H locs 0 0 (MQ below (wo_Q D cls cA base none w') args s rm_ru_begin.cells rm_ru_begin.slots (wo_B base)) (F0 m 2 ls []) := by
  obtain ⟨hx, hb, hr, hml, hown, hts, hlk, hnm, hK, hG⟩ := id C
  intro n
  induction n with
  | zero => intro y0 y1 w h; cases h
  | succ n ih =>
    intro y0 y1 w h H locs ls hW hl
    rw [f_ru_begin_2] at h
    refine lv_iload_n hx hb d_ru_begin_2 rfl (lv_at hl 1 rfl) ?_
    refine lv_bipush (v := (6 : Int32)) hx hb d_ru_begin_3 (by decide) ?_
    refine lv_icmp_ge (tgt := 28) hx hb d_ru_begin_5 (by decide) (fun c1 => ?_) (fun c1 => ?_)
    · rw [if_pos c1] at h
      refine lv_iconst (v := (0 : Int32)) hx hb d_ru_begin_28 (by decide) ?_
      refine lv_istore_n (lv' := [(1, .int (0 : Int32)), (0, .ref (base + y0))]) hx hb d_ru_begin_29 rfl hl (by decide) rfl (fun ls hl => ?_)
      exact j_ru_begin_30 C KK y0 (0 : Int32) w h _ _ _ hW (lv_sub hl [1, 0] rfl)
    · rw [if_neg c1] at h
      refine lv_aload_n hx hb d_ru_begin_8 rfl (lv_at hl 0 rfl) ?_
      replace h := bs h
      obtain ⟨x8, hx8, h⟩ := h
      refine gf_ru_9 hx hb hts hown hK hG hW (gN_s hx8) d_ru_begin_9 ?_
      refine lv_iload_n hx hb d_ru_begin_12 rfl (lv_at hl 1 rfl) ?_
      refine lv_iconst (v := (0 : Int32)) hx hb d_ru_begin_13 (by decide) ?_
      replace h := bs h
      obtain ⟨w9, hw9, h⟩ := h
      refine wo_iast hx hb hK hW (t := 0) rfl hw9 d_ru_begin_14 (fun H locs hW => ?_)
      refine lv_aload_n hx hb d_ru_begin_15 rfl (lv_at hl 0 rfl) ?_
      replace h := bs h
      obtain ⟨x10, hx10, h⟩ := h
      refine gf_ru_15 hx hb hts hown hK hG hW (gN_s hx10) d_ru_begin_16 ?_
      refine lv_iload_n hx hb d_ru_begin_19 rfl (lv_at hl 1 rfl) ?_
      refine lv_iconst (v := (1 : Int32)) hx hb d_ru_begin_20 (by decide) ?_
      replace h := bs h
      obtain ⟨w11, hw11, h⟩ := h
      refine wo_zast hx hb hK hW (t := 2) rfl hw11 d_ru_begin_21 (fun H locs hW => ?_)
      refine lv_iinc (v := (y1 + (1 : Int32))) (lv' := [(1, .int (y1 + (1 : Int32))), (0, .ref (base + y0))]) hx hb d_ru_begin_22 hl (k := 1) rfl rfl (by decide) rfl (fun ls hl => ?_)
      refine lv_goto (tgt := 2) hx hb d_ru_begin_25 (by decide) ?_
      exact ih y0 (y1 + (1 : Int32)) w11 h _ _ _ hW (lv_sub hl [1, 0] rfl)
set_option maxHeartbeats 4000000 in
set_option maxRecDepth 100000 in
theorem c_ru_begin (l : Launch) (D : va_G) (cA : Nat → ClassId) (base : Nat) {a0 : Nat} {w w' : WW} (h : f_ru_begin a0 w = some w') : mt l D cls (wo_tys cA) cA base y_ru_begin (Cond.code y_ru_begin b_ru_begin 2 (none) :: gt) rm_ru_begin [.ref (base + a0)] w none w' rm_ru_begin.cells rm_ru_begin.slots := by
  refine mt_start (by decide) (Nat.le_of_ble_eq_true rfl) ?_
  intro p e s m below meth c ls hx hb hr hml hown hts hlk hnm hK hG hW hl
  have C : cx b_ru_begin (none) 2 y_ru_begin.cls "begin" p s m [.ref (base + a0)].toArray meth c D cA base := ⟨hx, hb, hr, hml, hown, hts, hlk, hnm, hK, hG⟩
  have hl : lv_has ls 2 [(0, .ref (base + a0))] := hl
  unfold f_ru_begin at h
  replace h := its h
  obtain ⟨-, h⟩ := h
  refine lv_iconst (v := (0 : Int32)) hx hb d_ru_begin_0 (by decide) ?_
  refine lv_istore_n (lv' := [(1, .int (0 : Int32)), (0, .ref (base + a0))]) hx hb d_ru_begin_1 rfl hl (by decide) rfl (fun ls hl => ?_)
  exact j_ru_begin_2 C KK a0 (0 : Int32) w h _ _ _ hW (lv_sub hl [1, 0] rfl)
abbrev b_ru_mayBegin : ByteArray := prog_6_method_6_code
def y_ru_mayBegin : MethodName := ⟨"AlarmForge$Runner", "mayBegin", "()Z"⟩
def rm_ru_mayBegin : Room := { frames := 0, cells := 0, slots := 0, locals := 0 }
theorem d_ru_mayBegin_0 : decode b_ru_mayBegin 0 = .ok (.aload_n 0, 1) := by decide +kernel
theorem d_ru_mayBegin_1 : decode b_ru_mayBegin 1 = .ok (.getfield 52, 3) := by decide +kernel
theorem d_ru_mayBegin_4 : decode b_ru_mayBegin 4 = .ok (.aload_n 0, 1) := by decide +kernel
theorem d_ru_mayBegin_5 : decode b_ru_mayBegin 5 = .ok (.getfield 36, 3) := by decide +kernel
theorem d_ru_mayBegin_8 : decode b_ru_mayBegin 8 = .ok (.if_icmp .lt (5), 3) := by decide +kernel
theorem d_ru_mayBegin_11 : decode b_ru_mayBegin 11 = .ok (.iconst 0, 1) := by decide +kernel
theorem d_ru_mayBegin_12 : decode b_ru_mayBegin 12 = .ok (.ireturn, 1) := by decide +kernel
theorem d_ru_mayBegin_13 : decode b_ru_mayBegin 13 = .ok (.aload_n 0, 1) := by decide +kernel
theorem d_ru_mayBegin_14 : decode b_ru_mayBegin 14 = .ok (.dup, 1) := by decide +kernel
theorem d_ru_mayBegin_15 : decode b_ru_mayBegin 15 = .ok (.getfield 52, 3) := by decide +kernel
theorem d_ru_mayBegin_18 : decode b_ru_mayBegin 18 = .ok (.iconst 1, 1) := by decide +kernel
theorem d_ru_mayBegin_19 : decode b_ru_mayBegin 19 = .ok (.iadd, 1) := by decide +kernel
theorem d_ru_mayBegin_20 : decode b_ru_mayBegin 20 = .ok (.putfield 52, 3) := by decide +kernel
theorem d_ru_mayBegin_23 : decode b_ru_mayBegin 23 = .ok (.iconst 1, 1) := by decide +kernel
theorem d_ru_mayBegin_24 : decode b_ru_mayBegin 24 = .ok (.ireturn, 1) := by decide +kernel
theorem kb_ru_mayBegin {a0 : Nat}  {w : WW} {r : (Int32 × WW)} (h : f_ru_mayBegin a0 w = some r) : kb w a0 5 = true := (its h).1
set_option maxHeartbeats 4000000 in
set_option maxRecDepth 100000 in
theorem c_ru_mayBegin (l : Launch) (D : va_G) (cA : Nat → ClassId) (base : Nat) {a0 : Nat} {w w' : WW} {r : Int32} (h : f_ru_mayBegin a0 w = some (r, w')) : mt l D cls (wo_tys cA) cA base y_ru_mayBegin (Cond.code y_ru_mayBegin b_ru_mayBegin 1 (some .boolean) :: gt) rm_ru_mayBegin [.ref (base + a0)] w (some (.int r)) w' rm_ru_mayBegin.cells rm_ru_mayBegin.slots := by
  refine mt_start (by decide) (Nat.le_of_ble_eq_true rfl) ?_
  intro p e s m below meth c ls hx hb hr hml hown hts hlk hnm hK hG hW hl
  have C : cx b_ru_mayBegin (some .boolean) 1 y_ru_mayBegin.cls "mayBegin" p s m [.ref (base + a0)].toArray meth c D cA base := ⟨hx, hb, hr, hml, hown, hts, hlk, hnm, hK, hG⟩
  have hl : lv_has ls 1 [(0, .ref (base + a0))] := hl
  unfold f_ru_mayBegin at h
  replace h := its h
  obtain ⟨-, h⟩ := h
  refine lv_aload_n hx hb d_ru_mayBegin_0 rfl (lv_at hl 0 rfl) ?_
  replace h := bs h
  obtain ⟨x1, hx1, h⟩ := h
  refine gf_ru_52 hx hb hts hown hK hG hW (gI_s hx1) d_ru_mayBegin_1 ?_
  refine lv_aload_n hx hb d_ru_mayBegin_4 rfl (lv_at hl 0 rfl) ?_
  replace h := bs h
  obtain ⟨x2, hx2, h⟩ := h
  refine gf_ru_36 hx hb hts hown hK hG hW (gI_s hx2) d_ru_mayBegin_5 ?_
  refine lv_icmp_lt (tgt := 13) hx hb d_ru_mayBegin_8 (by decide) (fun c3 => ?_) (fun c3 => ?_)
  · rw [if_pos c3] at h
    refine lv_aload_n hx hb d_ru_mayBegin_13 rfl (lv_at hl 0 rfl) ?_
    refine lv_dup hx hb d_ru_mayBegin_14 rfl ?_
    replace h := bs h
    obtain ⟨x4, hx4, h⟩ := h
    refine gf_ru_52 hx hb hts hown hK hG hW (gI_s hx4) d_ru_mayBegin_15 ?_
    refine lv_iconst (v := (1 : Int32)) hx hb d_ru_mayBegin_18 (by decide) ?_
    refine lv_iadd hx hb d_ru_mayBegin_19 ?_
    replace h := bs h
    obtain ⟨w5, hw5, h⟩ := h
    refine pf_ru_52 hx hb hts hown hK hG hW rfl rfl (pbi hw5 rfl) d_ru_mayBegin_20 (fun H locs hW => ?_)
    refine lv_iconst (v := (1 : Int32)) hx hb d_ru_mayBegin_23 (by decide) ?_
    replace h := its h
    obtain ⟨c6, h⟩ := h
    cases h
    exact wo_zret hx hb hr hlk hW c6 d_ru_mayBegin_24
  · rw [if_neg c3] at h
    refine lv_iconst (v := (0 : Int32)) hx hb d_ru_mayBegin_11 (by decide) ?_
    replace h := its h
    obtain ⟨c7, h⟩ := h
    cases h
    exact wo_zret hx hb hr hlk hW c7 d_ru_mayBegin_12
abbrev b_pg_growthOf : ByteArray := prog_4_method_5_code
def y_pg_growthOf : MethodName := ⟨"AlarmForge$Program", "growthOf", "(I)I"⟩
def rm_pg_growthOf : Room := { frames := 0, cells := 0, slots := 0, locals := 0 }
theorem d_pg_growthOf_0 : decode b_pg_growthOf 0 = .ok (.aload_n 0, 1) := by decide +kernel
theorem d_pg_growthOf_1 : decode b_pg_growthOf 1 = .ok (.getfield 18, 3) := by decide +kernel
theorem d_pg_growthOf_4 : decode b_pg_growthOf 4 = .ok (.iload_n 1, 1) := by decide +kernel
theorem d_pg_growthOf_5 : decode b_pg_growthOf 5 = .ok (.iaload, 1) := by decide +kernel
theorem d_pg_growthOf_6 : decode b_pg_growthOf 6 = .ok (.istore_n 2, 1) := by decide +kernel
theorem d_pg_growthOf_7 : decode b_pg_growthOf 7 = .ok (.iload_n 2, 1) := by decide +kernel
theorem d_pg_growthOf_8 : decode b_pg_growthOf 8 = .ok (.iconst 1, 1) := by decide +kernel
theorem d_pg_growthOf_9 : decode b_pg_growthOf 9 = .ok (.if_icmp .eq (8), 3) := by decide +kernel
theorem d_pg_growthOf_12 : decode b_pg_growthOf 12 = .ok (.iload_n 2, 1) := by decide +kernel
theorem d_pg_growthOf_13 : decode b_pg_growthOf 13 = .ok (.iconst 2, 1) := by decide +kernel
theorem d_pg_growthOf_14 : decode b_pg_growthOf 14 = .ok (.if_icmp .ne (5), 3) := by decide +kernel
theorem d_pg_growthOf_17 : decode b_pg_growthOf 17 = .ok (.iconst 1, 1) := by decide +kernel
theorem d_pg_growthOf_18 : decode b_pg_growthOf 18 = .ok (.ireturn, 1) := by decide +kernel
theorem d_pg_growthOf_19 : decode b_pg_growthOf 19 = .ok (.iload_n 2, 1) := by decide +kernel
theorem d_pg_growthOf_20 : decode b_pg_growthOf 20 = .ok (.iconst 3, 1) := by decide +kernel
theorem d_pg_growthOf_21 : decode b_pg_growthOf 21 = .ok (.if_icmp .eq (10), 3) := by decide +kernel
theorem d_pg_growthOf_24 : decode b_pg_growthOf 24 = .ok (.iload_n 2, 1) := by decide +kernel
theorem d_pg_growthOf_25 : decode b_pg_growthOf 25 = .ok (.sipush (259), 3) := by decide +kernel
theorem d_pg_growthOf_28 : decode b_pg_growthOf 28 = .ok (.if_icmp .ne (7), 3) := by decide +kernel
theorem d_pg_growthOf_31 : decode b_pg_growthOf 31 = .ok (.iconst 0, 1) := by decide +kernel
theorem d_pg_growthOf_32 : decode b_pg_growthOf 32 = .ok (.goto (4), 3) := by decide +kernel
theorem d_pg_growthOf_35 : decode b_pg_growthOf 35 = .ok (.iconst (-1), 1) := by decide +kernel
theorem d_pg_growthOf_36 : decode b_pg_growthOf 36 = .ok (.ireturn, 1) := by decide +kernel
theorem kb_pg_growthOf {a0 : Nat} {a1 : Int32} {w : WW} {r : (Int32 × WW)} (h : f_pg_growthOf a0 a1 w = some r) : kb w a0 3 = true := (its h).1
set_option maxHeartbeats 4000000 in
set_option maxRecDepth 100000 in
theorem j_pg_growthOf_17 {p : Program} {l : Launch} {e : Env} {s : State} {m : MethodId} {args : Array Value} {below : List Frame} {meth : Method} {c : Code} {D : va_G} {cA : Nat → ClassId} {base : Nat} {r : Int32} {w' : WW} (C : cx b_pg_growthOf (some .int) 3 y_pg_growthOf.cls "growthOf" p s m args meth c D cA base)   : ∀  (w : WW), f_pg_growthOf_17  w = some (r, w') → ∀ (H : Heap) (locs : List Loc) (ls : Array Slot), wo_S D cls cA base s w H locs → lv_has ls 3 [] → W p l e rm_pg_growthOf s m args below meth c H locs 0 0 (MQ below (wo_Q D cls cA base (some (.int r)) w') args s rm_pg_growthOf.cells rm_pg_growthOf.slots (wo_B base)) (F0 m 17 ls []) := by
  obtain ⟨hx, hb, hr, hml, hown, hts, hlk, hnm, hK, hG⟩ := id C
  intro  w h H locs ls hW hl
  unfold f_pg_growthOf_17 at h
  refine lv_iconst (v := (1 : Int32)) hx hb d_pg_growthOf_17 (by decide) ?_
  cases h
  exact wo_iret hx hb hr hlk hW d_pg_growthOf_18
set_option maxHeartbeats 4000000 in
set_option maxRecDepth 100000 in
theorem j_pg_growthOf_36 {p : Program} {l : Launch} {e : Env} {s : State} {m : MethodId} {args : Array Value} {below : List Frame} {meth : Method} {c : Code} {D : va_G} {cA : Nat → ClassId} {base : Nat} {r : Int32} {w' : WW} (C : cx b_pg_growthOf (some .int) 3 y_pg_growthOf.cls "growthOf" p s m args meth c D cA base)   : ∀ (z0 : Int32) (w : WW), f_pg_growthOf_36 z0 w = some (r, w') → ∀ (H : Heap) (locs : List Loc) (ls : Array Slot), wo_S D cls cA base s w H locs → lv_has ls 3 [] → W p l e rm_pg_growthOf s m args below meth c H locs 0 0 (MQ below (wo_Q D cls cA base (some (.int r)) w') args s rm_pg_growthOf.cells rm_pg_growthOf.slots (wo_B base)) (F0 m 36 ls [.int z0]) := by
  obtain ⟨hx, hb, hr, hml, hown, hts, hlk, hnm, hK, hG⟩ := id C
  intro z0 w h H locs ls hW hl
  unfold f_pg_growthOf_36 at h
  cases h
  exact wo_iret hx hb hr hlk hW d_pg_growthOf_36
set_option maxHeartbeats 4000000 in
set_option maxRecDepth 100000 in
theorem j_pg_growthOf_31 {p : Program} {l : Launch} {e : Env} {s : State} {m : MethodId} {args : Array Value} {below : List Frame} {meth : Method} {c : Code} {D : va_G} {cA : Nat → ClassId} {base : Nat} {r : Int32} {w' : WW} (C : cx b_pg_growthOf (some .int) 3 y_pg_growthOf.cls "growthOf" p s m args meth c D cA base)   : ∀  (w : WW), f_pg_growthOf_31  w = some (r, w') → ∀ (H : Heap) (locs : List Loc) (ls : Array Slot), wo_S D cls cA base s w H locs → lv_has ls 3 [] → W p l e rm_pg_growthOf s m args below meth c H locs 0 0 (MQ below (wo_Q D cls cA base (some (.int r)) w') args s rm_pg_growthOf.cells rm_pg_growthOf.slots (wo_B base)) (F0 m 31 ls []) := by
  obtain ⟨hx, hb, hr, hml, hown, hts, hlk, hnm, hK, hG⟩ := id C
  intro  w h H locs ls hW hl
  unfold f_pg_growthOf_31 at h
  refine lv_iconst (v := (0 : Int32)) hx hb d_pg_growthOf_31 (by decide) ?_
  refine lv_goto (tgt := 36) hx hb d_pg_growthOf_32 (by decide) ?_
  exact j_pg_growthOf_36 C (0 : Int32) w h _ _ _ hW (lv_sub hl [] rfl)
set_option maxHeartbeats 4000000 in
set_option maxRecDepth 100000 in
theorem c_pg_growthOf (l : Launch) (D : va_G) (cA : Nat → ClassId) (base : Nat) {a0 : Nat} {a1 : Int32} {w w' : WW} {r : Int32} (h : f_pg_growthOf a0 a1 w = some (r, w')) : mt l D cls (wo_tys cA) cA base y_pg_growthOf (Cond.code y_pg_growthOf b_pg_growthOf 3 (some .int) :: gt) rm_pg_growthOf [.ref (base + a0), .int a1] w (some (.int r)) w' rm_pg_growthOf.cells rm_pg_growthOf.slots := by
  refine mt_start (by decide) (Nat.le_of_ble_eq_true rfl) ?_
  intro p e s m below meth c ls hx hb hr hml hown hts hlk hnm hK hG hW hl
  have C : cx b_pg_growthOf (some .int) 3 y_pg_growthOf.cls "growthOf" p s m [.ref (base + a0), .int a1].toArray meth c D cA base := ⟨hx, hb, hr, hml, hown, hts, hlk, hnm, hK, hG⟩
  have hl : lv_has ls 3 [(0, .ref (base + a0)), (1, .int a1)] := hl
  unfold f_pg_growthOf at h
  replace h := its h
  obtain ⟨-, h⟩ := h
  refine lv_aload_n hx hb d_pg_growthOf_0 rfl (lv_at hl 0 rfl) ?_
  replace h := bs h
  obtain ⟨x1, hx1, h⟩ := h
  refine gf_pg_18 hx hb hts hown hK hG hW (gN_s hx1) d_pg_growthOf_1 ?_
  refine lv_iload_n hx hb d_pg_growthOf_4 rfl (lv_at hl 1 rfl) ?_
  replace h := bs h
  obtain ⟨x2, hx2, h⟩ := h
  refine wo_iald hx hb hK hW (t := 0) rfl hx2 d_pg_growthOf_5 ?_
  refine lv_istore_n (lv' := [(2, .int x2), (0, .ref (base + a0)), (1, .int a1)]) hx hb d_pg_growthOf_6 rfl hl (by decide) rfl (fun ls hl => ?_)
  refine lv_iload_n hx hb d_pg_growthOf_7 rfl (lv_at hl 0 rfl) ?_
  refine lv_iconst (v := (1 : Int32)) hx hb d_pg_growthOf_8 (by decide) ?_
  refine lv_icmp_eq (tgt := 17) hx hb d_pg_growthOf_9 (by decide) (fun c3 => ?_) (fun c3 => ?_)
  · rw [if_pos c3] at h
    exact j_pg_growthOf_17 C w h _ _ _ hW (lv_sub hl [] rfl)
  · rw [if_neg c3] at h
    refine lv_iload_n hx hb d_pg_growthOf_12 rfl (lv_at hl 0 rfl) ?_
    refine lv_iconst (v := (2 : Int32)) hx hb d_pg_growthOf_13 (by decide) ?_
    refine lv_icmp_ne (tgt := 19) hx hb d_pg_growthOf_14 (by decide) (fun c4 => ?_) (fun c4 => ?_)
    · rw [if_neg c4] at h
      refine lv_iload_n hx hb d_pg_growthOf_19 rfl (lv_at hl 0 rfl) ?_
      refine lv_iconst (v := (3 : Int32)) hx hb d_pg_growthOf_20 (by decide) ?_
      refine lv_icmp_eq (tgt := 31) hx hb d_pg_growthOf_21 (by decide) (fun c5 => ?_) (fun c5 => ?_)
      · rw [if_pos c5] at h
        exact j_pg_growthOf_31 C w h _ _ _ hW (lv_sub hl [] rfl)
      · rw [if_neg c5] at h
        refine lv_iload_n hx hb d_pg_growthOf_24 rfl (lv_at hl 0 rfl) ?_
        refine lv_sipush (v := (259 : Int32)) hx hb d_pg_growthOf_25 (by decide) ?_
        refine lv_icmp_ne (tgt := 35) hx hb d_pg_growthOf_28 (by decide) (fun c6 => ?_) (fun c6 => ?_)
        · rw [if_neg c6] at h
          refine lv_iconst (v := (-1 : Int32)) hx hb d_pg_growthOf_35 (by decide) ?_
          exact j_pg_growthOf_36 C (-1 : Int32) w h _ _ _ hW (lv_sub hl [] rfl)
        · rw [if_pos c6] at h
          exact j_pg_growthOf_31 C w h _ _ _ hW (lv_sub hl [] rfl)
    · rw [if_pos c4] at h
      exact j_pg_growthOf_17 C w h _ _ _ hW (lv_sub hl [] rfl)
abbrev b_ru_fail : ByteArray := prog_6_method_19_code
def y_ru_fail : MethodName := ⟨"AlarmForge$Runner", "fail", "(II)V"⟩
def rm_ru_fail : Room := { frames := 6, cells := 0, slots := 0, locals := 100 }
def rx_ru_fail : Room := { frames := 6, cells := 1, slots := 6, locals := 100 }
theorem ow_ru_163 : (Bundle.ownAtoms0 "AlarmForge$Runner" 163 "java/lang/IllegalStateException" ["java/lang/RuntimeException", "java/lang/Exception"]).all ow_ok = true := by decide +kernel
theorem ow_ru_166 : (Bundle.ownAtoms0 "AlarmForge$Runner" 166 "java/lang/IndexOutOfBoundsException" ["java/lang/RuntimeException", "java/lang/Exception"]).all ow_ok = true := by decide +kernel
theorem ow_ru_169 : (Bundle.ownAtoms0 "AlarmForge$Runner" 169 "java/lang/UnsupportedOperationException" ["java/lang/RuntimeException", "java/lang/Exception"]).all ow_ok = true := by decide +kernel
theorem ow_ru_172 : (Bundle.ownAtoms0 "AlarmForge$Runner" 172 "java/lang/ArithmeticException" ["java/lang/RuntimeException", "java/lang/Exception"]).all ow_ok = true := by decide +kernel
theorem d_ru_fail_0 : decode b_ru_fail 0 = .ok (.aload_n 0, 1) := by decide +kernel
theorem d_ru_fail_1 : decode b_ru_fail 1 = .ok (.sipush (1024), 3) := by decide +kernel
theorem d_ru_fail_4 : decode b_ru_fail 4 = .ok (.iload_n 1, 1) := by decide +kernel
theorem d_ru_fail_5 : decode b_ru_fail 5 = .ok (.imul, 1) := by decide +kernel
theorem d_ru_fail_6 : decode b_ru_fail 6 = .ok (.iload_n 2, 1) := by decide +kernel
theorem d_ru_fail_7 : decode b_ru_fail 7 = .ok (.iadd, 1) := by decide +kernel
theorem d_ru_fail_8 : decode b_ru_fail 8 = .ok (.putfield 58, 3) := by decide +kernel
theorem d_ru_fail_11 : decode b_ru_fail 11 = .ok (.iload_n 1, 1) := by decide +kernel
theorem d_ru_fail_12 : decode b_ru_fail 12 = .ok (.tableswitch (60) (1) (5) #[36, 44, 60, 60, 52], 36) := by decide +kernel
theorem d_ru_fail_48 : decode b_ru_fail 48 = .ok (.new 161, 3) := by decide +kernel
theorem d_ru_fail_51 : decode b_ru_fail 51 = .ok (.dup, 1) := by decide +kernel
theorem d_ru_fail_52 : decode b_ru_fail 52 = .ok (.invokespecial 163, 3) := by decide +kernel
theorem d_ru_fail_55 : decode b_ru_fail 55 = .ok (.athrow, 1) := by decide +kernel
theorem d_ru_fail_56 : decode b_ru_fail 56 = .ok (.new 164, 3) := by decide +kernel
theorem d_ru_fail_59 : decode b_ru_fail 59 = .ok (.dup, 1) := by decide +kernel
theorem d_ru_fail_60 : decode b_ru_fail 60 = .ok (.invokespecial 166, 3) := by decide +kernel
theorem d_ru_fail_63 : decode b_ru_fail 63 = .ok (.athrow, 1) := by decide +kernel
theorem d_ru_fail_64 : decode b_ru_fail 64 = .ok (.new 167, 3) := by decide +kernel
theorem d_ru_fail_67 : decode b_ru_fail 67 = .ok (.dup, 1) := by decide +kernel
theorem d_ru_fail_68 : decode b_ru_fail 68 = .ok (.invokespecial 169, 3) := by decide +kernel
theorem d_ru_fail_71 : decode b_ru_fail 71 = .ok (.athrow, 1) := by decide +kernel
theorem d_ru_fail_72 : decode b_ru_fail 72 = .ok (.new 170, 3) := by decide +kernel
theorem d_ru_fail_75 : decode b_ru_fail 75 = .ok (.dup, 1) := by decide +kernel
theorem d_ru_fail_76 : decode b_ru_fail 76 = .ok (.invokespecial 172, 3) := by decide +kernel
theorem d_ru_fail_79 : decode b_ru_fail 79 = .ok (.athrow, 1) := by decide +kernel
theorem kb_ru_fail {a0 : Nat} {a1 : Int32} {a2 : Int32} {w : WW} {r : ((Unit ⊕ String) × WW)} (h : f_ru_fail a0 a1 a2 w = some r) : kb w a0 5 = true := (its h).1
set_option maxHeartbeats 4000000 in
set_option maxRecDepth 100000 in
theorem c_ru_fail (l : Launch) (D : va_G) (cA : Nat → ClassId) (base : Nat) {a0 : Nat} {a1 : Int32} {a2 : Int32} {w w' : WW} (h : f_ru_fail a0 a1 a2 w = some (.inl (), w')) : mt l D cls (wo_tys cA) cA base y_ru_fail (Cond.code y_ru_fail b_ru_fail 3 (none) :: gt) rm_ru_fail [.ref (base + a0), .int a1, .int a2] w none w' rm_ru_fail.cells rm_ru_fail.slots := by
  refine mt_start (by decide) (Nat.le_of_ble_eq_true rfl) ?_
  intro p e s m below meth c ls hx hb hr hml hown hts hlk hnm hK hG hW hl
  have C : cx b_ru_fail (none) 3 y_ru_fail.cls "fail" p s m [.ref (base + a0), .int a1, .int a2].toArray meth c D cA base := ⟨hx, hb, hr, hml, hown, hts, hlk, hnm, hK, hG⟩
  have hl : lv_has ls 3 [(0, .ref (base + a0)), (1, .int a1), (2, .int a2)] := hl
  unfold f_ru_fail at h
  replace h := its h
  obtain ⟨-, h⟩ := h
  refine lv_aload_n hx hb d_ru_fail_0 rfl (lv_at hl 0 rfl) ?_
  refine lv_sipush (v := (1024 : Int32)) hx hb d_ru_fail_1 (by decide) ?_
  refine lv_iload_n hx hb d_ru_fail_4 rfl (lv_at hl 1 rfl) ?_
  refine lv_imul hx hb d_ru_fail_5 ?_
  refine lv_iload_n hx hb d_ru_fail_6 rfl (lv_at hl 2 rfl) ?_
  refine lv_iadd hx hb d_ru_fail_7 ?_
  replace h := bs h
  obtain ⟨w1, hw1, h⟩ := h
  refine pf_ru_58 hx hb hts hown hK hG hW rfl rfl (pbi hw1 rfl) d_ru_fail_8 (fun H locs hW => ?_)
  refine lv_iload_n hx hb d_ru_fail_11 rfl (lv_at hl 1 rfl) ?_
  by_cases c2 : a1 = (1 : Int32)
  · rw [if_pos c2] at h
    refine lv_tableIn (off := 36) (tgt := 48) hx hb d_ru_fail_12 (by rw [c2]; decide) (by rw [c2]; decide) (by rw [c2]; rfl) (by decide) ?_
    cases h
  · rw [if_neg c2] at h
    by_cases c3 : a1 = (2 : Int32)
    · rw [if_pos c3] at h
      refine lv_tableIn (off := 44) (tgt := 56) hx hb d_ru_fail_12 (by rw [c3]; decide) (by rw [c3]; decide) (by rw [c3]; rfl) (by decide) ?_
      cases h
    · rw [if_neg c3] at h
      by_cases c4 : a1 = (3 : Int32)
      · rw [if_pos c4] at h
        refine lv_tableIn (off := 60) (tgt := 72) hx hb d_ru_fail_12 (by rw [c4]; decide) (by rw [c4]; decide) (by rw [c4]; rfl) (by decide) ?_
        cases h
      · rw [if_neg c4] at h
        by_cases c5 : a1 = (4 : Int32)
        · rw [if_pos c5] at h
          refine lv_tableIn (off := 60) (tgt := 72) hx hb d_ru_fail_12 (by rw [c5]; decide) (by rw [c5]; decide) (by rw [c5]; rfl) (by decide) ?_
          cases h
        · rw [if_neg c5] at h
          by_cases c6 : a1 = (5 : Int32)
          · rw [if_pos c6] at h
            refine lv_tableIn (off := 52) (tgt := 64) hx hb d_ru_fail_12 (by rw [c6]; decide) (by rw [c6]; decide) (by rw [c6]; rfl) (by decide) ?_
            cases h
          · rw [if_neg c6] at h
            refine lv_tableOut (tgt := 72) hx hb d_ru_fail_12 (by have n0 := lv_neT c2 (show (1 : Int32).toInt = 1 from rfl); have n1 := lv_neT c3 (show (2 : Int32).toInt = 2 from rfl); have n2 := lv_neT c4 (show (3 : Int32).toInt = 3 from rfl); have n3 := lv_neT c5 (show (4 : Int32).toInt = 4 from rfl); have n4 := lv_neT c6 (show (5 : Int32).toInt = 5 from rfl); omega) (by decide) ?_
            cases h
set_option maxHeartbeats 4000000 in
set_option maxRecDepth 100000 in
theorem x_ru_fail (l : Launch) (hst : l.stackTraces = false) (D : va_G) (cA : Nat → ClassId) (base : Nat) {a0 : Nat} {a1 : Int32} {a2 : Int32} {w w' : WW} {E : String} (h : f_ru_fail a0 a1 a2 w = some (.inr E, w')) : xt l D cls (wo_tys cA) cA base y_ru_fail (Cond.code y_ru_fail b_ru_fail 3 (none) :: gt) rx_ru_fail [.ref (base + a0), .int a1, .int a2] w E w' rx_ru_fail.cells rx_ru_fail.slots := by
  refine xt_start (by decide) (Nat.le_of_ble_eq_true rfl) ?_
  intro p e s m below meth c ls hx hb hr hml hown hts hlk hnm hK hG hW hl hnt
  have C : cx b_ru_fail (none) 3 y_ru_fail.cls "fail" p s m [.ref (base + a0), .int a1, .int a2].toArray meth c D cA base ∧ (∀ x ∈ c.exceptionTable.toList, ∀ k : Nat, covers x k = false) ∧ l.stackTraces = false := ⟨⟨hx, hb, hr, hml, hown, hts, hlk, hnm, hK, hG⟩, hnt, hst⟩
  have hl : lv_has ls 3 [(0, .ref (base + a0)), (1, .int a1), (2, .int a2)] := hl
  unfold f_ru_fail at h
  replace h := its h
  obtain ⟨-, h⟩ := h
  refine lv_aload_n hx hb d_ru_fail_0 rfl (lv_at hl 0 rfl) ?_
  refine lv_sipush (v := (1024 : Int32)) hx hb d_ru_fail_1 (by decide) ?_
  refine lv_iload_n hx hb d_ru_fail_4 rfl (lv_at hl 1 rfl) ?_
  refine lv_imul hx hb d_ru_fail_5 ?_
  refine lv_iload_n hx hb d_ru_fail_6 rfl (lv_at hl 2 rfl) ?_
  refine lv_iadd hx hb d_ru_fail_7 ?_
  replace h := bs h
  obtain ⟨w1, hw1, h⟩ := h
  refine pf_ru_58 hx hb hts hown hK hG hW rfl rfl (pbi hw1 rfl) d_ru_fail_8 (fun H locs hW => ?_)
  refine lv_iload_n hx hb d_ru_fail_11 rfl (lv_at hl 1 rfl) ?_
  by_cases c2 : a1 = (1 : Int32)
  · rw [if_pos c2] at h
    refine lv_tableIn (off := 36) (tgt := 48) hx hb d_ru_fail_12 (by rw [c2]; decide) (by rw [c2]; decide) (by rw [c2]; rfl) (by decide) ?_
    cases h
    exact wo_throw (names := ["java/lang/RuntimeException", "java/lang/Exception"]) hx hb hst hown hts hG hW hnt hlk (by decide) (by decide) (gt_of (i := 790) (by decide +kernel) (by decide +kernel)) (gt_of (i := 15) (by decide +kernel) (by decide +kernel)) ow_ru_163 (hl.1.trans hml.symm) d_ru_fail_48 d_ru_fail_51 d_ru_fail_52 d_ru_fail_55 (Nat.le_of_ble_eq_true rfl) (Nat.le_of_ble_eq_true rfl) (Nat.le_of_ble_eq_true rfl) (Nat.le_of_ble_eq_true rfl) (Nat.le_of_ble_eq_true rfl) (Nat.le_of_ble_eq_true rfl)
  · rw [if_neg c2] at h
    by_cases c3 : a1 = (2 : Int32)
    · rw [if_pos c3] at h
      refine lv_tableIn (off := 44) (tgt := 56) hx hb d_ru_fail_12 (by rw [c3]; decide) (by rw [c3]; decide) (by rw [c3]; rfl) (by decide) ?_
      cases h
      exact wo_throw (names := ["java/lang/RuntimeException", "java/lang/Exception"]) hx hb hst hown hts hG hW hnt hlk (by decide) (by decide) (gt_of (i := 792) (by decide +kernel) (by decide +kernel)) (gt_of (i := 22) (by decide +kernel) (by decide +kernel)) ow_ru_166 (hl.1.trans hml.symm) d_ru_fail_56 d_ru_fail_59 d_ru_fail_60 d_ru_fail_63 (Nat.le_of_ble_eq_true rfl) (Nat.le_of_ble_eq_true rfl) (Nat.le_of_ble_eq_true rfl) (Nat.le_of_ble_eq_true rfl) (Nat.le_of_ble_eq_true rfl) (Nat.le_of_ble_eq_true rfl)
    · rw [if_neg c3] at h
      by_cases c4 : a1 = (3 : Int32)
      · rw [if_pos c4] at h
        refine lv_tableIn (off := 60) (tgt := 72) hx hb d_ru_fail_12 (by rw [c4]; decide) (by rw [c4]; decide) (by rw [c4]; rfl) (by decide) ?_
        cases h
        exact wo_throw (names := ["java/lang/RuntimeException", "java/lang/Exception"]) hx hb hst hown hts hG hW hnt hlk (by decide) (by decide) (gt_of (i := 822) (by decide +kernel) (by decide +kernel)) (gt_of (i := 24) (by decide +kernel) (by decide +kernel)) ow_ru_172 (hl.1.trans hml.symm) d_ru_fail_72 d_ru_fail_75 d_ru_fail_76 d_ru_fail_79 (Nat.le_of_ble_eq_true rfl) (Nat.le_of_ble_eq_true rfl) (Nat.le_of_ble_eq_true rfl) (Nat.le_of_ble_eq_true rfl) (Nat.le_of_ble_eq_true rfl) (Nat.le_of_ble_eq_true rfl)
      · rw [if_neg c4] at h
        by_cases c5 : a1 = (4 : Int32)
        · rw [if_pos c5] at h
          refine lv_tableIn (off := 60) (tgt := 72) hx hb d_ru_fail_12 (by rw [c5]; decide) (by rw [c5]; decide) (by rw [c5]; rfl) (by decide) ?_
          cases h
          exact wo_throw (names := ["java/lang/RuntimeException", "java/lang/Exception"]) hx hb hst hown hts hG hW hnt hlk (by decide) (by decide) (gt_of (i := 822) (by decide +kernel) (by decide +kernel)) (gt_of (i := 24) (by decide +kernel) (by decide +kernel)) ow_ru_172 (hl.1.trans hml.symm) d_ru_fail_72 d_ru_fail_75 d_ru_fail_76 d_ru_fail_79 (Nat.le_of_ble_eq_true rfl) (Nat.le_of_ble_eq_true rfl) (Nat.le_of_ble_eq_true rfl) (Nat.le_of_ble_eq_true rfl) (Nat.le_of_ble_eq_true rfl) (Nat.le_of_ble_eq_true rfl)
        · rw [if_neg c5] at h
          by_cases c6 : a1 = (5 : Int32)
          · rw [if_pos c6] at h
            refine lv_tableIn (off := 52) (tgt := 64) hx hb d_ru_fail_12 (by rw [c6]; decide) (by rw [c6]; decide) (by rw [c6]; rfl) (by decide) ?_
            cases h
            exact wo_throw (names := ["java/lang/RuntimeException", "java/lang/Exception"]) hx hb hst hown hts hG hW hnt hlk (by decide) (by decide) (gt_of (i := 807) (by decide +kernel) (by decide +kernel)) (gt_of (i := 23) (by decide +kernel) (by decide +kernel)) ow_ru_169 (hl.1.trans hml.symm) d_ru_fail_64 d_ru_fail_67 d_ru_fail_68 d_ru_fail_71 (Nat.le_of_ble_eq_true rfl) (Nat.le_of_ble_eq_true rfl) (Nat.le_of_ble_eq_true rfl) (Nat.le_of_ble_eq_true rfl) (Nat.le_of_ble_eq_true rfl) (Nat.le_of_ble_eq_true rfl)
          · rw [if_neg c6] at h
            refine lv_tableOut (tgt := 72) hx hb d_ru_fail_12 (by have n0 := lv_neT c2 (show (1 : Int32).toInt = 1 from rfl); have n1 := lv_neT c3 (show (2 : Int32).toInt = 2 from rfl); have n2 := lv_neT c4 (show (3 : Int32).toInt = 3 from rfl); have n3 := lv_neT c5 (show (4 : Int32).toInt = 4 from rfl); have n4 := lv_neT c6 (show (5 : Int32).toInt = 5 from rfl); omega) (by decide) ?_
            cases h
            exact wo_throw (names := ["java/lang/RuntimeException", "java/lang/Exception"]) hx hb hst hown hts hG hW hnt hlk (by decide) (by decide) (gt_of (i := 822) (by decide +kernel) (by decide +kernel)) (gt_of (i := 24) (by decide +kernel) (by decide +kernel)) ow_ru_172 (hl.1.trans hml.symm) d_ru_fail_72 d_ru_fail_75 d_ru_fail_76 d_ru_fail_79 (Nat.le_of_ble_eq_true rfl) (Nat.le_of_ble_eq_true rfl) (Nat.le_of_ble_eq_true rfl) (Nat.le_of_ble_eq_true rfl) (Nat.le_of_ble_eq_true rfl) (Nat.le_of_ble_eq_true rfl)
theorem xv_ru_117 {p : Program} {l : Launch} {e : Env} {R : Room} {s : State} {m : MethodId} {args : Array Value} {below : List Frame} {meth : Method} {c : Code} {H : Heap} {locs : List Loc} {cells slots : Nat} {Q : State → Prop} {D : va_G} {cA : Nat → ClassId} {base : Nat} {w w' : WW} {cc : ByteArray} {pc nL : Nat} {ls : Array Slot} {rest st0 As : List Value} {E : String} {b : Nat} (hx : p.tables.exec = Jvm.exec) (hb : c.code = cc) (hml : c.maxLocals = nL) (hown : s.vm.findClass Rc_ru = some m.cls) (hts : ∀ w ∈ gt, w.before args s = true) (hK : va_K D cls (wo_tys cA) s) (hG : wo_G cA base s) (hW : wo_S D cls cA base s w H locs) (hM : xt l D cls (wo_tys cA) cA base y_ru_fail (Cond.code y_ru_fail b_ru_fail 3 (none) :: gt) rx_ru_fail (.ref (base + b) :: As) w E w' rx_ru_fail.cells rx_ru_fail.slots) (hkb : kb w b 5 = true) (hR : rx_ru_fail.frames + 1 ≤ R.frames ∧ 8 + (3 + 11) + rx_ru_fail.locals ≤ R.locals) (hf : cells + rx_ru_fail.cells ≤ R.cells ∧ slots + rx_ru_fail.slots ≤ R.slots) (hn : As.length = 2) (hsz : ls.size = nL) (hst : st0 = As.reverse ++ .ref (base + b) :: rest) (hcat : (rest.map fun v => v.category).sum ≤ 8) (hdg : decode cc pc = .ok (.invokevirtual 117, 3)) (kk : ∀ (H1 : Heap) (locs1 : List Loc) (q : Addr) (ce : Cell), wo_S D cls cA base s w' H1 locs1 → H1[q]? = some ce → ce.vm = .none → s.vm.findClass E = some ce.cls → XW p l e R s m args below meth c H1 locs1 (cells + rx_ru_fail.cells) (slots + rx_ru_fail.slots) Q (F0 m pc ls rest) q) : W p l e R s m args below meth c H locs cells slots Q (F0 m pc ls st0) :=
  wo_xcallV (C := Rc_ru) hx hb hml hown hts hK hG hW hM hkb rfl (gt_of (i := 786) (by decide +kernel) (by decide +kernel)) (gt_of (i := 788) (by decide +kernel) (by decide +kernel)) (gt_sel (i := 27) (by decide +kernel) (by decide +kernel)) (gt_of (i := 6) (by decide +kernel) (by decide +kernel)) (gt_of (i := 789) (by decide +kernel) (by decide +kernel)) (by decide +kernel) hR hf hn hsz hst hcat hdg kk
theorem cv_ru_117 {p : Program} {l : Launch} {e : Env} {R : Room} {s : State} {m : MethodId} {args : Array Value} {below : List Frame} {meth : Method} {c : Code} {H : Heap} {locs : List Loc} {cells slots : Nat} {Q : State → Prop} {D : va_G} {cA : Nat → ClassId} {base : Nat} {w w' : WW} {cc : ByteArray} {pc nL : Nat} {ls : Array Slot} {rest st0 As : List Value} {ov : Option Value} {b : Nat} (hx : p.tables.exec = Jvm.exec) (hb : c.code = cc) (hml : c.maxLocals = nL) (hown : s.vm.findClass Rc_ru = some m.cls) (hts : ∀ w ∈ gt, w.before args s = true) (hK : va_K D cls (wo_tys cA) s) (hG : wo_G cA base s) (hW : wo_S D cls cA base s w H locs) (hM : mt l D cls (wo_tys cA) cA base y_ru_fail (Cond.code y_ru_fail b_ru_fail 3 (none) :: gt) rm_ru_fail (.ref (base + b) :: As) w ov w' rm_ru_fail.cells rm_ru_fail.slots) (hkb : kb w b 5 = true) (hR : rm_ru_fail.frames + 1 ≤ R.frames ∧ 8 + (3 + 11) + rm_ru_fail.locals ≤ R.locals) (hf : cells + rm_ru_fail.cells ≤ R.cells ∧ slots + rm_ru_fail.slots ≤ R.slots) (hn : As.length = 2) (hsz : ls.size = nL) (hst : st0 = As.reverse ++ .ref (base + b) :: rest) (hcat : (rest.map fun v => v.category).sum ≤ 8) (hdg : decode cc pc = .ok (.invokevirtual 117, 3)) (kk : ∀ (H1 : Heap) (locs1 : List Loc), wo_S D cls cA base s w' H1 locs1 → W p l e R s m args below meth c H1 locs1 (cells + rm_ru_fail.cells) (slots + rm_ru_fail.slots) Q (F0 m (pc + 3) ls (ov.toList ++ rest))) : W p l e R s m args below meth c H locs cells slots Q (F0 m pc ls st0) :=
  wo_callV (C := Rc_ru) hx hb hml hown hts hK hG hW hM hkb rfl (gt_of (i := 786) (by decide +kernel) (by decide +kernel)) (gt_of (i := 788) (by decide +kernel) (by decide +kernel)) (gt_sel (i := 27) (by decide +kernel) (by decide +kernel)) (gt_of (i := 6) (by decide +kernel) (by decide +kernel)) (gt_of (i := 789) (by decide +kernel) (by decide +kernel)) (by decide +kernel) hR hf hn hsz hst hcat hdg kk
abbrev b_ru_cellOf : ByteArray := prog_6_method_12_code
def y_ru_cellOf : MethodName := ⟨"AlarmForge$Runner", "cellOf", "(III)I"⟩
def rm_ru_cellOf : Room := { frames := 7, cells := 0, slots := 0, locals := 122 }
def rx_ru_cellOf : Room := { frames := 7, cells := 1, slots := 6, locals := 122 }
theorem d_ru_cellOf_0 : decode b_ru_cellOf 0 = .ok (.iload_n 2, 1) := by decide +kernel
theorem d_ru_cellOf_1 : decode b_ru_cellOf 1 = .ok (.ifCond .lt (8), 3) := by decide +kernel
theorem d_ru_cellOf_4 : decode b_ru_cellOf 4 = .ok (.iload_n 2, 1) := by decide +kernel
theorem d_ru_cellOf_5 : decode b_ru_cellOf 5 = .ok (.iconst 4, 1) := by decide +kernel
theorem d_ru_cellOf_6 : decode b_ru_cellOf 6 = .ok (.if_icmp .lt (9), 3) := by decide +kernel
theorem d_ru_cellOf_9 : decode b_ru_cellOf 9 = .ok (.aload_n 0, 1) := by decide +kernel
theorem d_ru_cellOf_10 : decode b_ru_cellOf 10 = .ok (.iconst 2, 1) := by decide +kernel
theorem d_ru_cellOf_11 : decode b_ru_cellOf 11 = .ok (.iload_n 3, 1) := by decide +kernel
theorem d_ru_cellOf_12 : decode b_ru_cellOf 12 = .ok (.invokevirtual 117, 3) := by decide +kernel
theorem d_ru_cellOf_15 : decode b_ru_cellOf 15 = .ok (.iload_n 1, 1) := by decide +kernel
theorem d_ru_cellOf_16 : decode b_ru_cellOf 16 = .ok (.iload_n 2, 1) := by decide +kernel
theorem d_ru_cellOf_17 : decode b_ru_cellOf 17 = .ok (.iadd, 1) := by decide +kernel
theorem d_ru_cellOf_18 : decode b_ru_cellOf 18 = .ok (.ireturn, 1) := by decide +kernel
theorem kb_ru_cellOf {a0 : Nat} {a1 : Int32} {a2 : Int32} {a3 : Int32} {w : WW} {r : ((Int32 ⊕ String) × WW)} (h : f_ru_cellOf a0 a1 a2 a3 w = some r) : kb w a0 5 = true := (its h).1
set_option maxHeartbeats 4000000 in
set_option maxRecDepth 100000 in
theorem j_ru_cellOf_15 {p : Program} {l : Launch} {e : Env} {s : State} {m : MethodId} {args : Array Value} {below : List Frame} {meth : Method} {c : Code} {D : va_G} {cA : Nat → ClassId} {base : Nat} {r : Int32} {w' : WW} (C : cx b_ru_cellOf (some .int) 4 y_ru_cellOf.cls "cellOf" p s m args meth c D cA base)   : ∀ (y1 : Int32) (y2 : Int32) (w : WW), f_ru_cellOf_15 y1 y2 w = some (.inl r, w') → ∀ (H : Heap) (locs : List Loc) (ls : Array Slot), wo_S D cls cA base s w H locs → lv_has ls 4 [(1, .int y1), (2, .int y2)] → W p l e rm_ru_cellOf s m args below meth c H locs 0 0 (MQ below (wo_Q D cls cA base (some (.int r)) w') args s rm_ru_cellOf.cells rm_ru_cellOf.slots (wo_B base)) (F0 m 15 ls []) := by
  obtain ⟨hx, hb, hr, hml, hown, hts, hlk, hnm, hK, hG⟩ := id C
  intro y1 y2 w h H locs ls hW hl
  unfold f_ru_cellOf_15 at h
  refine lv_iload_n hx hb d_ru_cellOf_15 rfl (lv_at hl 0 rfl) ?_
  refine lv_iload_n hx hb d_ru_cellOf_16 rfl (lv_at hl 1 rfl) ?_
  refine lv_iadd hx hb d_ru_cellOf_17 ?_
  cases h
  exact wo_iret hx hb hr hlk hW d_ru_cellOf_18
set_option maxHeartbeats 4000000 in
set_option maxRecDepth 100000 in
theorem j_ru_cellOf_9 {p : Program} {l : Launch} {e : Env} {s : State} {m : MethodId} {args : Array Value} {below : List Frame} {meth : Method} {c : Code} {D : va_G} {cA : Nat → ClassId} {base : Nat} {r : Int32} {w' : WW} (C : cx b_ru_cellOf (some .int) 4 y_ru_cellOf.cls "cellOf" p s m args meth c D cA base)   : ∀ (y0 : Nat) (y1 : Int32) (y2 : Int32) (y3 : Int32) (w : WW), f_ru_cellOf_9 y0 y1 y2 y3 w = some (.inl r, w') → ∀ (H : Heap) (locs : List Loc) (ls : Array Slot), wo_S D cls cA base s w H locs → lv_has ls 4 [(0, .ref (base + y0)), (1, .int y1), (2, .int y2), (3, .int y3)] → W p l e rm_ru_cellOf s m args below meth c H locs 0 0 (MQ below (wo_Q D cls cA base (some (.int r)) w') args s rm_ru_cellOf.cells rm_ru_cellOf.slots (wo_B base)) (F0 m 9 ls []) := by
  obtain ⟨hx, hb, hr, hml, hown, hts, hlk, hnm, hK, hG⟩ := id C
  intro y0 y1 y2 y3 w h H locs ls hW hl
  unfold f_ru_cellOf_9 at h
  refine lv_aload_n hx hb d_ru_cellOf_9 rfl (lv_at hl 0 rfl) ?_
  refine lv_iconst (v := (2 : Int32)) hx hb d_ru_cellOf_10 (by decide) ?_
  refine lv_iload_n hx hb d_ru_cellOf_11 rfl (lv_at hl 3 rfl) ?_
  replace h := bsx h
  obtain ⟨x3, w2, hw2, h⟩ := h
  refine cv_ru_117 (As := [.int (2 : Int32), .int y3]) (rest := []) hx hb hml hown hts hK hG hW (c_ru_fail l D cA base hw2) (kb_ru_fail hw2) ⟨Nat.le_of_ble_eq_true rfl, Nat.le_of_ble_eq_true rfl⟩ ⟨Nat.le_of_ble_eq_true rfl, Nat.le_of_ble_eq_true rfl⟩ rfl hl.1 rfl (Nat.le_of_ble_eq_true rfl) d_ru_cellOf_12 (fun H locs hW => ?_)
  exact j_ru_cellOf_15 C y1 y2 w2 h _ _ _ hW (lv_sub hl [1, 2] rfl)
set_option maxHeartbeats 4000000 in
set_option maxRecDepth 100000 in
theorem c_ru_cellOf (l : Launch) (D : va_G) (cA : Nat → ClassId) (base : Nat) {a0 : Nat} {a1 : Int32} {a2 : Int32} {a3 : Int32} {w w' : WW} {r : Int32} (h : f_ru_cellOf a0 a1 a2 a3 w = some (.inl r, w')) : mt l D cls (wo_tys cA) cA base y_ru_cellOf (Cond.code y_ru_cellOf b_ru_cellOf 4 (some .int) :: gt) rm_ru_cellOf [.ref (base + a0), .int a1, .int a2, .int a3] w (some (.int r)) w' rm_ru_cellOf.cells rm_ru_cellOf.slots := by
  refine mt_start (by decide) (Nat.le_of_ble_eq_true rfl) ?_
  intro p e s m below meth c ls hx hb hr hml hown hts hlk hnm hK hG hW hl
  have C : cx b_ru_cellOf (some .int) 4 y_ru_cellOf.cls "cellOf" p s m [.ref (base + a0), .int a1, .int a2, .int a3].toArray meth c D cA base := ⟨hx, hb, hr, hml, hown, hts, hlk, hnm, hK, hG⟩
  have hl : lv_has ls 4 [(0, .ref (base + a0)), (1, .int a1), (2, .int a2), (3, .int a3)] := hl
  unfold f_ru_cellOf at h
  replace h := its h
  obtain ⟨-, h⟩ := h
  refine lv_iload_n hx hb d_ru_cellOf_0 rfl (lv_at hl 2 rfl) ?_
  refine lv_if_lt (tgt := 9) hx hb d_ru_cellOf_1 (by decide) (fun c1 => ?_) (fun c1 => ?_)
  · rw [if_pos c1] at h
    exact j_ru_cellOf_9 C a0 a1 a2 a3 w h _ _ _ hW (lv_sub hl [0, 1, 2, 3] rfl)
  · rw [if_neg c1] at h
    refine lv_iload_n hx hb d_ru_cellOf_4 rfl (lv_at hl 2 rfl) ?_
    refine lv_iconst (v := (4 : Int32)) hx hb d_ru_cellOf_5 (by decide) ?_
    refine lv_icmp_lt (tgt := 15) hx hb d_ru_cellOf_6 (by decide) (fun c4 => ?_) (fun c4 => ?_)
    · rw [if_pos c4] at h
      exact j_ru_cellOf_15 C a1 a2 w h _ _ _ hW (lv_sub hl [1, 2] rfl)
    · rw [if_neg c4] at h
      exact j_ru_cellOf_9 C a0 a1 a2 a3 w h _ _ _ hW (lv_sub hl [0, 1, 2, 3] rfl)
set_option maxHeartbeats 4000000 in
set_option maxRecDepth 100000 in
theorem jx_ru_cellOf_15 {p : Program} {l : Launch} {e : Env} {s : State} {m : MethodId} {args : Array Value} {below : List Frame} {meth : Method} {c : Code} {D : va_G} {cA : Nat → ClassId} {base : Nat} {E : String} {w' : WW} (C : cx b_ru_cellOf (some .int) 4 y_ru_cellOf.cls "cellOf" p s m args meth c D cA base ∧ (∀ x ∈ c.exceptionTable.toList, ∀ k : Nat, covers x k = false) ∧ l.stackTraces = false)   : ∀ (y1 : Int32) (y2 : Int32) (w : WW), f_ru_cellOf_15 y1 y2 w = some (.inr E, w') → ∀ (H : Heap) (locs : List Loc) (ls : Array Slot), wo_S D cls cA base s w H locs → lv_has ls 4 [(1, .int y1), (2, .int y2)] → W p l e rx_ru_cellOf s m args below meth c H locs 0 0 (XQ below (wo_X D cls cA base E w' rx_ru_cellOf.cells rx_ru_cellOf.slots) args s) (F0 m 15 ls []) := by
  obtain ⟨hx, hb, hr, hml, hown, hts, hlk, hnm, hK, hG⟩ := id C.1
  have hnt := C.2.1
  have hst := C.2.2
  intro y1 y2 w h H locs ls hW hl
  unfold f_ru_cellOf_15 at h
  refine lv_iload_n hx hb d_ru_cellOf_15 rfl (lv_at hl 0 rfl) ?_
  refine lv_iload_n hx hb d_ru_cellOf_16 rfl (lv_at hl 1 rfl) ?_
  refine lv_iadd hx hb d_ru_cellOf_17 ?_
  cases h
set_option maxHeartbeats 4000000 in
set_option maxRecDepth 100000 in
theorem jx_ru_cellOf_9 {p : Program} {l : Launch} {e : Env} {s : State} {m : MethodId} {args : Array Value} {below : List Frame} {meth : Method} {c : Code} {D : va_G} {cA : Nat → ClassId} {base : Nat} {E : String} {w' : WW} (C : cx b_ru_cellOf (some .int) 4 y_ru_cellOf.cls "cellOf" p s m args meth c D cA base ∧ (∀ x ∈ c.exceptionTable.toList, ∀ k : Nat, covers x k = false) ∧ l.stackTraces = false)   : ∀ (y0 : Nat) (y1 : Int32) (y2 : Int32) (y3 : Int32) (w : WW), f_ru_cellOf_9 y0 y1 y2 y3 w = some (.inr E, w') → ∀ (H : Heap) (locs : List Loc) (ls : Array Slot), wo_S D cls cA base s w H locs → lv_has ls 4 [(0, .ref (base + y0)), (1, .int y1), (2, .int y2), (3, .int y3)] → W p l e rx_ru_cellOf s m args below meth c H locs 0 0 (XQ below (wo_X D cls cA base E w' rx_ru_cellOf.cells rx_ru_cellOf.slots) args s) (F0 m 9 ls []) := by
  obtain ⟨hx, hb, hr, hml, hown, hts, hlk, hnm, hK, hG⟩ := id C.1
  have hnt := C.2.1
  have hst := C.2.2
  intro y0 y1 y2 y3 w h H locs ls hW hl
  unfold f_ru_cellOf_9 at h
  refine lv_aload_n hx hb d_ru_cellOf_9 rfl (lv_at hl 0 rfl) ?_
  refine lv_iconst (v := (2 : Int32)) hx hb d_ru_cellOf_10 (by decide) ?_
  refine lv_iload_n hx hb d_ru_cellOf_11 rfl (lv_at hl 3 rfl) ?_
  rcases bsy h with hw2 | ⟨x3, w2, hw2, hnw2⟩
  · exact xv_ru_117 (As := [.int (2 : Int32), .int y3]) (rest := []) hx hb hml hown hts hK hG hW (x_ru_fail l hst D cA base hw2) (kb_ru_fail hw2) ⟨Nat.le_of_ble_eq_true rfl, Nat.le_of_ble_eq_true rfl⟩ ⟨Nat.le_of_ble_eq_true rfl, Nat.le_of_ble_eq_true rfl⟩ rfl hl.1 rfl (Nat.le_of_ble_eq_true rfl) d_ru_cellOf_12 (fun H locs q ce hW h1 h2 h3 => wo_xout hnt hlk hW h1 h2 h3 (Nat.le_of_ble_eq_true rfl) (Nat.le_of_ble_eq_true rfl))
  clear h
  have h := hnw2
  clear hnw2
  refine cv_ru_117 (As := [.int (2 : Int32), .int y3]) (rest := []) hx hb hml hown hts hK hG hW (c_ru_fail l D cA base hw2) (kb_ru_fail hw2) ⟨Nat.le_of_ble_eq_true rfl, Nat.le_of_ble_eq_true rfl⟩ ⟨Nat.le_of_ble_eq_true rfl, Nat.le_of_ble_eq_true rfl⟩ rfl hl.1 rfl (Nat.le_of_ble_eq_true rfl) d_ru_cellOf_12 (fun H locs hW => ?_)
  exact jx_ru_cellOf_15 C y1 y2 w2 h _ _ _ hW (lv_sub hl [1, 2] rfl)
set_option maxHeartbeats 4000000 in
set_option maxRecDepth 100000 in
theorem x_ru_cellOf (l : Launch) (hst : l.stackTraces = false) (D : va_G) (cA : Nat → ClassId) (base : Nat) {a0 : Nat} {a1 : Int32} {a2 : Int32} {a3 : Int32} {w w' : WW} {E : String} (h : f_ru_cellOf a0 a1 a2 a3 w = some (.inr E, w')) : xt l D cls (wo_tys cA) cA base y_ru_cellOf (Cond.code y_ru_cellOf b_ru_cellOf 4 (some .int) :: gt) rx_ru_cellOf [.ref (base + a0), .int a1, .int a2, .int a3] w E w' rx_ru_cellOf.cells rx_ru_cellOf.slots := by
  refine xt_start (by decide) (Nat.le_of_ble_eq_true rfl) ?_
  intro p e s m below meth c ls hx hb hr hml hown hts hlk hnm hK hG hW hl hnt
  have C : cx b_ru_cellOf (some .int) 4 y_ru_cellOf.cls "cellOf" p s m [.ref (base + a0), .int a1, .int a2, .int a3].toArray meth c D cA base ∧ (∀ x ∈ c.exceptionTable.toList, ∀ k : Nat, covers x k = false) ∧ l.stackTraces = false := ⟨⟨hx, hb, hr, hml, hown, hts, hlk, hnm, hK, hG⟩, hnt, hst⟩
  have hl : lv_has ls 4 [(0, .ref (base + a0)), (1, .int a1), (2, .int a2), (3, .int a3)] := hl
  unfold f_ru_cellOf at h
  replace h := its h
  obtain ⟨-, h⟩ := h
  refine lv_iload_n hx hb d_ru_cellOf_0 rfl (lv_at hl 2 rfl) ?_
  refine lv_if_lt (tgt := 9) hx hb d_ru_cellOf_1 (by decide) (fun c1 => ?_) (fun c1 => ?_)
  · rw [if_pos c1] at h
    exact jx_ru_cellOf_9 C a0 a1 a2 a3 w h _ _ _ hW (lv_sub hl [0, 1, 2, 3] rfl)
  · rw [if_neg c1] at h
    refine lv_iload_n hx hb d_ru_cellOf_4 rfl (lv_at hl 2 rfl) ?_
    refine lv_iconst (v := (4 : Int32)) hx hb d_ru_cellOf_5 (by decide) ?_
    refine lv_icmp_lt (tgt := 15) hx hb d_ru_cellOf_6 (by decide) (fun c4 => ?_) (fun c4 => ?_)
    · rw [if_pos c4] at h
      exact jx_ru_cellOf_15 C a1 a2 w h _ _ _ hW (lv_sub hl [1, 2] rfl)
    · rw [if_neg c4] at h
      exact jx_ru_cellOf_9 C a0 a1 a2 a3 w h _ _ _ hW (lv_sub hl [0, 1, 2, 3] rfl)
abbrev b_ru_intOf : ByteArray := prog_6_method_18_code
def y_ru_intOf : MethodName := ⟨"AlarmForge$Runner", "intOf", "(JI)I"⟩
def rm_ru_intOf : Room := { frames := 7, cells := 0, slots := 0, locals := 122 }
def rx_ru_intOf : Room := { frames := 7, cells := 1, slots := 6, locals := 122 }
theorem d_ru_intOf_0 : decode b_ru_intOf 0 = .ok (.lload_n 1, 1) := by decide +kernel
theorem d_ru_intOf_1 : decode b_ru_intOf 1 = .ok (.ldc2_w 157, 3) := by decide +kernel
theorem d_ru_intOf_4 : decode b_ru_intOf 4 = .ok (.lcmp, 1) := by decide +kernel
theorem d_ru_intOf_5 : decode b_ru_intOf 5 = .ok (.ifCond .lt (11), 3) := by decide +kernel
theorem d_ru_intOf_8 : decode b_ru_intOf 8 = .ok (.lload_n 1, 1) := by decide +kernel
theorem d_ru_intOf_9 : decode b_ru_intOf 9 = .ok (.ldc2_w 159, 3) := by decide +kernel
theorem d_ru_intOf_12 : decode b_ru_intOf 12 = .ok (.lcmp, 1) := by decide +kernel
theorem d_ru_intOf_13 : decode b_ru_intOf 13 = .ok (.ifCond .le (9), 3) := by decide +kernel
theorem d_ru_intOf_16 : decode b_ru_intOf 16 = .ok (.aload_n 0, 1) := by decide +kernel
theorem d_ru_intOf_17 : decode b_ru_intOf 17 = .ok (.iconst 3, 1) := by decide +kernel
theorem d_ru_intOf_18 : decode b_ru_intOf 18 = .ok (.iload_n 3, 1) := by decide +kernel
theorem d_ru_intOf_19 : decode b_ru_intOf 19 = .ok (.invokevirtual 117, 3) := by decide +kernel
theorem d_ru_intOf_22 : decode b_ru_intOf 22 = .ok (.lload_n 1, 1) := by decide +kernel
theorem d_ru_intOf_23 : decode b_ru_intOf 23 = .ok (.l2i, 1) := by decide +kernel
theorem d_ru_intOf_24 : decode b_ru_intOf 24 = .ok (.ireturn, 1) := by decide +kernel
theorem kb_ru_intOf {a0 : Nat} {a1 : Int64} {a3 : Int32} {w : WW} {r : ((Int32 ⊕ String) × WW)} (h : f_ru_intOf a0 a1 a3 w = some r) : kb w a0 5 = true := (its h).1
set_option maxHeartbeats 4000000 in
set_option maxRecDepth 100000 in
theorem j_ru_intOf_22 {p : Program} {l : Launch} {e : Env} {s : State} {m : MethodId} {args : Array Value} {below : List Frame} {meth : Method} {c : Code} {D : va_G} {cA : Nat → ClassId} {base : Nat} {r : Int32} {w' : WW} (C : cx b_ru_intOf (some .int) 4 y_ru_intOf.cls "intOf" p s m args meth c D cA base)   : ∀ (y1 : Int64) (w : WW), f_ru_intOf_22 y1 w = some (.inl r, w') → ∀ (H : Heap) (locs : List Loc) (ls : Array Slot), wo_S D cls cA base s w H locs → lv_has ls 4 [(1, .long y1)] → W p l e rm_ru_intOf s m args below meth c H locs 0 0 (MQ below (wo_Q D cls cA base (some (.int r)) w') args s rm_ru_intOf.cells rm_ru_intOf.slots (wo_B base)) (F0 m 22 ls []) := by
  obtain ⟨hx, hb, hr, hml, hown, hts, hlk, hnm, hK, hG⟩ := id C
  intro y1 w h H locs ls hW hl
  unfold f_ru_intOf_22 at h
  refine lv_lload_n hx hb d_ru_intOf_22 rfl (lv_at hl 0 rfl) ?_
  refine lv_l2i hx hb d_ru_intOf_23 rfl ?_
  cases h
  exact wo_iret hx hb hr hlk hW d_ru_intOf_24
set_option maxHeartbeats 4000000 in
set_option maxRecDepth 100000 in
theorem j_ru_intOf_16 {p : Program} {l : Launch} {e : Env} {s : State} {m : MethodId} {args : Array Value} {below : List Frame} {meth : Method} {c : Code} {D : va_G} {cA : Nat → ClassId} {base : Nat} {r : Int32} {w' : WW} (C : cx b_ru_intOf (some .int) 4 y_ru_intOf.cls "intOf" p s m args meth c D cA base)   : ∀ (y0 : Nat) (y1 : Int64) (y3 : Int32) (w : WW), f_ru_intOf_16 y0 y1 y3 w = some (.inl r, w') → ∀ (H : Heap) (locs : List Loc) (ls : Array Slot), wo_S D cls cA base s w H locs → lv_has ls 4 [(0, .ref (base + y0)), (1, .long y1), (3, .int y3)] → W p l e rm_ru_intOf s m args below meth c H locs 0 0 (MQ below (wo_Q D cls cA base (some (.int r)) w') args s rm_ru_intOf.cells rm_ru_intOf.slots (wo_B base)) (F0 m 16 ls []) := by
  obtain ⟨hx, hb, hr, hml, hown, hts, hlk, hnm, hK, hG⟩ := id C
  intro y0 y1 y3 w h H locs ls hW hl
  unfold f_ru_intOf_16 at h
  refine lv_aload_n hx hb d_ru_intOf_16 rfl (lv_at hl 0 rfl) ?_
  refine lv_iconst (v := (3 : Int32)) hx hb d_ru_intOf_17 (by decide) ?_
  refine lv_iload_n hx hb d_ru_intOf_18 rfl (lv_at hl 2 rfl) ?_
  replace h := bsx h
  obtain ⟨x3, w2, hw2, h⟩ := h
  refine cv_ru_117 (As := [.int (3 : Int32), .int y3]) (rest := []) hx hb hml hown hts hK hG hW (c_ru_fail l D cA base hw2) (kb_ru_fail hw2) ⟨Nat.le_of_ble_eq_true rfl, Nat.le_of_ble_eq_true rfl⟩ ⟨Nat.le_of_ble_eq_true rfl, Nat.le_of_ble_eq_true rfl⟩ rfl hl.1 rfl (Nat.le_of_ble_eq_true rfl) d_ru_intOf_19 (fun H locs hW => ?_)
  exact j_ru_intOf_22 C y1 w2 h _ _ _ hW (lv_sub hl [1] rfl)
set_option maxHeartbeats 4000000 in
set_option maxRecDepth 100000 in
theorem c_ru_intOf (l : Launch) (D : va_G) (cA : Nat → ClassId) (base : Nat) {a0 : Nat} {a1 : Int64} {a3 : Int32} {w w' : WW} {r : Int32} (h : f_ru_intOf a0 a1 a3 w = some (.inl r, w')) : mt l D cls (wo_tys cA) cA base y_ru_intOf (Cond.code y_ru_intOf b_ru_intOf 4 (some .int) :: gt) rm_ru_intOf [.ref (base + a0), .long a1, .int a3] w (some (.int r)) w' rm_ru_intOf.cells rm_ru_intOf.slots := by
  refine mt_start (by decide) (Nat.le_of_ble_eq_true rfl) ?_
  intro p e s m below meth c ls hx hb hr hml hown hts hlk hnm hK hG hW hl
  have C : cx b_ru_intOf (some .int) 4 y_ru_intOf.cls "intOf" p s m [.ref (base + a0), .long a1, .int a3].toArray meth c D cA base := ⟨hx, hb, hr, hml, hown, hts, hlk, hnm, hK, hG⟩
  have hl : lv_has ls 4 [(0, .ref (base + a0)), (1, .long a1), (3, .int a3)] := hl
  unfold f_ru_intOf at h
  replace h := its h
  obtain ⟨-, h⟩ := h
  refine lv_lload_n hx hb d_ru_intOf_0 rfl (lv_at hl 1 rfl) ?_
  refine lv_ldc2 (own := Rc_ru) (v := (-2147483648 : Int64)) hx hb hown (hts (.constantLong "AlarmForge$Runner" 157 (-2147483648 : Int64)) (gt_of (i := 845) (by decide +kernel) (by decide +kernel))) d_ru_intOf_1 ?_
  refine lc_lt (tgt := 16) hx hb d_ru_intOf_4 d_ru_intOf_5 (by decide) (fun c1 => ?_) (fun c1 => ?_)
  · rw [if_pos c1] at h
    exact j_ru_intOf_16 C a0 a1 a3 w h _ _ _ hW (lv_sub hl [0, 1, 2] rfl)
  · rw [if_neg c1] at h
    refine lv_lload_n hx hb d_ru_intOf_8 rfl (lv_at hl 1 rfl) ?_
    refine lv_ldc2 (own := Rc_ru) (v := (2147483647 : Int64)) hx hb hown (hts (.constantLong "AlarmForge$Runner" 159 (2147483647 : Int64)) (gt_of (i := 846) (by decide +kernel) (by decide +kernel))) d_ru_intOf_9 ?_
    refine lc_le (tgt := 22) hx hb d_ru_intOf_12 d_ru_intOf_13 (by decide) (fun c4 => ?_) (fun c4 => ?_)
    · rw [if_pos c4] at h
      exact j_ru_intOf_22 C a1 w h _ _ _ hW (lv_sub hl [1] rfl)
    · rw [if_neg c4] at h
      exact j_ru_intOf_16 C a0 a1 a3 w h _ _ _ hW (lv_sub hl [0, 1, 2] rfl)
set_option maxHeartbeats 4000000 in
set_option maxRecDepth 100000 in
theorem jx_ru_intOf_22 {p : Program} {l : Launch} {e : Env} {s : State} {m : MethodId} {args : Array Value} {below : List Frame} {meth : Method} {c : Code} {D : va_G} {cA : Nat → ClassId} {base : Nat} {E : String} {w' : WW} (C : cx b_ru_intOf (some .int) 4 y_ru_intOf.cls "intOf" p s m args meth c D cA base ∧ (∀ x ∈ c.exceptionTable.toList, ∀ k : Nat, covers x k = false) ∧ l.stackTraces = false)   : ∀ (y1 : Int64) (w : WW), f_ru_intOf_22 y1 w = some (.inr E, w') → ∀ (H : Heap) (locs : List Loc) (ls : Array Slot), wo_S D cls cA base s w H locs → lv_has ls 4 [(1, .long y1)] → W p l e rx_ru_intOf s m args below meth c H locs 0 0 (XQ below (wo_X D cls cA base E w' rx_ru_intOf.cells rx_ru_intOf.slots) args s) (F0 m 22 ls []) := by
  obtain ⟨hx, hb, hr, hml, hown, hts, hlk, hnm, hK, hG⟩ := id C.1
  have hnt := C.2.1
  have hst := C.2.2
  intro y1 w h H locs ls hW hl
  unfold f_ru_intOf_22 at h
  refine lv_lload_n hx hb d_ru_intOf_22 rfl (lv_at hl 0 rfl) ?_
  refine lv_l2i hx hb d_ru_intOf_23 rfl ?_
  cases h
set_option maxHeartbeats 4000000 in
set_option maxRecDepth 100000 in
theorem jx_ru_intOf_16 {p : Program} {l : Launch} {e : Env} {s : State} {m : MethodId} {args : Array Value} {below : List Frame} {meth : Method} {c : Code} {D : va_G} {cA : Nat → ClassId} {base : Nat} {E : String} {w' : WW} (C : cx b_ru_intOf (some .int) 4 y_ru_intOf.cls "intOf" p s m args meth c D cA base ∧ (∀ x ∈ c.exceptionTable.toList, ∀ k : Nat, covers x k = false) ∧ l.stackTraces = false)   : ∀ (y0 : Nat) (y1 : Int64) (y3 : Int32) (w : WW), f_ru_intOf_16 y0 y1 y3 w = some (.inr E, w') → ∀ (H : Heap) (locs : List Loc) (ls : Array Slot), wo_S D cls cA base s w H locs → lv_has ls 4 [(0, .ref (base + y0)), (1, .long y1), (3, .int y3)] → W p l e rx_ru_intOf s m args below meth c H locs 0 0 (XQ below (wo_X D cls cA base E w' rx_ru_intOf.cells rx_ru_intOf.slots) args s) (F0 m 16 ls []) := by
  obtain ⟨hx, hb, hr, hml, hown, hts, hlk, hnm, hK, hG⟩ := id C.1
  have hnt := C.2.1
  have hst := C.2.2
  intro y0 y1 y3 w h H locs ls hW hl
  unfold f_ru_intOf_16 at h
  refine lv_aload_n hx hb d_ru_intOf_16 rfl (lv_at hl 0 rfl) ?_
  refine lv_iconst (v := (3 : Int32)) hx hb d_ru_intOf_17 (by decide) ?_
  refine lv_iload_n hx hb d_ru_intOf_18 rfl (lv_at hl 2 rfl) ?_
  rcases bsy h with hw2 | ⟨x3, w2, hw2, hnw2⟩
  · exact xv_ru_117 (As := [.int (3 : Int32), .int y3]) (rest := []) hx hb hml hown hts hK hG hW (x_ru_fail l hst D cA base hw2) (kb_ru_fail hw2) ⟨Nat.le_of_ble_eq_true rfl, Nat.le_of_ble_eq_true rfl⟩ ⟨Nat.le_of_ble_eq_true rfl, Nat.le_of_ble_eq_true rfl⟩ rfl hl.1 rfl (Nat.le_of_ble_eq_true rfl) d_ru_intOf_19 (fun H locs q ce hW h1 h2 h3 => wo_xout hnt hlk hW h1 h2 h3 (Nat.le_of_ble_eq_true rfl) (Nat.le_of_ble_eq_true rfl))
  clear h
  have h := hnw2
  clear hnw2
  refine cv_ru_117 (As := [.int (3 : Int32), .int y3]) (rest := []) hx hb hml hown hts hK hG hW (c_ru_fail l D cA base hw2) (kb_ru_fail hw2) ⟨Nat.le_of_ble_eq_true rfl, Nat.le_of_ble_eq_true rfl⟩ ⟨Nat.le_of_ble_eq_true rfl, Nat.le_of_ble_eq_true rfl⟩ rfl hl.1 rfl (Nat.le_of_ble_eq_true rfl) d_ru_intOf_19 (fun H locs hW => ?_)
  exact jx_ru_intOf_22 C y1 w2 h _ _ _ hW (lv_sub hl [1] rfl)
set_option maxHeartbeats 4000000 in
set_option maxRecDepth 100000 in
theorem x_ru_intOf (l : Launch) (hst : l.stackTraces = false) (D : va_G) (cA : Nat → ClassId) (base : Nat) {a0 : Nat} {a1 : Int64} {a3 : Int32} {w w' : WW} {E : String} (h : f_ru_intOf a0 a1 a3 w = some (.inr E, w')) : xt l D cls (wo_tys cA) cA base y_ru_intOf (Cond.code y_ru_intOf b_ru_intOf 4 (some .int) :: gt) rx_ru_intOf [.ref (base + a0), .long a1, .int a3] w E w' rx_ru_intOf.cells rx_ru_intOf.slots := by
  refine xt_start (by decide) (Nat.le_of_ble_eq_true rfl) ?_
  intro p e s m below meth c ls hx hb hr hml hown hts hlk hnm hK hG hW hl hnt
  have C : cx b_ru_intOf (some .int) 4 y_ru_intOf.cls "intOf" p s m [.ref (base + a0), .long a1, .int a3].toArray meth c D cA base ∧ (∀ x ∈ c.exceptionTable.toList, ∀ k : Nat, covers x k = false) ∧ l.stackTraces = false := ⟨⟨hx, hb, hr, hml, hown, hts, hlk, hnm, hK, hG⟩, hnt, hst⟩
  have hl : lv_has ls 4 [(0, .ref (base + a0)), (1, .long a1), (3, .int a3)] := hl
  unfold f_ru_intOf at h
  replace h := its h
  obtain ⟨-, h⟩ := h
  refine lv_lload_n hx hb d_ru_intOf_0 rfl (lv_at hl 1 rfl) ?_
  refine lv_ldc2 (own := Rc_ru) (v := (-2147483648 : Int64)) hx hb hown (hts (.constantLong "AlarmForge$Runner" 157 (-2147483648 : Int64)) (gt_of (i := 845) (by decide +kernel) (by decide +kernel))) d_ru_intOf_1 ?_
  refine lc_lt (tgt := 16) hx hb d_ru_intOf_4 d_ru_intOf_5 (by decide) (fun c1 => ?_) (fun c1 => ?_)
  · rw [if_pos c1] at h
    exact jx_ru_intOf_16 C a0 a1 a3 w h _ _ _ hW (lv_sub hl [0, 1, 2] rfl)
  · rw [if_neg c1] at h
    refine lv_lload_n hx hb d_ru_intOf_8 rfl (lv_at hl 1 rfl) ?_
    refine lv_ldc2 (own := Rc_ru) (v := (2147483647 : Int64)) hx hb hown (hts (.constantLong "AlarmForge$Runner" 159 (2147483647 : Int64)) (gt_of (i := 846) (by decide +kernel) (by decide +kernel))) d_ru_intOf_9 ?_
    refine lc_le (tgt := 22) hx hb d_ru_intOf_12 d_ru_intOf_13 (by decide) (fun c4 => ?_) (fun c4 => ?_)
    · rw [if_pos c4] at h
      exact jx_ru_intOf_22 C a1 w h _ _ _ hW (lv_sub hl [1] rfl)
    · rw [if_neg c4] at h
      exact jx_ru_intOf_16 C a0 a1 a3 w h _ _ _ hW (lv_sub hl [0, 1, 2] rfl)
