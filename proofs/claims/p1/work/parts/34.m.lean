/-! Methods as functions, and their contracts (by wip/gen/run.py). -/
abbrev b_q_is : ByteArray := prog_11_method_15_code
def y_q_is : MethodName := ⟨"AlarmForgeModel", "is", "(I)Z"⟩
def rm_q_is : Room := { frames := 0, cells := 0, slots := 0, locals := 0 }
theorem d_q_is_0 : decode b_q_is 0 = .ok (.aload_n 0, 1) := by decide +kernel
theorem d_q_is_1 : decode b_q_is 1 = .ok (.getfield 195, 3) := by decide +kernel
theorem d_q_is_4 : decode b_q_is 4 = .ok (.iconst 5, 1) := by decide +kernel
theorem d_q_is_5 : decode b_q_is 5 = .ok (.if_icmp .ne (15), 3) := by decide +kernel
theorem d_q_is_8 : decode b_q_is 8 = .ok (.aload_n 0, 1) := by decide +kernel
theorem d_q_is_9 : decode b_q_is 9 = .ok (.getfield 198, 3) := by decide +kernel
theorem d_q_is_12 : decode b_q_is 12 = .ok (.iload_n 1, 1) := by decide +kernel
theorem d_q_is_13 : decode b_q_is 13 = .ok (.if_icmp .ne (7), 3) := by decide +kernel
theorem d_q_is_16 : decode b_q_is 16 = .ok (.iconst 1, 1) := by decide +kernel
theorem d_q_is_17 : decode b_q_is 17 = .ok (.goto (4), 3) := by decide +kernel
theorem d_q_is_20 : decode b_q_is 20 = .ok (.iconst 0, 1) := by decide +kernel
theorem d_q_is_21 : decode b_q_is 21 = .ok (.ireturn, 1) := by decide +kernel
def f_q_is_21  (z0 : Int32) (w : WW) : Option (Int32 × WW) :=
  if z0 = 0 ∨ z0 = 1 then some (z0, w) else none
def f_q_is_20   (w : WW) : Option (Int32 × WW) :=
  f_q_is_21 (0 : Int32) w
def f_q_is (a0 : Nat) (a1 : Int32) (w : WW) : Option (Int32 × WW) :=
  if kb w a0 9 = true then
    (gI w a0 9 30).bind fun x1 =>
    if x1 = (5 : Int32) then
      (gI w a0 9 31).bind fun x4 =>
      if x4 = a1 then
        f_q_is_21 (1 : Int32) w
      else
        f_q_is_20 w
    else
      f_q_is_20 w
  else none
theorem kb_q_is {a0 : Nat} {a1 : Int32} {w : WW} {r : (Int32 × WW)} (h : f_q_is a0 a1 w = some r) : kb w a0 9 = true := (its h).1
set_option maxHeartbeats 4000000 in
set_option maxRecDepth 100000 in
theorem j_q_is_21 {p : Program} {l : Launch} {e : Env} {s : State} {m : MethodId} {args : Array Value} {below : List Frame} {meth : Method} {c : Code} {D : va_G} {cA : Nat → ClassId} {base : Nat} {r : Int32} {w' : WW} (C : cx b_q_is (some .boolean) 2 y_q_is.cls "is" p s m args meth c D cA base)   : ∀ (z0 : Int32) (w : WW), f_q_is_21 z0 w = some (r, w') → ∀ (H : Heap) (locs : List Loc) (ls : Array Slot), wo_S D cls cA base s w H locs → lv_has ls 2 [] → W p l e rm_q_is s m args below meth c H locs 0 0 (MQ below (wo_Q D cls cA base (some (.int r)) w') args s rm_q_is.cells rm_q_is.slots (wo_B base)) (F0 m 21 ls [.int z0]) := by
  obtain ⟨hx, hb, hr, hml, hown, hts, hlk, hnm, hK, hG⟩ := id C
  intro z0 w h H locs ls hW hl
  unfold f_q_is_21 at h
  replace h := its h
  obtain ⟨c3, h⟩ := h
  cases h
  exact wo_zret hx hb hr hlk hW c3 d_q_is_21
set_option maxHeartbeats 4000000 in
set_option maxRecDepth 100000 in
theorem j_q_is_20 {p : Program} {l : Launch} {e : Env} {s : State} {m : MethodId} {args : Array Value} {below : List Frame} {meth : Method} {c : Code} {D : va_G} {cA : Nat → ClassId} {base : Nat} {r : Int32} {w' : WW} (C : cx b_q_is (some .boolean) 2 y_q_is.cls "is" p s m args meth c D cA base)   : ∀  (w : WW), f_q_is_20  w = some (r, w') → ∀ (H : Heap) (locs : List Loc) (ls : Array Slot), wo_S D cls cA base s w H locs → lv_has ls 2 [] → W p l e rm_q_is s m args below meth c H locs 0 0 (MQ below (wo_Q D cls cA base (some (.int r)) w') args s rm_q_is.cells rm_q_is.slots (wo_B base)) (F0 m 20 ls []) := by
  obtain ⟨hx, hb, hr, hml, hown, hts, hlk, hnm, hK, hG⟩ := id C
  intro  w h H locs ls hW hl
  unfold f_q_is_20 at h
  refine lv_iconst (v := (0 : Int32)) hx hb d_q_is_20 (by decide) ?_
  exact j_q_is_21 C (0 : Int32) w h _ _ _ hW (lv_sub hl [] rfl)
set_option maxHeartbeats 4000000 in
set_option maxRecDepth 100000 in
theorem c_q_is (l : Launch) (D : va_G) (cA : Nat → ClassId) (base : Nat) {a0 : Nat} {a1 : Int32} {w w' : WW} {r : Int32} (h : f_q_is a0 a1 w = some (r, w')) : mt l D cls (wo_tys cA) cA base y_q_is (Cond.code y_q_is b_q_is 2 (some .boolean) :: gt) rm_q_is [.ref (base + a0), .int a1] w (some (.int r)) w' rm_q_is.cells rm_q_is.slots := by
  refine mt_start (by decide) (Nat.le_of_ble_eq_true rfl) ?_
  intro p e s m below meth c ls hx hb hr hml hown hts hlk hnm hK hG hW hl
  have C : cx b_q_is (some .boolean) 2 y_q_is.cls "is" p s m [.ref (base + a0), .int a1].toArray meth c D cA base := ⟨hx, hb, hr, hml, hown, hts, hlk, hnm, hK, hG⟩
  have hl : lv_has ls 2 [(0, .ref (base + a0)), (1, .int a1)] := hl
  unfold f_q_is at h
  replace h := its h
  obtain ⟨-, h⟩ := h
  refine lv_aload_n hx hb d_q_is_0 rfl (lv_at hl 0 rfl) ?_
  replace h := bs h
  obtain ⟨x1, hx1, h⟩ := h
  refine gf_q_195 hx hb hts hown hK hG hW (gI_s hx1) d_q_is_1 ?_
  refine lv_iconst (v := (5 : Int32)) hx hb d_q_is_4 (by decide) ?_
  refine lv_icmp_ne (tgt := 20) hx hb d_q_is_5 (by decide) (fun c2 => ?_) (fun c2 => ?_)
  · rw [if_neg c2] at h
    exact j_q_is_20 C w h _ _ _ hW (lv_sub hl [] rfl)
  · rw [if_pos c2] at h
    refine lv_aload_n hx hb d_q_is_8 rfl (lv_at hl 0 rfl) ?_
    replace h := bs h
    obtain ⟨x4, hx4, h⟩ := h
    refine gf_q_198 hx hb hts hown hK hG hW (gI_s hx4) d_q_is_9 ?_
    refine lv_iload_n hx hb d_q_is_12 rfl (lv_at hl 1 rfl) ?_
    refine lv_icmp_ne (tgt := 20) hx hb d_q_is_13 (by decide) (fun c5 => ?_) (fun c5 => ?_)
    · rw [if_neg c5] at h
      exact j_q_is_20 C w h _ _ _ hW (lv_sub hl [] rfl)
    · rw [if_pos c5] at h
      refine lv_iconst (v := (1 : Int32)) hx hb d_q_is_16 (by decide) ?_
      refine lv_goto (tgt := 21) hx hb d_q_is_17 (by decide) ?_
      exact j_q_is_21 C (1 : Int32) w h _ _ _ hW (lv_sub hl [] rfl)
abbrev b_q_endBlock : ByteArray := prog_11_method_35_code
def y_q_endBlock : MethodName := ⟨"AlarmForgeModel", "endBlock", "()V"⟩
def rm_q_endBlock : Room := { frames := 0, cells := 0, slots := 0, locals := 0 }
def f_q_endBlock (a0 : Nat) (w : WW) : Option WW := none
theorem kb_q_endBlock {a0 : Nat} {w : WW} {r : WW} (h : f_q_endBlock a0 w = some r) : kb w a0 9 = true := by cases h
theorem c_q_endBlock (l : Launch) (D : va_G) (cA : Nat → ClassId) (base : Nat) {a0 : Nat} {w w' : WW} (h : f_q_endBlock a0 w = some w') : mt l D cls (wo_tys cA) cA base y_q_endBlock (Cond.code y_q_endBlock b_q_endBlock 3 (none) :: gt) rm_q_endBlock [.ref (base + a0)] w none w' rm_q_endBlock.cells rm_q_endBlock.slots := by
  cases h
abbrev b_q_assignment : ByteArray := prog_11_method_32_code
def y_q_assignment : MethodName := ⟨"AlarmForgeModel", "assignment", "()V"⟩
def rm_q_assignment : Room := { frames := 0, cells := 0, slots := 0, locals := 0 }
def f_q_assignment (a0 : Nat) (w : WW) : Option WW := none
theorem kb_q_assignment {a0 : Nat} {w : WW} {r : WW} (h : f_q_assignment a0 w = some r) : kb w a0 9 = true := by cases h
theorem c_q_assignment (l : Launch) (D : va_G) (cA : Nat → ClassId) (base : Nat) {a0 : Nat} {w w' : WW} (h : f_q_assignment a0 w = some w') : mt l D cls (wo_tys cA) cA base y_q_assignment (Cond.code y_q_assignment b_q_assignment 2 (none) :: gt) rm_q_assignment [.ref (base + a0)] w none w' rm_q_assignment.cells rm_q_assignment.slots := by
  cases h
abbrev b_q_storing : ByteArray := prog_11_method_33_code
def y_q_storing : MethodName := ⟨"AlarmForgeModel", "storing", "()V"⟩
def rm_q_storing : Room := { frames := 0, cells := 0, slots := 0, locals := 0 }
def f_q_storing (a0 : Nat) (w : WW) : Option WW := none
theorem kb_q_storing {a0 : Nat} {w : WW} {r : WW} (h : f_q_storing a0 w = some r) : kb w a0 9 = true := by cases h
theorem c_q_storing (l : Launch) (D : va_G) (cA : Nat → ClassId) (base : Nat) {a0 : Nat} {w w' : WW} (h : f_q_storing a0 w = some w') : mt l D cls (wo_tys cA) cA base y_q_storing (Cond.code y_q_storing b_q_storing 2 (none) :: gt) rm_q_storing [.ref (base + a0)] w none w' rm_q_storing.cells rm_q_storing.slots := by
  cases h
abbrev b_q_byWord : ByteArray := prog_11_method_34_code
def y_q_byWord : MethodName := ⟨"AlarmForgeModel", "byWord", "()V"⟩
def rm_q_byWord : Room := { frames := 0, cells := 0, slots := 0, locals := 0 }
def f_q_byWord (a0 : Nat) (w : WW) : Option WW := none
theorem kb_q_byWord {a0 : Nat} {w : WW} {r : WW} (h : f_q_byWord a0 w = some r) : kb w a0 9 = true := by cases h
theorem c_q_byWord (l : Launch) (D : va_G) (cA : Nat → ClassId) (base : Nat) {a0 : Nat} {w w' : WW} (h : f_q_byWord a0 w = some w') : mt l D cls (wo_tys cA) cA base y_q_byWord (Cond.code y_q_byWord b_q_byWord 2 (none) :: gt) rm_q_byWord [.ref (base + a0)] w none w' rm_q_byWord.cells rm_q_byWord.slots := by
  cases h
abbrev b_q_wrong : ByteArray := prog_11_method_16_code
def y_q_wrong : MethodName := ⟨"AlarmForgeModel", "wrong", "()V"⟩
def rm_q_wrong : Room := { frames := 0, cells := 0, slots := 0, locals := 0 }
def f_q_wrong (a0 : Nat) (w : WW) : Option WW := none
theorem kb_q_wrong {a0 : Nat} {w : WW} {r : WW} (h : f_q_wrong a0 w = some r) : kb w a0 9 = true := by cases h
theorem c_q_wrong (l : Launch) (D : va_G) (cA : Nat → ClassId) (base : Nat) {a0 : Nat} {w w' : WW} (h : f_q_wrong a0 w = some w') : mt l D cls (wo_tys cA) cA base y_q_wrong (Cond.code y_q_wrong b_q_wrong 1 (none) :: gt) rm_q_wrong [.ref (base + a0)] w none w' rm_q_wrong.cells rm_q_wrong.slots := by
  cases h
theorem cv_q_237 {p : Program} {l : Launch} {e : Env} {R : Room} {s : State} {m : MethodId} {args : Array Value} {below : List Frame} {meth : Method} {c : Code} {H : Heap} {locs : List Loc} {cells slots : Nat} {Q : State → Prop} {D : va_G} {cA : Nat → ClassId} {base : Nat} {w w' : WW} {cc : ByteArray} {pc nL : Nat} {ls : Array Slot} {rest st0 As : List Value} {ov : Option Value} {b : Nat} (hx : p.tables.exec = Jvm.exec) (hb : c.code = cc) (hml : c.maxLocals = nL) (hown : s.vm.findClass Rc_q = some m.cls) (hts : ∀ w ∈ gt, w.before args s = true) (hK : va_K D cls (wo_tys cA) s) (hG : wo_G base s) (hW : wo_S D cls cA base s w H locs) (hM : mt l D cls (wo_tys cA) cA base y_q_read (Cond.code y_q_read b_q_read 3 (none) :: gt) rm_q_read (.ref (base + b) :: As) w ov w' rm_q_read.cells rm_q_read.slots) (hkb : kb w b 9 = true) (hR : rm_q_read.frames + 1 ≤ R.frames ∧ 8 + (3 + 11) + rm_q_read.locals ≤ R.locals) (hf : cells + rm_q_read.cells ≤ R.cells ∧ slots + rm_q_read.slots ≤ R.slots) (hn : As.length = 0) (hsz : ls.size = nL) (hst : st0 = As.reverse ++ .ref (base + b) :: rest) (hcat : (rest.map fun v => v.category).sum ≤ 8) (hdg : decode cc pc = .ok (.invokevirtual 237, 3)) (kk : ∀ (H1 : Heap) (locs1 : List Loc), wo_S D cls cA base s w' H1 locs1 → W p l e R s m args below meth c H1 locs1 (cells + rm_q_read.cells) (slots + rm_q_read.slots) Q (F0 m (pc + 3) ls (ov.toList ++ rest))) : W p l e R s m args below meth c H locs cells slots Q (F0 m pc ls st0) :=
  wo_callV (C := Rc_q) hx hb hml hown hts hK hG hW hM hkb rfl (gt_of (i := 1390) (by decide +kernel) (by decide +kernel)) (gt_of (i := 1392) (by decide +kernel) (by decide +kernel)) (gt_sel (i := 59) (by decide +kernel) (by decide +kernel)) (gt_of (i := 10) (by decide +kernel) (by decide +kernel)) (gt_of (i := 1393) (by decide +kernel) (by decide +kernel)) (by decide +kernel) hR hf hn hsz hst hcat hdg kk
theorem cv_q_234 {p : Program} {l : Launch} {e : Env} {R : Room} {s : State} {m : MethodId} {args : Array Value} {below : List Frame} {meth : Method} {c : Code} {H : Heap} {locs : List Loc} {cells slots : Nat} {Q : State → Prop} {D : va_G} {cA : Nat → ClassId} {base : Nat} {w w' : WW} {cc : ByteArray} {pc nL : Nat} {ls : Array Slot} {rest st0 As : List Value} {ov : Option Value} {b : Nat} (hx : p.tables.exec = Jvm.exec) (hb : c.code = cc) (hml : c.maxLocals = nL) (hown : s.vm.findClass Rc_q = some m.cls) (hts : ∀ w ∈ gt, w.before args s = true) (hK : va_K D cls (wo_tys cA) s) (hG : wo_G base s) (hW : wo_S D cls cA base s w H locs) (hM : mt l D cls (wo_tys cA) cA base y_q_is (Cond.code y_q_is b_q_is 2 (some .boolean) :: gt) rm_q_is (.ref (base + b) :: As) w ov w' rm_q_is.cells rm_q_is.slots) (hkb : kb w b 9 = true) (hR : rm_q_is.frames + 1 ≤ R.frames ∧ 8 + (2 + 11) + rm_q_is.locals ≤ R.locals) (hf : cells + rm_q_is.cells ≤ R.cells ∧ slots + rm_q_is.slots ≤ R.slots) (hn : As.length = 1) (hsz : ls.size = nL) (hst : st0 = As.reverse ++ .ref (base + b) :: rest) (hcat : (rest.map fun v => v.category).sum ≤ 8) (hdg : decode cc pc = .ok (.invokevirtual 234, 3)) (kk : ∀ (H1 : Heap) (locs1 : List Loc), wo_S D cls cA base s w' H1 locs1 → W p l e R s m args below meth c H1 locs1 (cells + rm_q_is.cells) (slots + rm_q_is.slots) Q (F0 m (pc + 3) ls (ov.toList ++ rest))) : W p l e R s m args below meth c H locs cells slots Q (F0 m pc ls st0) :=
  wo_callV (C := Rc_q) hx hb hml hown hts hK hG hW hM hkb rfl (gt_of (i := 1432) (by decide +kernel) (by decide +kernel)) (gt_of (i := 1434) (by decide +kernel) (by decide +kernel)) (gt_sel (i := 63) (by decide +kernel) (by decide +kernel)) (gt_of (i := 10) (by decide +kernel) (by decide +kernel)) (gt_of (i := 1435) (by decide +kernel) (by decide +kernel)) (by decide +kernel) hR hf hn hsz hst hcat hdg kk
theorem cv_q_311 {p : Program} {l : Launch} {e : Env} {R : Room} {s : State} {m : MethodId} {args : Array Value} {below : List Frame} {meth : Method} {c : Code} {H : Heap} {locs : List Loc} {cells slots : Nat} {Q : State → Prop} {D : va_G} {cA : Nat → ClassId} {base : Nat} {w w' : WW} {cc : ByteArray} {pc nL : Nat} {ls : Array Slot} {rest st0 As : List Value} {ov : Option Value} {b : Nat} (hx : p.tables.exec = Jvm.exec) (hb : c.code = cc) (hml : c.maxLocals = nL) (hown : s.vm.findClass Rc_q = some m.cls) (hts : ∀ w ∈ gt, w.before args s = true) (hK : va_K D cls (wo_tys cA) s) (hG : wo_G base s) (hW : wo_S D cls cA base s w H locs) (hM : mt l D cls (wo_tys cA) cA base y_q_endBlock (Cond.code y_q_endBlock b_q_endBlock 3 (none) :: gt) rm_q_endBlock (.ref (base + b) :: As) w ov w' rm_q_endBlock.cells rm_q_endBlock.slots) (hkb : kb w b 9 = true) (hR : rm_q_endBlock.frames + 1 ≤ R.frames ∧ 8 + (3 + 11) + rm_q_endBlock.locals ≤ R.locals) (hf : cells + rm_q_endBlock.cells ≤ R.cells ∧ slots + rm_q_endBlock.slots ≤ R.slots) (hn : As.length = 0) (hsz : ls.size = nL) (hst : st0 = As.reverse ++ .ref (base + b) :: rest) (hcat : (rest.map fun v => v.category).sum ≤ 8) (hdg : decode cc pc = .ok (.invokevirtual 311, 3)) (kk : ∀ (H1 : Heap) (locs1 : List Loc), wo_S D cls cA base s w' H1 locs1 → W p l e R s m args below meth c H1 locs1 (cells + rm_q_endBlock.cells) (slots + rm_q_endBlock.slots) Q (F0 m (pc + 3) ls (ov.toList ++ rest))) : W p l e R s m args below meth c H locs cells slots Q (F0 m pc ls st0) :=
  wo_callV (C := Rc_q) hx hb hml hown hts hK hG hW hM hkb rfl (gt_of (i := 1436) (by decide +kernel) (by decide +kernel)) (gt_of (i := 1438) (by decide +kernel) (by decide +kernel)) (gt_sel (i := 64) (by decide +kernel) (by decide +kernel)) (gt_of (i := 10) (by decide +kernel) (by decide +kernel)) (gt_of (i := 1439) (by decide +kernel) (by decide +kernel)) (by decide +kernel) hR hf hn hsz hst hcat hdg kk
theorem cv_q_314 {p : Program} {l : Launch} {e : Env} {R : Room} {s : State} {m : MethodId} {args : Array Value} {below : List Frame} {meth : Method} {c : Code} {H : Heap} {locs : List Loc} {cells slots : Nat} {Q : State → Prop} {D : va_G} {cA : Nat → ClassId} {base : Nat} {w w' : WW} {cc : ByteArray} {pc nL : Nat} {ls : Array Slot} {rest st0 As : List Value} {ov : Option Value} {b : Nat} (hx : p.tables.exec = Jvm.exec) (hb : c.code = cc) (hml : c.maxLocals = nL) (hown : s.vm.findClass Rc_q = some m.cls) (hts : ∀ w ∈ gt, w.before args s = true) (hK : va_K D cls (wo_tys cA) s) (hG : wo_G base s) (hW : wo_S D cls cA base s w H locs) (hM : mt l D cls (wo_tys cA) cA base y_q_assignment (Cond.code y_q_assignment b_q_assignment 2 (none) :: gt) rm_q_assignment (.ref (base + b) :: As) w ov w' rm_q_assignment.cells rm_q_assignment.slots) (hkb : kb w b 9 = true) (hR : rm_q_assignment.frames + 1 ≤ R.frames ∧ 8 + (2 + 11) + rm_q_assignment.locals ≤ R.locals) (hf : cells + rm_q_assignment.cells ≤ R.cells ∧ slots + rm_q_assignment.slots ≤ R.slots) (hn : As.length = 0) (hsz : ls.size = nL) (hst : st0 = As.reverse ++ .ref (base + b) :: rest) (hcat : (rest.map fun v => v.category).sum ≤ 8) (hdg : decode cc pc = .ok (.invokevirtual 314, 3)) (kk : ∀ (H1 : Heap) (locs1 : List Loc), wo_S D cls cA base s w' H1 locs1 → W p l e R s m args below meth c H1 locs1 (cells + rm_q_assignment.cells) (slots + rm_q_assignment.slots) Q (F0 m (pc + 3) ls (ov.toList ++ rest))) : W p l e R s m args below meth c H locs cells slots Q (F0 m pc ls st0) :=
  wo_callV (C := Rc_q) hx hb hml hown hts hK hG hW hM hkb rfl (gt_of (i := 1448) (by decide +kernel) (by decide +kernel)) (gt_of (i := 1450) (by decide +kernel) (by decide +kernel)) (gt_sel (i := 67) (by decide +kernel) (by decide +kernel)) (gt_of (i := 10) (by decide +kernel) (by decide +kernel)) (gt_of (i := 1451) (by decide +kernel) (by decide +kernel)) (by decide +kernel) hR hf hn hsz hst hcat hdg kk
theorem cv_q_317 {p : Program} {l : Launch} {e : Env} {R : Room} {s : State} {m : MethodId} {args : Array Value} {below : List Frame} {meth : Method} {c : Code} {H : Heap} {locs : List Loc} {cells slots : Nat} {Q : State → Prop} {D : va_G} {cA : Nat → ClassId} {base : Nat} {w w' : WW} {cc : ByteArray} {pc nL : Nat} {ls : Array Slot} {rest st0 As : List Value} {ov : Option Value} {b : Nat} (hx : p.tables.exec = Jvm.exec) (hb : c.code = cc) (hml : c.maxLocals = nL) (hown : s.vm.findClass Rc_q = some m.cls) (hts : ∀ w ∈ gt, w.before args s = true) (hK : va_K D cls (wo_tys cA) s) (hG : wo_G base s) (hW : wo_S D cls cA base s w H locs) (hM : mt l D cls (wo_tys cA) cA base y_q_storing (Cond.code y_q_storing b_q_storing 2 (none) :: gt) rm_q_storing (.ref (base + b) :: As) w ov w' rm_q_storing.cells rm_q_storing.slots) (hkb : kb w b 9 = true) (hR : rm_q_storing.frames + 1 ≤ R.frames ∧ 8 + (2 + 11) + rm_q_storing.locals ≤ R.locals) (hf : cells + rm_q_storing.cells ≤ R.cells ∧ slots + rm_q_storing.slots ≤ R.slots) (hn : As.length = 0) (hsz : ls.size = nL) (hst : st0 = As.reverse ++ .ref (base + b) :: rest) (hcat : (rest.map fun v => v.category).sum ≤ 8) (hdg : decode cc pc = .ok (.invokevirtual 317, 3)) (kk : ∀ (H1 : Heap) (locs1 : List Loc), wo_S D cls cA base s w' H1 locs1 → W p l e R s m args below meth c H1 locs1 (cells + rm_q_storing.cells) (slots + rm_q_storing.slots) Q (F0 m (pc + 3) ls (ov.toList ++ rest))) : W p l e R s m args below meth c H locs cells slots Q (F0 m pc ls st0) :=
  wo_callV (C := Rc_q) hx hb hml hown hts hK hG hW hM hkb rfl (gt_of (i := 1502) (by decide +kernel) (by decide +kernel)) (gt_of (i := 1504) (by decide +kernel) (by decide +kernel)) (gt_sel (i := 79) (by decide +kernel) (by decide +kernel)) (gt_of (i := 10) (by decide +kernel) (by decide +kernel)) (gt_of (i := 1505) (by decide +kernel) (by decide +kernel)) (by decide +kernel) hR hf hn hsz hst hcat hdg kk
theorem cv_q_320 {p : Program} {l : Launch} {e : Env} {R : Room} {s : State} {m : MethodId} {args : Array Value} {below : List Frame} {meth : Method} {c : Code} {H : Heap} {locs : List Loc} {cells slots : Nat} {Q : State → Prop} {D : va_G} {cA : Nat → ClassId} {base : Nat} {w w' : WW} {cc : ByteArray} {pc nL : Nat} {ls : Array Slot} {rest st0 As : List Value} {ov : Option Value} {b : Nat} (hx : p.tables.exec = Jvm.exec) (hb : c.code = cc) (hml : c.maxLocals = nL) (hown : s.vm.findClass Rc_q = some m.cls) (hts : ∀ w ∈ gt, w.before args s = true) (hK : va_K D cls (wo_tys cA) s) (hG : wo_G base s) (hW : wo_S D cls cA base s w H locs) (hM : mt l D cls (wo_tys cA) cA base y_q_byWord (Cond.code y_q_byWord b_q_byWord 2 (none) :: gt) rm_q_byWord (.ref (base + b) :: As) w ov w' rm_q_byWord.cells rm_q_byWord.slots) (hkb : kb w b 9 = true) (hR : rm_q_byWord.frames + 1 ≤ R.frames ∧ 8 + (2 + 11) + rm_q_byWord.locals ≤ R.locals) (hf : cells + rm_q_byWord.cells ≤ R.cells ∧ slots + rm_q_byWord.slots ≤ R.slots) (hn : As.length = 0) (hsz : ls.size = nL) (hst : st0 = As.reverse ++ .ref (base + b) :: rest) (hcat : (rest.map fun v => v.category).sum ≤ 8) (hdg : decode cc pc = .ok (.invokevirtual 320, 3)) (kk : ∀ (H1 : Heap) (locs1 : List Loc), wo_S D cls cA base s w' H1 locs1 → W p l e R s m args below meth c H1 locs1 (cells + rm_q_byWord.cells) (slots + rm_q_byWord.slots) Q (F0 m (pc + 3) ls (ov.toList ++ rest))) : W p l e R s m args below meth c H locs cells slots Q (F0 m pc ls st0) :=
  wo_callV (C := Rc_q) hx hb hml hown hts hK hG hW hM hkb rfl (gt_of (i := 1506) (by decide +kernel) (by decide +kernel)) (gt_of (i := 1508) (by decide +kernel) (by decide +kernel)) (gt_sel (i := 80) (by decide +kernel) (by decide +kernel)) (gt_of (i := 10) (by decide +kernel) (by decide +kernel)) (gt_of (i := 1509) (by decide +kernel) (by decide +kernel)) (by decide +kernel) hR hf hn hsz hst hcat hdg kk
theorem cv_q_240 {p : Program} {l : Launch} {e : Env} {R : Room} {s : State} {m : MethodId} {args : Array Value} {below : List Frame} {meth : Method} {c : Code} {H : Heap} {locs : List Loc} {cells slots : Nat} {Q : State → Prop} {D : va_G} {cA : Nat → ClassId} {base : Nat} {w w' : WW} {cc : ByteArray} {pc nL : Nat} {ls : Array Slot} {rest st0 As : List Value} {ov : Option Value} {b : Nat} (hx : p.tables.exec = Jvm.exec) (hb : c.code = cc) (hml : c.maxLocals = nL) (hown : s.vm.findClass Rc_q = some m.cls) (hts : ∀ w ∈ gt, w.before args s = true) (hK : va_K D cls (wo_tys cA) s) (hG : wo_G base s) (hW : wo_S D cls cA base s w H locs) (hM : mt l D cls (wo_tys cA) cA base y_q_wrong (Cond.code y_q_wrong b_q_wrong 1 (none) :: gt) rm_q_wrong (.ref (base + b) :: As) w ov w' rm_q_wrong.cells rm_q_wrong.slots) (hkb : kb w b 9 = true) (hR : rm_q_wrong.frames + 1 ≤ R.frames ∧ 8 + (1 + 11) + rm_q_wrong.locals ≤ R.locals) (hf : cells + rm_q_wrong.cells ≤ R.cells ∧ slots + rm_q_wrong.slots ≤ R.slots) (hn : As.length = 0) (hsz : ls.size = nL) (hst : st0 = As.reverse ++ .ref (base + b) :: rest) (hcat : (rest.map fun v => v.category).sum ≤ 8) (hdg : decode cc pc = .ok (.invokevirtual 240, 3)) (kk : ∀ (H1 : Heap) (locs1 : List Loc), wo_S D cls cA base s w' H1 locs1 → W p l e R s m args below meth c H1 locs1 (cells + rm_q_wrong.cells) (slots + rm_q_wrong.slots) Q (F0 m (pc + 3) ls (ov.toList ++ rest))) : W p l e R s m args below meth c H locs cells slots Q (F0 m pc ls st0) :=
  wo_callV (C := Rc_q) hx hb hml hown hts hK hG hW hM hkb rfl (gt_of (i := 1440) (by decide +kernel) (by decide +kernel)) (gt_of (i := 1442) (by decide +kernel) (by decide +kernel)) (gt_sel (i := 65) (by decide +kernel) (by decide +kernel)) (gt_of (i := 10) (by decide +kernel) (by decide +kernel)) (gt_of (i := 1443) (by decide +kernel) (by decide +kernel)) (by decide +kernel) hR hf hn hsz hst hcat hdg kk
abbrev b_q_parse : ByteArray := prog_11_method_36_code
def y_q_parse : MethodName := ⟨"AlarmForgeModel", "parse", "()I"⟩
def rm_q_parse : Room := { frames := 3, cells := 0, slots := 0, locals := 67 }
theorem d_q_parse_0 : decode b_q_parse 0 = .ok (.aload_n 0, 1) := by decide +kernel
theorem d_q_parse_1 : decode b_q_parse 1 = .ok (.iconst 1, 1) := by decide +kernel
theorem d_q_parse_2 : decode b_q_parse 2 = .ok (.aload_n 0, 1) := by decide +kernel
theorem d_q_parse_3 : decode b_q_parse 3 = .ok (.getfield 308, 3) := by decide +kernel
theorem d_q_parse_6 : decode b_q_parse 6 = .ok (.isub, 1) := by decide +kernel
theorem d_q_parse_7 : decode b_q_parse 7 = .ok (.putfield 243, 3) := by decide +kernel
theorem d_q_parse_10 : decode b_q_parse 10 = .ok (.aload_n 0, 1) := by decide +kernel
theorem d_q_parse_11 : decode b_q_parse 11 = .ok (.getfield 63, 3) := by decide +kernel
theorem d_q_parse_14 : decode b_q_parse 14 = .ok (.aload_n 0, 1) := by decide +kernel
theorem d_q_parse_15 : decode b_q_parse 15 = .ok (.getfield 243, 3) := by decide +kernel
theorem d_q_parse_18 : decode b_q_parse 18 = .ok (.iconst (-1), 1) := by decide +kernel
theorem d_q_parse_19 : decode b_q_parse 19 = .ok (.iastore, 1) := by decide +kernel
theorem d_q_parse_20 : decode b_q_parse 20 = .ok (.aload_n 0, 1) := by decide +kernel
theorem d_q_parse_21 : decode b_q_parse 21 = .ok (.getfield 66, 3) := by decide +kernel
theorem d_q_parse_24 : decode b_q_parse 24 = .ok (.aload_n 0, 1) := by decide +kernel
theorem d_q_parse_25 : decode b_q_parse 25 = .ok (.getfield 243, 3) := by decide +kernel
theorem d_q_parse_28 : decode b_q_parse 28 = .ok (.iconst 0, 1) := by decide +kernel
theorem d_q_parse_29 : decode b_q_parse 29 = .ok (.iastore, 1) := by decide +kernel
theorem d_q_parse_30 : decode b_q_parse 30 = .ok (.aload_n 0, 1) := by decide +kernel
theorem d_q_parse_31 : decode b_q_parse 31 = .ok (.getfield 69, 3) := by decide +kernel
theorem d_q_parse_34 : decode b_q_parse 34 = .ok (.aload_n 0, 1) := by decide +kernel
theorem d_q_parse_35 : decode b_q_parse 35 = .ok (.getfield 243, 3) := by decide +kernel
theorem d_q_parse_38 : decode b_q_parse 38 = .ok (.iconst 0, 1) := by decide +kernel
theorem d_q_parse_39 : decode b_q_parse 39 = .ok (.iastore, 1) := by decide +kernel
theorem d_q_parse_40 : decode b_q_parse 40 = .ok (.aload_n 0, 1) := by decide +kernel
theorem d_q_parse_41 : decode b_q_parse 41 = .ok (.iconst 0, 1) := by decide +kernel
theorem d_q_parse_42 : decode b_q_parse 42 = .ok (.putfield 295, 3) := by decide +kernel
theorem d_q_parse_45 : decode b_q_parse 45 = .ok (.aload_n 0, 1) := by decide +kernel
theorem d_q_parse_46 : decode b_q_parse 46 = .ok (.getfield 87, 3) := by decide +kernel
theorem d_q_parse_49 : decode b_q_parse 49 = .ok (.iconst 0, 1) := by decide +kernel
theorem d_q_parse_50 : decode b_q_parse 50 = .ok (.iconst (-1), 1) := by decide +kernel
theorem d_q_parse_51 : decode b_q_parse 51 = .ok (.iastore, 1) := by decide +kernel
theorem d_q_parse_52 : decode b_q_parse 52 = .ok (.aload_n 0, 1) := by decide +kernel
theorem d_q_parse_53 : decode b_q_parse 53 = .ok (.iconst 0, 1) := by decide +kernel
theorem d_q_parse_54 : decode b_q_parse 54 = .ok (.putfield 178, 3) := by decide +kernel
theorem d_q_parse_57 : decode b_q_parse 57 = .ok (.aload_n 0, 1) := by decide +kernel
theorem d_q_parse_58 : decode b_q_parse 58 = .ok (.iconst 0, 1) := by decide +kernel
theorem d_q_parse_59 : decode b_q_parse 59 = .ok (.putfield 230, 3) := by decide +kernel
theorem d_q_parse_62 : decode b_q_parse 62 = .ok (.aload_n 0, 1) := by decide +kernel
theorem d_q_parse_63 : decode b_q_parse 63 = .ok (.bipush (-2), 2) := by decide +kernel
theorem d_q_parse_65 : decode b_q_parse 65 = .ok (.putfield 16, 3) := by decide +kernel
theorem d_q_parse_68 : decode b_q_parse 68 = .ok (.aload_n 0, 1) := by decide +kernel
theorem d_q_parse_69 : decode b_q_parse 69 = .ok (.invokevirtual 237, 3) := by decide +kernel
theorem d_q_parse_72 : decode b_q_parse 72 = .ok (.aload_n 0, 1) := by decide +kernel
theorem d_q_parse_73 : decode b_q_parse 73 = .ok (.getfield 230, 3) := by decide +kernel
theorem d_q_parse_76 : decode b_q_parse 76 = .ok (.ifCond .ne (101), 3) := by decide +kernel
theorem d_q_parse_79 : decode b_q_parse 79 = .ok (.aload_n 0, 1) := by decide +kernel
theorem d_q_parse_80 : decode b_q_parse 80 = .ok (.getfield 195, 3) := by decide +kernel
theorem d_q_parse_83 : decode b_q_parse 83 = .ok (.ifCond .ne (10), 3) := by decide +kernel
theorem d_q_parse_86 : decode b_q_parse 86 = .ok (.aload_n 0, 1) := by decide +kernel
theorem d_q_parse_87 : decode b_q_parse 87 = .ok (.getfield 295, 3) := by decide +kernel
theorem d_q_parse_90 : decode b_q_parse 90 = .ok (.ifCond .le (87), 3) := by decide +kernel
theorem d_q_parse_93 : decode b_q_parse 93 = .ok (.aload_n 0, 1) := by decide +kernel
theorem d_q_parse_94 : decode b_q_parse 94 = .ok (.bipush (125), 2) := by decide +kernel
theorem d_q_parse_96 : decode b_q_parse 96 = .ok (.invokevirtual 234, 3) := by decide +kernel
theorem d_q_parse_99 : decode b_q_parse 99 = .ok (.ifCond .eq (10), 3) := by decide +kernel
theorem d_q_parse_102 : decode b_q_parse 102 = .ok (.aload_n 0, 1) := by decide +kernel
theorem d_q_parse_103 : decode b_q_parse 103 = .ok (.invokevirtual 311, 3) := by decide +kernel
theorem d_q_parse_106 : decode b_q_parse 106 = .ok (.goto (-34), 3) := by decide +kernel
theorem d_q_parse_109 : decode b_q_parse 109 = .ok (.aload_n 0, 1) := by decide +kernel
theorem d_q_parse_110 : decode b_q_parse 110 = .ok (.getfield 195, 3) := by decide +kernel
theorem d_q_parse_113 : decode b_q_parse 113 = .ok (.iconst 2, 1) := by decide +kernel
theorem d_q_parse_114 : decode b_q_parse 114 = .ok (.if_icmp .ne (10), 3) := by decide +kernel
theorem d_q_parse_117 : decode b_q_parse 117 = .ok (.aload_n 0, 1) := by decide +kernel
theorem d_q_parse_118 : decode b_q_parse 118 = .ok (.invokevirtual 314, 3) := by decide +kernel
theorem d_q_parse_121 : decode b_q_parse 121 = .ok (.goto (-49), 3) := by decide +kernel
theorem d_q_parse_124 : decode b_q_parse 124 = .ok (.aload_n 0, 1) := by decide +kernel
theorem d_q_parse_125 : decode b_q_parse 125 = .ok (.getfield 195, 3) := by decide +kernel
theorem d_q_parse_128 : decode b_q_parse 128 = .ok (.iconst 3, 1) := by decide +kernel
theorem d_q_parse_129 : decode b_q_parse 129 = .ok (.if_icmp .ne (10), 3) := by decide +kernel
theorem d_q_parse_132 : decode b_q_parse 132 = .ok (.aload_n 0, 1) := by decide +kernel
theorem d_q_parse_133 : decode b_q_parse 133 = .ok (.invokevirtual 317, 3) := by decide +kernel
theorem d_q_parse_136 : decode b_q_parse 136 = .ok (.goto (-64), 3) := by decide +kernel
theorem d_q_parse_139 : decode b_q_parse 139 = .ok (.aload_n 0, 1) := by decide +kernel
theorem d_q_parse_140 : decode b_q_parse 140 = .ok (.getfield 195, 3) := by decide +kernel
theorem d_q_parse_143 : decode b_q_parse 143 = .ok (.iconst 4, 1) := by decide +kernel
theorem d_q_parse_144 : decode b_q_parse 144 = .ok (.if_icmp .ne (26), 3) := by decide +kernel
theorem d_q_parse_147 : decode b_q_parse 147 = .ok (.aload_n 0, 1) := by decide +kernel
theorem d_q_parse_148 : decode b_q_parse 148 = .ok (.getfield 198, 3) := by decide +kernel
theorem d_q_parse_151 : decode b_q_parse 151 = .ok (.iconst 1, 1) := by decide +kernel
theorem d_q_parse_152 : decode b_q_parse 152 = .ok (.if_icmp .eq (18), 3) := by decide +kernel
theorem d_q_parse_155 : decode b_q_parse 155 = .ok (.aload_n 0, 1) := by decide +kernel
theorem d_q_parse_156 : decode b_q_parse 156 = .ok (.getfield 198, 3) := by decide +kernel
theorem d_q_parse_159 : decode b_q_parse 159 = .ok (.iconst 4, 1) := by decide +kernel
theorem d_q_parse_160 : decode b_q_parse 160 = .ok (.if_icmp .eq (10), 3) := by decide +kernel
theorem d_q_parse_163 : decode b_q_parse 163 = .ok (.aload_n 0, 1) := by decide +kernel
theorem d_q_parse_164 : decode b_q_parse 164 = .ok (.invokevirtual 320, 3) := by decide +kernel
theorem d_q_parse_167 : decode b_q_parse 167 = .ok (.goto (-95), 3) := by decide +kernel
theorem d_q_parse_170 : decode b_q_parse 170 = .ok (.aload_n 0, 1) := by decide +kernel
theorem d_q_parse_171 : decode b_q_parse 171 = .ok (.invokevirtual 240, 3) := by decide +kernel
theorem d_q_parse_174 : decode b_q_parse 174 = .ok (.goto (-102), 3) := by decide +kernel
theorem d_q_parse_177 : decode b_q_parse 177 = .ok (.aload_n 0, 1) := by decide +kernel
theorem d_q_parse_178 : decode b_q_parse 178 = .ok (.getfield 230, 3) := by decide +kernel
theorem d_q_parse_181 : decode b_q_parse 181 = .ok (.ifCond .eq (9), 3) := by decide +kernel
theorem d_q_parse_184 : decode b_q_parse 184 = .ok (.aload_n 0, 1) := by decide +kernel
theorem d_q_parse_185 : decode b_q_parse 185 = .ok (.iconst 1, 1) := by decide +kernel
theorem d_q_parse_186 : decode b_q_parse 186 = .ok (.invokevirtual 159, 3) := by decide +kernel
theorem d_q_parse_189 : decode b_q_parse 189 = .ok (.ireturn, 1) := by decide +kernel
theorem d_q_parse_190 : decode b_q_parse 190 = .ok (.aload_n 0, 1) := by decide +kernel
theorem d_q_parse_191 : decode b_q_parse 191 = .ok (.iconst 0, 1) := by decide +kernel
theorem d_q_parse_192 : decode b_q_parse 192 = .ok (.putfield 148, 3) := by decide +kernel
theorem d_q_parse_195 : decode b_q_parse 195 = .ok (.aload_n 0, 1) := by decide +kernel
theorem d_q_parse_196 : decode b_q_parse 196 = .ok (.aload_n 0, 1) := by decide +kernel
theorem d_q_parse_197 : decode b_q_parse 197 = .ok (.getfield 243, 3) := by decide +kernel
theorem d_q_parse_200 : decode b_q_parse 200 = .ok (.putfield 308, 3) := by decide +kernel
theorem d_q_parse_203 : decode b_q_parse 203 = .ok (.aload_n 0, 1) := by decide +kernel
theorem d_q_parse_204 : decode b_q_parse 204 = .ok (.iconst 1, 1) := by decide +kernel
theorem d_q_parse_205 : decode b_q_parse 205 = .ok (.putfield 323, 3) := by decide +kernel
theorem d_q_parse_208 : decode b_q_parse 208 = .ok (.aload_n 0, 1) := by decide +kernel
theorem d_q_parse_209 : decode b_q_parse 209 = .ok (.getfield 66, 3) := by decide +kernel
theorem d_q_parse_212 : decode b_q_parse 212 = .ok (.aload_n 0, 1) := by decide +kernel
theorem d_q_parse_213 : decode b_q_parse 213 = .ok (.getfield 308, 3) := by decide +kernel
theorem d_q_parse_216 : decode b_q_parse 216 = .ok (.iaload, 1) := by decide +kernel
theorem d_q_parse_217 : decode b_q_parse 217 = .ok (.ireturn, 1) := by decide +kernel
def f_q_parse_177  (y0 : Nat) (w : WW) : Option (Int32 × WW) :=
  (gI w y0 9 34).bind fun x22 =>
  if x22 = 0 then
    (pv w y0 9 5 (.int (0 : Int32))).bind fun w24 =>
    (gI w24 y0 9 32).bind fun x25 =>
    (pv w24 y0 9 27 (.int x25)).bind fun w26 =>
    if (1 : Int32) = 0 ∨ (1 : Int32) = 1 then
      (pv w26 y0 9 8 (.int (1 : Int32))).bind fun w27 =>
      (gN w27 y0 9 22).bind fun x29 =>
      (gI w27 y0 9 27).bind fun x30 =>
      (rI w27 x29 0 x30).bind fun x31 =>
      some (x31, w27)
    else none
  else
    bd2 (f_q_fail y0 (1 : Int32) w) fun x33 w32 =>
    some (x33, w32)
def f_q_parse_170 (k_72 : Nat → WW → Option (Int32 × WW)) (y0 : Nat) (w : WW) : Option (Int32 × WW) :=
  (f_q_wrong y0 w).bind fun w45 =>
  k_72 y0 w45
def f_q_parse_93 (k_72 : Nat → WW → Option (Int32 × WW)) (y0 : Nat) (w : WW) : Option (Int32 × WW) :=
  bd2 (f_q_is y0 (125 : Int32) w) fun x37 w36 =>
  if x37 = 0 then
    (gI w36 y0 9 30).bind fun x39 =>
    if x39 = (2 : Int32) then
      (f_q_assignment y0 w36).bind fun w52 =>
      k_72 y0 w52
    else
      (gI w36 y0 9 30).bind fun x41 =>
      if x41 = (3 : Int32) then
        (f_q_storing y0 w36).bind fun w51 =>
        k_72 y0 w51
      else
        (gI w36 y0 9 30).bind fun x43 =>
        if x43 = (4 : Int32) then
          (gI w36 y0 9 31).bind fun x46 =>
          if x46 = (1 : Int32) then
            f_q_parse_170 k_72 y0 w36
          else
            (gI w36 y0 9 31).bind fun x48 =>
            if x48 = (4 : Int32) then
              f_q_parse_170 k_72 y0 w36
            else
              (f_q_byWord y0 w36).bind fun w50 =>
              k_72 y0 w50
        else
          f_q_parse_170 k_72 y0 w36
  else
    (f_q_endBlock y0 w36).bind fun w53 =>
    k_72 y0 w53
def f_q_parse_72  : Nat → Nat → WW → Option (Int32 × WW)
  | 0, _, _ => none
  | n + 1, y0, w =>
    (gI w y0 9 34).bind fun x20 =>
    if x20 = 0 then
      (gI w y0 9 30).bind fun x34 =>
      if x34 = 0 then
        (gI w y0 9 33).bind fun x54 =>
        if x54 ≤ 0 then
          f_q_parse_177 y0 w
        else
          f_q_parse_93 (f_q_parse_72 n) y0 w
      else
        f_q_parse_93 (f_q_parse_72 n) y0 w
    else
      f_q_parse_177 y0 w
def f_q_parse (a0 : Nat) (w : WW) : Option (Int32 × WW) :=
  if kb w a0 9 = true then
    (gI w a0 9 27).bind fun x1 =>
    (pv w a0 9 32 (.int ((1 : Int32) - x1))).bind fun w2 =>
    (gN w2 a0 9 21).bind fun x3 =>
    (gI w2 a0 9 32).bind fun x4 =>
    (sI w2 x3 0 x4 (-1 : Int32)).bind fun w5 =>
    (gN w5 a0 9 22).bind fun x6 =>
    (gI w5 a0 9 32).bind fun x7 =>
    (sI w5 x6 0 x7 (0 : Int32)).bind fun w8 =>
    (gN w8 a0 9 23).bind fun x9 =>
    (gI w8 a0 9 32).bind fun x10 =>
    (sI w8 x9 0 x10 (0 : Int32)).bind fun w11 =>
    (pv w11 a0 9 33 (.int (0 : Int32))).bind fun w12 =>
    (gN w12 a0 9 37).bind fun x13 =>
    (sI w12 x13 0 (0 : Int32) (-1 : Int32)).bind fun w14 =>
    (pv w14 a0 9 28 (.int (0 : Int32))).bind fun w15 =>
    if (0 : Int32) = 0 ∨ (0 : Int32) = 1 then
      (pv w15 a0 9 34 (.int (0 : Int32))).bind fun w16 =>
      (pv w16 a0 9 4 (.int (-2 : Int32))).bind fun w18 =>
      (f_q_read a0 w18).bind fun w19 =>
      f_q_parse_72 KK a0 w19
    else none
  else none
theorem kb_q_parse {a0 : Nat}  {w : WW} {r : (Int32 × WW)} (h : f_q_parse a0 w = some r) : kb w a0 9 = true := (its h).1
set_option maxHeartbeats 4000000 in
set_option maxRecDepth 100000 in
theorem j_q_parse_177 {p : Program} {l : Launch} {e : Env} {s : State} {m : MethodId} {args : Array Value} {below : List Frame} {meth : Method} {c : Code} {D : va_G} {cA : Nat → ClassId} {base : Nat} {r : Int32} {w' : WW} (C : cx b_q_parse (some .int) 1 y_q_parse.cls "parse" p s m args meth c D cA base)   : ∀ (y0 : Nat) (w : WW), f_q_parse_177 y0 w = some (r, w') → ∀ (H : Heap) (locs : List Loc) (ls : Array Slot), wo_S D cls cA base s w H locs → lv_has ls 1 [(0, .ref (base + y0))] → W p l e rm_q_parse s m args below meth c H locs 0 0 (MQ below (wo_Q D cls cA base (some (.int r)) w') args s rm_q_parse.cells rm_q_parse.slots (wo_B base)) (F0 m 177 ls []) := by
  obtain ⟨hx, hb, hr, hml, hown, hts, hlk, hnm, hK, hG⟩ := id C
  intro y0 w h H locs ls hW hl
  unfold f_q_parse_177 at h
  refine lv_aload_n hx hb d_q_parse_177 rfl (lv_at hl 0 rfl) ?_
  replace h := bs h
  obtain ⟨x22, hx22, h⟩ := h
  refine gf_q_230 hx hb hts hown hK hG hW (gI_s hx22) d_q_parse_178 ?_
  refine lv_if_eq (tgt := 190) hx hb d_q_parse_181 (by decide) (fun c23 => ?_) (fun c23 => ?_)
  · rw [if_pos c23] at h
    refine lv_aload_n hx hb d_q_parse_190 rfl (lv_at hl 0 rfl) ?_
    refine lv_iconst (v := (0 : Int32)) hx hb d_q_parse_191 (by decide) ?_
    replace h := bs h
    obtain ⟨w24, hw24, h⟩ := h
    refine pf_q_148 hx hb hts hown hK hG hW rfl rfl (pbi hw24 rfl) d_q_parse_192 (fun H locs hW => ?_)
    refine lv_aload_n hx hb d_q_parse_195 rfl (lv_at hl 0 rfl) ?_
    refine lv_aload_n hx hb d_q_parse_196 rfl (lv_at hl 0 rfl) ?_
    replace h := bs h
    obtain ⟨x25, hx25, h⟩ := h
    refine gf_q_243 hx hb hts hown hK hG hW (gI_s hx25) d_q_parse_197 ?_
    replace h := bs h
    obtain ⟨w26, hw26, h⟩ := h
    refine pf_q_308 hx hb hts hown hK hG hW rfl rfl (pbi hw26 rfl) d_q_parse_200 (fun H locs hW => ?_)
    refine lv_aload_n hx hb d_q_parse_203 rfl (lv_at hl 0 rfl) ?_
    refine lv_iconst (v := (1 : Int32)) hx hb d_q_parse_204 (by decide) ?_
    replace h := its h
    obtain ⟨c28, h⟩ := h
    replace h := bs h
    obtain ⟨w27, hw27, h⟩ := h
    refine pf_q_323 hx hb hts hown hK hG hW (z_n c28) (z_f c28) (pbi hw27 rfl) d_q_parse_205 (fun H locs hW => ?_)
    refine lv_aload_n hx hb d_q_parse_208 rfl (lv_at hl 0 rfl) ?_
    replace h := bs h
    obtain ⟨x29, hx29, h⟩ := h
    refine gf_q_66 hx hb hts hown hK hG hW (gN_s hx29) d_q_parse_209 ?_
    refine lv_aload_n hx hb d_q_parse_212 rfl (lv_at hl 0 rfl) ?_
    replace h := bs h
    obtain ⟨x30, hx30, h⟩ := h
    refine gf_q_308 hx hb hts hown hK hG hW (gI_s hx30) d_q_parse_213 ?_
    replace h := bs h
    obtain ⟨x31, hx31, h⟩ := h
    refine wo_iald hx hb hK hW (t := 0) rfl hx31 d_q_parse_216 ?_
    cases h
    exact wo_iret hx hb hr hlk hW d_q_parse_217
  · rw [if_neg c23] at h
    refine lv_aload_n hx hb d_q_parse_184 rfl (lv_at hl 0 rfl) ?_
    refine lv_iconst (v := (1 : Int32)) hx hb d_q_parse_185 (by decide) ?_
    replace h := bs2 h
    obtain ⟨x33, w32, hw32, h⟩ := h
    refine cv_q_159 (As := [.int (1 : Int32)]) (rest := []) hx hb hml hown hts hK hG hW (c_q_fail l D cA base hw32) (kb_q_fail hw32) ⟨Nat.le_of_ble_eq_true rfl, Nat.le_of_ble_eq_true rfl⟩ ⟨Nat.le_of_ble_eq_true rfl, Nat.le_of_ble_eq_true rfl⟩ rfl hl.1 rfl (Nat.le_of_ble_eq_true rfl) d_q_parse_186 (fun H locs hW => ?_)
    cases h
    exact wo_iret hx hb hr hlk hW d_q_parse_189
set_option maxHeartbeats 4000000 in
set_option maxRecDepth 100000 in
theorem j_q_parse_170 {p : Program} {l : Launch} {e : Env} {s : State} {m : MethodId} {args : Array Value} {below : List Frame} {meth : Method} {c : Code} {D : va_G} {cA : Nat → ClassId} {base : Nat} {r : Int32} {w' : WW} (C : cx b_q_parse (some .int) 1 y_q_parse.cls "parse" p s m args meth c D cA base) {k_72 : Nat → WW → Option (Int32 × WW)} (hk_72 : ∀ (y0 : Nat) (w : WW), k_72 y0 w = some (r, w') → ∀ (H : Heap) (locs : List Loc) (ls : Array Slot), wo_S D cls cA base s w H locs → lv_has ls 1 [(0, .ref (base + y0))] → W p l e rm_q_parse s m args below meth c H locs 0 0 (MQ below (wo_Q D cls cA base (some (.int r)) w') args s rm_q_parse.cells rm_q_parse.slots (wo_B base)) (F0 m 72 ls [])) : ∀ (y0 : Nat) (w : WW), f_q_parse_170 k_72 y0 w = some (r, w') → ∀ (H : Heap) (locs : List Loc) (ls : Array Slot), wo_S D cls cA base s w H locs → lv_has ls 1 [(0, .ref (base + y0))] → W p l e rm_q_parse s m args below meth c H locs 0 0 (MQ below (wo_Q D cls cA base (some (.int r)) w') args s rm_q_parse.cells rm_q_parse.slots (wo_B base)) (F0 m 170 ls []) := by
  obtain ⟨hx, hb, hr, hml, hown, hts, hlk, hnm, hK, hG⟩ := id C
  intro y0 w h H locs ls hW hl
  unfold f_q_parse_170 at h
  refine lv_aload_n hx hb d_q_parse_170 rfl (lv_at hl 0 rfl) ?_
  replace h := bs h
  obtain ⟨w45, hw45, h⟩ := h
  refine cv_q_240 (As := []) (rest := []) hx hb hml hown hts hK hG hW (c_q_wrong l D cA base hw45) (kb_q_wrong hw45) ⟨Nat.le_of_ble_eq_true rfl, Nat.le_of_ble_eq_true rfl⟩ ⟨Nat.le_of_ble_eq_true rfl, Nat.le_of_ble_eq_true rfl⟩ rfl hl.1 rfl (Nat.le_of_ble_eq_true rfl) d_q_parse_171 (fun H locs hW => ?_)
  refine lv_goto (tgt := 72) hx hb d_q_parse_174 (by decide) ?_
  exact hk_72 y0 w45 h _ _ _ hW (lv_sub hl [0] rfl)
set_option maxHeartbeats 4000000 in
set_option maxRecDepth 100000 in
theorem j_q_parse_93 {p : Program} {l : Launch} {e : Env} {s : State} {m : MethodId} {args : Array Value} {below : List Frame} {meth : Method} {c : Code} {D : va_G} {cA : Nat → ClassId} {base : Nat} {r : Int32} {w' : WW} (C : cx b_q_parse (some .int) 1 y_q_parse.cls "parse" p s m args meth c D cA base) {k_72 : Nat → WW → Option (Int32 × WW)} (hk_72 : ∀ (y0 : Nat) (w : WW), k_72 y0 w = some (r, w') → ∀ (H : Heap) (locs : List Loc) (ls : Array Slot), wo_S D cls cA base s w H locs → lv_has ls 1 [(0, .ref (base + y0))] → W p l e rm_q_parse s m args below meth c H locs 0 0 (MQ below (wo_Q D cls cA base (some (.int r)) w') args s rm_q_parse.cells rm_q_parse.slots (wo_B base)) (F0 m 72 ls [])) : ∀ (y0 : Nat) (w : WW), f_q_parse_93 k_72 y0 w = some (r, w') → ∀ (H : Heap) (locs : List Loc) (ls : Array Slot), wo_S D cls cA base s w H locs → lv_has ls 1 [(0, .ref (base + y0))] → W p l e rm_q_parse s m args below meth c H locs 0 0 (MQ below (wo_Q D cls cA base (some (.int r)) w') args s rm_q_parse.cells rm_q_parse.slots (wo_B base)) (F0 m 93 ls []) := by
  obtain ⟨hx, hb, hr, hml, hown, hts, hlk, hnm, hK, hG⟩ := id C
  intro y0 w h H locs ls hW hl
  unfold f_q_parse_93 at h
  refine lv_aload_n hx hb d_q_parse_93 rfl (lv_at hl 0 rfl) ?_
  refine lv_bipush (v := (125 : Int32)) hx hb d_q_parse_94 (by decide) ?_
  replace h := bs2 h
  obtain ⟨x37, w36, hw36, h⟩ := h
  refine cv_q_234 (As := [.int (125 : Int32)]) (rest := []) hx hb hml hown hts hK hG hW (c_q_is l D cA base hw36) (kb_q_is hw36) ⟨Nat.le_of_ble_eq_true rfl, Nat.le_of_ble_eq_true rfl⟩ ⟨Nat.le_of_ble_eq_true rfl, Nat.le_of_ble_eq_true rfl⟩ rfl hl.1 rfl (Nat.le_of_ble_eq_true rfl) d_q_parse_96 (fun H locs hW => ?_)
  refine lv_if_eq (tgt := 109) hx hb d_q_parse_99 (by decide) (fun c38 => ?_) (fun c38 => ?_)
  · rw [if_pos c38] at h
    refine lv_aload_n hx hb d_q_parse_109 rfl (lv_at hl 0 rfl) ?_
    replace h := bs h
    obtain ⟨x39, hx39, h⟩ := h
    refine gf_q_195 hx hb hts hown hK hG hW (gI_s hx39) d_q_parse_110 ?_
    refine lv_iconst (v := (2 : Int32)) hx hb d_q_parse_113 (by decide) ?_
    refine lv_icmp_ne (tgt := 124) hx hb d_q_parse_114 (by decide) (fun c40 => ?_) (fun c40 => ?_)
    · rw [if_neg c40] at h
      refine lv_aload_n hx hb d_q_parse_124 rfl (lv_at hl 0 rfl) ?_
      replace h := bs h
      obtain ⟨x41, hx41, h⟩ := h
      refine gf_q_195 hx hb hts hown hK hG hW (gI_s hx41) d_q_parse_125 ?_
      refine lv_iconst (v := (3 : Int32)) hx hb d_q_parse_128 (by decide) ?_
      refine lv_icmp_ne (tgt := 139) hx hb d_q_parse_129 (by decide) (fun c42 => ?_) (fun c42 => ?_)
      · rw [if_neg c42] at h
        refine lv_aload_n hx hb d_q_parse_139 rfl (lv_at hl 0 rfl) ?_
        replace h := bs h
        obtain ⟨x43, hx43, h⟩ := h
        refine gf_q_195 hx hb hts hown hK hG hW (gI_s hx43) d_q_parse_140 ?_
        refine lv_iconst (v := (4 : Int32)) hx hb d_q_parse_143 (by decide) ?_
        refine lv_icmp_ne (tgt := 170) hx hb d_q_parse_144 (by decide) (fun c44 => ?_) (fun c44 => ?_)
        · rw [if_neg c44] at h
          exact j_q_parse_170 C hk_72 y0 w36 h _ _ _ hW (lv_sub hl [0] rfl)
        · rw [if_pos c44] at h
          refine lv_aload_n hx hb d_q_parse_147 rfl (lv_at hl 0 rfl) ?_
          replace h := bs h
          obtain ⟨x46, hx46, h⟩ := h
          refine gf_q_198 hx hb hts hown hK hG hW (gI_s hx46) d_q_parse_148 ?_
          refine lv_iconst (v := (1 : Int32)) hx hb d_q_parse_151 (by decide) ?_
          refine lv_icmp_eq (tgt := 170) hx hb d_q_parse_152 (by decide) (fun c47 => ?_) (fun c47 => ?_)
          · rw [if_pos c47] at h
            exact j_q_parse_170 C hk_72 y0 w36 h _ _ _ hW (lv_sub hl [0] rfl)
          · rw [if_neg c47] at h
            refine lv_aload_n hx hb d_q_parse_155 rfl (lv_at hl 0 rfl) ?_
            replace h := bs h
            obtain ⟨x48, hx48, h⟩ := h
            refine gf_q_198 hx hb hts hown hK hG hW (gI_s hx48) d_q_parse_156 ?_
            refine lv_iconst (v := (4 : Int32)) hx hb d_q_parse_159 (by decide) ?_
            refine lv_icmp_eq (tgt := 170) hx hb d_q_parse_160 (by decide) (fun c49 => ?_) (fun c49 => ?_)
            · rw [if_pos c49] at h
              exact j_q_parse_170 C hk_72 y0 w36 h _ _ _ hW (lv_sub hl [0] rfl)
            · rw [if_neg c49] at h
              refine lv_aload_n hx hb d_q_parse_163 rfl (lv_at hl 0 rfl) ?_
              replace h := bs h
              obtain ⟨w50, hw50, h⟩ := h
              refine cv_q_320 (As := []) (rest := []) hx hb hml hown hts hK hG hW (c_q_byWord l D cA base hw50) (kb_q_byWord hw50) ⟨Nat.le_of_ble_eq_true rfl, Nat.le_of_ble_eq_true rfl⟩ ⟨Nat.le_of_ble_eq_true rfl, Nat.le_of_ble_eq_true rfl⟩ rfl hl.1 rfl (Nat.le_of_ble_eq_true rfl) d_q_parse_164 (fun H locs hW => ?_)
              refine lv_goto (tgt := 72) hx hb d_q_parse_167 (by decide) ?_
              exact hk_72 y0 w50 h _ _ _ hW (lv_sub hl [0] rfl)
      · rw [if_pos c42] at h
        refine lv_aload_n hx hb d_q_parse_132 rfl (lv_at hl 0 rfl) ?_
        replace h := bs h
        obtain ⟨w51, hw51, h⟩ := h
        refine cv_q_317 (As := []) (rest := []) hx hb hml hown hts hK hG hW (c_q_storing l D cA base hw51) (kb_q_storing hw51) ⟨Nat.le_of_ble_eq_true rfl, Nat.le_of_ble_eq_true rfl⟩ ⟨Nat.le_of_ble_eq_true rfl, Nat.le_of_ble_eq_true rfl⟩ rfl hl.1 rfl (Nat.le_of_ble_eq_true rfl) d_q_parse_133 (fun H locs hW => ?_)
        refine lv_goto (tgt := 72) hx hb d_q_parse_136 (by decide) ?_
        exact hk_72 y0 w51 h _ _ _ hW (lv_sub hl [0] rfl)
    · rw [if_pos c40] at h
      refine lv_aload_n hx hb d_q_parse_117 rfl (lv_at hl 0 rfl) ?_
      replace h := bs h
      obtain ⟨w52, hw52, h⟩ := h
      refine cv_q_314 (As := []) (rest := []) hx hb hml hown hts hK hG hW (c_q_assignment l D cA base hw52) (kb_q_assignment hw52) ⟨Nat.le_of_ble_eq_true rfl, Nat.le_of_ble_eq_true rfl⟩ ⟨Nat.le_of_ble_eq_true rfl, Nat.le_of_ble_eq_true rfl⟩ rfl hl.1 rfl (Nat.le_of_ble_eq_true rfl) d_q_parse_118 (fun H locs hW => ?_)
      refine lv_goto (tgt := 72) hx hb d_q_parse_121 (by decide) ?_
      exact hk_72 y0 w52 h _ _ _ hW (lv_sub hl [0] rfl)
  · rw [if_neg c38] at h
    refine lv_aload_n hx hb d_q_parse_102 rfl (lv_at hl 0 rfl) ?_
    replace h := bs h
    obtain ⟨w53, hw53, h⟩ := h
    refine cv_q_311 (As := []) (rest := []) hx hb hml hown hts hK hG hW (c_q_endBlock l D cA base hw53) (kb_q_endBlock hw53) ⟨Nat.le_of_ble_eq_true rfl, Nat.le_of_ble_eq_true rfl⟩ ⟨Nat.le_of_ble_eq_true rfl, Nat.le_of_ble_eq_true rfl⟩ rfl hl.1 rfl (Nat.le_of_ble_eq_true rfl) d_q_parse_103 (fun H locs hW => ?_)
    refine lv_goto (tgt := 72) hx hb d_q_parse_106 (by decide) ?_
    exact hk_72 y0 w53 h _ _ _ hW (lv_sub hl [0] rfl)
set_option maxHeartbeats 4000000 in
set_option maxRecDepth 100000 in
theorem j_q_parse_72 {p : Program} {l : Launch} {e : Env} {s : State} {m : MethodId} {args : Array Value} {below : List Frame} {meth : Method} {c : Code} {D : va_G} {cA : Nat → ClassId} {base : Nat} {r : Int32} {w' : WW} (C : cx b_q_parse (some .int) 1 y_q_parse.cls "parse" p s m args meth c D cA base)   : ∀ n : Nat, ∀ (y0 : Nat) (w : WW), f_q_parse_72 n y0 w = some (r, w') → ∀ (H : Heap) (locs : List Loc) (ls : Array Slot), wo_S D cls cA base s w H locs → lv_has ls 1 [(0, .ref (base + y0))] → W p l e rm_q_parse s m args below meth c H locs 0 0 (MQ below (wo_Q D cls cA base (some (.int r)) w') args s rm_q_parse.cells rm_q_parse.slots (wo_B base)) (F0 m 72 ls []) := by
  obtain ⟨hx, hb, hr, hml, hown, hts, hlk, hnm, hK, hG⟩ := id C
  intro n
  induction n with
  | zero => intro y0 w h; cases h
  | succ n ih =>
    intro y0 w h H locs ls hW hl
    rw [f_q_parse_72] at h
    refine lv_aload_n hx hb d_q_parse_72 rfl (lv_at hl 0 rfl) ?_
    replace h := bs h
    obtain ⟨x20, hx20, h⟩ := h
    refine gf_q_230 hx hb hts hown hK hG hW (gI_s hx20) d_q_parse_73 ?_
    refine lv_if_ne (tgt := 177) hx hb d_q_parse_76 (by decide) (fun c21 => ?_) (fun c21 => ?_)
    · rw [if_neg c21] at h
      exact j_q_parse_177 C y0 w h _ _ _ hW (lv_sub hl [0] rfl)
    · rw [if_pos c21] at h
      refine lv_aload_n hx hb d_q_parse_79 rfl (lv_at hl 0 rfl) ?_
      replace h := bs h
      obtain ⟨x34, hx34, h⟩ := h
      refine gf_q_195 hx hb hts hown hK hG hW (gI_s hx34) d_q_parse_80 ?_
      refine lv_if_ne (tgt := 93) hx hb d_q_parse_83 (by decide) (fun c35 => ?_) (fun c35 => ?_)
      · rw [if_neg c35] at h
        exact j_q_parse_93 C ih y0 w h _ _ _ hW (lv_sub hl [0] rfl)
      · rw [if_pos c35] at h
        refine lv_aload_n hx hb d_q_parse_86 rfl (lv_at hl 0 rfl) ?_
        replace h := bs h
        obtain ⟨x54, hx54, h⟩ := h
        refine gf_q_295 hx hb hts hown hK hG hW (gI_s hx54) d_q_parse_87 ?_
        refine lv_if_le (tgt := 177) hx hb d_q_parse_90 (by decide) (fun c55 => ?_) (fun c55 => ?_)
        · rw [if_pos c55] at h
          exact j_q_parse_177 C y0 w h _ _ _ hW (lv_sub hl [0] rfl)
        · rw [if_neg c55] at h
          exact j_q_parse_93 C ih y0 w h _ _ _ hW (lv_sub hl [0] rfl)
set_option maxHeartbeats 4000000 in
set_option maxRecDepth 100000 in
theorem c_q_parse (l : Launch) (D : va_G) (cA : Nat → ClassId) (base : Nat) {a0 : Nat} {w w' : WW} {r : Int32} (h : f_q_parse a0 w = some (r, w')) : mt l D cls (wo_tys cA) cA base y_q_parse (Cond.code y_q_parse b_q_parse 1 (some .int) :: gt) rm_q_parse [.ref (base + a0)] w (some (.int r)) w' rm_q_parse.cells rm_q_parse.slots := by
  refine mt_start (by decide) (Nat.le_of_ble_eq_true rfl) ?_
  intro p e s m below meth c ls hx hb hr hml hown hts hlk hnm hK hG hW hl
  have C : cx b_q_parse (some .int) 1 y_q_parse.cls "parse" p s m [.ref (base + a0)].toArray meth c D cA base := ⟨hx, hb, hr, hml, hown, hts, hlk, hnm, hK, hG⟩
  have hl : lv_has ls 1 [(0, .ref (base + a0))] := hl
  unfold f_q_parse at h
  replace h := its h
  obtain ⟨-, h⟩ := h
  refine lv_aload_n hx hb d_q_parse_0 rfl (lv_at hl 0 rfl) ?_
  refine lv_iconst (v := (1 : Int32)) hx hb d_q_parse_1 (by decide) ?_
  refine lv_aload_n hx hb d_q_parse_2 rfl (lv_at hl 0 rfl) ?_
  replace h := bs h
  obtain ⟨x1, hx1, h⟩ := h
  refine gf_q_308 hx hb hts hown hK hG hW (gI_s hx1) d_q_parse_3 ?_
  refine lv_isub hx hb d_q_parse_6 ?_
  replace h := bs h
  obtain ⟨w2, hw2, h⟩ := h
  refine pf_q_243 hx hb hts hown hK hG hW rfl rfl (pbi hw2 rfl) d_q_parse_7 (fun H locs hW => ?_)
  refine lv_aload_n hx hb d_q_parse_10 rfl (lv_at hl 0 rfl) ?_
  replace h := bs h
  obtain ⟨x3, hx3, h⟩ := h
  refine gf_q_63 hx hb hts hown hK hG hW (gN_s hx3) d_q_parse_11 ?_
  refine lv_aload_n hx hb d_q_parse_14 rfl (lv_at hl 0 rfl) ?_
  replace h := bs h
  obtain ⟨x4, hx4, h⟩ := h
  refine gf_q_243 hx hb hts hown hK hG hW (gI_s hx4) d_q_parse_15 ?_
  refine lv_iconst (v := (-1 : Int32)) hx hb d_q_parse_18 (by decide) ?_
  replace h := bs h
  obtain ⟨w5, hw5, h⟩ := h
  refine wo_iast hx hb hK hW (t := 0) rfl hw5 d_q_parse_19 (fun H locs hW => ?_)
  refine lv_aload_n hx hb d_q_parse_20 rfl (lv_at hl 0 rfl) ?_
  replace h := bs h
  obtain ⟨x6, hx6, h⟩ := h
  refine gf_q_66 hx hb hts hown hK hG hW (gN_s hx6) d_q_parse_21 ?_
  refine lv_aload_n hx hb d_q_parse_24 rfl (lv_at hl 0 rfl) ?_
  replace h := bs h
  obtain ⟨x7, hx7, h⟩ := h
  refine gf_q_243 hx hb hts hown hK hG hW (gI_s hx7) d_q_parse_25 ?_
  refine lv_iconst (v := (0 : Int32)) hx hb d_q_parse_28 (by decide) ?_
  replace h := bs h
  obtain ⟨w8, hw8, h⟩ := h
  refine wo_iast hx hb hK hW (t := 0) rfl hw8 d_q_parse_29 (fun H locs hW => ?_)
  refine lv_aload_n hx hb d_q_parse_30 rfl (lv_at hl 0 rfl) ?_
  replace h := bs h
  obtain ⟨x9, hx9, h⟩ := h
  refine gf_q_69 hx hb hts hown hK hG hW (gN_s hx9) d_q_parse_31 ?_
  refine lv_aload_n hx hb d_q_parse_34 rfl (lv_at hl 0 rfl) ?_
  replace h := bs h
  obtain ⟨x10, hx10, h⟩ := h
  refine gf_q_243 hx hb hts hown hK hG hW (gI_s hx10) d_q_parse_35 ?_
  refine lv_iconst (v := (0 : Int32)) hx hb d_q_parse_38 (by decide) ?_
  replace h := bs h
  obtain ⟨w11, hw11, h⟩ := h
  refine wo_iast hx hb hK hW (t := 0) rfl hw11 d_q_parse_39 (fun H locs hW => ?_)
  refine lv_aload_n hx hb d_q_parse_40 rfl (lv_at hl 0 rfl) ?_
  refine lv_iconst (v := (0 : Int32)) hx hb d_q_parse_41 (by decide) ?_
  replace h := bs h
  obtain ⟨w12, hw12, h⟩ := h
  refine pf_q_295 hx hb hts hown hK hG hW rfl rfl (pbi hw12 rfl) d_q_parse_42 (fun H locs hW => ?_)
  refine lv_aload_n hx hb d_q_parse_45 rfl (lv_at hl 0 rfl) ?_
  replace h := bs h
  obtain ⟨x13, hx13, h⟩ := h
  refine gf_q_87 hx hb hts hown hK hG hW (gN_s hx13) d_q_parse_46 ?_
  refine lv_iconst (v := (0 : Int32)) hx hb d_q_parse_49 (by decide) ?_
  refine lv_iconst (v := (-1 : Int32)) hx hb d_q_parse_50 (by decide) ?_
  replace h := bs h
  obtain ⟨w14, hw14, h⟩ := h
  refine wo_iast hx hb hK hW (t := 0) rfl hw14 d_q_parse_51 (fun H locs hW => ?_)
  refine lv_aload_n hx hb d_q_parse_52 rfl (lv_at hl 0 rfl) ?_
  refine lv_iconst (v := (0 : Int32)) hx hb d_q_parse_53 (by decide) ?_
  replace h := bs h
  obtain ⟨w15, hw15, h⟩ := h
  refine pf_q_178 hx hb hts hown hK hG hW rfl rfl (pbi hw15 rfl) d_q_parse_54 (fun H locs hW => ?_)
  refine lv_aload_n hx hb d_q_parse_57 rfl (lv_at hl 0 rfl) ?_
  refine lv_iconst (v := (0 : Int32)) hx hb d_q_parse_58 (by decide) ?_
  replace h := its h
  obtain ⟨c17, h⟩ := h
  replace h := bs h
  obtain ⟨w16, hw16, h⟩ := h
  refine pf_q_230 hx hb hts hown hK hG hW (z_n c17) (z_f c17) (pbi hw16 rfl) d_q_parse_59 (fun H locs hW => ?_)
  refine lv_aload_n hx hb d_q_parse_62 rfl (lv_at hl 0 rfl) ?_
  refine lv_bipush (v := (-2 : Int32)) hx hb d_q_parse_63 (by decide) ?_
  replace h := bs h
  obtain ⟨w18, hw18, h⟩ := h
  refine pf_q_16 hx hb hts hown hK hG hW rfl rfl (pbi hw18 rfl) d_q_parse_65 (fun H locs hW => ?_)
  refine lv_aload_n hx hb d_q_parse_68 rfl (lv_at hl 0 rfl) ?_
  replace h := bs h
  obtain ⟨w19, hw19, h⟩ := h
  refine cv_q_237 (As := []) (rest := []) hx hb hml hown hts hK hG hW (c_q_read l D cA base hw19) (kb_q_read hw19) ⟨Nat.le_of_ble_eq_true rfl, Nat.le_of_ble_eq_true rfl⟩ ⟨Nat.le_of_ble_eq_true rfl, Nat.le_of_ble_eq_true rfl⟩ rfl hl.1 rfl (Nat.le_of_ble_eq_true rfl) d_q_parse_69 (fun H locs hW => ?_)
  exact j_q_parse_72 C KK a0 w19 h _ _ _ hW (lv_sub hl [0] rfl)
abbrev b_q_where : ByteArray := prog_11_method_37_code
def y_q_where : MethodName := ⟨"AlarmForgeModel", "where", "()I"⟩
def rm_q_where : Room := { frames := 0, cells := 0, slots := 0, locals := 0 }
theorem d_q_where_0 : decode b_q_where 0 = .ok (.aload_n 0, 1) := by decide +kernel
theorem d_q_where_1 : decode b_q_where 1 = .ok (.iconst 0, 1) := by decide +kernel
theorem d_q_where_2 : decode b_q_where 2 = .ok (.putfield 148, 3) := by decide +kernel
theorem d_q_where_5 : decode b_q_where 5 = .ok (.aload_n 0, 1) := by decide +kernel
theorem d_q_where_6 : decode b_q_where 6 = .ok (.getfield 16, 3) := by decide +kernel
theorem d_q_where_9 : decode b_q_where 9 = .ok (.ireturn, 1) := by decide +kernel
def f_q_where (a0 : Nat) (w : WW) : Option (Int32 × WW) :=
  if kb w a0 9 = true then
    (pv w a0 9 5 (.int (0 : Int32))).bind fun w1 =>
    (gI w1 a0 9 4).bind fun x2 =>
    some (x2, w1)
  else none
theorem kb_q_where {a0 : Nat}  {w : WW} {r : (Int32 × WW)} (h : f_q_where a0 w = some r) : kb w a0 9 = true := (its h).1
set_option maxHeartbeats 4000000 in
set_option maxRecDepth 100000 in
theorem c_q_where (l : Launch) (D : va_G) (cA : Nat → ClassId) (base : Nat) {a0 : Nat} {w w' : WW} {r : Int32} (h : f_q_where a0 w = some (r, w')) : mt l D cls (wo_tys cA) cA base y_q_where (Cond.code y_q_where b_q_where 1 (some .int) :: gt) rm_q_where [.ref (base + a0)] w (some (.int r)) w' rm_q_where.cells rm_q_where.slots := by
  refine mt_start (by decide) (Nat.le_of_ble_eq_true rfl) ?_
  intro p e s m below meth c ls hx hb hr hml hown hts hlk hnm hK hG hW hl
  have C : cx b_q_where (some .int) 1 y_q_where.cls "where" p s m [.ref (base + a0)].toArray meth c D cA base := ⟨hx, hb, hr, hml, hown, hts, hlk, hnm, hK, hG⟩
  have hl : lv_has ls 1 [(0, .ref (base + a0))] := hl
  unfold f_q_where at h
  replace h := its h
  obtain ⟨-, h⟩ := h
  refine lv_aload_n hx hb d_q_where_0 rfl (lv_at hl 0 rfl) ?_
  refine lv_iconst (v := (0 : Int32)) hx hb d_q_where_1 (by decide) ?_
  replace h := bs h
  obtain ⟨w1, hw1, h⟩ := h
  refine pf_q_148 hx hb hts hown hK hG hW rfl rfl (pbi hw1 rfl) d_q_where_2 (fun H locs hW => ?_)
  refine lv_aload_n hx hb d_q_where_5 rfl (lv_at hl 0 rfl) ?_
  replace h := bs h
  obtain ⟨x2, hx2, h⟩ := h
  refine gf_q_16 hx hb hts hown hK hG hW (gI_s hx2) d_q_where_6 ?_
  cases h
  exact wo_iret hx hb hr hlk hW d_q_where_9
abbrev b_q_choose : ByteArray := prog_11_method_38_code
def y_q_choose : MethodName := ⟨"AlarmForgeModel", "choose", "(II)I"⟩
def rm_q_choose : Room := { frames := 1, cells := 0, slots := 0, locals := 25 }
theorem d_q_choose_0 : decode b_q_choose 0 = .ok (.iload_n 1, 1) := by decide +kernel
theorem d_q_choose_1 : decode b_q_choose 1 = .ok (.i2l, 1) := by decide +kernel
theorem d_q_choose_2 : decode b_q_choose 2 = .ok (.lconst 0, 1) := by decide +kernel
theorem d_q_choose_3 : decode b_q_choose 3 = .ok (.lconst 1, 1) := by decide +kernel
theorem d_q_choose_4 : decode b_q_choose 4 = .ok (.invokestatic 155, 3) := by decide +kernel
theorem d_q_choose_7 : decode b_q_choose 7 = .ok (.ifCond .eq (15), 3) := by decide +kernel
theorem d_q_choose_10 : decode b_q_choose 10 = .ok (.iload_n 2, 1) := by decide +kernel
theorem d_q_choose_11 : decode b_q_choose 11 = .ok (.i2l, 1) := by decide +kernel
theorem d_q_choose_12 : decode b_q_choose 12 = .ok (.lconst 0, 1) := by decide +kernel
theorem d_q_choose_13 : decode b_q_choose 13 = .ok (.ldc2_w 326, 3) := by decide +kernel
theorem d_q_choose_16 : decode b_q_choose 16 = .ok (.invokestatic 155, 3) := by decide +kernel
theorem d_q_choose_19 : decode b_q_choose 19 = .ok (.ifCond .ne (9), 3) := by decide +kernel
theorem d_q_choose_22 : decode b_q_choose 22 = .ok (.aload_n 0, 1) := by decide +kernel
theorem d_q_choose_23 : decode b_q_choose 23 = .ok (.iconst 1, 1) := by decide +kernel
theorem d_q_choose_24 : decode b_q_choose 24 = .ok (.invokevirtual 159, 3) := by decide +kernel
theorem d_q_choose_27 : decode b_q_choose 27 = .ok (.ireturn, 1) := by decide +kernel
theorem d_q_choose_28 : decode b_q_choose 28 = .ok (.aload_n 0, 1) := by decide +kernel
theorem d_q_choose_29 : decode b_q_choose 29 = .ok (.iconst 0, 1) := by decide +kernel
theorem d_q_choose_30 : decode b_q_choose 30 = .ok (.putfield 148, 3) := by decide +kernel
theorem d_q_choose_33 : decode b_q_choose 33 = .ok (.iload_n 1, 1) := by decide +kernel
theorem d_q_choose_34 : decode b_q_choose 34 = .ok (.ifCond .ne (10), 3) := by decide +kernel
theorem d_q_choose_37 : decode b_q_choose 37 = .ok (.aload_n 0, 1) := by decide +kernel
theorem d_q_choose_38 : decode b_q_choose 38 = .ok (.getfield 20, 3) := by decide +kernel
theorem d_q_choose_41 : decode b_q_choose 41 = .ok (.goto (7), 3) := by decide +kernel
theorem d_q_choose_44 : decode b_q_choose 44 = .ok (.aload_n 0, 1) := by decide +kernel
theorem d_q_choose_45 : decode b_q_choose 45 = .ok (.getfield 23, 3) := by decide +kernel
theorem d_q_choose_48 : decode b_q_choose 48 = .ok (.istore_n 3, 1) := by decide +kernel
theorem d_q_choose_49 : decode b_q_choose 49 = .ok (.iload_n 1, 1) := by decide +kernel
theorem d_q_choose_50 : decode b_q_choose 50 = .ok (.ifCond .ne (11), 3) := by decide +kernel
theorem d_q_choose_53 : decode b_q_choose 53 = .ok (.aload_n 0, 1) := by decide +kernel
theorem d_q_choose_54 : decode b_q_choose 54 = .ok (.iload_n 2, 1) := by decide +kernel
theorem d_q_choose_55 : decode b_q_choose 55 = .ok (.putfield 20, 3) := by decide +kernel
theorem d_q_choose_58 : decode b_q_choose 58 = .ok (.goto (8), 3) := by decide +kernel
theorem d_q_choose_61 : decode b_q_choose 61 = .ok (.aload_n 0, 1) := by decide +kernel
theorem d_q_choose_62 : decode b_q_choose 62 = .ok (.iload_n 2, 1) := by decide +kernel
theorem d_q_choose_63 : decode b_q_choose 63 = .ok (.putfield 23, 3) := by decide +kernel
theorem d_q_choose_66 : decode b_q_choose 66 = .ok (.iload_n 3, 1) := by decide +kernel
theorem d_q_choose_67 : decode b_q_choose 67 = .ok (.ireturn, 1) := by decide +kernel
def f_q_choose_22  (y0 : Nat) (w : WW) : Option (Int32 × WW) :=
  bd2 (f_q_fail y0 (1 : Int32) w) fun x5 w4 =>
  some (x5, w4)
def f_q_choose_66  (y3 : Int32) (w : WW) : Option (Int32 × WW) :=
  some (y3, w)
def f_q_choose_48  (y0 : Nat) (y1 : Int32) (y2 : Int32) (z0 : Int32) (w : WW) : Option (Int32 × WW) :=
  if y1 = 0 then
    (pv w y0 9 6 (.int y2)).bind fun w14 =>
    f_q_choose_66 z0 w14
  else
    (pv w y0 9 7 (.int y2)).bind fun w13 =>
    f_q_choose_66 z0 w13
def f_q_choose (a0 : Nat) (a1 : Int32) (a2 : Int32) (w : WW) : Option (Int32 × WW) :=
  if kb w a0 9 = true then
    bd2 (f_q_in (Int32.toInt64 a1) (0 : Int64) (1 : Int64) w) fun x2 w1 =>
    if x2 = 0 then
      f_q_choose_22 a0 w1
    else
      bd2 (f_q_in (Int32.toInt64 a2) (0 : Int64) (5 : Int64) w1) fun x7 w6 =>
      if x7 = 0 then
        f_q_choose_22 a0 w6
      else
        (pv w6 a0 9 5 (.int (0 : Int32))).bind fun w9 =>
        if a1 = 0 then
          (gI w9 a0 9 6).bind fun x15 =>
          f_q_choose_48 a0 a1 a2 x15 w9
        else
          (gI w9 a0 9 7).bind fun x11 =>
          f_q_choose_48 a0 a1 a2 x11 w9
  else none
theorem kb_q_choose {a0 : Nat} {a1 : Int32} {a2 : Int32} {w : WW} {r : (Int32 × WW)} (h : f_q_choose a0 a1 a2 w = some r) : kb w a0 9 = true := (its h).1
set_option maxHeartbeats 4000000 in
set_option maxRecDepth 100000 in
theorem j_q_choose_22 {p : Program} {l : Launch} {e : Env} {s : State} {m : MethodId} {args : Array Value} {below : List Frame} {meth : Method} {c : Code} {D : va_G} {cA : Nat → ClassId} {base : Nat} {r : Int32} {w' : WW} (C : cx b_q_choose (some .int) 4 y_q_choose.cls "choose" p s m args meth c D cA base)   : ∀ (y0 : Nat) (w : WW), f_q_choose_22 y0 w = some (r, w') → ∀ (H : Heap) (locs : List Loc) (ls : Array Slot), wo_S D cls cA base s w H locs → lv_has ls 4 [(0, .ref (base + y0))] → W p l e rm_q_choose s m args below meth c H locs 0 0 (MQ below (wo_Q D cls cA base (some (.int r)) w') args s rm_q_choose.cells rm_q_choose.slots (wo_B base)) (F0 m 22 ls []) := by
  obtain ⟨hx, hb, hr, hml, hown, hts, hlk, hnm, hK, hG⟩ := id C
  intro y0 w h H locs ls hW hl
  unfold f_q_choose_22 at h
  refine lv_aload_n hx hb d_q_choose_22 rfl (lv_at hl 0 rfl) ?_
  refine lv_iconst (v := (1 : Int32)) hx hb d_q_choose_23 (by decide) ?_
  replace h := bs2 h
  obtain ⟨x5, w4, hw4, h⟩ := h
  refine cv_q_159 (As := [.int (1 : Int32)]) (rest := []) hx hb hml hown hts hK hG hW (c_q_fail l D cA base hw4) (kb_q_fail hw4) ⟨Nat.le_of_ble_eq_true rfl, Nat.le_of_ble_eq_true rfl⟩ ⟨Nat.le_of_ble_eq_true rfl, Nat.le_of_ble_eq_true rfl⟩ rfl hl.1 rfl (Nat.le_of_ble_eq_true rfl) d_q_choose_24 (fun H locs hW => ?_)
  cases h
  exact wo_iret hx hb hr hlk hW d_q_choose_27
set_option maxHeartbeats 4000000 in
set_option maxRecDepth 100000 in
theorem j_q_choose_66 {p : Program} {l : Launch} {e : Env} {s : State} {m : MethodId} {args : Array Value} {below : List Frame} {meth : Method} {c : Code} {D : va_G} {cA : Nat → ClassId} {base : Nat} {r : Int32} {w' : WW} (C : cx b_q_choose (some .int) 4 y_q_choose.cls "choose" p s m args meth c D cA base)   : ∀ (y3 : Int32) (w : WW), f_q_choose_66 y3 w = some (r, w') → ∀ (H : Heap) (locs : List Loc) (ls : Array Slot), wo_S D cls cA base s w H locs → lv_has ls 4 [(3, .int y3)] → W p l e rm_q_choose s m args below meth c H locs 0 0 (MQ below (wo_Q D cls cA base (some (.int r)) w') args s rm_q_choose.cells rm_q_choose.slots (wo_B base)) (F0 m 66 ls []) := by
  obtain ⟨hx, hb, hr, hml, hown, hts, hlk, hnm, hK, hG⟩ := id C
  intro y3 w h H locs ls hW hl
  unfold f_q_choose_66 at h
  refine lv_iload_n hx hb d_q_choose_66 rfl (lv_at hl 0 rfl) ?_
  cases h
  exact wo_iret hx hb hr hlk hW d_q_choose_67
set_option maxHeartbeats 4000000 in
set_option maxRecDepth 100000 in
theorem j_q_choose_48 {p : Program} {l : Launch} {e : Env} {s : State} {m : MethodId} {args : Array Value} {below : List Frame} {meth : Method} {c : Code} {D : va_G} {cA : Nat → ClassId} {base : Nat} {r : Int32} {w' : WW} (C : cx b_q_choose (some .int) 4 y_q_choose.cls "choose" p s m args meth c D cA base)   : ∀ (y0 : Nat) (y1 : Int32) (y2 : Int32) (z0 : Int32) (w : WW), f_q_choose_48 y0 y1 y2 z0 w = some (r, w') → ∀ (H : Heap) (locs : List Loc) (ls : Array Slot), wo_S D cls cA base s w H locs → lv_has ls 4 [(0, .ref (base + y0)), (1, .int y1), (2, .int y2)] → W p l e rm_q_choose s m args below meth c H locs 0 0 (MQ below (wo_Q D cls cA base (some (.int r)) w') args s rm_q_choose.cells rm_q_choose.slots (wo_B base)) (F0 m 48 ls [.int z0]) := by
  obtain ⟨hx, hb, hr, hml, hown, hts, hlk, hnm, hK, hG⟩ := id C
  intro y0 y1 y2 z0 w h H locs ls hW hl
  unfold f_q_choose_48 at h
  refine lv_istore_n (lv' := [(3, .int z0), (0, .ref (base + y0)), (1, .int y1), (2, .int y2)]) hx hb d_q_choose_48 rfl hl (by decide) rfl (fun ls hl => ?_)
  refine lv_iload_n hx hb d_q_choose_49 rfl (lv_at hl 2 rfl) ?_
  refine lv_if_ne (tgt := 61) hx hb d_q_choose_50 (by decide) (fun c12 => ?_) (fun c12 => ?_)
  · rw [if_neg c12] at h
    refine lv_aload_n hx hb d_q_choose_61 rfl (lv_at hl 1 rfl) ?_
    refine lv_iload_n hx hb d_q_choose_62 rfl (lv_at hl 3 rfl) ?_
    replace h := bs h
    obtain ⟨w13, hw13, h⟩ := h
    refine pf_q_23 hx hb hts hown hK hG hW rfl rfl (pbi hw13 rfl) d_q_choose_63 (fun H locs hW => ?_)
    exact j_q_choose_66 C z0 w13 h _ _ _ hW (lv_sub hl [0] rfl)
  · rw [if_pos c12] at h
    refine lv_aload_n hx hb d_q_choose_53 rfl (lv_at hl 1 rfl) ?_
    refine lv_iload_n hx hb d_q_choose_54 rfl (lv_at hl 3 rfl) ?_
    replace h := bs h
    obtain ⟨w14, hw14, h⟩ := h
    refine pf_q_20 hx hb hts hown hK hG hW rfl rfl (pbi hw14 rfl) d_q_choose_55 (fun H locs hW => ?_)
    refine lv_goto (tgt := 66) hx hb d_q_choose_58 (by decide) ?_
    exact j_q_choose_66 C z0 w14 h _ _ _ hW (lv_sub hl [0] rfl)
set_option maxHeartbeats 4000000 in
set_option maxRecDepth 100000 in
theorem c_q_choose (l : Launch) (D : va_G) (cA : Nat → ClassId) (base : Nat) {a0 : Nat} {a1 : Int32} {a2 : Int32} {w w' : WW} {r : Int32} (h : f_q_choose a0 a1 a2 w = some (r, w')) : mt l D cls (wo_tys cA) cA base y_q_choose (Cond.code y_q_choose b_q_choose 4 (some .int) :: gt) rm_q_choose [.ref (base + a0), .int a1, .int a2] w (some (.int r)) w' rm_q_choose.cells rm_q_choose.slots := by
  refine mt_start (by decide) (Nat.le_of_ble_eq_true rfl) ?_
  intro p e s m below meth c ls hx hb hr hml hown hts hlk hnm hK hG hW hl
  have C : cx b_q_choose (some .int) 4 y_q_choose.cls "choose" p s m [.ref (base + a0), .int a1, .int a2].toArray meth c D cA base := ⟨hx, hb, hr, hml, hown, hts, hlk, hnm, hK, hG⟩
  have hl : lv_has ls 4 [(0, .ref (base + a0)), (1, .int a1), (2, .int a2)] := hl
  unfold f_q_choose at h
  replace h := its h
  obtain ⟨-, h⟩ := h
  refine lv_iload_n hx hb d_q_choose_0 rfl (lv_at hl 1 rfl) ?_
  refine lv_i2l hx hb d_q_choose_1 rfl ?_
  refine lv_lconst (v := (0 : Int64)) hx hb d_q_choose_2 (by decide) ?_
  refine lv_lconst (v := (1 : Int64)) hx hb d_q_choose_3 (by decide) ?_
  replace h := bs2 h
  obtain ⟨x2, w1, hw1, h⟩ := h
  refine cs_q_155 (As := [.long (Int32.toInt64 a1), .long (0 : Int64), .long (1 : Int64)]) (rest := []) hx hb hml hown hts hK hG hW (c_q_in l D cA base hw1) ⟨Nat.le_of_ble_eq_true rfl, Nat.le_of_ble_eq_true rfl⟩ ⟨Nat.le_of_ble_eq_true rfl, Nat.le_of_ble_eq_true rfl⟩ rfl hl.1 rfl (Nat.le_of_ble_eq_true rfl) d_q_choose_4 (fun H locs hW => ?_)
  refine lv_if_eq (tgt := 22) hx hb d_q_choose_7 (by decide) (fun c3 => ?_) (fun c3 => ?_)
  · rw [if_pos c3] at h
    exact j_q_choose_22 C a0 w1 h _ _ _ hW (lv_sub hl [0] rfl)
  · rw [if_neg c3] at h
    refine lv_iload_n hx hb d_q_choose_10 rfl (lv_at hl 2 rfl) ?_
    refine lv_i2l hx hb d_q_choose_11 rfl ?_
    refine lv_lconst (v := (0 : Int64)) hx hb d_q_choose_12 (by decide) ?_
    refine lv_ldc2 (own := Rc_q) (v := (5 : Int64)) hx hb hown (hts (.constantLong "AlarmForgeModel" 326 (5 : Int64)) (gt_of (i := 1522) (by decide +kernel) (by decide +kernel))) d_q_choose_13 ?_
    replace h := bs2 h
    obtain ⟨x7, w6, hw6, h⟩ := h
    refine cs_q_155 (As := [.long (Int32.toInt64 a2), .long (0 : Int64), .long (5 : Int64)]) (rest := []) hx hb hml hown hts hK hG hW (c_q_in l D cA base hw6) ⟨Nat.le_of_ble_eq_true rfl, Nat.le_of_ble_eq_true rfl⟩ ⟨Nat.le_of_ble_eq_true rfl, Nat.le_of_ble_eq_true rfl⟩ rfl hl.1 rfl (Nat.le_of_ble_eq_true rfl) d_q_choose_16 (fun H locs hW => ?_)
    refine lv_if_ne (tgt := 28) hx hb d_q_choose_19 (by decide) (fun c8 => ?_) (fun c8 => ?_)
    · rw [if_neg c8] at h
      refine lv_aload_n hx hb d_q_choose_28 rfl (lv_at hl 0 rfl) ?_
      refine lv_iconst (v := (0 : Int32)) hx hb d_q_choose_29 (by decide) ?_
      replace h := bs h
      obtain ⟨w9, hw9, h⟩ := h
      refine pf_q_148 hx hb hts hown hK hG hW rfl rfl (pbi hw9 rfl) d_q_choose_30 (fun H locs hW => ?_)
      refine lv_iload_n hx hb d_q_choose_33 rfl (lv_at hl 1 rfl) ?_
      refine lv_if_ne (tgt := 44) hx hb d_q_choose_34 (by decide) (fun c10 => ?_) (fun c10 => ?_)
      · rw [if_neg c10] at h
        refine lv_aload_n hx hb d_q_choose_44 rfl (lv_at hl 0 rfl) ?_
        replace h := bs h
        obtain ⟨x11, hx11, h⟩ := h
        refine gf_q_23 hx hb hts hown hK hG hW (gI_s hx11) d_q_choose_45 ?_
        exact j_q_choose_48 C a0 a1 a2 x11 w9 h _ _ _ hW (lv_sub hl [0, 1, 2] rfl)
      · rw [if_pos c10] at h
        refine lv_aload_n hx hb d_q_choose_37 rfl (lv_at hl 0 rfl) ?_
        replace h := bs h
        obtain ⟨x15, hx15, h⟩ := h
        refine gf_q_20 hx hb hts hown hK hG hW (gI_s hx15) d_q_choose_38 ?_
        refine lv_goto (tgt := 48) hx hb d_q_choose_41 (by decide) ?_
        exact j_q_choose_48 C a0 a1 a2 x15 w9 h _ _ _ hW (lv_sub hl [0, 1, 2] rfl)
    · rw [if_pos c8] at h
      exact j_q_choose_22 C a0 w6 h _ _ _ hW (lv_sub hl [0] rfl)
abbrev b_q_input : ByteArray := prog_11_method_39_code
def y_q_input : MethodName := ⟨"AlarmForgeModel", "input", "(I)I"⟩
def rm_q_input : Room := { frames := 1, cells := 0, slots := 0, locals := 21 }
theorem d_q_input_0 : decode b_q_input 0 = .ok (.aload_n 0, 1) := by decide +kernel
theorem d_q_input_1 : decode b_q_input 1 = .ok (.getfield 328, 3) := by decide +kernel
theorem d_q_input_4 : decode b_q_input 4 = .ok (.bipush (8), 2) := by decide +kernel
theorem d_q_input_6 : decode b_q_input 6 = .ok (.if_icmp .ne (9), 3) := by decide +kernel
theorem d_q_input_9 : decode b_q_input 9 = .ok (.aload_n 0, 1) := by decide +kernel
theorem d_q_input_10 : decode b_q_input 10 = .ok (.iconst 1, 1) := by decide +kernel
theorem d_q_input_11 : decode b_q_input 11 = .ok (.invokevirtual 159, 3) := by decide +kernel
theorem d_q_input_14 : decode b_q_input 14 = .ok (.ireturn, 1) := by decide +kernel
theorem d_q_input_15 : decode b_q_input 15 = .ok (.aload_n 0, 1) := by decide +kernel
theorem d_q_input_16 : decode b_q_input 16 = .ok (.iconst 0, 1) := by decide +kernel
theorem d_q_input_17 : decode b_q_input 17 = .ok (.putfield 148, 3) := by decide +kernel
theorem d_q_input_20 : decode b_q_input 20 = .ok (.aload_n 0, 1) := by decide +kernel
theorem d_q_input_21 : decode b_q_input 21 = .ok (.getfield 13, 3) := by decide +kernel
theorem d_q_input_24 : decode b_q_input 24 = .ok (.aload_n 0, 1) := by decide +kernel
theorem d_q_input_25 : decode b_q_input 25 = .ok (.getfield 328, 3) := by decide +kernel
theorem d_q_input_28 : decode b_q_input 28 = .ok (.iload_n 1, 1) := by decide +kernel
theorem d_q_input_29 : decode b_q_input 29 = .ok (.iastore, 1) := by decide +kernel
theorem d_q_input_30 : decode b_q_input 30 = .ok (.aload_n 0, 1) := by decide +kernel
theorem d_q_input_31 : decode b_q_input 31 = .ok (.dup, 1) := by decide +kernel
theorem d_q_input_32 : decode b_q_input 32 = .ok (.getfield 328, 3) := by decide +kernel
theorem d_q_input_35 : decode b_q_input 35 = .ok (.iconst 1, 1) := by decide +kernel
theorem d_q_input_36 : decode b_q_input 36 = .ok (.iadd, 1) := by decide +kernel
theorem d_q_input_37 : decode b_q_input 37 = .ok (.putfield 328, 3) := by decide +kernel
theorem d_q_input_40 : decode b_q_input 40 = .ok (.aload_n 0, 1) := by decide +kernel
theorem d_q_input_41 : decode b_q_input 41 = .ok (.getfield 328, 3) := by decide +kernel
theorem d_q_input_44 : decode b_q_input 44 = .ok (.ireturn, 1) := by decide +kernel
def f_q_input (a0 : Nat) (a1 : Int32) (w : WW) : Option (Int32 × WW) :=
  if kb w a0 9 = true then
    (gI w a0 9 3).bind fun x1 =>
    if x1 = (8 : Int32) then
      bd2 (f_q_fail a0 (1 : Int32) w) fun x11 w10 =>
      some (x11, w10)
    else
      (pv w a0 9 5 (.int (0 : Int32))).bind fun w3 =>
      (gN w3 a0 9 1).bind fun x4 =>
      (gI w3 a0 9 3).bind fun x5 =>
      (sI w3 x4 0 x5 a1).bind fun w6 =>
      (gI w6 a0 9 3).bind fun x7 =>
      (pv w6 a0 9 3 (.int (x7 + (1 : Int32)))).bind fun w8 =>
      (gI w8 a0 9 3).bind fun x9 =>
      some (x9, w8)
  else none
theorem kb_q_input {a0 : Nat} {a1 : Int32} {w : WW} {r : (Int32 × WW)} (h : f_q_input a0 a1 w = some r) : kb w a0 9 = true := (its h).1
set_option maxHeartbeats 4000000 in
set_option maxRecDepth 100000 in
theorem c_q_input (l : Launch) (D : va_G) (cA : Nat → ClassId) (base : Nat) {a0 : Nat} {a1 : Int32} {w w' : WW} {r : Int32} (h : f_q_input a0 a1 w = some (r, w')) : mt l D cls (wo_tys cA) cA base y_q_input (Cond.code y_q_input b_q_input 2 (some .int) :: gt) rm_q_input [.ref (base + a0), .int a1] w (some (.int r)) w' rm_q_input.cells rm_q_input.slots := by
  refine mt_start (by decide) (Nat.le_of_ble_eq_true rfl) ?_
  intro p e s m below meth c ls hx hb hr hml hown hts hlk hnm hK hG hW hl
  have C : cx b_q_input (some .int) 2 y_q_input.cls "input" p s m [.ref (base + a0), .int a1].toArray meth c D cA base := ⟨hx, hb, hr, hml, hown, hts, hlk, hnm, hK, hG⟩
  have hl : lv_has ls 2 [(0, .ref (base + a0)), (1, .int a1)] := hl
  unfold f_q_input at h
  replace h := its h
  obtain ⟨-, h⟩ := h
  refine lv_aload_n hx hb d_q_input_0 rfl (lv_at hl 0 rfl) ?_
  replace h := bs h
  obtain ⟨x1, hx1, h⟩ := h
  refine gf_q_328 hx hb hts hown hK hG hW (gI_s hx1) d_q_input_1 ?_
  refine lv_bipush (v := (8 : Int32)) hx hb d_q_input_4 (by decide) ?_
  refine lv_icmp_ne (tgt := 15) hx hb d_q_input_6 (by decide) (fun c2 => ?_) (fun c2 => ?_)
  · rw [if_neg c2] at h
    refine lv_aload_n hx hb d_q_input_15 rfl (lv_at hl 0 rfl) ?_
    refine lv_iconst (v := (0 : Int32)) hx hb d_q_input_16 (by decide) ?_
    replace h := bs h
    obtain ⟨w3, hw3, h⟩ := h
    refine pf_q_148 hx hb hts hown hK hG hW rfl rfl (pbi hw3 rfl) d_q_input_17 (fun H locs hW => ?_)
    refine lv_aload_n hx hb d_q_input_20 rfl (lv_at hl 0 rfl) ?_
    replace h := bs h
    obtain ⟨x4, hx4, h⟩ := h
    refine gf_q_13 hx hb hts hown hK hG hW (gN_s hx4) d_q_input_21 ?_
    refine lv_aload_n hx hb d_q_input_24 rfl (lv_at hl 0 rfl) ?_
    replace h := bs h
    obtain ⟨x5, hx5, h⟩ := h
    refine gf_q_328 hx hb hts hown hK hG hW (gI_s hx5) d_q_input_25 ?_
    refine lv_iload_n hx hb d_q_input_28 rfl (lv_at hl 1 rfl) ?_
    replace h := bs h
    obtain ⟨w6, hw6, h⟩ := h
    refine wo_iast hx hb hK hW (t := 0) rfl hw6 d_q_input_29 (fun H locs hW => ?_)
    refine lv_aload_n hx hb d_q_input_30 rfl (lv_at hl 0 rfl) ?_
    refine lv_dup hx hb d_q_input_31 rfl ?_
    replace h := bs h
    obtain ⟨x7, hx7, h⟩ := h
    refine gf_q_328 hx hb hts hown hK hG hW (gI_s hx7) d_q_input_32 ?_
    refine lv_iconst (v := (1 : Int32)) hx hb d_q_input_35 (by decide) ?_
    refine lv_iadd hx hb d_q_input_36 ?_
    replace h := bs h
    obtain ⟨w8, hw8, h⟩ := h
    refine pf_q_328 hx hb hts hown hK hG hW rfl rfl (pbi hw8 rfl) d_q_input_37 (fun H locs hW => ?_)
    refine lv_aload_n hx hb d_q_input_40 rfl (lv_at hl 0 rfl) ?_
    replace h := bs h
    obtain ⟨x9, hx9, h⟩ := h
    refine gf_q_328 hx hb hts hown hK hG hW (gI_s hx9) d_q_input_41 ?_
    cases h
    exact wo_iret hx hb hr hlk hW d_q_input_44
  · rw [if_pos c2] at h
    refine lv_aload_n hx hb d_q_input_9 rfl (lv_at hl 0 rfl) ?_
    refine lv_iconst (v := (1 : Int32)) hx hb d_q_input_10 (by decide) ?_
    replace h := bs2 h
    obtain ⟨x11, w10, hw10, h⟩ := h
    refine cv_q_159 (As := [.int (1 : Int32)]) (rest := []) hx hb hml hown hts hK hG hW (c_q_fail l D cA base hw10) (kb_q_fail hw10) ⟨Nat.le_of_ble_eq_true rfl, Nat.le_of_ble_eq_true rfl⟩ ⟨Nat.le_of_ble_eq_true rfl, Nat.le_of_ble_eq_true rfl⟩ rfl hl.1 rfl (Nat.le_of_ble_eq_true rfl) d_q_input_11 (fun H locs hW => ?_)
    cases h
    exact wo_iret hx hb hr hlk hW d_q_input_14
abbrev b_q_forget : ByteArray := prog_11_method_40_code
def y_q_forget : MethodName := ⟨"AlarmForgeModel", "forget", "()I"⟩
def rm_q_forget : Room := { frames := 0, cells := 0, slots := 0, locals := 0 }
theorem d_q_forget_0 : decode b_q_forget 0 = .ok (.aload_n 0, 1) := by decide +kernel
theorem d_q_forget_1 : decode b_q_forget 1 = .ok (.iconst 0, 1) := by decide +kernel
theorem d_q_forget_2 : decode b_q_forget 2 = .ok (.putfield 148, 3) := by decide +kernel
theorem d_q_forget_5 : decode b_q_forget 5 = .ok (.aload_n 0, 1) := by decide +kernel
theorem d_q_forget_6 : decode b_q_forget 6 = .ok (.getfield 328, 3) := by decide +kernel
theorem d_q_forget_9 : decode b_q_forget 9 = .ok (.istore_n 1, 1) := by decide +kernel
theorem d_q_forget_10 : decode b_q_forget 10 = .ok (.aload_n 0, 1) := by decide +kernel
theorem d_q_forget_11 : decode b_q_forget 11 = .ok (.iconst 0, 1) := by decide +kernel
theorem d_q_forget_12 : decode b_q_forget 12 = .ok (.putfield 328, 3) := by decide +kernel
theorem d_q_forget_15 : decode b_q_forget 15 = .ok (.iload_n 1, 1) := by decide +kernel
theorem d_q_forget_16 : decode b_q_forget 16 = .ok (.ireturn, 1) := by decide +kernel
def f_q_forget (a0 : Nat) (w : WW) : Option (Int32 × WW) :=
  if kb w a0 9 = true then
    (pv w a0 9 5 (.int (0 : Int32))).bind fun w1 =>
    (gI w1 a0 9 3).bind fun x2 =>
    (pv w1 a0 9 3 (.int (0 : Int32))).bind fun w3 =>
    some (x2, w3)
  else none
theorem kb_q_forget {a0 : Nat}  {w : WW} {r : (Int32 × WW)} (h : f_q_forget a0 w = some r) : kb w a0 9 = true := (its h).1
set_option maxHeartbeats 4000000 in
set_option maxRecDepth 100000 in
theorem c_q_forget (l : Launch) (D : va_G) (cA : Nat → ClassId) (base : Nat) {a0 : Nat} {w w' : WW} {r : Int32} (h : f_q_forget a0 w = some (r, w')) : mt l D cls (wo_tys cA) cA base y_q_forget (Cond.code y_q_forget b_q_forget 2 (some .int) :: gt) rm_q_forget [.ref (base + a0)] w (some (.int r)) w' rm_q_forget.cells rm_q_forget.slots := by
  refine mt_start (by decide) (Nat.le_of_ble_eq_true rfl) ?_
  intro p e s m below meth c ls hx hb hr hml hown hts hlk hnm hK hG hW hl
  have C : cx b_q_forget (some .int) 2 y_q_forget.cls "forget" p s m [.ref (base + a0)].toArray meth c D cA base := ⟨hx, hb, hr, hml, hown, hts, hlk, hnm, hK, hG⟩
  have hl : lv_has ls 2 [(0, .ref (base + a0))] := hl
  unfold f_q_forget at h
  replace h := its h
  obtain ⟨-, h⟩ := h
  refine lv_aload_n hx hb d_q_forget_0 rfl (lv_at hl 0 rfl) ?_
  refine lv_iconst (v := (0 : Int32)) hx hb d_q_forget_1 (by decide) ?_
  replace h := bs h
  obtain ⟨w1, hw1, h⟩ := h
  refine pf_q_148 hx hb hts hown hK hG hW rfl rfl (pbi hw1 rfl) d_q_forget_2 (fun H locs hW => ?_)
  refine lv_aload_n hx hb d_q_forget_5 rfl (lv_at hl 0 rfl) ?_
  replace h := bs h
  obtain ⟨x2, hx2, h⟩ := h
  refine gf_q_328 hx hb hts hown hK hG hW (gI_s hx2) d_q_forget_6 ?_
  refine lv_istore_n (lv' := [(1, .int x2), (0, .ref (base + a0))]) hx hb d_q_forget_9 rfl hl (by decide) rfl (fun ls hl => ?_)
  refine lv_aload_n hx hb d_q_forget_10 rfl (lv_at hl 1 rfl) ?_
  refine lv_iconst (v := (0 : Int32)) hx hb d_q_forget_11 (by decide) ?_
  replace h := bs h
  obtain ⟨w3, hw3, h⟩ := h
  refine pf_q_328 hx hb hts hown hK hG hW rfl rfl (pbi hw3 rfl) d_q_forget_12 (fun H locs hW => ?_)
  refine lv_iload_n hx hb d_q_forget_15 rfl (lv_at hl 0 rfl) ?_
  cases h
  exact wo_iret hx hb hr hlk hW d_q_forget_16
abbrev b_q_go : ByteArray := prog_11_method_46_code
def y_q_go : MethodName := ⟨"AlarmForgeModel", "go", "(I)I"⟩
def rm_q_go : Room := { frames := 0, cells := 0, slots := 0, locals := 0 }
def f_q_go (a0 : Nat) (a1 : Int32) (w : WW) : Option (Int32 × WW) := none
theorem kb_q_go {a0 : Nat} {a1 : Int32} {w : WW} {r : (Int32 × WW)} (h : f_q_go a0 a1 w = some r) : kb w a0 9 = true := by cases h
theorem c_q_go (l : Launch) (D : va_G) (cA : Nat → ClassId) (base : Nat) {a0 : Nat} {a1 : Int32} {w w' : WW} {r : Int32} (h : f_q_go a0 a1 w = some (r, w')) : mt l D cls (wo_tys cA) cA base y_q_go (Cond.code y_q_go b_q_go 6 (some .int) :: gt) rm_q_go [.ref (base + a0), .int a1] w (some (.int r)) w' rm_q_go.cells rm_q_go.slots := by
  cases h
theorem cv_q_368 {p : Program} {l : Launch} {e : Env} {R : Room} {s : State} {m : MethodId} {args : Array Value} {below : List Frame} {meth : Method} {c : Code} {H : Heap} {locs : List Loc} {cells slots : Nat} {Q : State → Prop} {D : va_G} {cA : Nat → ClassId} {base : Nat} {w w' : WW} {cc : ByteArray} {pc nL : Nat} {ls : Array Slot} {rest st0 As : List Value} {ov : Option Value} {b : Nat} (hx : p.tables.exec = Jvm.exec) (hb : c.code = cc) (hml : c.maxLocals = nL) (hown : s.vm.findClass Rc_q = some m.cls) (hts : ∀ w ∈ gt, w.before args s = true) (hK : va_K D cls (wo_tys cA) s) (hG : wo_G base s) (hW : wo_S D cls cA base s w H locs) (hM : mt l D cls (wo_tys cA) cA base y_q_go (Cond.code y_q_go b_q_go 6 (some .int) :: gt) rm_q_go (.ref (base + b) :: As) w ov w' rm_q_go.cells rm_q_go.slots) (hkb : kb w b 9 = true) (hR : rm_q_go.frames + 1 ≤ R.frames ∧ 8 + (6 + 11) + rm_q_go.locals ≤ R.locals) (hf : cells + rm_q_go.cells ≤ R.cells ∧ slots + rm_q_go.slots ≤ R.slots) (hn : As.length = 1) (hsz : ls.size = nL) (hst : st0 = As.reverse ++ .ref (base + b) :: rest) (hcat : (rest.map fun v => v.category).sum ≤ 8) (hdg : decode cc pc = .ok (.invokevirtual 368, 3)) (kk : ∀ (H1 : Heap) (locs1 : List Loc), wo_S D cls cA base s w' H1 locs1 → W p l e R s m args below meth c H1 locs1 (cells + rm_q_go.cells) (slots + rm_q_go.slots) Q (F0 m (pc + 3) ls (ov.toList ++ rest))) : W p l e R s m args below meth c H locs cells slots Q (F0 m pc ls st0) :=
  wo_callV (C := Rc_q) hx hb hml hown hts hK hG hW hM hkb rfl (gt_of (i := 1536) (by decide +kernel) (by decide +kernel)) (gt_of (i := 1538) (by decide +kernel) (by decide +kernel)) (gt_sel (i := 82) (by decide +kernel) (by decide +kernel)) (gt_of (i := 10) (by decide +kernel) (by decide +kernel)) (gt_of (i := 1539) (by decide +kernel) (by decide +kernel)) (by decide +kernel) hR hf hn hsz hst hcat hdg kk
abbrev b_q_run : ByteArray := prog_11_method_47_code
def y_q_run : MethodName := ⟨"AlarmForgeModel", "run", "(I)I"⟩
def rm_q_run : Room := { frames := 1, cells := 0, slots := 0, locals := 25 }
theorem d_q_run_0 : decode b_q_run 0 = .ok (.iload_n 1, 1) := by decide +kernel
theorem d_q_run_1 : decode b_q_run 1 = .ok (.i2l, 1) := by decide +kernel
theorem d_q_run_2 : decode b_q_run 2 = .ok (.lconst 0, 1) := by decide +kernel
theorem d_q_run_3 : decode b_q_run 3 = .ok (.ldc2_w 366, 3) := by decide +kernel
theorem d_q_run_6 : decode b_q_run 6 = .ok (.invokestatic 155, 3) := by decide +kernel
theorem d_q_run_9 : decode b_q_run 9 = .ok (.ifCond .ne (9), 3) := by decide +kernel
theorem d_q_run_12 : decode b_q_run 12 = .ok (.aload_n 0, 1) := by decide +kernel
theorem d_q_run_13 : decode b_q_run 13 = .ok (.iconst 1, 1) := by decide +kernel
theorem d_q_run_14 : decode b_q_run 14 = .ok (.invokevirtual 159, 3) := by decide +kernel
theorem d_q_run_17 : decode b_q_run 17 = .ok (.ireturn, 1) := by decide +kernel
theorem d_q_run_18 : decode b_q_run 18 = .ok (.aload_n 0, 1) := by decide +kernel
theorem d_q_run_19 : decode b_q_run 19 = .ok (.getfield 323, 3) := by decide +kernel
theorem d_q_run_22 : decode b_q_run 22 = .ok (.ifCond .ne (9), 3) := by decide +kernel
theorem d_q_run_25 : decode b_q_run 25 = .ok (.aload_n 0, 1) := by decide +kernel
theorem d_q_run_26 : decode b_q_run 26 = .ok (.iconst 2, 1) := by decide +kernel
theorem d_q_run_27 : decode b_q_run 27 = .ok (.invokevirtual 159, 3) := by decide +kernel
theorem d_q_run_30 : decode b_q_run 30 = .ok (.ireturn, 1) := by decide +kernel
theorem d_q_run_31 : decode b_q_run 31 = .ok (.aload_n 0, 1) := by decide +kernel
theorem d_q_run_32 : decode b_q_run 32 = .ok (.iconst 0, 1) := by decide +kernel
theorem d_q_run_33 : decode b_q_run 33 = .ok (.putfield 148, 3) := by decide +kernel
theorem d_q_run_36 : decode b_q_run 36 = .ok (.aload_n 0, 1) := by decide +kernel
theorem d_q_run_37 : decode b_q_run 37 = .ok (.iload_n 1, 1) := by decide +kernel
theorem d_q_run_38 : decode b_q_run 38 = .ok (.invokevirtual 368, 3) := by decide +kernel
theorem d_q_run_41 : decode b_q_run 41 = .ok (.ireturn, 1) := by decide +kernel
def f_q_run (a0 : Nat) (a1 : Int32) (w : WW) : Option (Int32 × WW) :=
  if kb w a0 9 = true then
    bd2 (f_q_in (Int32.toInt64 a1) (0 : Int64) (500 : Int64) w) fun x2 w1 =>
    if x2 = 0 then
      bd2 (f_q_fail a0 (1 : Int32) w1) fun x12 w11 =>
      some (x12, w11)
    else
      (gI w1 a0 9 8).bind fun x4 =>
      if x4 = 0 then
        bd2 (f_q_fail a0 (2 : Int32) w1) fun x10 w9 =>
        some (x10, w9)
      else
        (pv w1 a0 9 5 (.int (0 : Int32))).bind fun w6 =>
        bd2 (f_q_go a0 a1 w6) fun x8 w7 =>
        some (x8, w7)
  else none
theorem kb_q_run {a0 : Nat} {a1 : Int32} {w : WW} {r : (Int32 × WW)} (h : f_q_run a0 a1 w = some r) : kb w a0 9 = true := (its h).1
set_option maxHeartbeats 4000000 in
set_option maxRecDepth 100000 in
theorem c_q_run (l : Launch) (D : va_G) (cA : Nat → ClassId) (base : Nat) {a0 : Nat} {a1 : Int32} {w w' : WW} {r : Int32} (h : f_q_run a0 a1 w = some (r, w')) : mt l D cls (wo_tys cA) cA base y_q_run (Cond.code y_q_run b_q_run 2 (some .int) :: gt) rm_q_run [.ref (base + a0), .int a1] w (some (.int r)) w' rm_q_run.cells rm_q_run.slots := by
  refine mt_start (by decide) (Nat.le_of_ble_eq_true rfl) ?_
  intro p e s m below meth c ls hx hb hr hml hown hts hlk hnm hK hG hW hl
  have C : cx b_q_run (some .int) 2 y_q_run.cls "run" p s m [.ref (base + a0), .int a1].toArray meth c D cA base := ⟨hx, hb, hr, hml, hown, hts, hlk, hnm, hK, hG⟩
  have hl : lv_has ls 2 [(0, .ref (base + a0)), (1, .int a1)] := hl
  unfold f_q_run at h
  replace h := its h
  obtain ⟨-, h⟩ := h
  refine lv_iload_n hx hb d_q_run_0 rfl (lv_at hl 1 rfl) ?_
  refine lv_i2l hx hb d_q_run_1 rfl ?_
  refine lv_lconst (v := (0 : Int64)) hx hb d_q_run_2 (by decide) ?_
  refine lv_ldc2 (own := Rc_q) (v := (500 : Int64)) hx hb hown (hts (.constantLong "AlarmForgeModel" 366 (500 : Int64)) (gt_of (i := 1535) (by decide +kernel) (by decide +kernel))) d_q_run_3 ?_
  replace h := bs2 h
  obtain ⟨x2, w1, hw1, h⟩ := h
  refine cs_q_155 (As := [.long (Int32.toInt64 a1), .long (0 : Int64), .long (500 : Int64)]) (rest := []) hx hb hml hown hts hK hG hW (c_q_in l D cA base hw1) ⟨Nat.le_of_ble_eq_true rfl, Nat.le_of_ble_eq_true rfl⟩ ⟨Nat.le_of_ble_eq_true rfl, Nat.le_of_ble_eq_true rfl⟩ rfl hl.1 rfl (Nat.le_of_ble_eq_true rfl) d_q_run_6 (fun H locs hW => ?_)
  refine lv_if_ne (tgt := 18) hx hb d_q_run_9 (by decide) (fun c3 => ?_) (fun c3 => ?_)
  · rw [if_neg c3] at h
    refine lv_aload_n hx hb d_q_run_18 rfl (lv_at hl 0 rfl) ?_
    replace h := bs h
    obtain ⟨x4, hx4, h⟩ := h
    refine gf_q_323 hx hb hts hown hK hG hW (gI_s hx4) d_q_run_19 ?_
    refine lv_if_ne (tgt := 31) hx hb d_q_run_22 (by decide) (fun c5 => ?_) (fun c5 => ?_)
    · rw [if_neg c5] at h
      refine lv_aload_n hx hb d_q_run_31 rfl (lv_at hl 0 rfl) ?_
      refine lv_iconst (v := (0 : Int32)) hx hb d_q_run_32 (by decide) ?_
      replace h := bs h
      obtain ⟨w6, hw6, h⟩ := h
      refine pf_q_148 hx hb hts hown hK hG hW rfl rfl (pbi hw6 rfl) d_q_run_33 (fun H locs hW => ?_)
      refine lv_aload_n hx hb d_q_run_36 rfl (lv_at hl 0 rfl) ?_
      refine lv_iload_n hx hb d_q_run_37 rfl (lv_at hl 1 rfl) ?_
      replace h := bs2 h
      obtain ⟨x8, w7, hw7, h⟩ := h
      refine cv_q_368 (As := [.int a1]) (rest := []) hx hb hml hown hts hK hG hW (c_q_go l D cA base hw7) (kb_q_go hw7) ⟨Nat.le_of_ble_eq_true rfl, Nat.le_of_ble_eq_true rfl⟩ ⟨Nat.le_of_ble_eq_true rfl, Nat.le_of_ble_eq_true rfl⟩ rfl hl.1 rfl (Nat.le_of_ble_eq_true rfl) d_q_run_38 (fun H locs hW => ?_)
      cases h
      exact wo_iret hx hb hr hlk hW d_q_run_41
    · rw [if_pos c5] at h
      refine lv_aload_n hx hb d_q_run_25 rfl (lv_at hl 0 rfl) ?_
      refine lv_iconst (v := (2 : Int32)) hx hb d_q_run_26 (by decide) ?_
      replace h := bs2 h
      obtain ⟨x10, w9, hw9, h⟩ := h
      refine cv_q_159 (As := [.int (2 : Int32)]) (rest := []) hx hb hml hown hts hK hG hW (c_q_fail l D cA base hw9) (kb_q_fail hw9) ⟨Nat.le_of_ble_eq_true rfl, Nat.le_of_ble_eq_true rfl⟩ ⟨Nat.le_of_ble_eq_true rfl, Nat.le_of_ble_eq_true rfl⟩ rfl hl.1 rfl (Nat.le_of_ble_eq_true rfl) d_q_run_27 (fun H locs hW => ?_)
      cases h
      exact wo_iret hx hb hr hlk hW d_q_run_30
  · rw [if_pos c3] at h
    refine lv_aload_n hx hb d_q_run_12 rfl (lv_at hl 0 rfl) ?_
    refine lv_iconst (v := (1 : Int32)) hx hb d_q_run_13 (by decide) ?_
    replace h := bs2 h
    obtain ⟨x12, w11, hw11, h⟩ := h
    refine cv_q_159 (As := [.int (1 : Int32)]) (rest := []) hx hb hml hown hts hK hG hW (c_q_fail l D cA base hw11) (kb_q_fail hw11) ⟨Nat.le_of_ble_eq_true rfl, Nat.le_of_ble_eq_true rfl⟩ ⟨Nat.le_of_ble_eq_true rfl, Nat.le_of_ble_eq_true rfl⟩ rfl hl.1 rfl (Nat.le_of_ble_eq_true rfl) d_q_run_14 (fun H locs hW => ?_)
    cases h
    exact wo_iret hx hb hr hlk hW d_q_run_17
abbrev b_q_ran : ByteArray := prog_11_method_48_code
def y_q_ran : MethodName := ⟨"AlarmForgeModel", "ran", "(I)I"⟩
def rm_q_ran : Room := { frames := 1, cells := 0, slots := 0, locals := 25 }
theorem d_q_ran_0 : decode b_q_ran 0 = .ok (.iload_n 1, 1) := by decide +kernel
theorem d_q_ran_1 : decode b_q_ran 1 = .ok (.i2l, 1) := by decide +kernel
theorem d_q_ran_2 : decode b_q_ran 2 = .ok (.lconst 0, 1) := by decide +kernel
theorem d_q_ran_3 : decode b_q_ran 3 = .ok (.ldc2_w 371, 3) := by decide +kernel
theorem d_q_ran_6 : decode b_q_ran 6 = .ok (.invokestatic 155, 3) := by decide +kernel
theorem d_q_ran_9 : decode b_q_ran 9 = .ok (.ifCond .ne (51), 3) := by decide +kernel
theorem d_q_ran_12 : decode b_q_ran 12 = .ok (.iload_n 1, 1) := by decide +kernel
theorem d_q_ran_13 : decode b_q_ran 13 = .ok (.i2l, 1) := by decide +kernel
theorem d_q_ran_14 : decode b_q_ran 14 = .ok (.ldc2_w 373, 3) := by decide +kernel
theorem d_q_ran_17 : decode b_q_ran 17 = .ok (.ldc2_w 375, 3) := by decide +kernel
theorem d_q_ran_20 : decode b_q_ran 20 = .ok (.invokestatic 155, 3) := by decide +kernel
theorem d_q_ran_23 : decode b_q_ran 23 = .ok (.ifCond .ne (37), 3) := by decide +kernel
theorem d_q_ran_26 : decode b_q_ran 26 = .ok (.iload_n 1, 1) := by decide +kernel
theorem d_q_ran_27 : decode b_q_ran 27 = .ok (.i2l, 1) := by decide +kernel
theorem d_q_ran_28 : decode b_q_ran 28 = .ok (.ldc2_w 377, 3) := by decide +kernel
theorem d_q_ran_31 : decode b_q_ran 31 = .ok (.ldc2_w 379, 3) := by decide +kernel
theorem d_q_ran_34 : decode b_q_ran 34 = .ok (.invokestatic 155, 3) := by decide +kernel
theorem d_q_ran_37 : decode b_q_ran 37 = .ok (.ifCond .ne (23), 3) := by decide +kernel
theorem d_q_ran_40 : decode b_q_ran 40 = .ok (.iload_n 1, 1) := by decide +kernel
theorem d_q_ran_41 : decode b_q_ran 41 = .ok (.i2l, 1) := by decide +kernel
theorem d_q_ran_42 : decode b_q_ran 42 = .ok (.ldc2_w 381, 3) := by decide +kernel
theorem d_q_ran_45 : decode b_q_ran 45 = .ok (.ldc2_w 383, 3) := by decide +kernel
theorem d_q_ran_48 : decode b_q_ran 48 = .ok (.invokestatic 155, 3) := by decide +kernel
theorem d_q_ran_51 : decode b_q_ran 51 = .ok (.ifCond .ne (9), 3) := by decide +kernel
theorem d_q_ran_54 : decode b_q_ran 54 = .ok (.aload_n 0, 1) := by decide +kernel
theorem d_q_ran_55 : decode b_q_ran 55 = .ok (.iconst 1, 1) := by decide +kernel
theorem d_q_ran_56 : decode b_q_ran 56 = .ok (.invokevirtual 159, 3) := by decide +kernel
theorem d_q_ran_59 : decode b_q_ran 59 = .ok (.ireturn, 1) := by decide +kernel
theorem d_q_ran_60 : decode b_q_ran 60 = .ok (.aload_n 0, 1) := by decide +kernel
theorem d_q_ran_61 : decode b_q_ran 61 = .ok (.iconst 0, 1) := by decide +kernel
theorem d_q_ran_62 : decode b_q_ran 62 = .ok (.putfield 148, 3) := by decide +kernel
theorem d_q_ran_65 : decode b_q_ran 65 = .ok (.iload_n 1, 1) := by decide +kernel
theorem d_q_ran_66 : decode b_q_ran 66 = .ok (.iconst 3, 1) := by decide +kernel
theorem d_q_ran_67 : decode b_q_ran 67 = .ok (.if_icmp .ge (31), 3) := by decide +kernel
theorem d_q_ran_70 : decode b_q_ran 70 = .ok (.iload_n 1, 1) := by decide +kernel
theorem d_q_ran_71 : decode b_q_ran 71 = .ok (.ifCond .ne (10), 3) := by decide +kernel
theorem d_q_ran_74 : decode b_q_ran 74 = .ok (.aload_n 0, 1) := by decide +kernel
theorem d_q_ran_75 : decode b_q_ran 75 = .ok (.getfield 331, 3) := by decide +kernel
theorem d_q_ran_78 : decode b_q_ran 78 = .ok (.goto (19), 3) := by decide +kernel
theorem d_q_ran_81 : decode b_q_ran 81 = .ok (.iload_n 1, 1) := by decide +kernel
theorem d_q_ran_82 : decode b_q_ran 82 = .ok (.iconst 1, 1) := by decide +kernel
theorem d_q_ran_83 : decode b_q_ran 83 = .ok (.if_icmp .ne (10), 3) := by decide +kernel
theorem d_q_ran_86 : decode b_q_ran 86 = .ok (.aload_n 0, 1) := by decide +kernel
theorem d_q_ran_87 : decode b_q_ran 87 = .ok (.getfield 360, 3) := by decide +kernel
theorem d_q_ran_90 : decode b_q_ran 90 = .ok (.goto (7), 3) := by decide +kernel
theorem d_q_ran_93 : decode b_q_ran 93 = .ok (.aload_n 0, 1) := by decide +kernel
theorem d_q_ran_94 : decode b_q_ran 94 = .ok (.getfield 354, 3) := by decide +kernel
theorem d_q_ran_97 : decode b_q_ran 97 = .ok (.ireturn, 1) := by decide +kernel
theorem d_q_ran_98 : decode b_q_ran 98 = .ok (.iload_n 1, 1) := by decide +kernel
theorem d_q_ran_99 : decode b_q_ran 99 = .ok (.bipush (16), 2) := by decide +kernel
theorem d_q_ran_101 : decode b_q_ran 101 = .ok (.if_icmp .ge (15), 3) := by decide +kernel
theorem d_q_ran_104 : decode b_q_ran 104 = .ok (.aload_n 0, 1) := by decide +kernel
theorem d_q_ran_105 : decode b_q_ran 105 = .ok (.getfield 102, 3) := by decide +kernel
theorem d_q_ran_108 : decode b_q_ran 108 = .ok (.iload_n 1, 1) := by decide +kernel
theorem d_q_ran_109 : decode b_q_ran 109 = .ok (.bipush (10), 2) := by decide +kernel
theorem d_q_ran_111 : decode b_q_ran 111 = .ok (.isub, 1) := by decide +kernel
theorem d_q_ran_112 : decode b_q_ran 112 = .ok (.iaload, 1) := by decide +kernel
theorem d_q_ran_113 : decode b_q_ran 113 = .ok (.goto (38), 3) := by decide +kernel
theorem d_q_ran_116 : decode b_q_ran 116 = .ok (.iload_n 1, 1) := by decide +kernel
theorem d_q_ran_117 : decode b_q_ran 117 = .ok (.bipush (28), 2) := by decide +kernel
theorem d_q_ran_119 : decode b_q_ran 119 = .ok (.if_icmp .ge (15), 3) := by decide +kernel
theorem d_q_ran_122 : decode b_q_ran 122 = .ok (.aload_n 0, 1) := by decide +kernel
theorem d_q_ran_123 : decode b_q_ran 123 = .ok (.getfield 105, 3) := by decide +kernel
theorem d_q_ran_126 : decode b_q_ran 126 = .ok (.iload_n 1, 1) := by decide +kernel
theorem d_q_ran_127 : decode b_q_ran 127 = .ok (.bipush (20), 2) := by decide +kernel
theorem d_q_ran_129 : decode b_q_ran 129 = .ok (.isub, 1) := by decide +kernel
theorem d_q_ran_130 : decode b_q_ran 130 = .ok (.iaload, 1) := by decide +kernel
theorem d_q_ran_131 : decode b_q_ran 131 = .ok (.goto (20), 3) := by decide +kernel
theorem d_q_ran_134 : decode b_q_ran 134 = .ok (.aload_n 0, 1) := by decide +kernel
theorem d_q_ran_135 : decode b_q_ran 135 = .ok (.getfield 114, 3) := by decide +kernel
theorem d_q_ran_138 : decode b_q_ran 138 = .ok (.iload_n 1, 1) := by decide +kernel
theorem d_q_ran_139 : decode b_q_ran 139 = .ok (.bipush (30), 2) := by decide +kernel
theorem d_q_ran_141 : decode b_q_ran 141 = .ok (.isub, 1) := by decide +kernel
theorem d_q_ran_142 : decode b_q_ran 142 = .ok (.baload, 1) := by decide +kernel
theorem d_q_ran_143 : decode b_q_ran 143 = .ok (.ifCond .eq (7), 3) := by decide +kernel
theorem d_q_ran_146 : decode b_q_ran 146 = .ok (.iconst 0, 1) := by decide +kernel
theorem d_q_ran_147 : decode b_q_ran 147 = .ok (.goto (4), 3) := by decide +kernel
theorem d_q_ran_150 : decode b_q_ran 150 = .ok (.iconst 1, 1) := by decide +kernel
theorem d_q_ran_151 : decode b_q_ran 151 = .ok (.ireturn, 1) := by decide +kernel
def f_q_ran_151  (z0 : Int32) (w : WW) : Option (Int32 × WW) :=
  some (z0, w)
def f_q_ran_97  (z0 : Int32) (w : WW) : Option (Int32 × WW) :=
  some (z0, w)
def f_q_ran_60  (y0 : Nat) (y1 : Int32) (w : WW) : Option (Int32 × WW) :=
  (pv w y0 9 5 (.int (0 : Int32))).bind fun w4 =>
  if (3 : Int32) ≤ y1 then
    if (16 : Int32) ≤ y1 then
      if (28 : Int32) ≤ y1 then
        (gN w4 y0 9 49).bind fun x8 =>
        (rI w4 x8 2 (y1 - (30 : Int32))).bind fun x9 =>
        if x9 = 0 then
          f_q_ran_151 (1 : Int32) w4
        else
          f_q_ran_151 (0 : Int32) w4
      else
        (gN w4 y0 9 46).bind fun x11 =>
        (rI w4 x11 0 (y1 - (20 : Int32))).bind fun x12 =>
        f_q_ran_151 x12 w4
    else
      (gN w4 y0 9 45).bind fun x13 =>
      (rI w4 x13 0 (y1 - (10 : Int32))).bind fun x14 =>
      f_q_ran_151 x14 w4
  else
    if y1 = 0 then
      (gI w4 y0 9 51).bind fun x19 =>
      f_q_ran_97 x19 w4
    else
      if y1 = (1 : Int32) then
        (gI w4 y0 9 52).bind fun x18 =>
        f_q_ran_97 x18 w4
      else
        (gI w4 y0 9 53).bind fun x17 =>
        f_q_ran_97 x17 w4
def f_q_ran (a0 : Nat) (a1 : Int32) (w : WW) : Option (Int32 × WW) :=
  if kb w a0 9 = true then
    bd2 (f_q_in (Int32.toInt64 a1) (0 : Int64) (2 : Int64) w) fun x2 w1 =>
    if x2 = 0 then
      bd2 (f_q_in (Int32.toInt64 a1) (10 : Int64) (15 : Int64) w1) fun x21 w20 =>
      if x21 = 0 then
        bd2 (f_q_in (Int32.toInt64 a1) (20 : Int64) (27 : Int64) w20) fun x24 w23 =>
        if x24 = 0 then
          bd2 (f_q_in (Int32.toInt64 a1) (30 : Int64) (35 : Int64) w23) fun x27 w26 =>
          if x27 = 0 then
            bd2 (f_q_fail a0 (1 : Int32) w26) fun x30 w29 =>
            some (x30, w29)
          else
            f_q_ran_60 a0 a1 w26
        else
          f_q_ran_60 a0 a1 w23
      else
        f_q_ran_60 a0 a1 w20
    else
      f_q_ran_60 a0 a1 w1
  else none
theorem kb_q_ran {a0 : Nat} {a1 : Int32} {w : WW} {r : (Int32 × WW)} (h : f_q_ran a0 a1 w = some r) : kb w a0 9 = true := (its h).1
set_option maxHeartbeats 4000000 in
set_option maxRecDepth 100000 in
theorem j_q_ran_151 {p : Program} {l : Launch} {e : Env} {s : State} {m : MethodId} {args : Array Value} {below : List Frame} {meth : Method} {c : Code} {D : va_G} {cA : Nat → ClassId} {base : Nat} {r : Int32} {w' : WW} (C : cx b_q_ran (some .int) 2 y_q_ran.cls "ran" p s m args meth c D cA base)   : ∀ (z0 : Int32) (w : WW), f_q_ran_151 z0 w = some (r, w') → ∀ (H : Heap) (locs : List Loc) (ls : Array Slot), wo_S D cls cA base s w H locs → lv_has ls 2 [] → W p l e rm_q_ran s m args below meth c H locs 0 0 (MQ below (wo_Q D cls cA base (some (.int r)) w') args s rm_q_ran.cells rm_q_ran.slots (wo_B base)) (F0 m 151 ls [.int z0]) := by
  obtain ⟨hx, hb, hr, hml, hown, hts, hlk, hnm, hK, hG⟩ := id C
  intro z0 w h H locs ls hW hl
  unfold f_q_ran_151 at h
  cases h
  exact wo_iret hx hb hr hlk hW d_q_ran_151
set_option maxHeartbeats 4000000 in
set_option maxRecDepth 100000 in
theorem j_q_ran_97 {p : Program} {l : Launch} {e : Env} {s : State} {m : MethodId} {args : Array Value} {below : List Frame} {meth : Method} {c : Code} {D : va_G} {cA : Nat → ClassId} {base : Nat} {r : Int32} {w' : WW} (C : cx b_q_ran (some .int) 2 y_q_ran.cls "ran" p s m args meth c D cA base)   : ∀ (z0 : Int32) (w : WW), f_q_ran_97 z0 w = some (r, w') → ∀ (H : Heap) (locs : List Loc) (ls : Array Slot), wo_S D cls cA base s w H locs → lv_has ls 2 [] → W p l e rm_q_ran s m args below meth c H locs 0 0 (MQ below (wo_Q D cls cA base (some (.int r)) w') args s rm_q_ran.cells rm_q_ran.slots (wo_B base)) (F0 m 97 ls [.int z0]) := by
  obtain ⟨hx, hb, hr, hml, hown, hts, hlk, hnm, hK, hG⟩ := id C
  intro z0 w h H locs ls hW hl
  unfold f_q_ran_97 at h
  cases h
  exact wo_iret hx hb hr hlk hW d_q_ran_97
set_option maxHeartbeats 4000000 in
set_option maxRecDepth 100000 in
theorem j_q_ran_60 {p : Program} {l : Launch} {e : Env} {s : State} {m : MethodId} {args : Array Value} {below : List Frame} {meth : Method} {c : Code} {D : va_G} {cA : Nat → ClassId} {base : Nat} {r : Int32} {w' : WW} (C : cx b_q_ran (some .int) 2 y_q_ran.cls "ran" p s m args meth c D cA base)   : ∀ (y0 : Nat) (y1 : Int32) (w : WW), f_q_ran_60 y0 y1 w = some (r, w') → ∀ (H : Heap) (locs : List Loc) (ls : Array Slot), wo_S D cls cA base s w H locs → lv_has ls 2 [(0, .ref (base + y0)), (1, .int y1)] → W p l e rm_q_ran s m args below meth c H locs 0 0 (MQ below (wo_Q D cls cA base (some (.int r)) w') args s rm_q_ran.cells rm_q_ran.slots (wo_B base)) (F0 m 60 ls []) := by
  obtain ⟨hx, hb, hr, hml, hown, hts, hlk, hnm, hK, hG⟩ := id C
  intro y0 y1 w h H locs ls hW hl
  unfold f_q_ran_60 at h
  refine lv_aload_n hx hb d_q_ran_60 rfl (lv_at hl 0 rfl) ?_
  refine lv_iconst (v := (0 : Int32)) hx hb d_q_ran_61 (by decide) ?_
  replace h := bs h
  obtain ⟨w4, hw4, h⟩ := h
  refine pf_q_148 hx hb hts hown hK hG hW rfl rfl (pbi hw4 rfl) d_q_ran_62 (fun H locs hW => ?_)
  refine lv_iload_n hx hb d_q_ran_65 rfl (lv_at hl 1 rfl) ?_
  refine lv_iconst (v := (3 : Int32)) hx hb d_q_ran_66 (by decide) ?_
  refine lv_icmp_ge (tgt := 98) hx hb d_q_ran_67 (by decide) (fun c5 => ?_) (fun c5 => ?_)
  · rw [if_pos c5] at h
    refine lv_iload_n hx hb d_q_ran_98 rfl (lv_at hl 1 rfl) ?_
    refine lv_bipush (v := (16 : Int32)) hx hb d_q_ran_99 (by decide) ?_
    refine lv_icmp_ge (tgt := 116) hx hb d_q_ran_101 (by decide) (fun c6 => ?_) (fun c6 => ?_)
    · rw [if_pos c6] at h
      refine lv_iload_n hx hb d_q_ran_116 rfl (lv_at hl 1 rfl) ?_
      refine lv_bipush (v := (28 : Int32)) hx hb d_q_ran_117 (by decide) ?_
      refine lv_icmp_ge (tgt := 134) hx hb d_q_ran_119 (by decide) (fun c7 => ?_) (fun c7 => ?_)
      · rw [if_pos c7] at h
        refine lv_aload_n hx hb d_q_ran_134 rfl (lv_at hl 0 rfl) ?_
        replace h := bs h
        obtain ⟨x8, hx8, h⟩ := h
        refine gf_q_114 hx hb hts hown hK hG hW (gN_s hx8) d_q_ran_135 ?_
        refine lv_iload_n hx hb d_q_ran_138 rfl (lv_at hl 1 rfl) ?_
        refine lv_bipush (v := (30 : Int32)) hx hb d_q_ran_139 (by decide) ?_
        refine lv_isub hx hb d_q_ran_141 ?_
        replace h := bs h
        obtain ⟨x9, hx9, h⟩ := h
        refine wo_zald hx hb hK hW (t := 2) rfl hx9 d_q_ran_142 ?_
        refine lv_if_eq (tgt := 150) hx hb d_q_ran_143 (by decide) (fun c10 => ?_) (fun c10 => ?_)
        · rw [if_pos c10] at h
          refine lv_iconst (v := (1 : Int32)) hx hb d_q_ran_150 (by decide) ?_
          exact j_q_ran_151 C (1 : Int32) w4 h _ _ _ hW (lv_sub hl [] rfl)
        · rw [if_neg c10] at h
          refine lv_iconst (v := (0 : Int32)) hx hb d_q_ran_146 (by decide) ?_
          refine lv_goto (tgt := 151) hx hb d_q_ran_147 (by decide) ?_
          exact j_q_ran_151 C (0 : Int32) w4 h _ _ _ hW (lv_sub hl [] rfl)
      · rw [if_neg c7] at h
        refine lv_aload_n hx hb d_q_ran_122 rfl (lv_at hl 0 rfl) ?_
        replace h := bs h
        obtain ⟨x11, hx11, h⟩ := h
        refine gf_q_105 hx hb hts hown hK hG hW (gN_s hx11) d_q_ran_123 ?_
        refine lv_iload_n hx hb d_q_ran_126 rfl (lv_at hl 1 rfl) ?_
        refine lv_bipush (v := (20 : Int32)) hx hb d_q_ran_127 (by decide) ?_
        refine lv_isub hx hb d_q_ran_129 ?_
        replace h := bs h
        obtain ⟨x12, hx12, h⟩ := h
        refine wo_iald hx hb hK hW (t := 0) rfl hx12 d_q_ran_130 ?_
        refine lv_goto (tgt := 151) hx hb d_q_ran_131 (by decide) ?_
        exact j_q_ran_151 C x12 w4 h _ _ _ hW (lv_sub hl [] rfl)
    · rw [if_neg c6] at h
      refine lv_aload_n hx hb d_q_ran_104 rfl (lv_at hl 0 rfl) ?_
      replace h := bs h
      obtain ⟨x13, hx13, h⟩ := h
      refine gf_q_102 hx hb hts hown hK hG hW (gN_s hx13) d_q_ran_105 ?_
      refine lv_iload_n hx hb d_q_ran_108 rfl (lv_at hl 1 rfl) ?_
      refine lv_bipush (v := (10 : Int32)) hx hb d_q_ran_109 (by decide) ?_
      refine lv_isub hx hb d_q_ran_111 ?_
      replace h := bs h
      obtain ⟨x14, hx14, h⟩ := h
      refine wo_iald hx hb hK hW (t := 0) rfl hx14 d_q_ran_112 ?_
      refine lv_goto (tgt := 151) hx hb d_q_ran_113 (by decide) ?_
      exact j_q_ran_151 C x14 w4 h _ _ _ hW (lv_sub hl [] rfl)
  · rw [if_neg c5] at h
    refine lv_iload_n hx hb d_q_ran_70 rfl (lv_at hl 1 rfl) ?_
    refine lv_if_ne (tgt := 81) hx hb d_q_ran_71 (by decide) (fun c15 => ?_) (fun c15 => ?_)
    · rw [if_neg c15] at h
      refine lv_iload_n hx hb d_q_ran_81 rfl (lv_at hl 1 rfl) ?_
      refine lv_iconst (v := (1 : Int32)) hx hb d_q_ran_82 (by decide) ?_
      refine lv_icmp_ne (tgt := 93) hx hb d_q_ran_83 (by decide) (fun c16 => ?_) (fun c16 => ?_)
      · rw [if_neg c16] at h
        refine lv_aload_n hx hb d_q_ran_93 rfl (lv_at hl 0 rfl) ?_
        replace h := bs h
        obtain ⟨x17, hx17, h⟩ := h
        refine gf_q_354 hx hb hts hown hK hG hW (gI_s hx17) d_q_ran_94 ?_
        exact j_q_ran_97 C x17 w4 h _ _ _ hW (lv_sub hl [] rfl)
      · rw [if_pos c16] at h
        refine lv_aload_n hx hb d_q_ran_86 rfl (lv_at hl 0 rfl) ?_
        replace h := bs h
        obtain ⟨x18, hx18, h⟩ := h
        refine gf_q_360 hx hb hts hown hK hG hW (gI_s hx18) d_q_ran_87 ?_
        refine lv_goto (tgt := 97) hx hb d_q_ran_90 (by decide) ?_
        exact j_q_ran_97 C x18 w4 h _ _ _ hW (lv_sub hl [] rfl)
    · rw [if_pos c15] at h
      refine lv_aload_n hx hb d_q_ran_74 rfl (lv_at hl 0 rfl) ?_
      replace h := bs h
      obtain ⟨x19, hx19, h⟩ := h
      refine gf_q_331 hx hb hts hown hK hG hW (gI_s hx19) d_q_ran_75 ?_
      refine lv_goto (tgt := 97) hx hb d_q_ran_78 (by decide) ?_
      exact j_q_ran_97 C x19 w4 h _ _ _ hW (lv_sub hl [] rfl)
set_option maxHeartbeats 4000000 in
set_option maxRecDepth 100000 in
theorem c_q_ran (l : Launch) (D : va_G) (cA : Nat → ClassId) (base : Nat) {a0 : Nat} {a1 : Int32} {w w' : WW} {r : Int32} (h : f_q_ran a0 a1 w = some (r, w')) : mt l D cls (wo_tys cA) cA base y_q_ran (Cond.code y_q_ran b_q_ran 2 (some .int) :: gt) rm_q_ran [.ref (base + a0), .int a1] w (some (.int r)) w' rm_q_ran.cells rm_q_ran.slots := by
  refine mt_start (by decide) (Nat.le_of_ble_eq_true rfl) ?_
  intro p e s m below meth c ls hx hb hr hml hown hts hlk hnm hK hG hW hl
  have C : cx b_q_ran (some .int) 2 y_q_ran.cls "ran" p s m [.ref (base + a0), .int a1].toArray meth c D cA base := ⟨hx, hb, hr, hml, hown, hts, hlk, hnm, hK, hG⟩
  have hl : lv_has ls 2 [(0, .ref (base + a0)), (1, .int a1)] := hl
  unfold f_q_ran at h
  replace h := its h
  obtain ⟨-, h⟩ := h
  refine lv_iload_n hx hb d_q_ran_0 rfl (lv_at hl 1 rfl) ?_
  refine lv_i2l hx hb d_q_ran_1 rfl ?_
  refine lv_lconst (v := (0 : Int64)) hx hb d_q_ran_2 (by decide) ?_
  refine lv_ldc2 (own := Rc_q) (v := (2 : Int64)) hx hb hown (hts (.constantLong "AlarmForgeModel" 371 (2 : Int64)) (gt_of (i := 1566) (by decide +kernel) (by decide +kernel))) d_q_ran_3 ?_
  replace h := bs2 h
  obtain ⟨x2, w1, hw1, h⟩ := h
  refine cs_q_155 (As := [.long (Int32.toInt64 a1), .long (0 : Int64), .long (2 : Int64)]) (rest := []) hx hb hml hown hts hK hG hW (c_q_in l D cA base hw1) ⟨Nat.le_of_ble_eq_true rfl, Nat.le_of_ble_eq_true rfl⟩ ⟨Nat.le_of_ble_eq_true rfl, Nat.le_of_ble_eq_true rfl⟩ rfl hl.1 rfl (Nat.le_of_ble_eq_true rfl) d_q_ran_6 (fun H locs hW => ?_)
  refine lv_if_ne (tgt := 60) hx hb d_q_ran_9 (by decide) (fun c3 => ?_) (fun c3 => ?_)
  · rw [if_neg c3] at h
    exact j_q_ran_60 C a0 a1 w1 h _ _ _ hW (lv_sub hl [0, 1] rfl)
  · rw [if_pos c3] at h
    refine lv_iload_n hx hb d_q_ran_12 rfl (lv_at hl 1 rfl) ?_
    refine lv_i2l hx hb d_q_ran_13 rfl ?_
    refine lv_ldc2 (own := Rc_q) (v := (10 : Int64)) hx hb hown (hts (.constantLong "AlarmForgeModel" 373 (10 : Int64)) (gt_of (i := 1567) (by decide +kernel) (by decide +kernel))) d_q_ran_14 ?_
    refine lv_ldc2 (own := Rc_q) (v := (15 : Int64)) hx hb hown (hts (.constantLong "AlarmForgeModel" 375 (15 : Int64)) (gt_of (i := 1568) (by decide +kernel) (by decide +kernel))) d_q_ran_17 ?_
    replace h := bs2 h
    obtain ⟨x21, w20, hw20, h⟩ := h
    refine cs_q_155 (As := [.long (Int32.toInt64 a1), .long (10 : Int64), .long (15 : Int64)]) (rest := []) hx hb hml hown hts hK hG hW (c_q_in l D cA base hw20) ⟨Nat.le_of_ble_eq_true rfl, Nat.le_of_ble_eq_true rfl⟩ ⟨Nat.le_of_ble_eq_true rfl, Nat.le_of_ble_eq_true rfl⟩ rfl hl.1 rfl (Nat.le_of_ble_eq_true rfl) d_q_ran_20 (fun H locs hW => ?_)
    refine lv_if_ne (tgt := 60) hx hb d_q_ran_23 (by decide) (fun c22 => ?_) (fun c22 => ?_)
    · rw [if_neg c22] at h
      exact j_q_ran_60 C a0 a1 w20 h _ _ _ hW (lv_sub hl [0, 1] rfl)
    · rw [if_pos c22] at h
      refine lv_iload_n hx hb d_q_ran_26 rfl (lv_at hl 1 rfl) ?_
      refine lv_i2l hx hb d_q_ran_27 rfl ?_
      refine lv_ldc2 (own := Rc_q) (v := (20 : Int64)) hx hb hown (hts (.constantLong "AlarmForgeModel" 377 (20 : Int64)) (gt_of (i := 1569) (by decide +kernel) (by decide +kernel))) d_q_ran_28 ?_
      refine lv_ldc2 (own := Rc_q) (v := (27 : Int64)) hx hb hown (hts (.constantLong "AlarmForgeModel" 379 (27 : Int64)) (gt_of (i := 1570) (by decide +kernel) (by decide +kernel))) d_q_ran_31 ?_
      replace h := bs2 h
      obtain ⟨x24, w23, hw23, h⟩ := h
      refine cs_q_155 (As := [.long (Int32.toInt64 a1), .long (20 : Int64), .long (27 : Int64)]) (rest := []) hx hb hml hown hts hK hG hW (c_q_in l D cA base hw23) ⟨Nat.le_of_ble_eq_true rfl, Nat.le_of_ble_eq_true rfl⟩ ⟨Nat.le_of_ble_eq_true rfl, Nat.le_of_ble_eq_true rfl⟩ rfl hl.1 rfl (Nat.le_of_ble_eq_true rfl) d_q_ran_34 (fun H locs hW => ?_)
      refine lv_if_ne (tgt := 60) hx hb d_q_ran_37 (by decide) (fun c25 => ?_) (fun c25 => ?_)
      · rw [if_neg c25] at h
        exact j_q_ran_60 C a0 a1 w23 h _ _ _ hW (lv_sub hl [0, 1] rfl)
      · rw [if_pos c25] at h
        refine lv_iload_n hx hb d_q_ran_40 rfl (lv_at hl 1 rfl) ?_
        refine lv_i2l hx hb d_q_ran_41 rfl ?_
        refine lv_ldc2 (own := Rc_q) (v := (30 : Int64)) hx hb hown (hts (.constantLong "AlarmForgeModel" 381 (30 : Int64)) (gt_of (i := 1571) (by decide +kernel) (by decide +kernel))) d_q_ran_42 ?_
        refine lv_ldc2 (own := Rc_q) (v := (35 : Int64)) hx hb hown (hts (.constantLong "AlarmForgeModel" 383 (35 : Int64)) (gt_of (i := 1572) (by decide +kernel) (by decide +kernel))) d_q_ran_45 ?_
        replace h := bs2 h
        obtain ⟨x27, w26, hw26, h⟩ := h
        refine cs_q_155 (As := [.long (Int32.toInt64 a1), .long (30 : Int64), .long (35 : Int64)]) (rest := []) hx hb hml hown hts hK hG hW (c_q_in l D cA base hw26) ⟨Nat.le_of_ble_eq_true rfl, Nat.le_of_ble_eq_true rfl⟩ ⟨Nat.le_of_ble_eq_true rfl, Nat.le_of_ble_eq_true rfl⟩ rfl hl.1 rfl (Nat.le_of_ble_eq_true rfl) d_q_ran_48 (fun H locs hW => ?_)
        refine lv_if_ne (tgt := 60) hx hb d_q_ran_51 (by decide) (fun c28 => ?_) (fun c28 => ?_)
        · rw [if_neg c28] at h
          exact j_q_ran_60 C a0 a1 w26 h _ _ _ hW (lv_sub hl [0, 1] rfl)
        · rw [if_pos c28] at h
          refine lv_aload_n hx hb d_q_ran_54 rfl (lv_at hl 0 rfl) ?_
          refine lv_iconst (v := (1 : Int32)) hx hb d_q_ran_55 (by decide) ?_
          replace h := bs2 h
          obtain ⟨x30, w29, hw29, h⟩ := h
          refine cv_q_159 (As := [.int (1 : Int32)]) (rest := []) hx hb hml hown hts hK hG hW (c_q_fail l D cA base hw29) (kb_q_fail hw29) ⟨Nat.le_of_ble_eq_true rfl, Nat.le_of_ble_eq_true rfl⟩ ⟨Nat.le_of_ble_eq_true rfl, Nat.le_of_ble_eq_true rfl⟩ rfl hl.1 rfl (Nat.le_of_ble_eq_true rfl) d_q_ran_56 (fun H locs hW => ?_)
          cases h
          exact wo_iret hx hb hr hlk hW d_q_ran_59
abbrev b_q_none : ByteArray := prog_11_method_52_code
def y_q_none : MethodName := ⟨"AlarmForgeModel", "none", "(I)V"⟩
def rm_q_none : Room := { frames := 0, cells := 0, slots := 0, locals := 0 }
def f_q_none (a0 : Nat) (a1 : Int32) (w : WW) : Option WW := none
theorem kb_q_none {a0 : Nat} {a1 : Int32} {w : WW} {r : WW} (h : f_q_none a0 a1 w = some r) : kb w a0 9 = true := by cases h
theorem c_q_none (l : Launch) (D : va_G) (cA : Nat → ClassId) (base : Nat) {a0 : Nat} {a1 : Int32} {w w' : WW} (h : f_q_none a0 a1 w = some w') : mt l D cls (wo_tys cA) cA base y_q_none (Cond.code y_q_none b_q_none 2 (none) :: gt) rm_q_none [.ref (base + a0), .int a1] w none w' rm_q_none.cells rm_q_none.slots := by
  cases h
abbrev b_q_put4 : ByteArray := prog_11_method_54_code
def y_q_put4 : MethodName := ⟨"AlarmForgeModel", "put4", "(IJJJJ)V"⟩
def rm_q_put4 : Room := { frames := 0, cells := 0, slots := 0, locals := 0 }
def f_q_put4 (a0 : Nat) (a1 : Int32) (a2 : Int64) (a4 : Int64) (a6 : Int64) (a8 : Int64) (w : WW) : Option WW := none
theorem kb_q_put4 {a0 : Nat} {a1 : Int32} {a2 : Int64} {a4 : Int64} {a6 : Int64} {a8 : Int64} {w : WW} {r : WW} (h : f_q_put4 a0 a1 a2 a4 a6 a8 w = some r) : kb w a0 9 = true := by cases h
theorem c_q_put4 (l : Launch) (D : va_G) (cA : Nat → ClassId) (base : Nat) {a0 : Nat} {a1 : Int32} {a2 : Int64} {a4 : Int64} {a6 : Int64} {a8 : Int64} {w w' : WW} (h : f_q_put4 a0 a1 a2 a4 a6 a8 w = some w') : mt l D cls (wo_tys cA) cA base y_q_put4 (Cond.code y_q_put4 b_q_put4 10 (none) :: gt) rm_q_put4 [.ref (base + a0), .int a1, .long a2, .long a4, .long a6, .long a8] w none w' rm_q_put4.cells rm_q_put4.slots := by
  cases h
abbrev b_q_enter : ByteArray := prog_11_method_80_code
def y_q_enter : MethodName := ⟨"AlarmForgeModel", "enter", "(I)I"⟩
def rm_q_enter : Room := { frames := 0, cells := 0, slots := 0, locals := 0 }
def f_q_enter (a0 : Nat) (a1 : Int32) (w : WW) : Option (Int32 × WW) := none
theorem kb_q_enter {a0 : Nat} {a1 : Int32} {w : WW} {r : (Int32 × WW)} (h : f_q_enter a0 a1 w = some r) : kb w a0 9 = true := by cases h
theorem c_q_enter (l : Launch) (D : va_G) (cA : Nat → ClassId) (base : Nat) {a0 : Nat} {a1 : Int32} {w w' : WW} {r : Int32} (h : f_q_enter a0 a1 w = some (r, w')) : mt l D cls (wo_tys cA) cA base y_q_enter (Cond.code y_q_enter b_q_enter 3 (some .int) :: gt) rm_q_enter [.ref (base + a0), .int a1] w (some (.int r)) w' rm_q_enter.cells rm_q_enter.slots := by
  cases h
abbrev b_q_pass : ByteArray := prog_11_method_79_code
def y_q_pass : MethodName := ⟨"AlarmForgeModel", "pass", "(I)V"⟩
def rm_q_pass : Room := { frames := 0, cells := 0, slots := 0, locals := 0 }
def f_q_pass (a0 : Nat) (a1 : Int32) (w : WW) : Option WW := none
theorem kb_q_pass {a0 : Nat} {a1 : Int32} {w : WW} {r : WW} (h : f_q_pass a0 a1 w = some r) : kb w a0 9 = true := by cases h
theorem c_q_pass (l : Launch) (D : va_G) (cA : Nat → ClassId) (base : Nat) {a0 : Nat} {a1 : Int32} {w w' : WW} (h : f_q_pass a0 a1 w = some w') : mt l D cls (wo_tys cA) cA base y_q_pass (Cond.code y_q_pass b_q_pass 3 (none) :: gt) rm_q_pass [.ref (base + a0), .int a1] w none w' rm_q_pass.cells rm_q_pass.slots := by
  cases h
abbrev b_q_endIf : ByteArray := prog_11_method_82_code
def y_q_endIf : MethodName := ⟨"AlarmForgeModel", "endIf", "(II)I"⟩
def rm_q_endIf : Room := { frames := 0, cells := 0, slots := 0, locals := 0 }
def f_q_endIf (a0 : Nat) (a1 : Int32) (a2 : Int32) (w : WW) : Option (Int32 × WW) := none
theorem kb_q_endIf {a0 : Nat} {a1 : Int32} {a2 : Int32} {w : WW} {r : (Int32 × WW)} (h : f_q_endIf a0 a1 a2 w = some r) : kb w a0 9 = true := by cases h
theorem c_q_endIf (l : Launch) (D : va_G) (cA : Nat → ClassId) (base : Nat) {a0 : Nat} {a1 : Int32} {a2 : Int32} {w w' : WW} {r : Int32} (h : f_q_endIf a0 a1 a2 w = some (r, w')) : mt l D cls (wo_tys cA) cA base y_q_endIf (Cond.code y_q_endIf b_q_endIf 3 (some .int) :: gt) rm_q_endIf [.ref (base + a0), .int a1, .int a2] w (some (.int r)) w' rm_q_endIf.cells rm_q_endIf.slots := by
  cases h
abbrev b_q_endWhile : ByteArray := prog_11_method_83_code
def y_q_endWhile : MethodName := ⟨"AlarmForgeModel", "endWhile", "(II)I"⟩
def rm_q_endWhile : Room := { frames := 0, cells := 0, slots := 0, locals := 0 }
def f_q_endWhile (a0 : Nat) (a1 : Int32) (a2 : Int32) (w : WW) : Option (Int32 × WW) := none
theorem kb_q_endWhile {a0 : Nat} {a1 : Int32} {a2 : Int32} {w : WW} {r : (Int32 × WW)} (h : f_q_endWhile a0 a1 a2 w = some r) : kb w a0 9 = true := by cases h
theorem c_q_endWhile (l : Launch) (D : va_G) (cA : Nat → ClassId) (base : Nat) {a0 : Nat} {a1 : Int32} {a2 : Int32} {w w' : WW} {r : Int32} (h : f_q_endWhile a0 a1 a2 w = some (r, w')) : mt l D cls (wo_tys cA) cA base y_q_endWhile (Cond.code y_q_endWhile b_q_endWhile 6 (some .int) :: gt) rm_q_endWhile [.ref (base + a0), .int a1, .int a2] w (some (.int r)) w' rm_q_endWhile.cells rm_q_endWhile.slots := by
  cases h
abbrev b_q_warnings : ByteArray := prog_11_method_85_code
def y_q_warnings : MethodName := ⟨"AlarmForgeModel", "warnings", "()I"⟩
def rm_q_warnings : Room := { frames := 0, cells := 0, slots := 0, locals := 0 }
theorem d_q_warnings_0 : decode b_q_warnings 0 = .ok (.iconst 0, 1) := by decide +kernel
theorem d_q_warnings_1 : decode b_q_warnings 1 = .ok (.istore_n 1, 1) := by decide +kernel
theorem d_q_warnings_2 : decode b_q_warnings 2 = .ok (.iconst 0, 1) := by decide +kernel
theorem d_q_warnings_3 : decode b_q_warnings 3 = .ok (.istore_n 2, 1) := by decide +kernel
theorem d_q_warnings_4 : decode b_q_warnings 4 = .ok (.iload_n 2, 1) := by decide +kernel
theorem d_q_warnings_5 : decode b_q_warnings 5 = .ok (.sipush (1200), 3) := by decide +kernel
theorem d_q_warnings_8 : decode b_q_warnings 8 = .ok (.if_icmp .ge (21), 3) := by decide +kernel
theorem d_q_warnings_11 : decode b_q_warnings 11 = .ok (.aload_n 0, 1) := by decide +kernel
theorem d_q_warnings_12 : decode b_q_warnings 12 = .ok (.getfield 136, 3) := by decide +kernel
theorem d_q_warnings_15 : decode b_q_warnings 15 = .ok (.iload_n 2, 1) := by decide +kernel
theorem d_q_warnings_16 : decode b_q_warnings 16 = .ok (.baload, 1) := by decide +kernel
theorem d_q_warnings_17 : decode b_q_warnings 17 = .ok (.ifCond .eq (6), 3) := by decide +kernel
theorem d_q_warnings_20 : decode b_q_warnings 20 = .ok (.iinc 1 (1), 3) := by decide +kernel
theorem d_q_warnings_23 : decode b_q_warnings 23 = .ok (.iinc 2 (1), 3) := by decide +kernel
theorem d_q_warnings_26 : decode b_q_warnings 26 = .ok (.goto (-22), 3) := by decide +kernel
theorem d_q_warnings_29 : decode b_q_warnings 29 = .ok (.iload_n 1, 1) := by decide +kernel
theorem d_q_warnings_30 : decode b_q_warnings 30 = .ok (.ireturn, 1) := by decide +kernel
def f_q_warnings_23 (k_4 : Nat → Int32 → Int32 → WW → Option (Int32 × WW)) (y0 : Nat) (y1 : Int32) (y2 : Int32) (w : WW) : Option (Int32 × WW) :=
  k_4 y0 y1 (y2 + (1 : Int32)) w
def f_q_warnings_4  : Nat → Nat → Int32 → Int32 → WW → Option (Int32 × WW)
  | 0, _, _, _, _ => none
  | n + 1, y0, y1, y2, w =>
    if (1200 : Int32) ≤ y2 then
      some (y1, w)
    else
      (gN w y0 9 60).bind fun x2 =>
      (rI w x2 2 y2).bind fun x3 =>
      if x3 = 0 then
        f_q_warnings_23 (f_q_warnings_4 n) y0 y1 y2 w
      else
        f_q_warnings_23 (f_q_warnings_4 n) y0 (y1 + (1 : Int32)) y2 w
def f_q_warnings (a0 : Nat) (w : WW) : Option (Int32 × WW) :=
  if kb w a0 9 = true then
    f_q_warnings_4 KK a0 (0 : Int32) (0 : Int32) w
  else none
theorem kb_q_warnings {a0 : Nat}  {w : WW} {r : (Int32 × WW)} (h : f_q_warnings a0 w = some r) : kb w a0 9 = true := (its h).1
set_option maxHeartbeats 4000000 in
set_option maxRecDepth 100000 in
theorem j_q_warnings_23 {p : Program} {l : Launch} {e : Env} {s : State} {m : MethodId} {args : Array Value} {below : List Frame} {meth : Method} {c : Code} {D : va_G} {cA : Nat → ClassId} {base : Nat} {r : Int32} {w' : WW} (C : cx b_q_warnings (some .int) 3 y_q_warnings.cls "warnings" p s m args meth c D cA base) {k_4 : Nat → Int32 → Int32 → WW → Option (Int32 × WW)} (hk_4 : ∀ (y0 : Nat) (y1 : Int32) (y2 : Int32) (w : WW), k_4 y0 y1 y2 w = some (r, w') → ∀ (H : Heap) (locs : List Loc) (ls : Array Slot), wo_S D cls cA base s w H locs → lv_has ls 3 [(0, .ref (base + y0)), (1, .int y1), (2, .int y2)] → W p l e rm_q_warnings s m args below meth c H locs 0 0 (MQ below (wo_Q D cls cA base (some (.int r)) w') args s rm_q_warnings.cells rm_q_warnings.slots (wo_B base)) (F0 m 4 ls [])) : ∀ (y0 : Nat) (y1 : Int32) (y2 : Int32) (w : WW), f_q_warnings_23 k_4 y0 y1 y2 w = some (r, w') → ∀ (H : Heap) (locs : List Loc) (ls : Array Slot), wo_S D cls cA base s w H locs → lv_has ls 3 [(0, .ref (base + y0)), (1, .int y1), (2, .int y2)] → W p l e rm_q_warnings s m args below meth c H locs 0 0 (MQ below (wo_Q D cls cA base (some (.int r)) w') args s rm_q_warnings.cells rm_q_warnings.slots (wo_B base)) (F0 m 23 ls []) := by
  obtain ⟨hx, hb, hr, hml, hown, hts, hlk, hnm, hK, hG⟩ := id C
  intro y0 y1 y2 w h H locs ls hW hl
  unfold f_q_warnings_23 at h
  refine lv_iinc (v := (y2 + (1 : Int32))) (lv' := [(2, .int (y2 + (1 : Int32))), (0, .ref (base + y0)), (1, .int y1)]) hx hb d_q_warnings_23 hl (k := 2) rfl rfl (by decide) rfl (fun ls hl => ?_)
  refine lv_goto (tgt := 4) hx hb d_q_warnings_26 (by decide) ?_
  exact hk_4 y0 y1 (y2 + (1 : Int32)) w h _ _ _ hW (lv_sub hl [1, 2, 0] rfl)
set_option maxHeartbeats 4000000 in
set_option maxRecDepth 100000 in
theorem j_q_warnings_4 {p : Program} {l : Launch} {e : Env} {s : State} {m : MethodId} {args : Array Value} {below : List Frame} {meth : Method} {c : Code} {D : va_G} {cA : Nat → ClassId} {base : Nat} {r : Int32} {w' : WW} (C : cx b_q_warnings (some .int) 3 y_q_warnings.cls "warnings" p s m args meth c D cA base)   : ∀ n : Nat, ∀ (y0 : Nat) (y1 : Int32) (y2 : Int32) (w : WW), f_q_warnings_4 n y0 y1 y2 w = some (r, w') → ∀ (H : Heap) (locs : List Loc) (ls : Array Slot), wo_S D cls cA base s w H locs → lv_has ls 3 [(0, .ref (base + y0)), (1, .int y1), (2, .int y2)] → W p l e rm_q_warnings s m args below meth c H locs 0 0 (MQ below (wo_Q D cls cA base (some (.int r)) w') args s rm_q_warnings.cells rm_q_warnings.slots (wo_B base)) (F0 m 4 ls []) := by
  obtain ⟨hx, hb, hr, hml, hown, hts, hlk, hnm, hK, hG⟩ := id C
  intro n
  induction n with
  | zero => intro y0 y1 y2 w h; cases h
  | succ n ih =>
    intro y0 y1 y2 w h H locs ls hW hl
    rw [f_q_warnings_4] at h
    refine lv_iload_n hx hb d_q_warnings_4 rfl (lv_at hl 2 rfl) ?_
    refine lv_sipush (v := (1200 : Int32)) hx hb d_q_warnings_5 (by decide) ?_
    refine lv_icmp_ge (tgt := 29) hx hb d_q_warnings_8 (by decide) (fun c1 => ?_) (fun c1 => ?_)
    · rw [if_pos c1] at h
      refine lv_iload_n hx hb d_q_warnings_29 rfl (lv_at hl 1 rfl) ?_
      cases h
      exact wo_iret hx hb hr hlk hW d_q_warnings_30
    · rw [if_neg c1] at h
      refine lv_aload_n hx hb d_q_warnings_11 rfl (lv_at hl 0 rfl) ?_
      replace h := bs h
      obtain ⟨x2, hx2, h⟩ := h
      refine gf_q_136 hx hb hts hown hK hG hW (gN_s hx2) d_q_warnings_12 ?_
      refine lv_iload_n hx hb d_q_warnings_15 rfl (lv_at hl 2 rfl) ?_
      replace h := bs h
      obtain ⟨x3, hx3, h⟩ := h
      refine wo_zald hx hb hK hW (t := 2) rfl hx3 d_q_warnings_16 ?_
      refine lv_if_eq (tgt := 23) hx hb d_q_warnings_17 (by decide) (fun c4 => ?_) (fun c4 => ?_)
      · rw [if_pos c4] at h
        exact j_q_warnings_23 C ih y0 y1 y2 w h _ _ _ hW (lv_sub hl [0, 1, 2] rfl)
      · rw [if_neg c4] at h
        refine lv_iinc (v := (y1 + (1 : Int32))) (lv' := [(1, .int (y1 + (1 : Int32))), (0, .ref (base + y0)), (2, .int y2)]) hx hb d_q_warnings_20 hl (k := 1) rfl rfl (by decide) rfl (fun ls hl => ?_)
        exact j_q_warnings_23 C ih y0 (y1 + (1 : Int32)) y2 w h _ _ _ hW (lv_sub hl [1, 0, 2] rfl)
set_option maxHeartbeats 4000000 in
set_option maxRecDepth 100000 in
theorem c_q_warnings (l : Launch) (D : va_G) (cA : Nat → ClassId) (base : Nat) {a0 : Nat} {w w' : WW} {r : Int32} (h : f_q_warnings a0 w = some (r, w')) : mt l D cls (wo_tys cA) cA base y_q_warnings (Cond.code y_q_warnings b_q_warnings 3 (some .int) :: gt) rm_q_warnings [.ref (base + a0)] w (some (.int r)) w' rm_q_warnings.cells rm_q_warnings.slots := by
  refine mt_start (by decide) (Nat.le_of_ble_eq_true rfl) ?_
  intro p e s m below meth c ls hx hb hr hml hown hts hlk hnm hK hG hW hl
  have C : cx b_q_warnings (some .int) 3 y_q_warnings.cls "warnings" p s m [.ref (base + a0)].toArray meth c D cA base := ⟨hx, hb, hr, hml, hown, hts, hlk, hnm, hK, hG⟩
  have hl : lv_has ls 3 [(0, .ref (base + a0))] := hl
  unfold f_q_warnings at h
  replace h := its h
  obtain ⟨-, h⟩ := h
  refine lv_iconst (v := (0 : Int32)) hx hb d_q_warnings_0 (by decide) ?_
  refine lv_istore_n (lv' := [(1, .int (0 : Int32)), (0, .ref (base + a0))]) hx hb d_q_warnings_1 rfl hl (by decide) rfl (fun ls hl => ?_)
  refine lv_iconst (v := (0 : Int32)) hx hb d_q_warnings_2 (by decide) ?_
  refine lv_istore_n (lv' := [(2, .int (0 : Int32)), (1, .int (0 : Int32)), (0, .ref (base + a0))]) hx hb d_q_warnings_3 rfl hl (by decide) rfl (fun ls hl => ?_)
  exact j_q_warnings_4 C KK a0 (0 : Int32) (0 : Int32) w h _ _ _ hW (lv_sub hl [2, 1, 0] rfl)
