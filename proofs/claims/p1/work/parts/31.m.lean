/-! Methods as functions, and their contracts (by wip/gen/run.py). -/
abbrev b_pa_kindHere : ByteArray := prog_3_method_3_code
def y_pa_kindHere : MethodName := ⟨"AlarmForge$Parser", "kindHere", "()I"⟩
def rm_pa_kindHere : Room := { frames := 0, cells := 0, slots := 0, locals := 0 }
theorem d_pa_kindHere_0 : decode b_pa_kindHere 0 = .ok (.aload_n 0, 1) := by decide +kernel
theorem d_pa_kindHere_1 : decode b_pa_kindHere 1 = .ok (.getfield 12, 3) := by decide +kernel
theorem d_pa_kindHere_4 : decode b_pa_kindHere 4 = .ok (.getfield 45, 3) := by decide +kernel
theorem d_pa_kindHere_7 : decode b_pa_kindHere 7 = .ok (.aload_n 0, 1) := by decide +kernel
theorem d_pa_kindHere_8 : decode b_pa_kindHere 8 = .ok (.getfield 34, 3) := by decide +kernel
theorem d_pa_kindHere_11 : decode b_pa_kindHere 11 = .ok (.iaload, 1) := by decide +kernel
theorem d_pa_kindHere_12 : decode b_pa_kindHere 12 = .ok (.ireturn, 1) := by decide +kernel
def f_pa_kindHere (a0 : Nat) (w : WW) : Option (Int32 × WW) :=
  if kb w a0 2 = true then
    (gN w a0 2 0).bind fun x1 =>
    (gN w x1 1 1).bind fun x2 =>
    (gI w a0 2 1).bind fun x3 =>
    (rI w x2 0 x3).bind fun x4 =>
    some (x4, w)
  else none
theorem kb_pa_kindHere {a0 : Nat}  {w : WW} {r : (Int32 × WW)} (h : f_pa_kindHere a0 w = some r) : kb w a0 2 = true := (its h).1
set_option maxHeartbeats 4000000 in
set_option maxRecDepth 100000 in
theorem c_pa_kindHere (l : Launch) (D : va_G) (cA : Nat → ClassId) (base : Nat) {a0 : Nat} {w w' : WW} {r : Int32} (h : f_pa_kindHere a0 w = some (r, w')) : mt l D cls (wo_tys cA) cA base y_pa_kindHere (Cond.code y_pa_kindHere b_pa_kindHere 1 (some .int) :: gt) rm_pa_kindHere [.ref (base + a0)] w (some (.int r)) w' rm_pa_kindHere.cells rm_pa_kindHere.slots := by
  refine mt_start (by decide) (Nat.le_of_ble_eq_true rfl) ?_
  intro p e s m below meth c ls hx hb hr hml hown hts hlk hnm hK hG hW hl
  have C : cx b_pa_kindHere (some .int) 1 y_pa_kindHere.cls "kindHere" p s m [.ref (base + a0)].toArray meth c D cA base := ⟨hx, hb, hr, hml, hown, hts, hlk, hnm, hK, hG⟩
  have hl : lv_has ls 1 [(0, .ref (base + a0))] := hl
  unfold f_pa_kindHere at h
  replace h := its h
  obtain ⟨-, h⟩ := h
  refine lv_aload_n hx hb d_pa_kindHere_0 rfl (lv_at hl 0 rfl) ?_
  replace h := bs h
  obtain ⟨x1, hx1, h⟩ := h
  refine gf_pa_12 hx hb hts hown hK hG hW (gN_s hx1) d_pa_kindHere_1 ?_
  replace h := bs h
  obtain ⟨x2, hx2, h⟩ := h
  refine gf_pa_45 hx hb hts hown hK hG hW (gN_s hx2) d_pa_kindHere_4 ?_
  refine lv_aload_n hx hb d_pa_kindHere_7 rfl (lv_at hl 0 rfl) ?_
  replace h := bs h
  obtain ⟨x3, hx3, h⟩ := h
  refine gf_pa_34 hx hb hts hown hK hG hW (gI_s hx3) d_pa_kindHere_8 ?_
  replace h := bs h
  obtain ⟨x4, hx4, h⟩ := h
  refine wo_iald hx hb hK hW (t := 0) rfl hx4 d_pa_kindHere_11 ?_
  cases h
  exact wo_iret hx hb hr hlk hW d_pa_kindHere_12
abbrev b_pa_readStatement : ByteArray := prog_3_method_8_code
def y_pa_readStatement : MethodName := ⟨"AlarmForge$Parser", "readStatement", "(I)LAlarmForge$Statement;"⟩
def rm_pa_readStatement : Room := { frames := 0, cells := 0, slots := 0, locals := 0 }
def rx_pa_readStatement : Room := { frames := 0, cells := 1, slots := 6, locals := 0 }
def f_pa_readStatement (a0 : Nat) (a1 : Int32) (w : WW) : Option ((Option Nat ⊕ String) × WW) := none
theorem kb_pa_readStatement {a0 : Nat} {a1 : Int32} {w : WW} {r : ((Option Nat ⊕ String) × WW)} (h : f_pa_readStatement a0 a1 w = some r) : kb w a0 2 = true := by cases h
theorem c_pa_readStatement (l : Launch) (D : va_G) (cA : Nat → ClassId) (base : Nat) {a0 : Nat} {a1 : Int32} {w w' : WW} {r : Option Nat} (h : f_pa_readStatement a0 a1 w = some (.inl r, w')) : mt l D cls (wo_tys cA) cA base y_pa_readStatement (Cond.code y_pa_readStatement b_pa_readStatement 4 (some (.object "AlarmForge$Statement")) :: gt) rm_pa_readStatement [.ref (base + a0), .int a1] w (some (rb base r)) w' rm_pa_readStatement.cells rm_pa_readStatement.slots := by
  cases h
theorem x_pa_readStatement (l : Launch) (hst : l.stackTraces = false) (D : va_G) (cA : Nat → ClassId) (base : Nat) {a0 : Nat} {a1 : Int32} {w w' : WW} {E : String} (h : f_pa_readStatement a0 a1 w = some (.inr E, w')) : xt l D cls (wo_tys cA) cA base y_pa_readStatement (Cond.code y_pa_readStatement b_pa_readStatement 4 (some (.object "AlarmForge$Statement")) :: gt) rx_pa_readStatement [.ref (base + a0), .int a1] w E w' rx_pa_readStatement.cells rx_pa_readStatement.slots := by
  cases h
theorem cv_pa_55 {p : Program} {l : Launch} {e : Env} {R : Room} {s : State} {m : MethodId} {args : Array Value} {below : List Frame} {meth : Method} {c : Code} {H : Heap} {locs : List Loc} {cells slots : Nat} {Q : State → Prop} {D : va_G} {cA : Nat → ClassId} {base : Nat} {w w' : WW} {cc : ByteArray} {pc nL : Nat} {ls : Array Slot} {rest st0 As : List Value} {ov : Option Value} {b : Nat} (hx : p.tables.exec = Jvm.exec) (hb : c.code = cc) (hml : c.maxLocals = nL) (hown : s.vm.findClass Rc_pa = some m.cls) (hts : ∀ w ∈ gt, w.before args s = true) (hK : va_K D cls (wo_tys cA) s) (hG : wo_G base s) (hW : wo_S D cls cA base s w H locs) (hM : mt l D cls (wo_tys cA) cA base y_pa_kindHere (Cond.code y_pa_kindHere b_pa_kindHere 1 (some .int) :: gt) rm_pa_kindHere (.ref (base + b) :: As) w ov w' rm_pa_kindHere.cells rm_pa_kindHere.slots) (hkb : kb w b 2 = true) (hR : rm_pa_kindHere.frames + 1 ≤ R.frames ∧ 8 + (1 + 11) + rm_pa_kindHere.locals ≤ R.locals) (hf : cells + rm_pa_kindHere.cells ≤ R.cells ∧ slots + rm_pa_kindHere.slots ≤ R.slots) (hn : As.length = 0) (hsz : ls.size = nL) (hst : st0 = As.reverse ++ .ref (base + b) :: rest) (hcat : (rest.map fun v => v.category).sum ≤ 8) (hdg : decode cc pc = .ok (.invokevirtual 55, 3)) (kk : ∀ (H1 : Heap) (locs1 : List Loc), wo_S D cls cA base s w' H1 locs1 → W p l e R s m args below meth c H1 locs1 (cells + rm_pa_kindHere.cells) (slots + rm_pa_kindHere.slots) Q (F0 m (pc + 3) ls (ov.toList ++ rest))) : W p l e R s m args below meth c H locs cells slots Q (F0 m pc ls st0) :=
  wo_callV (C := Rc_pa) hx hb hml hown hts hK hG hW hM hkb rfl (gt_of (i := 645) (by decide +kernel) (by decide +kernel)) (gt_of (i := 647) (by decide +kernel) (by decide +kernel)) (gt_sel (i := 8) (by decide +kernel) (by decide +kernel)) (gt_of (i := 2) (by decide +kernel) (by decide +kernel)) (gt_of (i := 648) (by decide +kernel) (by decide +kernel)) (by decide +kernel) hR hf hn hsz hst hcat hdg kk
theorem xv_pa_66 {p : Program} {l : Launch} {e : Env} {R : Room} {s : State} {m : MethodId} {args : Array Value} {below : List Frame} {meth : Method} {c : Code} {H : Heap} {locs : List Loc} {cells slots : Nat} {Q : State → Prop} {D : va_G} {cA : Nat → ClassId} {base : Nat} {w w' : WW} {cc : ByteArray} {pc nL : Nat} {ls : Array Slot} {rest st0 As : List Value} {E : String} {b : Nat} (hx : p.tables.exec = Jvm.exec) (hb : c.code = cc) (hml : c.maxLocals = nL) (hown : s.vm.findClass Rc_pa = some m.cls) (hts : ∀ w ∈ gt, w.before args s = true) (hK : va_K D cls (wo_tys cA) s) (hG : wo_G base s) (hW : wo_S D cls cA base s w H locs) (hM : xt l D cls (wo_tys cA) cA base y_pa_readStatement (Cond.code y_pa_readStatement b_pa_readStatement 4 (some (.object "AlarmForge$Statement")) :: gt) rx_pa_readStatement (.ref (base + b) :: As) w E w' rx_pa_readStatement.cells rx_pa_readStatement.slots) (hkb : kb w b 2 = true) (hR : rx_pa_readStatement.frames + 1 ≤ R.frames ∧ 8 + (4 + 11) + rx_pa_readStatement.locals ≤ R.locals) (hf : cells + rx_pa_readStatement.cells ≤ R.cells ∧ slots + rx_pa_readStatement.slots ≤ R.slots) (hn : As.length = 1) (hsz : ls.size = nL) (hst : st0 = As.reverse ++ .ref (base + b) :: rest) (hcat : (rest.map fun v => v.category).sum ≤ 8) (hdg : decode cc pc = .ok (.invokevirtual 66, 3)) (kk : ∀ (H1 : Heap) (locs1 : List Loc) (q : Addr) (ce : Cell), wo_S D cls cA base s w' H1 locs1 → H1[q]? = some ce → ce.vm = .none → s.vm.findClass E = some ce.cls → XW p l e R s m args below meth c H1 locs1 (cells + rx_pa_readStatement.cells) (slots + rx_pa_readStatement.slots) Q (F0 m pc ls rest) q) : W p l e R s m args below meth c H locs cells slots Q (F0 m pc ls st0) :=
  wo_xcallV (C := Rc_pa) hx hb hml hown hts hK hG hW hM hkb rfl (gt_of (i := 649) (by decide +kernel) (by decide +kernel)) (gt_of (i := 651) (by decide +kernel) (by decide +kernel)) (gt_sel (i := 9) (by decide +kernel) (by decide +kernel)) (gt_of (i := 2) (by decide +kernel) (by decide +kernel)) (gt_of (i := 652) (by decide +kernel) (by decide +kernel)) (by decide +kernel) hR hf hn hsz hst hcat hdg kk
theorem cv_pa_66 {p : Program} {l : Launch} {e : Env} {R : Room} {s : State} {m : MethodId} {args : Array Value} {below : List Frame} {meth : Method} {c : Code} {H : Heap} {locs : List Loc} {cells slots : Nat} {Q : State → Prop} {D : va_G} {cA : Nat → ClassId} {base : Nat} {w w' : WW} {cc : ByteArray} {pc nL : Nat} {ls : Array Slot} {rest st0 As : List Value} {ov : Option Value} {b : Nat} (hx : p.tables.exec = Jvm.exec) (hb : c.code = cc) (hml : c.maxLocals = nL) (hown : s.vm.findClass Rc_pa = some m.cls) (hts : ∀ w ∈ gt, w.before args s = true) (hK : va_K D cls (wo_tys cA) s) (hG : wo_G base s) (hW : wo_S D cls cA base s w H locs) (hM : mt l D cls (wo_tys cA) cA base y_pa_readStatement (Cond.code y_pa_readStatement b_pa_readStatement 4 (some (.object "AlarmForge$Statement")) :: gt) rm_pa_readStatement (.ref (base + b) :: As) w ov w' rm_pa_readStatement.cells rm_pa_readStatement.slots) (hkb : kb w b 2 = true) (hR : rm_pa_readStatement.frames + 1 ≤ R.frames ∧ 8 + (4 + 11) + rm_pa_readStatement.locals ≤ R.locals) (hf : cells + rm_pa_readStatement.cells ≤ R.cells ∧ slots + rm_pa_readStatement.slots ≤ R.slots) (hn : As.length = 1) (hsz : ls.size = nL) (hst : st0 = As.reverse ++ .ref (base + b) :: rest) (hcat : (rest.map fun v => v.category).sum ≤ 8) (hdg : decode cc pc = .ok (.invokevirtual 66, 3)) (kk : ∀ (H1 : Heap) (locs1 : List Loc), wo_S D cls cA base s w' H1 locs1 → W p l e R s m args below meth c H1 locs1 (cells + rm_pa_readStatement.cells) (slots + rm_pa_readStatement.slots) Q (F0 m (pc + 3) ls (ov.toList ++ rest))) : W p l e R s m args below meth c H locs cells slots Q (F0 m pc ls st0) :=
  wo_callV (C := Rc_pa) hx hb hml hown hts hK hG hW hM hkb rfl (gt_of (i := 649) (by decide +kernel) (by decide +kernel)) (gt_of (i := 651) (by decide +kernel) (by decide +kernel)) (gt_sel (i := 9) (by decide +kernel) (by decide +kernel)) (gt_of (i := 2) (by decide +kernel) (by decide +kernel)) (gt_of (i := 652) (by decide +kernel) (by decide +kernel)) (by decide +kernel) hR hf hn hsz hst hcat hdg kk
abbrev b_pa_readStatements : ByteArray := prog_3_method_7_code
def y_pa_readStatements : MethodName := ⟨"AlarmForge$Parser", "readStatements", "(II)LAlarmForge$Statement;"⟩
def rm_pa_readStatements : Room := { frames := 6, cells := 0, slots := 0, locals := 100 }
def rx_pa_readStatements : Room := { frames := 6, cells := 1, slots := 6, locals := 100 }
theorem d_pa_readStatements_0 : decode b_pa_readStatements 0 = .ok (.aconst_null, 1) := by decide +kernel
theorem d_pa_readStatements_1 : decode b_pa_readStatements 1 = .ok (.astore_n 3, 1) := by decide +kernel
theorem d_pa_readStatements_2 : decode b_pa_readStatements 2 = .ok (.aconst_null, 1) := by decide +kernel
theorem d_pa_readStatements_3 : decode b_pa_readStatements 3 = .ok (.astore 4, 2) := by decide +kernel
theorem d_pa_readStatements_5 : decode b_pa_readStatements 5 = .ok (.iconst 0, 1) := by decide +kernel
theorem d_pa_readStatements_6 : decode b_pa_readStatements 6 = .ok (.istore 5, 2) := by decide +kernel
theorem d_pa_readStatements_8 : decode b_pa_readStatements 8 = .ok (.iload 5, 2) := by decide +kernel
theorem d_pa_readStatements_10 : decode b_pa_readStatements 10 = .ok (.bipush (50), 2) := by decide +kernel
theorem d_pa_readStatements_12 : decode b_pa_readStatements 12 = .ok (.if_icmp .gt (46), 3) := by decide +kernel
theorem d_pa_readStatements_15 : decode b_pa_readStatements 15 = .ok (.aload_n 0, 1) := by decide +kernel
theorem d_pa_readStatements_16 : decode b_pa_readStatements 16 = .ok (.invokevirtual 55, 3) := by decide +kernel
theorem d_pa_readStatements_19 : decode b_pa_readStatements 19 = .ok (.iload_n 1, 1) := by decide +kernel
theorem d_pa_readStatements_20 : decode b_pa_readStatements 20 = .ok (.if_icmp .eq (38), 3) := by decide +kernel
theorem d_pa_readStatements_23 : decode b_pa_readStatements 23 = .ok (.aload_n 0, 1) := by decide +kernel
theorem d_pa_readStatements_24 : decode b_pa_readStatements 24 = .ok (.iload_n 2, 1) := by decide +kernel
theorem d_pa_readStatements_25 : decode b_pa_readStatements 25 = .ok (.invokevirtual 66, 3) := by decide +kernel
theorem d_pa_readStatements_28 : decode b_pa_readStatements 28 = .ok (.astore 6, 2) := by decide +kernel
theorem d_pa_readStatements_30 : decode b_pa_readStatements 30 = .ok (.aload 4, 2) := by decide +kernel
theorem d_pa_readStatements_32 : decode b_pa_readStatements 32 = .ok (.ifnonnull (9), 3) := by decide +kernel
theorem d_pa_readStatements_35 : decode b_pa_readStatements 35 = .ok (.aload 6, 2) := by decide +kernel
theorem d_pa_readStatements_37 : decode b_pa_readStatements 37 = .ok (.astore_n 3, 1) := by decide +kernel
theorem d_pa_readStatements_38 : decode b_pa_readStatements 38 = .ok (.goto (10), 3) := by decide +kernel
theorem d_pa_readStatements_41 : decode b_pa_readStatements 41 = .ok (.aload 4, 2) := by decide +kernel
theorem d_pa_readStatements_43 : decode b_pa_readStatements 43 = .ok (.aload 6, 2) := by decide +kernel
theorem d_pa_readStatements_45 : decode b_pa_readStatements 45 = .ok (.putfield 70, 3) := by decide +kernel
theorem d_pa_readStatements_48 : decode b_pa_readStatements 48 = .ok (.aload 6, 2) := by decide +kernel
theorem d_pa_readStatements_50 : decode b_pa_readStatements 50 = .ok (.astore 4, 2) := by decide +kernel
theorem d_pa_readStatements_52 : decode b_pa_readStatements 52 = .ok (.iinc 5 (1), 3) := by decide +kernel
theorem d_pa_readStatements_55 : decode b_pa_readStatements 55 = .ok (.goto (-47), 3) := by decide +kernel
theorem d_pa_readStatements_58 : decode b_pa_readStatements 58 = .ok (.aload_n 3, 1) := by decide +kernel
theorem d_pa_readStatements_59 : decode b_pa_readStatements 59 = .ok (.areturn, 1) := by decide +kernel
def f_pa_readStatements_58  (y3 : Option Nat) (w : WW) : Option ((Option Nat ⊕ String) × WW) :=
  some (.inl y3, w)
def f_pa_readStatements_48 (k_8 : Nat → Int32 → Int32 → Option Nat → Option Nat → Int32 → WW → Option ((Option Nat ⊕ String) × WW)) (y0 : Nat) (y1 : Int32) (y2 : Int32) (y3 : Option Nat) (y5 : Int32) (y6 : Option Nat) (w : WW) : Option ((Option Nat ⊕ String) × WW) :=
  k_8 y0 y1 y2 y3 y6 (y5 + (1 : Int32)) w
def f_pa_readStatements_8  : Nat → Nat → Int32 → Int32 → Option Nat → Option Nat → Int32 → WW → Option ((Option Nat ⊕ String) × WW)
  | 0, _, _, _, _, _, _, _ => none
  | n + 1, y0, y1, y2, y3, y4, y5, w =>
    if (50 : Int32) < y5 then
      f_pa_readStatements_58 y3 w
    else
      bd2 (f_pa_kindHere y0 w) fun x3 w2 =>
      if x3 = y1 then
        f_pa_readStatements_58 y3 w2
      else
        bdx (f_pa_readStatement y0 y2 w2) fun x6 w5 =>
        nl y4
          (f_pa_readStatements_48 (f_pa_readStatements_8 n) y0 y1 y2 x6 y5 x6 w5)
          fun x7 =>
            (pv w5 x7 4 9 (va_rf x6)).bind fun w8 =>
            f_pa_readStatements_48 (f_pa_readStatements_8 n) y0 y1 y2 y3 y5 x6 w8
def f_pa_readStatements (a0 : Nat) (a1 : Int32) (a2 : Int32) (w : WW) : Option ((Option Nat ⊕ String) × WW) :=
  if kb w a0 2 = true then
    f_pa_readStatements_8 KK a0 a1 a2 none none (0 : Int32) w
  else none
theorem kb_pa_readStatements {a0 : Nat} {a1 : Int32} {a2 : Int32} {w : WW} {r : ((Option Nat ⊕ String) × WW)} (h : f_pa_readStatements a0 a1 a2 w = some r) : kb w a0 2 = true := (its h).1
set_option maxHeartbeats 4000000 in
set_option maxRecDepth 100000 in
theorem j_pa_readStatements_58 {p : Program} {l : Launch} {e : Env} {s : State} {m : MethodId} {args : Array Value} {below : List Frame} {meth : Method} {c : Code} {D : va_G} {cA : Nat → ClassId} {base : Nat} {r : Option Nat} {w' : WW} (C : cx b_pa_readStatements (some (.object "AlarmForge$Statement")) 7 y_pa_readStatements.cls "readStatements" p s m args meth c D cA base)   : ∀ (y3 : Option Nat) (w : WW), f_pa_readStatements_58 y3 w = some (.inl r, w') → ∀ (H : Heap) (locs : List Loc) (ls : Array Slot), wo_S D cls cA base s w H locs → lv_has ls 7 [(3, rb base y3)] → W p l e rm_pa_readStatements s m args below meth c H locs 0 0 (MQ below (wo_Q D cls cA base (some (rb base r)) w') args s rm_pa_readStatements.cells rm_pa_readStatements.slots (wo_B base)) (F0 m 58 ls []) := by
  obtain ⟨hx, hb, hr, hml, hown, hts, hlk, hnm, hK, hG⟩ := id C
  intro y3 w h H locs ls hW hl
  unfold f_pa_readStatements_58 at h
  refine wo_aload_n hx hb d_pa_readStatements_58 rfl (lv_at hl 0 rfl) ?_
  cases h
  exact wo_aret hx hb hr hlk hW d_pa_readStatements_59
set_option maxHeartbeats 4000000 in
set_option maxRecDepth 100000 in
theorem j_pa_readStatements_48 {p : Program} {l : Launch} {e : Env} {s : State} {m : MethodId} {args : Array Value} {below : List Frame} {meth : Method} {c : Code} {D : va_G} {cA : Nat → ClassId} {base : Nat} {r : Option Nat} {w' : WW} (C : cx b_pa_readStatements (some (.object "AlarmForge$Statement")) 7 y_pa_readStatements.cls "readStatements" p s m args meth c D cA base) {k_8 : Nat → Int32 → Int32 → Option Nat → Option Nat → Int32 → WW → Option ((Option Nat ⊕ String) × WW)} (hk_8 : ∀ (y0 : Nat) (y1 : Int32) (y2 : Int32) (y3 : Option Nat) (y4 : Option Nat) (y5 : Int32) (w : WW), k_8 y0 y1 y2 y3 y4 y5 w = some (.inl r, w') → ∀ (H : Heap) (locs : List Loc) (ls : Array Slot), wo_S D cls cA base s w H locs → lv_has ls 7 [(0, .ref (base + y0)), (1, .int y1), (2, .int y2), (3, rb base y3), (4, rb base y4), (5, .int y5)] → W p l e rm_pa_readStatements s m args below meth c H locs 0 0 (MQ below (wo_Q D cls cA base (some (rb base r)) w') args s rm_pa_readStatements.cells rm_pa_readStatements.slots (wo_B base)) (F0 m 8 ls [])) : ∀ (y0 : Nat) (y1 : Int32) (y2 : Int32) (y3 : Option Nat) (y5 : Int32) (y6 : Option Nat) (w : WW), f_pa_readStatements_48 k_8 y0 y1 y2 y3 y5 y6 w = some (.inl r, w') → ∀ (H : Heap) (locs : List Loc) (ls : Array Slot), wo_S D cls cA base s w H locs → lv_has ls 7 [(0, .ref (base + y0)), (1, .int y1), (2, .int y2), (3, rb base y3), (5, .int y5), (6, rb base y6)] → W p l e rm_pa_readStatements s m args below meth c H locs 0 0 (MQ below (wo_Q D cls cA base (some (rb base r)) w') args s rm_pa_readStatements.cells rm_pa_readStatements.slots (wo_B base)) (F0 m 48 ls []) := by
  obtain ⟨hx, hb, hr, hml, hown, hts, hlk, hnm, hK, hG⟩ := id C
  intro y0 y1 y2 y3 y5 y6 w h H locs ls hW hl
  unfold f_pa_readStatements_48 at h
  refine wo_aload hx hb d_pa_readStatements_48 (lv_at hl 5 rfl) ?_
  refine wo_astore (lv' := [(4, rb base y6), (0, .ref (base + y0)), (1, .int y1), (2, .int y2), (3, rb base y3), (5, .int y5), (6, rb base y6)]) hx hb d_pa_readStatements_50 hl (by decide) (by simp [rf_cat]) (fun ls hl => ?_)
  refine lv_iinc (v := (y5 + (1 : Int32))) (lv' := [(5, .int (y5 + (1 : Int32))), (4, rb base y6), (0, .ref (base + y0)), (1, .int y1), (2, .int y2), (3, rb base y3), (6, rb base y6)]) hx hb d_pa_readStatements_52 hl (k := 5) rfl rfl (by decide) (by simp [rf_cat]) (fun ls hl => ?_)
  refine lv_goto (tgt := 8) hx hb d_pa_readStatements_55 (by decide) ?_
  exact hk_8 y0 y1 y2 y3 y6 (y5 + (1 : Int32)) w h _ _ _ hW (lv_sub hl [2, 3, 4, 5, 1, 0] rfl)
set_option maxHeartbeats 4000000 in
set_option maxRecDepth 100000 in
theorem j_pa_readStatements_8 {p : Program} {l : Launch} {e : Env} {s : State} {m : MethodId} {args : Array Value} {below : List Frame} {meth : Method} {c : Code} {D : va_G} {cA : Nat → ClassId} {base : Nat} {r : Option Nat} {w' : WW} (C : cx b_pa_readStatements (some (.object "AlarmForge$Statement")) 7 y_pa_readStatements.cls "readStatements" p s m args meth c D cA base)   : ∀ n : Nat, ∀ (y0 : Nat) (y1 : Int32) (y2 : Int32) (y3 : Option Nat) (y4 : Option Nat) (y5 : Int32) (w : WW), f_pa_readStatements_8 n y0 y1 y2 y3 y4 y5 w = some (.inl r, w') → ∀ (H : Heap) (locs : List Loc) (ls : Array Slot), wo_S D cls cA base s w H locs → lv_has ls 7 [(0, .ref (base + y0)), (1, .int y1), (2, .int y2), (3, rb base y3), (4, rb base y4), (5, .int y5)] → W p l e rm_pa_readStatements s m args below meth c H locs 0 0 (MQ below (wo_Q D cls cA base (some (rb base r)) w') args s rm_pa_readStatements.cells rm_pa_readStatements.slots (wo_B base)) (F0 m 8 ls []) := by
  obtain ⟨hx, hb, hr, hml, hown, hts, hlk, hnm, hK, hG⟩ := id C
  intro n
  induction n with
  | zero => intro y0 y1 y2 y3 y4 y5 w h; cases h
  | succ n ih =>
    intro y0 y1 y2 y3 y4 y5 w h H locs ls hW hl
    rw [f_pa_readStatements_8] at h
    refine lv_iload hx hb d_pa_readStatements_8 (lv_at hl 5 rfl) ?_
    refine lv_bipush (v := (50 : Int32)) hx hb d_pa_readStatements_10 (by decide) ?_
    refine lv_icmp_gt (tgt := 58) hx hb d_pa_readStatements_12 (by decide) (fun c1 => ?_) (fun c1 => ?_)
    · rw [if_pos c1] at h
      exact j_pa_readStatements_58 C y3 w h _ _ _ hW (lv_sub hl [3] rfl)
    · rw [if_neg c1] at h
      refine lv_aload_n hx hb d_pa_readStatements_15 rfl (lv_at hl 0 rfl) ?_
      replace h := bs2 h
      obtain ⟨x3, w2, hw2, h⟩ := h
      refine cv_pa_55 (As := []) (rest := []) hx hb hml hown hts hK hG hW (c_pa_kindHere l D cA base hw2) (kb_pa_kindHere hw2) ⟨Nat.le_of_ble_eq_true rfl, Nat.le_of_ble_eq_true rfl⟩ ⟨Nat.le_of_ble_eq_true rfl, Nat.le_of_ble_eq_true rfl⟩ rfl hl.1 rfl (Nat.le_of_ble_eq_true rfl) d_pa_readStatements_16 (fun H locs hW => ?_)
      refine lv_iload_n hx hb d_pa_readStatements_19 rfl (lv_at hl 1 rfl) ?_
      refine lv_icmp_eq (tgt := 58) hx hb d_pa_readStatements_20 (by decide) (fun c4 => ?_) (fun c4 => ?_)
      · rw [if_pos c4] at h
        exact j_pa_readStatements_58 C y3 w2 h _ _ _ hW (lv_sub hl [3] rfl)
      · rw [if_neg c4] at h
        refine lv_aload_n hx hb d_pa_readStatements_23 rfl (lv_at hl 0 rfl) ?_
        refine lv_iload_n hx hb d_pa_readStatements_24 rfl (lv_at hl 2 rfl) ?_
        replace h := bsx h
        obtain ⟨x6, w5, hw5, h⟩ := h
        refine cv_pa_66 (As := [.int y2]) (rest := []) hx hb hml hown hts hK hG hW (c_pa_readStatement l D cA base hw5) (kb_pa_readStatement hw5) ⟨Nat.le_of_ble_eq_true rfl, Nat.le_of_ble_eq_true rfl⟩ ⟨Nat.le_of_ble_eq_true rfl, Nat.le_of_ble_eq_true rfl⟩ rfl hl.1 rfl (Nat.le_of_ble_eq_true rfl) d_pa_readStatements_25 (fun H locs hW => ?_)
        refine wo_astore (lv' := [(6, rb base x6), (0, .ref (base + y0)), (1, .int y1), (2, .int y2), (3, rb base y3), (4, rb base y4), (5, .int y5)]) hx hb d_pa_readStatements_28 hl (by decide) rfl (fun ls hl => ?_)
        refine wo_aload hx hb d_pa_readStatements_30 (lv_at hl 5 rfl) ?_
        refine wo_ifnonnull (tgt := 41) hx hb d_pa_readStatements_32 (by decide) (fun x7 ex7 => ?_) (fun ex7 => ?_)
        · subst ex7
          dsimp only [nl] at h
          have hl : lv_has ls 7 [(6, rb base x6), (0, .ref (base + y0)), (1, .int y1), (2, .int y2), (3, rb base y3), (4, .ref (base + x7)), (5, .int y5)] := hl
          refine lv_aload hx hb d_pa_readStatements_41 (lv_at hl 5 rfl) ?_
          refine wo_aload hx hb d_pa_readStatements_43 (lv_at hl 0 rfl) ?_
          replace h := bs h
          obtain ⟨w8, hw8, h⟩ := h
          refine pf_pa_70 hx hb hts hown hK hG hW (rf_n _ _ _) (rf_f _ _ _) (pbi hw8 (ub_rf _ _)) d_pa_readStatements_45 (fun H locs hW => ?_)
          exact j_pa_readStatements_48 C ih y0 y1 y2 y3 y5 x6 w8 h _ _ _ hW (lv_sub hl [1, 2, 3, 4, 6, 0] rfl)
        · subst ex7
          dsimp only [nl] at h
          have hl : lv_has ls 7 [(6, rb base x6), (0, .ref (base + y0)), (1, .int y1), (2, .int y2), (3, rb base y3), (4, rb base none), (5, .int y5)] := hl
          refine wo_aload hx hb d_pa_readStatements_35 (lv_at hl 0 rfl) ?_
          refine wo_astore_n (lv' := [(3, rb base x6), (6, rb base x6), (0, .ref (base + y0)), (1, .int y1), (2, .int y2), (4, rb base none), (5, .int y5)]) hx hb d_pa_readStatements_37 rfl hl (by decide) rfl (fun ls hl => ?_)
          refine lv_goto (tgt := 48) hx hb d_pa_readStatements_38 (by decide) ?_
          exact j_pa_readStatements_48 C ih y0 y1 y2 x6 y5 x6 w5 h _ _ _ hW (lv_sub hl [2, 3, 4, 0, 6, 1] rfl)
set_option maxHeartbeats 4000000 in
set_option maxRecDepth 100000 in
theorem c_pa_readStatements (l : Launch) (D : va_G) (cA : Nat → ClassId) (base : Nat) {a0 : Nat} {a1 : Int32} {a2 : Int32} {w w' : WW} {r : Option Nat} (h : f_pa_readStatements a0 a1 a2 w = some (.inl r, w')) : mt l D cls (wo_tys cA) cA base y_pa_readStatements (Cond.code y_pa_readStatements b_pa_readStatements 7 (some (.object "AlarmForge$Statement")) :: gt) rm_pa_readStatements [.ref (base + a0), .int a1, .int a2] w (some (rb base r)) w' rm_pa_readStatements.cells rm_pa_readStatements.slots := by
  refine mt_start (by decide) (Nat.le_of_ble_eq_true rfl) ?_
  intro p e s m below meth c ls hx hb hr hml hown hts hlk hnm hK hG hW hl
  have C : cx b_pa_readStatements (some (.object "AlarmForge$Statement")) 7 y_pa_readStatements.cls "readStatements" p s m [.ref (base + a0), .int a1, .int a2].toArray meth c D cA base := ⟨hx, hb, hr, hml, hown, hts, hlk, hnm, hK, hG⟩
  have hl : lv_has ls 7 [(0, .ref (base + a0)), (1, .int a1), (2, .int a2)] := hl
  unfold f_pa_readStatements at h
  replace h := its h
  obtain ⟨-, h⟩ := h
  refine wo_null (base := base) hx hb d_pa_readStatements_0 ?_
  refine wo_astore_n (lv' := [(3, rb base none), (0, .ref (base + a0)), (1, .int a1), (2, .int a2)]) hx hb d_pa_readStatements_1 rfl hl (by decide) rfl (fun ls hl => ?_)
  refine wo_null (base := base) hx hb d_pa_readStatements_2 ?_
  refine wo_astore (lv' := [(4, rb base none), (3, rb base none), (0, .ref (base + a0)), (1, .int a1), (2, .int a2)]) hx hb d_pa_readStatements_3 hl (by decide) (by simp [rf_cat]) (fun ls hl => ?_)
  refine lv_iconst (v := (0 : Int32)) hx hb d_pa_readStatements_5 (by decide) ?_
  refine lv_istore (lv' := [(5, .int (0 : Int32)), (4, rb base none), (3, rb base none), (0, .ref (base + a0)), (1, .int a1), (2, .int a2)]) hx hb d_pa_readStatements_6 hl (by decide) (by simp [rf_cat]) (fun ls hl => ?_)
  exact j_pa_readStatements_8 C KK a0 a1 a2 none none (0 : Int32) w h _ _ _ hW (lv_sub hl [3, 4, 5, 2, 1, 0] rfl)
set_option maxHeartbeats 4000000 in
set_option maxRecDepth 100000 in
theorem jx_pa_readStatements_58 {p : Program} {l : Launch} {e : Env} {s : State} {m : MethodId} {args : Array Value} {below : List Frame} {meth : Method} {c : Code} {D : va_G} {cA : Nat → ClassId} {base : Nat} {E : String} {w' : WW} (C : cx b_pa_readStatements (some (.object "AlarmForge$Statement")) 7 y_pa_readStatements.cls "readStatements" p s m args meth c D cA base ∧ (∀ x ∈ c.exceptionTable.toList, ∀ k : Nat, covers x k = false) ∧ l.stackTraces = false)   : ∀ (y3 : Option Nat) (w : WW), f_pa_readStatements_58 y3 w = some (.inr E, w') → ∀ (H : Heap) (locs : List Loc) (ls : Array Slot), wo_S D cls cA base s w H locs → lv_has ls 7 [(3, rb base y3)] → W p l e rx_pa_readStatements s m args below meth c H locs 0 0 (XQ below (wo_X D cls cA base E w' rx_pa_readStatements.cells rx_pa_readStatements.slots) args s) (F0 m 58 ls []) := by
  obtain ⟨hx, hb, hr, hml, hown, hts, hlk, hnm, hK, hG⟩ := id C.1
  have hnt := C.2.1
  have hst := C.2.2
  intro y3 w h H locs ls hW hl
  unfold f_pa_readStatements_58 at h
  refine wo_aload_n hx hb d_pa_readStatements_58 rfl (lv_at hl 0 rfl) ?_
  cases h
set_option maxHeartbeats 4000000 in
set_option maxRecDepth 100000 in
theorem jx_pa_readStatements_48 {p : Program} {l : Launch} {e : Env} {s : State} {m : MethodId} {args : Array Value} {below : List Frame} {meth : Method} {c : Code} {D : va_G} {cA : Nat → ClassId} {base : Nat} {E : String} {w' : WW} (C : cx b_pa_readStatements (some (.object "AlarmForge$Statement")) 7 y_pa_readStatements.cls "readStatements" p s m args meth c D cA base ∧ (∀ x ∈ c.exceptionTable.toList, ∀ k : Nat, covers x k = false) ∧ l.stackTraces = false) {k_8 : Nat → Int32 → Int32 → Option Nat → Option Nat → Int32 → WW → Option ((Option Nat ⊕ String) × WW)} (hk_8 : ∀ (y0 : Nat) (y1 : Int32) (y2 : Int32) (y3 : Option Nat) (y4 : Option Nat) (y5 : Int32) (w : WW), k_8 y0 y1 y2 y3 y4 y5 w = some (.inr E, w') → ∀ (H : Heap) (locs : List Loc) (ls : Array Slot), wo_S D cls cA base s w H locs → lv_has ls 7 [(0, .ref (base + y0)), (1, .int y1), (2, .int y2), (3, rb base y3), (4, rb base y4), (5, .int y5)] → W p l e rx_pa_readStatements s m args below meth c H locs 0 0 (XQ below (wo_X D cls cA base E w' rx_pa_readStatements.cells rx_pa_readStatements.slots) args s) (F0 m 8 ls [])) : ∀ (y0 : Nat) (y1 : Int32) (y2 : Int32) (y3 : Option Nat) (y5 : Int32) (y6 : Option Nat) (w : WW), f_pa_readStatements_48 k_8 y0 y1 y2 y3 y5 y6 w = some (.inr E, w') → ∀ (H : Heap) (locs : List Loc) (ls : Array Slot), wo_S D cls cA base s w H locs → lv_has ls 7 [(0, .ref (base + y0)), (1, .int y1), (2, .int y2), (3, rb base y3), (5, .int y5), (6, rb base y6)] → W p l e rx_pa_readStatements s m args below meth c H locs 0 0 (XQ below (wo_X D cls cA base E w' rx_pa_readStatements.cells rx_pa_readStatements.slots) args s) (F0 m 48 ls []) := by
  obtain ⟨hx, hb, hr, hml, hown, hts, hlk, hnm, hK, hG⟩ := id C.1
  have hnt := C.2.1
  have hst := C.2.2
  intro y0 y1 y2 y3 y5 y6 w h H locs ls hW hl
  unfold f_pa_readStatements_48 at h
  refine wo_aload hx hb d_pa_readStatements_48 (lv_at hl 5 rfl) ?_
  refine wo_astore (lv' := [(4, rb base y6), (0, .ref (base + y0)), (1, .int y1), (2, .int y2), (3, rb base y3), (5, .int y5), (6, rb base y6)]) hx hb d_pa_readStatements_50 hl (by decide) (by simp [rf_cat]) (fun ls hl => ?_)
  refine lv_iinc (v := (y5 + (1 : Int32))) (lv' := [(5, .int (y5 + (1 : Int32))), (4, rb base y6), (0, .ref (base + y0)), (1, .int y1), (2, .int y2), (3, rb base y3), (6, rb base y6)]) hx hb d_pa_readStatements_52 hl (k := 5) rfl rfl (by decide) (by simp [rf_cat]) (fun ls hl => ?_)
  refine lv_goto (tgt := 8) hx hb d_pa_readStatements_55 (by decide) ?_
  exact hk_8 y0 y1 y2 y3 y6 (y5 + (1 : Int32)) w h _ _ _ hW (lv_sub hl [2, 3, 4, 5, 1, 0] rfl)
set_option maxHeartbeats 4000000 in
set_option maxRecDepth 100000 in
theorem jx_pa_readStatements_8 {p : Program} {l : Launch} {e : Env} {s : State} {m : MethodId} {args : Array Value} {below : List Frame} {meth : Method} {c : Code} {D : va_G} {cA : Nat → ClassId} {base : Nat} {E : String} {w' : WW} (C : cx b_pa_readStatements (some (.object "AlarmForge$Statement")) 7 y_pa_readStatements.cls "readStatements" p s m args meth c D cA base ∧ (∀ x ∈ c.exceptionTable.toList, ∀ k : Nat, covers x k = false) ∧ l.stackTraces = false)   : ∀ n : Nat, ∀ (y0 : Nat) (y1 : Int32) (y2 : Int32) (y3 : Option Nat) (y4 : Option Nat) (y5 : Int32) (w : WW), f_pa_readStatements_8 n y0 y1 y2 y3 y4 y5 w = some (.inr E, w') → ∀ (H : Heap) (locs : List Loc) (ls : Array Slot), wo_S D cls cA base s w H locs → lv_has ls 7 [(0, .ref (base + y0)), (1, .int y1), (2, .int y2), (3, rb base y3), (4, rb base y4), (5, .int y5)] → W p l e rx_pa_readStatements s m args below meth c H locs 0 0 (XQ below (wo_X D cls cA base E w' rx_pa_readStatements.cells rx_pa_readStatements.slots) args s) (F0 m 8 ls []) := by
  obtain ⟨hx, hb, hr, hml, hown, hts, hlk, hnm, hK, hG⟩ := id C.1
  have hnt := C.2.1
  have hst := C.2.2
  intro n
  induction n with
  | zero => intro y0 y1 y2 y3 y4 y5 w h; cases h
  | succ n ih =>
    intro y0 y1 y2 y3 y4 y5 w h H locs ls hW hl
    rw [f_pa_readStatements_8] at h
    refine lv_iload hx hb d_pa_readStatements_8 (lv_at hl 5 rfl) ?_
    refine lv_bipush (v := (50 : Int32)) hx hb d_pa_readStatements_10 (by decide) ?_
    refine lv_icmp_gt (tgt := 58) hx hb d_pa_readStatements_12 (by decide) (fun c1 => ?_) (fun c1 => ?_)
    · rw [if_pos c1] at h
      exact jx_pa_readStatements_58 C y3 w h _ _ _ hW (lv_sub hl [3] rfl)
    · rw [if_neg c1] at h
      refine lv_aload_n hx hb d_pa_readStatements_15 rfl (lv_at hl 0 rfl) ?_
      replace h := bs2 h
      obtain ⟨x3, w2, hw2, h⟩ := h
      refine cv_pa_55 (As := []) (rest := []) hx hb hml hown hts hK hG hW (c_pa_kindHere l D cA base hw2) (kb_pa_kindHere hw2) ⟨Nat.le_of_ble_eq_true rfl, Nat.le_of_ble_eq_true rfl⟩ ⟨Nat.le_of_ble_eq_true rfl, Nat.le_of_ble_eq_true rfl⟩ rfl hl.1 rfl (Nat.le_of_ble_eq_true rfl) d_pa_readStatements_16 (fun H locs hW => ?_)
      refine lv_iload_n hx hb d_pa_readStatements_19 rfl (lv_at hl 1 rfl) ?_
      refine lv_icmp_eq (tgt := 58) hx hb d_pa_readStatements_20 (by decide) (fun c4 => ?_) (fun c4 => ?_)
      · rw [if_pos c4] at h
        exact jx_pa_readStatements_58 C y3 w2 h _ _ _ hW (lv_sub hl [3] rfl)
      · rw [if_neg c4] at h
        refine lv_aload_n hx hb d_pa_readStatements_23 rfl (lv_at hl 0 rfl) ?_
        refine lv_iload_n hx hb d_pa_readStatements_24 rfl (lv_at hl 2 rfl) ?_
        rcases bsy h with hw5 | ⟨x6, w5, hw5, hnw5⟩
        · exact xv_pa_66 (As := [.int y2]) (rest := []) hx hb hml hown hts hK hG hW (x_pa_readStatement l hst D cA base hw5) (kb_pa_readStatement hw5) ⟨Nat.le_of_ble_eq_true rfl, Nat.le_of_ble_eq_true rfl⟩ ⟨Nat.le_of_ble_eq_true rfl, Nat.le_of_ble_eq_true rfl⟩ rfl hl.1 rfl (Nat.le_of_ble_eq_true rfl) d_pa_readStatements_25 (fun H locs q ce hW h1 h2 h3 => wo_xout hnt hlk hW h1 h2 h3 (Nat.le_of_ble_eq_true rfl) (Nat.le_of_ble_eq_true rfl))
        clear h
        have h := hnw5
        clear hnw5
        refine cv_pa_66 (As := [.int y2]) (rest := []) hx hb hml hown hts hK hG hW (c_pa_readStatement l D cA base hw5) (kb_pa_readStatement hw5) ⟨Nat.le_of_ble_eq_true rfl, Nat.le_of_ble_eq_true rfl⟩ ⟨Nat.le_of_ble_eq_true rfl, Nat.le_of_ble_eq_true rfl⟩ rfl hl.1 rfl (Nat.le_of_ble_eq_true rfl) d_pa_readStatements_25 (fun H locs hW => ?_)
        refine wo_astore (lv' := [(6, rb base x6), (0, .ref (base + y0)), (1, .int y1), (2, .int y2), (3, rb base y3), (4, rb base y4), (5, .int y5)]) hx hb d_pa_readStatements_28 hl (by decide) rfl (fun ls hl => ?_)
        refine wo_aload hx hb d_pa_readStatements_30 (lv_at hl 5 rfl) ?_
        refine wo_ifnonnull (tgt := 41) hx hb d_pa_readStatements_32 (by decide) (fun x7 ex7 => ?_) (fun ex7 => ?_)
        · subst ex7
          dsimp only [nl] at h
          have hl : lv_has ls 7 [(6, rb base x6), (0, .ref (base + y0)), (1, .int y1), (2, .int y2), (3, rb base y3), (4, .ref (base + x7)), (5, .int y5)] := hl
          refine lv_aload hx hb d_pa_readStatements_41 (lv_at hl 5 rfl) ?_
          refine wo_aload hx hb d_pa_readStatements_43 (lv_at hl 0 rfl) ?_
          replace h := bs h
          obtain ⟨w8, hw8, h⟩ := h
          refine pf_pa_70 hx hb hts hown hK hG hW (rf_n _ _ _) (rf_f _ _ _) (pbi hw8 (ub_rf _ _)) d_pa_readStatements_45 (fun H locs hW => ?_)
          exact jx_pa_readStatements_48 C ih y0 y1 y2 y3 y5 x6 w8 h _ _ _ hW (lv_sub hl [1, 2, 3, 4, 6, 0] rfl)
        · subst ex7
          dsimp only [nl] at h
          have hl : lv_has ls 7 [(6, rb base x6), (0, .ref (base + y0)), (1, .int y1), (2, .int y2), (3, rb base y3), (4, rb base none), (5, .int y5)] := hl
          refine wo_aload hx hb d_pa_readStatements_35 (lv_at hl 0 rfl) ?_
          refine wo_astore_n (lv' := [(3, rb base x6), (6, rb base x6), (0, .ref (base + y0)), (1, .int y1), (2, .int y2), (4, rb base none), (5, .int y5)]) hx hb d_pa_readStatements_37 rfl hl (by decide) rfl (fun ls hl => ?_)
          refine lv_goto (tgt := 48) hx hb d_pa_readStatements_38 (by decide) ?_
          exact jx_pa_readStatements_48 C ih y0 y1 y2 x6 y5 x6 w5 h _ _ _ hW (lv_sub hl [2, 3, 4, 0, 6, 1] rfl)
set_option maxHeartbeats 4000000 in
set_option maxRecDepth 100000 in
theorem x_pa_readStatements (l : Launch) (hst : l.stackTraces = false) (D : va_G) (cA : Nat → ClassId) (base : Nat) {a0 : Nat} {a1 : Int32} {a2 : Int32} {w w' : WW} {E : String} (h : f_pa_readStatements a0 a1 a2 w = some (.inr E, w')) : xt l D cls (wo_tys cA) cA base y_pa_readStatements (Cond.code y_pa_readStatements b_pa_readStatements 7 (some (.object "AlarmForge$Statement")) :: gt) rx_pa_readStatements [.ref (base + a0), .int a1, .int a2] w E w' rx_pa_readStatements.cells rx_pa_readStatements.slots := by
  refine xt_start (by decide) (Nat.le_of_ble_eq_true rfl) ?_
  intro p e s m below meth c ls hx hb hr hml hown hts hlk hnm hK hG hW hl hnt
  have C : cx b_pa_readStatements (some (.object "AlarmForge$Statement")) 7 y_pa_readStatements.cls "readStatements" p s m [.ref (base + a0), .int a1, .int a2].toArray meth c D cA base ∧ (∀ x ∈ c.exceptionTable.toList, ∀ k : Nat, covers x k = false) ∧ l.stackTraces = false := ⟨⟨hx, hb, hr, hml, hown, hts, hlk, hnm, hK, hG⟩, hnt, hst⟩
  have hl : lv_has ls 7 [(0, .ref (base + a0)), (1, .int a1), (2, .int a2)] := hl
  unfold f_pa_readStatements at h
  replace h := its h
  obtain ⟨-, h⟩ := h
  refine wo_null (base := base) hx hb d_pa_readStatements_0 ?_
  refine wo_astore_n (lv' := [(3, rb base none), (0, .ref (base + a0)), (1, .int a1), (2, .int a2)]) hx hb d_pa_readStatements_1 rfl hl (by decide) rfl (fun ls hl => ?_)
  refine wo_null (base := base) hx hb d_pa_readStatements_2 ?_
  refine wo_astore (lv' := [(4, rb base none), (3, rb base none), (0, .ref (base + a0)), (1, .int a1), (2, .int a2)]) hx hb d_pa_readStatements_3 hl (by decide) (by simp [rf_cat]) (fun ls hl => ?_)
  refine lv_iconst (v := (0 : Int32)) hx hb d_pa_readStatements_5 (by decide) ?_
  refine lv_istore (lv' := [(5, .int (0 : Int32)), (4, rb base none), (3, rb base none), (0, .ref (base + a0)), (1, .int a1), (2, .int a2)]) hx hb d_pa_readStatements_6 hl (by decide) (by simp [rf_cat]) (fun ls hl => ?_)
  exact jx_pa_readStatements_8 C KK a0 a1 a2 none none (0 : Int32) w h _ _ _ hW (lv_sub hl [3, 4, 5, 2, 1, 0] rfl)
theorem cv_pa_26 {p : Program} {l : Launch} {e : Env} {R : Room} {s : State} {m : MethodId} {args : Array Value} {below : List Frame} {meth : Method} {c : Code} {H : Heap} {locs : List Loc} {cells slots : Nat} {Q : State → Prop} {D : va_G} {cA : Nat → ClassId} {base : Nat} {w w' : WW} {cc : ByteArray} {pc nL : Nat} {ls : Array Slot} {rest st0 As : List Value} {ov : Option Value} {b : Nat} (hx : p.tables.exec = Jvm.exec) (hb : c.code = cc) (hml : c.maxLocals = nL) (hown : s.vm.findClass Rc_pa = some m.cls) (hts : ∀ w ∈ gt, w.before args s = true) (hK : va_K D cls (wo_tys cA) s) (hG : wo_G base s) (hW : wo_S D cls cA base s w H locs) (hM : mt l D cls (wo_tys cA) cA base y_pg_empty (Cond.code y_pg_empty b_pg_empty 1 (none) :: gt) rm_pg_empty (.ref (base + b) :: As) w ov w' rm_pg_empty.cells rm_pg_empty.slots) (hkb : kb w b 3 = true) (hR : rm_pg_empty.frames + 1 ≤ R.frames ∧ 8 + (1 + 11) + rm_pg_empty.locals ≤ R.locals) (hf : cells + rm_pg_empty.cells ≤ R.cells ∧ slots + rm_pg_empty.slots ≤ R.slots) (hn : As.length = 0) (hsz : ls.size = nL) (hst : st0 = As.reverse ++ .ref (base + b) :: rest) (hcat : (rest.map fun v => v.category).sum ≤ 8) (hdg : decode cc pc = .ok (.invokevirtual 26, 3)) (kk : ∀ (H1 : Heap) (locs1 : List Loc), wo_S D cls cA base s w' H1 locs1 → W p l e R s m args below meth c H1 locs1 (cells + rm_pg_empty.cells) (slots + rm_pg_empty.slots) Q (F0 m (pc + 3) ls (ov.toList ++ rest))) : W p l e R s m args below meth c H locs cells slots Q (F0 m pc ls st0) :=
  wo_callV (C := Rc_pg) hx hb hml hown hts hK hG hW hM hkb rfl (gt_of (i := 490) (by decide +kernel) (by decide +kernel)) (gt_of (i := 491) (by decide +kernel) (by decide +kernel)) (gt_of (i := 492) (by decide +kernel) (by decide +kernel)) (gt_of (i := 4) (by decide +kernel) (by decide +kernel)) (gt_of (i := 493) (by decide +kernel) (by decide +kernel)) (by decide +kernel) hR hf hn hsz hst hcat hdg kk
theorem cv_pa_31 {p : Program} {l : Launch} {e : Env} {R : Room} {s : State} {m : MethodId} {args : Array Value} {below : List Frame} {meth : Method} {c : Code} {H : Heap} {locs : List Loc} {cells slots : Nat} {Q : State → Prop} {D : va_G} {cA : Nat → ClassId} {base : Nat} {w w' : WW} {cc : ByteArray} {pc nL : Nat} {ls : Array Slot} {rest st0 As : List Value} {ov : Option Value} {b : Nat} (hx : p.tables.exec = Jvm.exec) (hb : c.code = cc) (hml : c.maxLocals = nL) (hown : s.vm.findClass Rc_pa = some m.cls) (hts : ∀ w ∈ gt, w.before args s = true) (hK : va_K D cls (wo_tys cA) s) (hG : wo_G base s) (hW : wo_S D cls cA base s w H locs) (hM : mt l D cls (wo_tys cA) cA base y_rd_readAll (Cond.code y_rd_readAll b_rd_readAll 2 (none) :: gt) rm_rd_readAll (.ref (base + b) :: As) w ov w' rm_rd_readAll.cells rm_rd_readAll.slots) (hkb : kb w b 1 = true) (hR : rm_rd_readAll.frames + 1 ≤ R.frames ∧ 8 + (2 + 11) + rm_rd_readAll.locals ≤ R.locals) (hf : cells + rm_rd_readAll.cells ≤ R.cells ∧ slots + rm_rd_readAll.slots ≤ R.slots) (hn : As.length = 0) (hsz : ls.size = nL) (hst : st0 = As.reverse ++ .ref (base + b) :: rest) (hcat : (rest.map fun v => v.category).sum ≤ 8) (hdg : decode cc pc = .ok (.invokevirtual 31, 3)) (kk : ∀ (H1 : Heap) (locs1 : List Loc), wo_S D cls cA base s w' H1 locs1 → W p l e R s m args below meth c H1 locs1 (cells + rm_rd_readAll.cells) (slots + rm_rd_readAll.slots) Q (F0 m (pc + 3) ls (ov.toList ++ rest))) : W p l e R s m args below meth c H locs cells slots Q (F0 m pc ls st0) :=
  wo_callV (C := Rc_rd) hx hb hml hown hts hK hG hW hM hkb rfl (gt_of (i := 494) (by decide +kernel) (by decide +kernel)) (gt_of (i := 495) (by decide +kernel) (by decide +kernel)) (gt_of (i := 496) (by decide +kernel) (by decide +kernel)) (gt_of (i := 3) (by decide +kernel) (by decide +kernel)) (gt_of (i := 497) (by decide +kernel) (by decide +kernel)) (by decide +kernel) hR hf hn hsz hst hcat hdg kk
theorem xv_pa_37 {p : Program} {l : Launch} {e : Env} {R : Room} {s : State} {m : MethodId} {args : Array Value} {below : List Frame} {meth : Method} {c : Code} {H : Heap} {locs : List Loc} {cells slots : Nat} {Q : State → Prop} {D : va_G} {cA : Nat → ClassId} {base : Nat} {w w' : WW} {cc : ByteArray} {pc nL : Nat} {ls : Array Slot} {rest st0 As : List Value} {E : String} {b : Nat} (hx : p.tables.exec = Jvm.exec) (hb : c.code = cc) (hml : c.maxLocals = nL) (hown : s.vm.findClass Rc_pa = some m.cls) (hts : ∀ w ∈ gt, w.before args s = true) (hK : va_K D cls (wo_tys cA) s) (hG : wo_G base s) (hW : wo_S D cls cA base s w H locs) (hM : xt l D cls (wo_tys cA) cA base y_pa_readStatements (Cond.code y_pa_readStatements b_pa_readStatements 7 (some (.object "AlarmForge$Statement")) :: gt) rx_pa_readStatements (.ref (base + b) :: As) w E w' rx_pa_readStatements.cells rx_pa_readStatements.slots) (hkb : kb w b 2 = true) (hR : rx_pa_readStatements.frames + 1 ≤ R.frames ∧ 8 + (7 + 11) + rx_pa_readStatements.locals ≤ R.locals) (hf : cells + rx_pa_readStatements.cells ≤ R.cells ∧ slots + rx_pa_readStatements.slots ≤ R.slots) (hn : As.length = 2) (hsz : ls.size = nL) (hst : st0 = As.reverse ++ .ref (base + b) :: rest) (hcat : (rest.map fun v => v.category).sum ≤ 8) (hdg : decode cc pc = .ok (.invokevirtual 37, 3)) (kk : ∀ (H1 : Heap) (locs1 : List Loc) (q : Addr) (ce : Cell), wo_S D cls cA base s w' H1 locs1 → H1[q]? = some ce → ce.vm = .none → s.vm.findClass E = some ce.cls → XW p l e R s m args below meth c H1 locs1 (cells + rx_pa_readStatements.cells) (slots + rx_pa_readStatements.slots) Q (F0 m pc ls rest) q) : W p l e R s m args below meth c H locs cells slots Q (F0 m pc ls st0) :=
  wo_xcallV (C := Rc_pa) hx hb hml hown hts hK hG hW hM hkb rfl (gt_of (i := 641) (by decide +kernel) (by decide +kernel)) (gt_of (i := 643) (by decide +kernel) (by decide +kernel)) (gt_sel (i := 7) (by decide +kernel) (by decide +kernel)) (gt_of (i := 2) (by decide +kernel) (by decide +kernel)) (gt_of (i := 644) (by decide +kernel) (by decide +kernel)) (by decide +kernel) hR hf hn hsz hst hcat hdg kk
theorem cv_pa_37 {p : Program} {l : Launch} {e : Env} {R : Room} {s : State} {m : MethodId} {args : Array Value} {below : List Frame} {meth : Method} {c : Code} {H : Heap} {locs : List Loc} {cells slots : Nat} {Q : State → Prop} {D : va_G} {cA : Nat → ClassId} {base : Nat} {w w' : WW} {cc : ByteArray} {pc nL : Nat} {ls : Array Slot} {rest st0 As : List Value} {ov : Option Value} {b : Nat} (hx : p.tables.exec = Jvm.exec) (hb : c.code = cc) (hml : c.maxLocals = nL) (hown : s.vm.findClass Rc_pa = some m.cls) (hts : ∀ w ∈ gt, w.before args s = true) (hK : va_K D cls (wo_tys cA) s) (hG : wo_G base s) (hW : wo_S D cls cA base s w H locs) (hM : mt l D cls (wo_tys cA) cA base y_pa_readStatements (Cond.code y_pa_readStatements b_pa_readStatements 7 (some (.object "AlarmForge$Statement")) :: gt) rm_pa_readStatements (.ref (base + b) :: As) w ov w' rm_pa_readStatements.cells rm_pa_readStatements.slots) (hkb : kb w b 2 = true) (hR : rm_pa_readStatements.frames + 1 ≤ R.frames ∧ 8 + (7 + 11) + rm_pa_readStatements.locals ≤ R.locals) (hf : cells + rm_pa_readStatements.cells ≤ R.cells ∧ slots + rm_pa_readStatements.slots ≤ R.slots) (hn : As.length = 2) (hsz : ls.size = nL) (hst : st0 = As.reverse ++ .ref (base + b) :: rest) (hcat : (rest.map fun v => v.category).sum ≤ 8) (hdg : decode cc pc = .ok (.invokevirtual 37, 3)) (kk : ∀ (H1 : Heap) (locs1 : List Loc), wo_S D cls cA base s w' H1 locs1 → W p l e R s m args below meth c H1 locs1 (cells + rm_pa_readStatements.cells) (slots + rm_pa_readStatements.slots) Q (F0 m (pc + 3) ls (ov.toList ++ rest))) : W p l e R s m args below meth c H locs cells slots Q (F0 m pc ls st0) :=
  wo_callV (C := Rc_pa) hx hb hml hown hts hK hG hW hM hkb rfl (gt_of (i := 641) (by decide +kernel) (by decide +kernel)) (gt_of (i := 643) (by decide +kernel) (by decide +kernel)) (gt_sel (i := 7) (by decide +kernel) (by decide +kernel)) (gt_of (i := 2) (by decide +kernel) (by decide +kernel)) (gt_of (i := 644) (by decide +kernel) (by decide +kernel)) (by decide +kernel) hR hf hn hsz hst hcat hdg kk
abbrev b_pa_readProgram : ByteArray := prog_3_method_2_code
def y_pa_readProgram : MethodName := ⟨"AlarmForge$Parser", "readProgram", "(LAlarmForge$Program;)V"⟩
def rm_pa_readProgram : Room := { frames := 7, cells := 0, slots := 0, locals := 126 }
def rx_pa_readProgram : Room := { frames := 7, cells := 1, slots := 6, locals := 126 }
theorem d_pa_readProgram_0 : decode b_pa_readProgram 0 = .ok (.aload_n 0, 1) := by decide +kernel
theorem d_pa_readProgram_1 : decode b_pa_readProgram 1 = .ok (.aload_n 1, 1) := by decide +kernel
theorem d_pa_readProgram_2 : decode b_pa_readProgram 2 = .ok (.putfield 22, 3) := by decide +kernel
theorem d_pa_readProgram_5 : decode b_pa_readProgram 5 = .ok (.aload_n 0, 1) := by decide +kernel
theorem d_pa_readProgram_6 : decode b_pa_readProgram 6 = .ok (.getfield 22, 3) := by decide +kernel
theorem d_pa_readProgram_9 : decode b_pa_readProgram 9 = .ok (.invokevirtual 26, 3) := by decide +kernel
theorem d_pa_readProgram_12 : decode b_pa_readProgram 12 = .ok (.aload_n 0, 1) := by decide +kernel
theorem d_pa_readProgram_13 : decode b_pa_readProgram 13 = .ok (.bipush (-2), 2) := by decide +kernel
theorem d_pa_readProgram_15 : decode b_pa_readProgram 15 = .ok (.putfield 18, 3) := by decide +kernel
theorem d_pa_readProgram_18 : decode b_pa_readProgram 18 = .ok (.aload_n 0, 1) := by decide +kernel
theorem d_pa_readProgram_19 : decode b_pa_readProgram 19 = .ok (.getfield 12, 3) := by decide +kernel
theorem d_pa_readProgram_22 : decode b_pa_readProgram 22 = .ok (.invokevirtual 31, 3) := by decide +kernel
theorem d_pa_readProgram_25 : decode b_pa_readProgram 25 = .ok (.aload_n 0, 1) := by decide +kernel
theorem d_pa_readProgram_26 : decode b_pa_readProgram 26 = .ok (.iconst 0, 1) := by decide +kernel
theorem d_pa_readProgram_27 : decode b_pa_readProgram 27 = .ok (.putfield 34, 3) := by decide +kernel
theorem d_pa_readProgram_30 : decode b_pa_readProgram 30 = .ok (.aload_n 0, 1) := by decide +kernel
theorem d_pa_readProgram_31 : decode b_pa_readProgram 31 = .ok (.getfield 22, 3) := by decide +kernel
theorem d_pa_readProgram_34 : decode b_pa_readProgram 34 = .ok (.aload_n 0, 1) := by decide +kernel
theorem d_pa_readProgram_35 : decode b_pa_readProgram 35 = .ok (.iconst 0, 1) := by decide +kernel
theorem d_pa_readProgram_36 : decode b_pa_readProgram 36 = .ok (.iconst 0, 1) := by decide +kernel
theorem d_pa_readProgram_37 : decode b_pa_readProgram 37 = .ok (.invokevirtual 37, 3) := by decide +kernel
theorem d_pa_readProgram_40 : decode b_pa_readProgram 40 = .ok (.putfield 41, 3) := by decide +kernel
theorem d_pa_readProgram_43 : decode b_pa_readProgram 43 = .ok (.return_, 1) := by decide +kernel
def f_pa_readProgram (a0 : Nat) (a1 : Nat) (w : WW) : Option ((Unit ⊕ String) × WW) :=
  if kb w a0 2 = true then
    (pv w a0 2 2 (.ref a1)).bind fun w1 =>
    (gR w1 a0 2 2).bind fun x2 =>
    x2.bind fun x3 =>
    (f_pg_empty x3 w1).bind fun w4 =>
    (pv w4 a0 2 3 (.int (-2 : Int32))).bind fun w5 =>
    (gN w5 a0 2 0).bind fun x6 =>
    (f_rd_readAll x6 w5).bind fun w7 =>
    (pv w7 a0 2 1 (.int (0 : Int32))).bind fun w8 =>
    (gR w8 a0 2 2).bind fun x9 =>
    bdx (f_pa_readStatements a0 (0 : Int32) (0 : Int32) w8) fun x11 w10 =>
    x9.bind fun x12 =>
    (pv w10 x12 3 6 (va_rf x11)).bind fun w13 =>
    some (.inl (), w13)
  else none
theorem kb_pa_readProgram {a0 a1 : Nat}  {w : WW} {r : ((Unit ⊕ String) × WW)} (h : f_pa_readProgram a0 a1 w = some r) : kb w a0 2 = true := (its h).1
set_option maxHeartbeats 4000000 in
set_option maxRecDepth 100000 in
theorem c_pa_readProgram (l : Launch) (D : va_G) (cA : Nat → ClassId) (base : Nat) {a0 : Nat} {a1 : Nat} {w w' : WW} (h : f_pa_readProgram a0 a1 w = some (.inl (), w')) : mt l D cls (wo_tys cA) cA base y_pa_readProgram (Cond.code y_pa_readProgram b_pa_readProgram 2 (none) :: gt) rm_pa_readProgram [.ref (base + a0), .ref (base + a1)] w none w' rm_pa_readProgram.cells rm_pa_readProgram.slots := by
  refine mt_start (by decide) (Nat.le_of_ble_eq_true rfl) ?_
  intro p e s m below meth c ls hx hb hr hml hown hts hlk hnm hK hG hW hl
  have C : cx b_pa_readProgram (none) 2 y_pa_readProgram.cls "readProgram" p s m [.ref (base + a0), .ref (base + a1)].toArray meth c D cA base := ⟨hx, hb, hr, hml, hown, hts, hlk, hnm, hK, hG⟩
  have hl : lv_has ls 2 [(0, .ref (base + a0)), (1, .ref (base + a1))] := hl
  unfold f_pa_readProgram at h
  replace h := its h
  obtain ⟨-, h⟩ := h
  refine lv_aload_n hx hb d_pa_readProgram_0 rfl (lv_at hl 0 rfl) ?_
  refine lv_aload_n hx hb d_pa_readProgram_1 rfl (lv_at hl 1 rfl) ?_
  replace h := bs h
  obtain ⟨w1, hw1, h⟩ := h
  refine pf_pa_22 hx hb hts hown hK hG hW rfl rfl (pbi hw1 rfl) d_pa_readProgram_2 (fun H locs hW => ?_)
  refine lv_aload_n hx hb d_pa_readProgram_5 rfl (lv_at hl 0 rfl) ?_
  replace h := bs h
  obtain ⟨x2, hx2, h⟩ := h
  refine gf_pa_22 hx hb hts hown hK hG hW (gR_s hx2) d_pa_readProgram_6 ?_
  replace h := bs h
  obtain ⟨x3, ex3, h⟩ := h
  subst ex3
  replace h := bs h
  obtain ⟨w4, hw4, h⟩ := h
  refine cv_pa_26 (As := []) (rest := []) hx hb hml hown hts hK hG hW (c_pg_empty l D cA base hw4) (kb_pg_empty hw4) ⟨Nat.le_of_ble_eq_true rfl, Nat.le_of_ble_eq_true rfl⟩ ⟨Nat.le_of_ble_eq_true rfl, Nat.le_of_ble_eq_true rfl⟩ rfl hl.1 rfl (Nat.le_of_ble_eq_true rfl) d_pa_readProgram_9 (fun H locs hW => ?_)
  refine lv_aload_n hx hb d_pa_readProgram_12 rfl (lv_at hl 0 rfl) ?_
  refine lv_bipush (v := (-2 : Int32)) hx hb d_pa_readProgram_13 (by decide) ?_
  replace h := bs h
  obtain ⟨w5, hw5, h⟩ := h
  refine pf_pa_18 hx hb hts hown hK hG hW rfl rfl (pbi hw5 rfl) d_pa_readProgram_15 (fun H locs hW => ?_)
  refine lv_aload_n hx hb d_pa_readProgram_18 rfl (lv_at hl 0 rfl) ?_
  replace h := bs h
  obtain ⟨x6, hx6, h⟩ := h
  refine gf_pa_12 hx hb hts hown hK hG hW (gN_s hx6) d_pa_readProgram_19 ?_
  replace h := bs h
  obtain ⟨w7, hw7, h⟩ := h
  refine cv_pa_31 (As := []) (rest := []) hx hb hml hown hts hK hG hW (c_rd_readAll l D cA base hw7) (kb_rd_readAll hw7) ⟨Nat.le_of_ble_eq_true rfl, Nat.le_of_ble_eq_true rfl⟩ ⟨Nat.le_of_ble_eq_true rfl, Nat.le_of_ble_eq_true rfl⟩ rfl hl.1 rfl (Nat.le_of_ble_eq_true rfl) d_pa_readProgram_22 (fun H locs hW => ?_)
  refine lv_aload_n hx hb d_pa_readProgram_25 rfl (lv_at hl 0 rfl) ?_
  refine lv_iconst (v := (0 : Int32)) hx hb d_pa_readProgram_26 (by decide) ?_
  replace h := bs h
  obtain ⟨w8, hw8, h⟩ := h
  refine pf_pa_34 hx hb hts hown hK hG hW rfl rfl (pbi hw8 rfl) d_pa_readProgram_27 (fun H locs hW => ?_)
  refine lv_aload_n hx hb d_pa_readProgram_30 rfl (lv_at hl 0 rfl) ?_
  replace h := bs h
  obtain ⟨x9, hx9, h⟩ := h
  refine gf_pa_22 hx hb hts hown hK hG hW (gR_s hx9) d_pa_readProgram_31 ?_
  refine lv_aload_n hx hb d_pa_readProgram_34 rfl (lv_at hl 0 rfl) ?_
  refine lv_iconst (v := (0 : Int32)) hx hb d_pa_readProgram_35 (by decide) ?_
  refine lv_iconst (v := (0 : Int32)) hx hb d_pa_readProgram_36 (by decide) ?_
  replace h := bsx h
  obtain ⟨x11, w10, hw10, h⟩ := h
  refine cv_pa_37 (As := [.int (0 : Int32), .int (0 : Int32)]) (rest := [rb base x9]) hx hb hml hown hts hK hG hW (c_pa_readStatements l D cA base hw10) (kb_pa_readStatements hw10) ⟨Nat.le_of_ble_eq_true rfl, Nat.le_of_ble_eq_true rfl⟩ ⟨Nat.le_of_ble_eq_true rfl, Nat.le_of_ble_eq_true rfl⟩ rfl hl.1 rfl (by simp only [List.map_cons, List.map_nil, rf_cat]; exact Nat.le_of_ble_eq_true rfl) d_pa_readProgram_37 (fun H locs hW => ?_)
  replace h := bs h
  obtain ⟨x12, ex12, h⟩ := h
  subst ex12
  replace h := bs h
  obtain ⟨w13, hw13, h⟩ := h
  refine pf_pa_41 hx hb hts hown hK hG hW (rf_n _ _ _) (rf_f _ _ _) (pbi hw13 (ub_rf _ _)) d_pa_readProgram_40 (fun H locs hW => ?_)
  cases h
  exact wo_vret hx hb hr hlk hW d_pa_readProgram_43
set_option maxHeartbeats 4000000 in
set_option maxRecDepth 100000 in
theorem x_pa_readProgram (l : Launch) (hst : l.stackTraces = false) (D : va_G) (cA : Nat → ClassId) (base : Nat) {a0 : Nat} {a1 : Nat} {w w' : WW} {E : String} (h : f_pa_readProgram a0 a1 w = some (.inr E, w')) : xt l D cls (wo_tys cA) cA base y_pa_readProgram (Cond.code y_pa_readProgram b_pa_readProgram 2 (none) :: gt) rx_pa_readProgram [.ref (base + a0), .ref (base + a1)] w E w' rx_pa_readProgram.cells rx_pa_readProgram.slots := by
  refine xt_start (by decide) (Nat.le_of_ble_eq_true rfl) ?_
  intro p e s m below meth c ls hx hb hr hml hown hts hlk hnm hK hG hW hl hnt
  have C : cx b_pa_readProgram (none) 2 y_pa_readProgram.cls "readProgram" p s m [.ref (base + a0), .ref (base + a1)].toArray meth c D cA base ∧ (∀ x ∈ c.exceptionTable.toList, ∀ k : Nat, covers x k = false) ∧ l.stackTraces = false := ⟨⟨hx, hb, hr, hml, hown, hts, hlk, hnm, hK, hG⟩, hnt, hst⟩
  have hl : lv_has ls 2 [(0, .ref (base + a0)), (1, .ref (base + a1))] := hl
  unfold f_pa_readProgram at h
  replace h := its h
  obtain ⟨-, h⟩ := h
  refine lv_aload_n hx hb d_pa_readProgram_0 rfl (lv_at hl 0 rfl) ?_
  refine lv_aload_n hx hb d_pa_readProgram_1 rfl (lv_at hl 1 rfl) ?_
  replace h := bs h
  obtain ⟨w1, hw1, h⟩ := h
  refine pf_pa_22 hx hb hts hown hK hG hW rfl rfl (pbi hw1 rfl) d_pa_readProgram_2 (fun H locs hW => ?_)
  refine lv_aload_n hx hb d_pa_readProgram_5 rfl (lv_at hl 0 rfl) ?_
  replace h := bs h
  obtain ⟨x2, hx2, h⟩ := h
  refine gf_pa_22 hx hb hts hown hK hG hW (gR_s hx2) d_pa_readProgram_6 ?_
  replace h := bs h
  obtain ⟨x3, ex3, h⟩ := h
  subst ex3
  replace h := bs h
  obtain ⟨w4, hw4, h⟩ := h
  refine cv_pa_26 (As := []) (rest := []) hx hb hml hown hts hK hG hW (c_pg_empty l D cA base hw4) (kb_pg_empty hw4) ⟨Nat.le_of_ble_eq_true rfl, Nat.le_of_ble_eq_true rfl⟩ ⟨Nat.le_of_ble_eq_true rfl, Nat.le_of_ble_eq_true rfl⟩ rfl hl.1 rfl (Nat.le_of_ble_eq_true rfl) d_pa_readProgram_9 (fun H locs hW => ?_)
  refine lv_aload_n hx hb d_pa_readProgram_12 rfl (lv_at hl 0 rfl) ?_
  refine lv_bipush (v := (-2 : Int32)) hx hb d_pa_readProgram_13 (by decide) ?_
  replace h := bs h
  obtain ⟨w5, hw5, h⟩ := h
  refine pf_pa_18 hx hb hts hown hK hG hW rfl rfl (pbi hw5 rfl) d_pa_readProgram_15 (fun H locs hW => ?_)
  refine lv_aload_n hx hb d_pa_readProgram_18 rfl (lv_at hl 0 rfl) ?_
  replace h := bs h
  obtain ⟨x6, hx6, h⟩ := h
  refine gf_pa_12 hx hb hts hown hK hG hW (gN_s hx6) d_pa_readProgram_19 ?_
  replace h := bs h
  obtain ⟨w7, hw7, h⟩ := h
  refine cv_pa_31 (As := []) (rest := []) hx hb hml hown hts hK hG hW (c_rd_readAll l D cA base hw7) (kb_rd_readAll hw7) ⟨Nat.le_of_ble_eq_true rfl, Nat.le_of_ble_eq_true rfl⟩ ⟨Nat.le_of_ble_eq_true rfl, Nat.le_of_ble_eq_true rfl⟩ rfl hl.1 rfl (Nat.le_of_ble_eq_true rfl) d_pa_readProgram_22 (fun H locs hW => ?_)
  refine lv_aload_n hx hb d_pa_readProgram_25 rfl (lv_at hl 0 rfl) ?_
  refine lv_iconst (v := (0 : Int32)) hx hb d_pa_readProgram_26 (by decide) ?_
  replace h := bs h
  obtain ⟨w8, hw8, h⟩ := h
  refine pf_pa_34 hx hb hts hown hK hG hW rfl rfl (pbi hw8 rfl) d_pa_readProgram_27 (fun H locs hW => ?_)
  refine lv_aload_n hx hb d_pa_readProgram_30 rfl (lv_at hl 0 rfl) ?_
  replace h := bs h
  obtain ⟨x9, hx9, h⟩ := h
  refine gf_pa_22 hx hb hts hown hK hG hW (gR_s hx9) d_pa_readProgram_31 ?_
  refine lv_aload_n hx hb d_pa_readProgram_34 rfl (lv_at hl 0 rfl) ?_
  refine lv_iconst (v := (0 : Int32)) hx hb d_pa_readProgram_35 (by decide) ?_
  refine lv_iconst (v := (0 : Int32)) hx hb d_pa_readProgram_36 (by decide) ?_
  rcases bsy h with hw10 | ⟨x11, w10, hw10, hnw10⟩
  · exact xv_pa_37 (As := [.int (0 : Int32), .int (0 : Int32)]) (rest := [rb base x9]) hx hb hml hown hts hK hG hW (x_pa_readStatements l hst D cA base hw10) (kb_pa_readStatements hw10) ⟨Nat.le_of_ble_eq_true rfl, Nat.le_of_ble_eq_true rfl⟩ ⟨Nat.le_of_ble_eq_true rfl, Nat.le_of_ble_eq_true rfl⟩ rfl hl.1 rfl (by simp only [List.map_cons, List.map_nil, rf_cat]; exact Nat.le_of_ble_eq_true rfl) d_pa_readProgram_37 (fun H locs q ce hW h1 h2 h3 => wo_xout hnt hlk hW h1 h2 h3 (Nat.le_of_ble_eq_true rfl) (Nat.le_of_ble_eq_true rfl))
  clear h
  have h := hnw10
  clear hnw10
  refine cv_pa_37 (As := [.int (0 : Int32), .int (0 : Int32)]) (rest := [rb base x9]) hx hb hml hown hts hK hG hW (c_pa_readStatements l D cA base hw10) (kb_pa_readStatements hw10) ⟨Nat.le_of_ble_eq_true rfl, Nat.le_of_ble_eq_true rfl⟩ ⟨Nat.le_of_ble_eq_true rfl, Nat.le_of_ble_eq_true rfl⟩ rfl hl.1 rfl (by simp only [List.map_cons, List.map_nil, rf_cat]; exact Nat.le_of_ble_eq_true rfl) d_pa_readProgram_37 (fun H locs hW => ?_)
  replace h := bs h
  obtain ⟨x12, ex12, h⟩ := h
  subst ex12
  replace h := bs h
  obtain ⟨w13, hw13, h⟩ := h
  refine pf_pa_41 hx hb hts hown hK hG hW (rf_n _ _ _) (rf_f _ _ _) (pbi hw13 (ub_rf _ _)) d_pa_readProgram_40 (fun H locs hW => ?_)
  cases h
theorem xv_a_77 {p : Program} {l : Launch} {e : Env} {R : Room} {s : State} {m : MethodId} {args : Array Value} {below : List Frame} {meth : Method} {c : Code} {H : Heap} {locs : List Loc} {cells slots : Nat} {Q : State → Prop} {D : va_G} {cA : Nat → ClassId} {base : Nat} {w w' : WW} {cc : ByteArray} {pc nL : Nat} {ls : Array Slot} {rest st0 As : List Value} {E : String} {b : Nat} (hx : p.tables.exec = Jvm.exec) (hb : c.code = cc) (hml : c.maxLocals = nL) (hown : s.vm.findClass Rc_a = some m.cls) (hts : ∀ w ∈ gt, w.before args s = true) (hK : va_K D cls (wo_tys cA) s) (hG : wo_G base s) (hW : wo_S D cls cA base s w H locs) (hM : xt l D cls (wo_tys cA) cA base y_pa_readProgram (Cond.code y_pa_readProgram b_pa_readProgram 2 (none) :: gt) rx_pa_readProgram (.ref (base + b) :: As) w E w' rx_pa_readProgram.cells rx_pa_readProgram.slots) (hkb : kb w b 2 = true) (hR : rx_pa_readProgram.frames + 1 ≤ R.frames ∧ 8 + (2 + 11) + rx_pa_readProgram.locals ≤ R.locals) (hf : cells + rx_pa_readProgram.cells ≤ R.cells ∧ slots + rx_pa_readProgram.slots ≤ R.slots) (hn : As.length = 1) (hsz : ls.size = nL) (hst : st0 = As.reverse ++ .ref (base + b) :: rest) (hcat : (rest.map fun v => v.category).sum ≤ 8) (hdg : decode cc pc = .ok (.invokevirtual 77, 3)) (kk : ∀ (H1 : Heap) (locs1 : List Loc) (q : Addr) (ce : Cell), wo_S D cls cA base s w' H1 locs1 → H1[q]? = some ce → ce.vm = .none → s.vm.findClass E = some ce.cls → XW p l e R s m args below meth c H1 locs1 (cells + rx_pa_readProgram.cells) (slots + rx_pa_readProgram.slots) Q (F0 m pc ls rest) q) : W p l e R s m args below meth c H locs cells slots Q (F0 m pc ls st0) :=
  wo_xcallV (C := Rc_pa) hx hb hml hown hts hK hG hW hM hkb rfl (gt_of (i := 486) (by decide +kernel) (by decide +kernel)) (gt_of (i := 487) (by decide +kernel) (by decide +kernel)) (gt_of (i := 488) (by decide +kernel) (by decide +kernel)) (gt_of (i := 2) (by decide +kernel) (by decide +kernel)) (gt_of (i := 489) (by decide +kernel) (by decide +kernel)) (by decide +kernel) hR hf hn hsz hst hcat hdg kk
theorem cv_a_77 {p : Program} {l : Launch} {e : Env} {R : Room} {s : State} {m : MethodId} {args : Array Value} {below : List Frame} {meth : Method} {c : Code} {H : Heap} {locs : List Loc} {cells slots : Nat} {Q : State → Prop} {D : va_G} {cA : Nat → ClassId} {base : Nat} {w w' : WW} {cc : ByteArray} {pc nL : Nat} {ls : Array Slot} {rest st0 As : List Value} {ov : Option Value} {b : Nat} (hx : p.tables.exec = Jvm.exec) (hb : c.code = cc) (hml : c.maxLocals = nL) (hown : s.vm.findClass Rc_a = some m.cls) (hts : ∀ w ∈ gt, w.before args s = true) (hK : va_K D cls (wo_tys cA) s) (hG : wo_G base s) (hW : wo_S D cls cA base s w H locs) (hM : mt l D cls (wo_tys cA) cA base y_pa_readProgram (Cond.code y_pa_readProgram b_pa_readProgram 2 (none) :: gt) rm_pa_readProgram (.ref (base + b) :: As) w ov w' rm_pa_readProgram.cells rm_pa_readProgram.slots) (hkb : kb w b 2 = true) (hR : rm_pa_readProgram.frames + 1 ≤ R.frames ∧ 8 + (2 + 11) + rm_pa_readProgram.locals ≤ R.locals) (hf : cells + rm_pa_readProgram.cells ≤ R.cells ∧ slots + rm_pa_readProgram.slots ≤ R.slots) (hn : As.length = 1) (hsz : ls.size = nL) (hst : st0 = As.reverse ++ .ref (base + b) :: rest) (hcat : (rest.map fun v => v.category).sum ≤ 8) (hdg : decode cc pc = .ok (.invokevirtual 77, 3)) (kk : ∀ (H1 : Heap) (locs1 : List Loc), wo_S D cls cA base s w' H1 locs1 → W p l e R s m args below meth c H1 locs1 (cells + rm_pa_readProgram.cells) (slots + rm_pa_readProgram.slots) Q (F0 m (pc + 3) ls (ov.toList ++ rest))) : W p l e R s m args below meth c H locs cells slots Q (F0 m pc ls st0) :=
  wo_callV (C := Rc_pa) hx hb hml hown hts hK hG hW hM hkb rfl (gt_of (i := 486) (by decide +kernel) (by decide +kernel)) (gt_of (i := 487) (by decide +kernel) (by decide +kernel)) (gt_of (i := 488) (by decide +kernel) (by decide +kernel)) (gt_of (i := 2) (by decide +kernel) (by decide +kernel)) (gt_of (i := 489) (by decide +kernel) (by decide +kernel)) (by decide +kernel) hR hf hn hsz hst hcat hdg kk
abbrev b_a_parse : ByteArray := prog_1_method_6_code
def y_a_parse : MethodName := ⟨"AlarmForge", "parse", "()I"⟩
def rm_a_parse : Room := { frames := 8, cells := 0, slots := 0, locals := 147 }
def rx_a_parse : Room := { frames := 8, cells := 1, slots := 6, locals := 147 }
theorem d_a_parse_0 : decode b_a_parse 0 = .ok (.aload_n 0, 1) := by decide +kernel
theorem d_a_parse_1 : decode b_a_parse 1 = .ok (.getfield 21, 3) := by decide +kernel
theorem d_a_parse_4 : decode b_a_parse 4 = .ok (.aload_n 0, 1) := by decide +kernel
theorem d_a_parse_5 : decode b_a_parse 5 = .ok (.getfield 37, 3) := by decide +kernel
theorem d_a_parse_8 : decode b_a_parse 8 = .ok (.invokevirtual 77, 3) := by decide +kernel
theorem d_a_parse_11 : decode b_a_parse 11 = .ok (.aload_n 0, 1) := by decide +kernel
theorem d_a_parse_12 : decode b_a_parse 12 = .ok (.getfield 33, 3) := by decide +kernel
theorem d_a_parse_15 : decode b_a_parse 15 = .ok (.astore_n 1, 1) := by decide +kernel
theorem d_a_parse_16 : decode b_a_parse 16 = .ok (.aload_n 0, 1) := by decide +kernel
theorem d_a_parse_17 : decode b_a_parse 17 = .ok (.aload_n 0, 1) := by decide +kernel
theorem d_a_parse_18 : decode b_a_parse 18 = .ok (.getfield 37, 3) := by decide +kernel
theorem d_a_parse_21 : decode b_a_parse 21 = .ok (.putfield 33, 3) := by decide +kernel
theorem d_a_parse_24 : decode b_a_parse 24 = .ok (.aload_n 0, 1) := by decide +kernel
theorem d_a_parse_25 : decode b_a_parse 25 = .ok (.aload_n 1, 1) := by decide +kernel
theorem d_a_parse_26 : decode b_a_parse 26 = .ok (.putfield 37, 3) := by decide +kernel
theorem d_a_parse_29 : decode b_a_parse 29 = .ok (.aload_n 0, 1) := by decide +kernel
theorem d_a_parse_30 : decode b_a_parse 30 = .ok (.iconst 1, 1) := by decide +kernel
theorem d_a_parse_31 : decode b_a_parse 31 = .ok (.putfield 81, 3) := by decide +kernel
theorem d_a_parse_34 : decode b_a_parse 34 = .ok (.aload_n 0, 1) := by decide +kernel
theorem d_a_parse_35 : decode b_a_parse 35 = .ok (.getfield 33, 3) := by decide +kernel
theorem d_a_parse_38 : decode b_a_parse 38 = .ok (.getfield 85, 3) := by decide +kernel
theorem d_a_parse_41 : decode b_a_parse 41 = .ok (.ireturn, 1) := by decide +kernel
def f_a_parse (a0 : Nat) (w : WW) : Option ((Int32 ⊕ String) × WW) :=
  if kb w a0 0 = true then
    (gN w a0 0 2).bind fun x1 =>
    (gN w a0 0 5).bind fun x2 =>
    bdx (f_pa_readProgram x1 x2 w) fun x4 w3 =>
    (gN w3 a0 0 4).bind fun x5 =>
    (gN w3 a0 0 5).bind fun x6 =>
    (pv w3 a0 0 4 (.ref x6)).bind fun w7 =>
    (pv w7 a0 0 5 (.ref x5)).bind fun w8 =>
    if (1 : Int32) = 0 ∨ (1 : Int32) = 1 then
      (pv w8 a0 0 6 (.int (1 : Int32))).bind fun w9 =>
      (gN w9 a0 0 4).bind fun x11 =>
      (gI w9 x11 3 1).bind fun x12 =>
      some (.inl x12, w9)
    else none
  else none
theorem kb_a_parse {a0 : Nat}  {w : WW} {r : ((Int32 ⊕ String) × WW)} (h : f_a_parse a0 w = some r) : kb w a0 0 = true := (its h).1
set_option maxHeartbeats 4000000 in
set_option maxRecDepth 100000 in
theorem c_a_parse (l : Launch) (D : va_G) (cA : Nat → ClassId) (base : Nat) {a0 : Nat} {w w' : WW} {r : Int32} (h : f_a_parse a0 w = some (.inl r, w')) : mt l D cls (wo_tys cA) cA base y_a_parse (Cond.code y_a_parse b_a_parse 2 (some .int) :: gt) rm_a_parse [.ref (base + a0)] w (some (.int r)) w' rm_a_parse.cells rm_a_parse.slots := by
  refine mt_start (by decide) (Nat.le_of_ble_eq_true rfl) ?_
  intro p e s m below meth c ls hx hb hr hml hown hts hlk hnm hK hG hW hl
  have C : cx b_a_parse (some .int) 2 y_a_parse.cls "parse" p s m [.ref (base + a0)].toArray meth c D cA base := ⟨hx, hb, hr, hml, hown, hts, hlk, hnm, hK, hG⟩
  have hl : lv_has ls 2 [(0, .ref (base + a0))] := hl
  unfold f_a_parse at h
  replace h := its h
  obtain ⟨-, h⟩ := h
  refine lv_aload_n hx hb d_a_parse_0 rfl (lv_at hl 0 rfl) ?_
  replace h := bs h
  obtain ⟨x1, hx1, h⟩ := h
  refine gf_a_21 hx hb hts hown hK hG hW (gN_s hx1) d_a_parse_1 ?_
  refine lv_aload_n hx hb d_a_parse_4 rfl (lv_at hl 0 rfl) ?_
  replace h := bs h
  obtain ⟨x2, hx2, h⟩ := h
  refine gf_a_37 hx hb hts hown hK hG hW (gN_s hx2) d_a_parse_5 ?_
  replace h := bsx h
  obtain ⟨x4, w3, hw3, h⟩ := h
  refine cv_a_77 (As := [.ref (base + x2)]) (rest := []) hx hb hml hown hts hK hG hW (c_pa_readProgram l D cA base hw3) (kb_pa_readProgram hw3) ⟨Nat.le_of_ble_eq_true rfl, Nat.le_of_ble_eq_true rfl⟩ ⟨Nat.le_of_ble_eq_true rfl, Nat.le_of_ble_eq_true rfl⟩ rfl hl.1 rfl (Nat.le_of_ble_eq_true rfl) d_a_parse_8 (fun H locs hW => ?_)
  refine lv_aload_n hx hb d_a_parse_11 rfl (lv_at hl 0 rfl) ?_
  replace h := bs h
  obtain ⟨x5, hx5, h⟩ := h
  refine gf_a_33 hx hb hts hown hK hG hW (gN_s hx5) d_a_parse_12 ?_
  refine lv_astore_n (lv' := [(1, .ref (base + x5)), (0, .ref (base + a0))]) hx hb d_a_parse_15 rfl hl (by decide) rfl (fun ls hl => ?_)
  refine lv_aload_n hx hb d_a_parse_16 rfl (lv_at hl 1 rfl) ?_
  refine lv_aload_n hx hb d_a_parse_17 rfl (lv_at hl 1 rfl) ?_
  replace h := bs h
  obtain ⟨x6, hx6, h⟩ := h
  refine gf_a_37 hx hb hts hown hK hG hW (gN_s hx6) d_a_parse_18 ?_
  replace h := bs h
  obtain ⟨w7, hw7, h⟩ := h
  refine pf_a_33 hx hb hts hown hK hG hW rfl rfl (pbi hw7 rfl) d_a_parse_21 (fun H locs hW => ?_)
  refine lv_aload_n hx hb d_a_parse_24 rfl (lv_at hl 1 rfl) ?_
  refine lv_aload_n hx hb d_a_parse_25 rfl (lv_at hl 0 rfl) ?_
  replace h := bs h
  obtain ⟨w8, hw8, h⟩ := h
  refine pf_a_37 hx hb hts hown hK hG hW rfl rfl (pbi hw8 rfl) d_a_parse_26 (fun H locs hW => ?_)
  refine lv_aload_n hx hb d_a_parse_29 rfl (lv_at hl 1 rfl) ?_
  refine lv_iconst (v := (1 : Int32)) hx hb d_a_parse_30 (by decide) ?_
  replace h := its h
  obtain ⟨c10, h⟩ := h
  replace h := bs h
  obtain ⟨w9, hw9, h⟩ := h
  refine pf_a_81 hx hb hts hown hK hG hW (z_n c10) (z_f c10) (pbi hw9 rfl) d_a_parse_31 (fun H locs hW => ?_)
  refine lv_aload_n hx hb d_a_parse_34 rfl (lv_at hl 1 rfl) ?_
  replace h := bs h
  obtain ⟨x11, hx11, h⟩ := h
  refine gf_a_33 hx hb hts hown hK hG hW (gN_s hx11) d_a_parse_35 ?_
  replace h := bs h
  obtain ⟨x12, hx12, h⟩ := h
  refine gf_a_85 hx hb hts hown hK hG hW (gI_s hx12) d_a_parse_38 ?_
  cases h
  exact wo_iret hx hb hr hlk hW d_a_parse_41
set_option maxHeartbeats 4000000 in
set_option maxRecDepth 100000 in
theorem x_a_parse (l : Launch) (hst : l.stackTraces = false) (D : va_G) (cA : Nat → ClassId) (base : Nat) {a0 : Nat} {w w' : WW} {E : String} (h : f_a_parse a0 w = some (.inr E, w')) : xt l D cls (wo_tys cA) cA base y_a_parse (Cond.code y_a_parse b_a_parse 2 (some .int) :: gt) rx_a_parse [.ref (base + a0)] w E w' rx_a_parse.cells rx_a_parse.slots := by
  refine xt_start (by decide) (Nat.le_of_ble_eq_true rfl) ?_
  intro p e s m below meth c ls hx hb hr hml hown hts hlk hnm hK hG hW hl hnt
  have C : cx b_a_parse (some .int) 2 y_a_parse.cls "parse" p s m [.ref (base + a0)].toArray meth c D cA base ∧ (∀ x ∈ c.exceptionTable.toList, ∀ k : Nat, covers x k = false) ∧ l.stackTraces = false := ⟨⟨hx, hb, hr, hml, hown, hts, hlk, hnm, hK, hG⟩, hnt, hst⟩
  have hl : lv_has ls 2 [(0, .ref (base + a0))] := hl
  unfold f_a_parse at h
  replace h := its h
  obtain ⟨-, h⟩ := h
  refine lv_aload_n hx hb d_a_parse_0 rfl (lv_at hl 0 rfl) ?_
  replace h := bs h
  obtain ⟨x1, hx1, h⟩ := h
  refine gf_a_21 hx hb hts hown hK hG hW (gN_s hx1) d_a_parse_1 ?_
  refine lv_aload_n hx hb d_a_parse_4 rfl (lv_at hl 0 rfl) ?_
  replace h := bs h
  obtain ⟨x2, hx2, h⟩ := h
  refine gf_a_37 hx hb hts hown hK hG hW (gN_s hx2) d_a_parse_5 ?_
  rcases bsy h with hw3 | ⟨x4, w3, hw3, hnw3⟩
  · exact xv_a_77 (As := [.ref (base + x2)]) (rest := []) hx hb hml hown hts hK hG hW (x_pa_readProgram l hst D cA base hw3) (kb_pa_readProgram hw3) ⟨Nat.le_of_ble_eq_true rfl, Nat.le_of_ble_eq_true rfl⟩ ⟨Nat.le_of_ble_eq_true rfl, Nat.le_of_ble_eq_true rfl⟩ rfl hl.1 rfl (Nat.le_of_ble_eq_true rfl) d_a_parse_8 (fun H locs q ce hW h1 h2 h3 => wo_xout hnt hlk hW h1 h2 h3 (Nat.le_of_ble_eq_true rfl) (Nat.le_of_ble_eq_true rfl))
  clear h
  have h := hnw3
  clear hnw3
  refine cv_a_77 (As := [.ref (base + x2)]) (rest := []) hx hb hml hown hts hK hG hW (c_pa_readProgram l D cA base hw3) (kb_pa_readProgram hw3) ⟨Nat.le_of_ble_eq_true rfl, Nat.le_of_ble_eq_true rfl⟩ ⟨Nat.le_of_ble_eq_true rfl, Nat.le_of_ble_eq_true rfl⟩ rfl hl.1 rfl (Nat.le_of_ble_eq_true rfl) d_a_parse_8 (fun H locs hW => ?_)
  refine lv_aload_n hx hb d_a_parse_11 rfl (lv_at hl 0 rfl) ?_
  replace h := bs h
  obtain ⟨x5, hx5, h⟩ := h
  refine gf_a_33 hx hb hts hown hK hG hW (gN_s hx5) d_a_parse_12 ?_
  refine lv_astore_n (lv' := [(1, .ref (base + x5)), (0, .ref (base + a0))]) hx hb d_a_parse_15 rfl hl (by decide) rfl (fun ls hl => ?_)
  refine lv_aload_n hx hb d_a_parse_16 rfl (lv_at hl 1 rfl) ?_
  refine lv_aload_n hx hb d_a_parse_17 rfl (lv_at hl 1 rfl) ?_
  replace h := bs h
  obtain ⟨x6, hx6, h⟩ := h
  refine gf_a_37 hx hb hts hown hK hG hW (gN_s hx6) d_a_parse_18 ?_
  replace h := bs h
  obtain ⟨w7, hw7, h⟩ := h
  refine pf_a_33 hx hb hts hown hK hG hW rfl rfl (pbi hw7 rfl) d_a_parse_21 (fun H locs hW => ?_)
  refine lv_aload_n hx hb d_a_parse_24 rfl (lv_at hl 1 rfl) ?_
  refine lv_aload_n hx hb d_a_parse_25 rfl (lv_at hl 0 rfl) ?_
  replace h := bs h
  obtain ⟨w8, hw8, h⟩ := h
  refine pf_a_37 hx hb hts hown hK hG hW rfl rfl (pbi hw8 rfl) d_a_parse_26 (fun H locs hW => ?_)
  refine lv_aload_n hx hb d_a_parse_29 rfl (lv_at hl 1 rfl) ?_
  refine lv_iconst (v := (1 : Int32)) hx hb d_a_parse_30 (by decide) ?_
  replace h := its h
  obtain ⟨c10, h⟩ := h
  replace h := bs h
  obtain ⟨w9, hw9, h⟩ := h
  refine pf_a_81 hx hb hts hown hK hG hW (z_n c10) (z_f c10) (pbi hw9 rfl) d_a_parse_31 (fun H locs hW => ?_)
  refine lv_aload_n hx hb d_a_parse_34 rfl (lv_at hl 1 rfl) ?_
  replace h := bs h
  obtain ⟨x11, hx11, h⟩ := h
  refine gf_a_33 hx hb hts hown hK hG hW (gN_s hx11) d_a_parse_35 ?_
  replace h := bs h
  obtain ⟨x12, hx12, h⟩ := h
  refine gf_a_85 hx hb hts hown hK hG hW (gI_s hx12) d_a_parse_38 ?_
  cases h
abbrev b_a_choose : ByteArray := prog_1_method_8_code
def y_a_choose : MethodName := ⟨"AlarmForge", "choose", "(II)I"⟩
def rm_a_choose : Room := { frames := 6, cells := 0, slots := 0, locals := 100 }
def rx_a_choose : Room := { frames := 6, cells := 1, slots := 6, locals := 100 }
theorem d_a_choose_0 : decode b_a_choose 0 = .ok (.iload_n 1, 1) := by decide +kernel
theorem d_a_choose_1 : decode b_a_choose 1 = .ok (.ifCond .lt (17), 3) := by decide +kernel
theorem d_a_choose_4 : decode b_a_choose 4 = .ok (.iload_n 1, 1) := by decide +kernel
theorem d_a_choose_5 : decode b_a_choose 5 = .ok (.iconst 1, 1) := by decide +kernel
theorem d_a_choose_6 : decode b_a_choose 6 = .ok (.if_icmp .gt (12), 3) := by decide +kernel
theorem d_a_choose_9 : decode b_a_choose 9 = .ok (.iload_n 2, 1) := by decide +kernel
theorem d_a_choose_10 : decode b_a_choose 10 = .ok (.ifCond .lt (8), 3) := by decide +kernel
theorem d_a_choose_13 : decode b_a_choose 13 = .ok (.iload_n 2, 1) := by decide +kernel
theorem d_a_choose_14 : decode b_a_choose 14 = .ok (.iconst 5, 1) := by decide +kernel
theorem d_a_choose_15 : decode b_a_choose 15 = .ok (.if_icmp .le (11), 3) := by decide +kernel
theorem d_a_choose_18 : decode b_a_choose 18 = .ok (.new 62, 3) := by decide +kernel
theorem d_a_choose_21 : decode b_a_choose 21 = .ok (.dup, 1) := by decide +kernel
theorem d_a_choose_22 : decode b_a_choose 22 = .ok (.invokespecial 64, 3) := by decide +kernel
theorem d_a_choose_25 : decode b_a_choose 25 = .ok (.athrow, 1) := by decide +kernel
theorem d_a_choose_26 : decode b_a_choose 26 = .ok (.iload_n 1, 1) := by decide +kernel
theorem d_a_choose_27 : decode b_a_choose 27 = .ok (.ifCond .ne (16), 3) := by decide +kernel
theorem d_a_choose_30 : decode b_a_choose 30 = .ok (.aload_n 0, 1) := by decide +kernel
theorem d_a_choose_31 : decode b_a_choose 31 = .ok (.getfield 11, 3) := by decide +kernel
theorem d_a_choose_34 : decode b_a_choose 34 = .ok (.istore_n 3, 1) := by decide +kernel
theorem d_a_choose_35 : decode b_a_choose 35 = .ok (.aload_n 0, 1) := by decide +kernel
theorem d_a_choose_36 : decode b_a_choose 36 = .ok (.iload_n 2, 1) := by decide +kernel
theorem d_a_choose_37 : decode b_a_choose 37 = .ok (.putfield 11, 3) := by decide +kernel
theorem d_a_choose_40 : decode b_a_choose 40 = .ok (.goto (13), 3) := by decide +kernel
theorem d_a_choose_43 : decode b_a_choose 43 = .ok (.aload_n 0, 1) := by decide +kernel
theorem d_a_choose_44 : decode b_a_choose 44 = .ok (.getfield 15, 3) := by decide +kernel
theorem d_a_choose_47 : decode b_a_choose 47 = .ok (.istore_n 3, 1) := by decide +kernel
theorem d_a_choose_48 : decode b_a_choose 48 = .ok (.aload_n 0, 1) := by decide +kernel
theorem d_a_choose_49 : decode b_a_choose 49 = .ok (.iload_n 2, 1) := by decide +kernel
theorem d_a_choose_50 : decode b_a_choose 50 = .ok (.putfield 15, 3) := by decide +kernel
theorem d_a_choose_53 : decode b_a_choose 53 = .ok (.iload_n 3, 1) := by decide +kernel
theorem d_a_choose_54 : decode b_a_choose 54 = .ok (.ireturn, 1) := by decide +kernel
def f_a_choose_18   (w : WW) : Option ((Int32 ⊕ String) × WW) :=
  some (.inr "java/lang/IllegalArgumentException", w)
def f_a_choose_53  (y3 : Int32) (w : WW) : Option ((Int32 ⊕ String) × WW) :=
  some (.inl y3, w)
def f_a_choose (a0 : Nat) (a1 : Int32) (a2 : Int32) (w : WW) : Option ((Int32 ⊕ String) × WW) :=
  if kb w a0 0 = true then
    if a1 < 0 then
      f_a_choose_18 w
    else
      if (1 : Int32) < a1 then
        f_a_choose_18 w
      else
        if a2 < 0 then
          f_a_choose_18 w
        else
          if a2 ≤ (5 : Int32) then
            if a1 = 0 then
              (gI w a0 0 0).bind fun x8 =>
              (pv w a0 0 0 (.int a2)).bind fun w9 =>
              f_a_choose_53 x8 w9
            else
              (gI w a0 0 1).bind fun x6 =>
              (pv w a0 0 1 (.int a2)).bind fun w7 =>
              f_a_choose_53 x6 w7
          else
            f_a_choose_18 w
  else none
theorem kb_a_choose {a0 : Nat} {a1 : Int32} {a2 : Int32} {w : WW} {r : ((Int32 ⊕ String) × WW)} (h : f_a_choose a0 a1 a2 w = some r) : kb w a0 0 = true := (its h).1
set_option maxHeartbeats 4000000 in
set_option maxRecDepth 100000 in
theorem j_a_choose_18 {p : Program} {l : Launch} {e : Env} {s : State} {m : MethodId} {args : Array Value} {below : List Frame} {meth : Method} {c : Code} {D : va_G} {cA : Nat → ClassId} {base : Nat} {r : Int32} {w' : WW} (C : cx b_a_choose (some .int) 4 y_a_choose.cls "choose" p s m args meth c D cA base)   : ∀  (w : WW), f_a_choose_18  w = some (.inl r, w') → ∀ (H : Heap) (locs : List Loc) (ls : Array Slot), wo_S D cls cA base s w H locs → lv_has ls 4 [] → W p l e rm_a_choose s m args below meth c H locs 0 0 (MQ below (wo_Q D cls cA base (some (.int r)) w') args s rm_a_choose.cells rm_a_choose.slots (wo_B base)) (F0 m 18 ls []) := by
  obtain ⟨hx, hb, hr, hml, hown, hts, hlk, hnm, hK, hG⟩ := id C
  intro  w h H locs ls hW hl
  unfold f_a_choose_18 at h
  cases h
set_option maxHeartbeats 4000000 in
set_option maxRecDepth 100000 in
theorem j_a_choose_53 {p : Program} {l : Launch} {e : Env} {s : State} {m : MethodId} {args : Array Value} {below : List Frame} {meth : Method} {c : Code} {D : va_G} {cA : Nat → ClassId} {base : Nat} {r : Int32} {w' : WW} (C : cx b_a_choose (some .int) 4 y_a_choose.cls "choose" p s m args meth c D cA base)   : ∀ (y3 : Int32) (w : WW), f_a_choose_53 y3 w = some (.inl r, w') → ∀ (H : Heap) (locs : List Loc) (ls : Array Slot), wo_S D cls cA base s w H locs → lv_has ls 4 [(3, .int y3)] → W p l e rm_a_choose s m args below meth c H locs 0 0 (MQ below (wo_Q D cls cA base (some (.int r)) w') args s rm_a_choose.cells rm_a_choose.slots (wo_B base)) (F0 m 53 ls []) := by
  obtain ⟨hx, hb, hr, hml, hown, hts, hlk, hnm, hK, hG⟩ := id C
  intro y3 w h H locs ls hW hl
  unfold f_a_choose_53 at h
  refine lv_iload_n hx hb d_a_choose_53 rfl (lv_at hl 0 rfl) ?_
  cases h
  exact wo_iret hx hb hr hlk hW d_a_choose_54
set_option maxHeartbeats 4000000 in
set_option maxRecDepth 100000 in
theorem c_a_choose (l : Launch) (D : va_G) (cA : Nat → ClassId) (base : Nat) {a0 : Nat} {a1 : Int32} {a2 : Int32} {w w' : WW} {r : Int32} (h : f_a_choose a0 a1 a2 w = some (.inl r, w')) : mt l D cls (wo_tys cA) cA base y_a_choose (Cond.code y_a_choose b_a_choose 4 (some .int) :: gt) rm_a_choose [.ref (base + a0), .int a1, .int a2] w (some (.int r)) w' rm_a_choose.cells rm_a_choose.slots := by
  refine mt_start (by decide) (Nat.le_of_ble_eq_true rfl) ?_
  intro p e s m below meth c ls hx hb hr hml hown hts hlk hnm hK hG hW hl
  have C : cx b_a_choose (some .int) 4 y_a_choose.cls "choose" p s m [.ref (base + a0), .int a1, .int a2].toArray meth c D cA base := ⟨hx, hb, hr, hml, hown, hts, hlk, hnm, hK, hG⟩
  have hl : lv_has ls 4 [(0, .ref (base + a0)), (1, .int a1), (2, .int a2)] := hl
  unfold f_a_choose at h
  replace h := its h
  obtain ⟨-, h⟩ := h
  refine lv_iload_n hx hb d_a_choose_0 rfl (lv_at hl 1 rfl) ?_
  refine lv_if_lt (tgt := 18) hx hb d_a_choose_1 (by decide) (fun c1 => ?_) (fun c1 => ?_)
  · rw [if_pos c1] at h
    exact j_a_choose_18 C w h _ _ _ hW (lv_sub hl [] rfl)
  · rw [if_neg c1] at h
    refine lv_iload_n hx hb d_a_choose_4 rfl (lv_at hl 1 rfl) ?_
    refine lv_iconst (v := (1 : Int32)) hx hb d_a_choose_5 (by decide) ?_
    refine lv_icmp_gt (tgt := 18) hx hb d_a_choose_6 (by decide) (fun c2 => ?_) (fun c2 => ?_)
    · rw [if_pos c2] at h
      exact j_a_choose_18 C w h _ _ _ hW (lv_sub hl [] rfl)
    · rw [if_neg c2] at h
      refine lv_iload_n hx hb d_a_choose_9 rfl (lv_at hl 2 rfl) ?_
      refine lv_if_lt (tgt := 18) hx hb d_a_choose_10 (by decide) (fun c3 => ?_) (fun c3 => ?_)
      · rw [if_pos c3] at h
        exact j_a_choose_18 C w h _ _ _ hW (lv_sub hl [] rfl)
      · rw [if_neg c3] at h
        refine lv_iload_n hx hb d_a_choose_13 rfl (lv_at hl 2 rfl) ?_
        refine lv_iconst (v := (5 : Int32)) hx hb d_a_choose_14 (by decide) ?_
        refine lv_icmp_le (tgt := 26) hx hb d_a_choose_15 (by decide) (fun c4 => ?_) (fun c4 => ?_)
        · rw [if_pos c4] at h
          refine lv_iload_n hx hb d_a_choose_26 rfl (lv_at hl 1 rfl) ?_
          refine lv_if_ne (tgt := 43) hx hb d_a_choose_27 (by decide) (fun c5 => ?_) (fun c5 => ?_)
          · rw [if_neg c5] at h
            refine lv_aload_n hx hb d_a_choose_43 rfl (lv_at hl 0 rfl) ?_
            replace h := bs h
            obtain ⟨x6, hx6, h⟩ := h
            refine gf_a_15 hx hb hts hown hK hG hW (gI_s hx6) d_a_choose_44 ?_
            refine lv_istore_n (lv' := [(3, .int x6), (0, .ref (base + a0)), (1, .int a1), (2, .int a2)]) hx hb d_a_choose_47 rfl hl (by decide) rfl (fun ls hl => ?_)
            refine lv_aload_n hx hb d_a_choose_48 rfl (lv_at hl 1 rfl) ?_
            refine lv_iload_n hx hb d_a_choose_49 rfl (lv_at hl 3 rfl) ?_
            replace h := bs h
            obtain ⟨w7, hw7, h⟩ := h
            refine pf_a_15 hx hb hts hown hK hG hW rfl rfl (pbi hw7 rfl) d_a_choose_50 (fun H locs hW => ?_)
            exact j_a_choose_53 C x6 w7 h _ _ _ hW (lv_sub hl [0] rfl)
          · rw [if_pos c5] at h
            refine lv_aload_n hx hb d_a_choose_30 rfl (lv_at hl 0 rfl) ?_
            replace h := bs h
            obtain ⟨x8, hx8, h⟩ := h
            refine gf_a_11 hx hb hts hown hK hG hW (gI_s hx8) d_a_choose_31 ?_
            refine lv_istore_n (lv' := [(3, .int x8), (0, .ref (base + a0)), (1, .int a1), (2, .int a2)]) hx hb d_a_choose_34 rfl hl (by decide) rfl (fun ls hl => ?_)
            refine lv_aload_n hx hb d_a_choose_35 rfl (lv_at hl 1 rfl) ?_
            refine lv_iload_n hx hb d_a_choose_36 rfl (lv_at hl 3 rfl) ?_
            replace h := bs h
            obtain ⟨w9, hw9, h⟩ := h
            refine pf_a_11 hx hb hts hown hK hG hW rfl rfl (pbi hw9 rfl) d_a_choose_37 (fun H locs hW => ?_)
            refine lv_goto (tgt := 53) hx hb d_a_choose_40 (by decide) ?_
            exact j_a_choose_53 C x8 w9 h _ _ _ hW (lv_sub hl [0] rfl)
        · rw [if_neg c4] at h
          exact j_a_choose_18 C w h _ _ _ hW (lv_sub hl [] rfl)
set_option maxHeartbeats 4000000 in
set_option maxRecDepth 100000 in
theorem jx_a_choose_18 {p : Program} {l : Launch} {e : Env} {s : State} {m : MethodId} {args : Array Value} {below : List Frame} {meth : Method} {c : Code} {D : va_G} {cA : Nat → ClassId} {base : Nat} {E : String} {w' : WW} (C : cx b_a_choose (some .int) 4 y_a_choose.cls "choose" p s m args meth c D cA base ∧ (∀ x ∈ c.exceptionTable.toList, ∀ k : Nat, covers x k = false) ∧ l.stackTraces = false)   : ∀  (w : WW), f_a_choose_18  w = some (.inr E, w') → ∀ (H : Heap) (locs : List Loc) (ls : Array Slot), wo_S D cls cA base s w H locs → lv_has ls 4 [] → W p l e rx_a_choose s m args below meth c H locs 0 0 (XQ below (wo_X D cls cA base E w' rx_a_choose.cells rx_a_choose.slots) args s) (F0 m 18 ls []) := by
  obtain ⟨hx, hb, hr, hml, hown, hts, hlk, hnm, hK, hG⟩ := id C.1
  have hnt := C.2.1
  have hst := C.2.2
  intro  w h H locs ls hW hl
  unfold f_a_choose_18 at h
  cases h
  exact wo_throw (names := ["java/lang/RuntimeException", "java/lang/Exception"]) hx hb hst hown hts hG hW hnt hlk (by decide) (by decide) (gt_of (i := 395) (by decide +kernel) (by decide +kernel)) (gt_of (i := 14) (by decide +kernel) (by decide +kernel)) ow_a_64 (hl.1.trans hml.symm) d_a_choose_18 d_a_choose_21 d_a_choose_22 d_a_choose_25 (Nat.le_of_ble_eq_true rfl) (Nat.le_of_ble_eq_true rfl) (Nat.le_of_ble_eq_true rfl) (Nat.le_of_ble_eq_true rfl) (Nat.le_of_ble_eq_true rfl) (Nat.le_of_ble_eq_true rfl)
set_option maxHeartbeats 4000000 in
set_option maxRecDepth 100000 in
theorem jx_a_choose_53 {p : Program} {l : Launch} {e : Env} {s : State} {m : MethodId} {args : Array Value} {below : List Frame} {meth : Method} {c : Code} {D : va_G} {cA : Nat → ClassId} {base : Nat} {E : String} {w' : WW} (C : cx b_a_choose (some .int) 4 y_a_choose.cls "choose" p s m args meth c D cA base ∧ (∀ x ∈ c.exceptionTable.toList, ∀ k : Nat, covers x k = false) ∧ l.stackTraces = false)   : ∀ (y3 : Int32) (w : WW), f_a_choose_53 y3 w = some (.inr E, w') → ∀ (H : Heap) (locs : List Loc) (ls : Array Slot), wo_S D cls cA base s w H locs → lv_has ls 4 [(3, .int y3)] → W p l e rx_a_choose s m args below meth c H locs 0 0 (XQ below (wo_X D cls cA base E w' rx_a_choose.cells rx_a_choose.slots) args s) (F0 m 53 ls []) := by
  obtain ⟨hx, hb, hr, hml, hown, hts, hlk, hnm, hK, hG⟩ := id C.1
  have hnt := C.2.1
  have hst := C.2.2
  intro y3 w h H locs ls hW hl
  unfold f_a_choose_53 at h
  refine lv_iload_n hx hb d_a_choose_53 rfl (lv_at hl 0 rfl) ?_
  cases h
set_option maxHeartbeats 4000000 in
set_option maxRecDepth 100000 in
theorem x_a_choose (l : Launch) (hst : l.stackTraces = false) (D : va_G) (cA : Nat → ClassId) (base : Nat) {a0 : Nat} {a1 : Int32} {a2 : Int32} {w w' : WW} {E : String} (h : f_a_choose a0 a1 a2 w = some (.inr E, w')) : xt l D cls (wo_tys cA) cA base y_a_choose (Cond.code y_a_choose b_a_choose 4 (some .int) :: gt) rx_a_choose [.ref (base + a0), .int a1, .int a2] w E w' rx_a_choose.cells rx_a_choose.slots := by
  refine xt_start (by decide) (Nat.le_of_ble_eq_true rfl) ?_
  intro p e s m below meth c ls hx hb hr hml hown hts hlk hnm hK hG hW hl hnt
  have C : cx b_a_choose (some .int) 4 y_a_choose.cls "choose" p s m [.ref (base + a0), .int a1, .int a2].toArray meth c D cA base ∧ (∀ x ∈ c.exceptionTable.toList, ∀ k : Nat, covers x k = false) ∧ l.stackTraces = false := ⟨⟨hx, hb, hr, hml, hown, hts, hlk, hnm, hK, hG⟩, hnt, hst⟩
  have hl : lv_has ls 4 [(0, .ref (base + a0)), (1, .int a1), (2, .int a2)] := hl
  unfold f_a_choose at h
  replace h := its h
  obtain ⟨-, h⟩ := h
  refine lv_iload_n hx hb d_a_choose_0 rfl (lv_at hl 1 rfl) ?_
  refine lv_if_lt (tgt := 18) hx hb d_a_choose_1 (by decide) (fun c1 => ?_) (fun c1 => ?_)
  · rw [if_pos c1] at h
    exact jx_a_choose_18 C w h _ _ _ hW (lv_sub hl [] rfl)
  · rw [if_neg c1] at h
    refine lv_iload_n hx hb d_a_choose_4 rfl (lv_at hl 1 rfl) ?_
    refine lv_iconst (v := (1 : Int32)) hx hb d_a_choose_5 (by decide) ?_
    refine lv_icmp_gt (tgt := 18) hx hb d_a_choose_6 (by decide) (fun c2 => ?_) (fun c2 => ?_)
    · rw [if_pos c2] at h
      exact jx_a_choose_18 C w h _ _ _ hW (lv_sub hl [] rfl)
    · rw [if_neg c2] at h
      refine lv_iload_n hx hb d_a_choose_9 rfl (lv_at hl 2 rfl) ?_
      refine lv_if_lt (tgt := 18) hx hb d_a_choose_10 (by decide) (fun c3 => ?_) (fun c3 => ?_)
      · rw [if_pos c3] at h
        exact jx_a_choose_18 C w h _ _ _ hW (lv_sub hl [] rfl)
      · rw [if_neg c3] at h
        refine lv_iload_n hx hb d_a_choose_13 rfl (lv_at hl 2 rfl) ?_
        refine lv_iconst (v := (5 : Int32)) hx hb d_a_choose_14 (by decide) ?_
        refine lv_icmp_le (tgt := 26) hx hb d_a_choose_15 (by decide) (fun c4 => ?_) (fun c4 => ?_)
        · rw [if_pos c4] at h
          refine lv_iload_n hx hb d_a_choose_26 rfl (lv_at hl 1 rfl) ?_
          refine lv_if_ne (tgt := 43) hx hb d_a_choose_27 (by decide) (fun c5 => ?_) (fun c5 => ?_)
          · rw [if_neg c5] at h
            refine lv_aload_n hx hb d_a_choose_43 rfl (lv_at hl 0 rfl) ?_
            replace h := bs h
            obtain ⟨x6, hx6, h⟩ := h
            refine gf_a_15 hx hb hts hown hK hG hW (gI_s hx6) d_a_choose_44 ?_
            refine lv_istore_n (lv' := [(3, .int x6), (0, .ref (base + a0)), (1, .int a1), (2, .int a2)]) hx hb d_a_choose_47 rfl hl (by decide) rfl (fun ls hl => ?_)
            refine lv_aload_n hx hb d_a_choose_48 rfl (lv_at hl 1 rfl) ?_
            refine lv_iload_n hx hb d_a_choose_49 rfl (lv_at hl 3 rfl) ?_
            replace h := bs h
            obtain ⟨w7, hw7, h⟩ := h
            refine pf_a_15 hx hb hts hown hK hG hW rfl rfl (pbi hw7 rfl) d_a_choose_50 (fun H locs hW => ?_)
            exact jx_a_choose_53 C x6 w7 h _ _ _ hW (lv_sub hl [0] rfl)
          · rw [if_pos c5] at h
            refine lv_aload_n hx hb d_a_choose_30 rfl (lv_at hl 0 rfl) ?_
            replace h := bs h
            obtain ⟨x8, hx8, h⟩ := h
            refine gf_a_11 hx hb hts hown hK hG hW (gI_s hx8) d_a_choose_31 ?_
            refine lv_istore_n (lv' := [(3, .int x8), (0, .ref (base + a0)), (1, .int a1), (2, .int a2)]) hx hb d_a_choose_34 rfl hl (by decide) rfl (fun ls hl => ?_)
            refine lv_aload_n hx hb d_a_choose_35 rfl (lv_at hl 1 rfl) ?_
            refine lv_iload_n hx hb d_a_choose_36 rfl (lv_at hl 3 rfl) ?_
            replace h := bs h
            obtain ⟨w9, hw9, h⟩ := h
            refine pf_a_11 hx hb hts hown hK hG hW rfl rfl (pbi hw9 rfl) d_a_choose_37 (fun H locs hW => ?_)
            refine lv_goto (tgt := 53) hx hb d_a_choose_40 (by decide) ?_
            exact jx_a_choose_53 C x8 w9 h _ _ _ hW (lv_sub hl [0] rfl)
        · rw [if_neg c4] at h
          exact jx_a_choose_18 C w h _ _ _ hW (lv_sub hl [] rfl)
abbrev b_ru_addInput : ByteArray := prog_6_method_2_code
def y_ru_addInput : MethodName := ⟨"AlarmForge$Runner", "addInput", "(I)V"⟩
def rm_ru_addInput : Room := { frames := 0, cells := 0, slots := 0, locals := 0 }
theorem d_ru_addInput_0 : decode b_ru_addInput 0 = .ok (.aload_n 0, 1) := by decide +kernel
theorem d_ru_addInput_1 : decode b_ru_addInput 1 = .ok (.getfield 28, 3) := by decide +kernel
theorem d_ru_addInput_4 : decode b_ru_addInput 4 = .ok (.bipush (8), 2) := by decide +kernel
theorem d_ru_addInput_6 : decode b_ru_addInput 6 = .ok (.if_icmp .ge (23), 3) := by decide +kernel
theorem d_ru_addInput_9 : decode b_ru_addInput 9 = .ok (.aload_n 0, 1) := by decide +kernel
theorem d_ru_addInput_10 : decode b_ru_addInput 10 = .ok (.getfield 25, 3) := by decide +kernel
theorem d_ru_addInput_13 : decode b_ru_addInput 13 = .ok (.aload_n 0, 1) := by decide +kernel
theorem d_ru_addInput_14 : decode b_ru_addInput 14 = .ok (.getfield 28, 3) := by decide +kernel
theorem d_ru_addInput_17 : decode b_ru_addInput 17 = .ok (.iload_n 1, 1) := by decide +kernel
theorem d_ru_addInput_18 : decode b_ru_addInput 18 = .ok (.iastore, 1) := by decide +kernel
theorem d_ru_addInput_19 : decode b_ru_addInput 19 = .ok (.aload_n 0, 1) := by decide +kernel
theorem d_ru_addInput_20 : decode b_ru_addInput 20 = .ok (.dup, 1) := by decide +kernel
theorem d_ru_addInput_21 : decode b_ru_addInput 21 = .ok (.getfield 28, 3) := by decide +kernel
theorem d_ru_addInput_24 : decode b_ru_addInput 24 = .ok (.iconst 1, 1) := by decide +kernel
theorem d_ru_addInput_25 : decode b_ru_addInput 25 = .ok (.iadd, 1) := by decide +kernel
theorem d_ru_addInput_26 : decode b_ru_addInput 26 = .ok (.putfield 28, 3) := by decide +kernel
theorem d_ru_addInput_29 : decode b_ru_addInput 29 = .ok (.return_, 1) := by decide +kernel
def f_ru_addInput_29   (w : WW) : Option WW :=
  some w
def f_ru_addInput (a0 : Nat) (a1 : Int32) (w : WW) : Option WW :=
  if kb w a0 5 = true then
    (gI w a0 5 5).bind fun x1 =>
    if (8 : Int32) ≤ x1 then
      f_ru_addInput_29 w
    else
      (gN w a0 5 4).bind fun x3 =>
      (gI w a0 5 5).bind fun x4 =>
      (sI w x3 0 x4 a1).bind fun w5 =>
      (gI w5 a0 5 5).bind fun x6 =>
      (pv w5 a0 5 5 (.int (x6 + (1 : Int32)))).bind fun w7 =>
      f_ru_addInput_29 w7
  else none
theorem kb_ru_addInput {a0 : Nat} {a1 : Int32} {w : WW} {r : WW} (h : f_ru_addInput a0 a1 w = some r) : kb w a0 5 = true := (its h).1
set_option maxHeartbeats 4000000 in
set_option maxRecDepth 100000 in
theorem j_ru_addInput_29 {p : Program} {l : Launch} {e : Env} {s : State} {m : MethodId} {args : Array Value} {below : List Frame} {meth : Method} {c : Code} {D : va_G} {cA : Nat → ClassId} {base : Nat} {w' : WW} (C : cx b_ru_addInput (none) 2 y_ru_addInput.cls "addInput" p s m args meth c D cA base)   : ∀  (w : WW), f_ru_addInput_29  w = some w' → ∀ (H : Heap) (locs : List Loc) (ls : Array Slot), wo_S D cls cA base s w H locs → lv_has ls 2 [] → W p l e rm_ru_addInput s m args below meth c H locs 0 0 (MQ below (wo_Q D cls cA base none w') args s rm_ru_addInput.cells rm_ru_addInput.slots (wo_B base)) (F0 m 29 ls []) := by
  obtain ⟨hx, hb, hr, hml, hown, hts, hlk, hnm, hK, hG⟩ := id C
  intro  w h H locs ls hW hl
  unfold f_ru_addInput_29 at h
  cases h
  exact wo_vret hx hb hr hlk hW d_ru_addInput_29
set_option maxHeartbeats 4000000 in
set_option maxRecDepth 100000 in
theorem c_ru_addInput (l : Launch) (D : va_G) (cA : Nat → ClassId) (base : Nat) {a0 : Nat} {a1 : Int32} {w w' : WW} (h : f_ru_addInput a0 a1 w = some w') : mt l D cls (wo_tys cA) cA base y_ru_addInput (Cond.code y_ru_addInput b_ru_addInput 2 (none) :: gt) rm_ru_addInput [.ref (base + a0), .int a1] w none w' rm_ru_addInput.cells rm_ru_addInput.slots := by
  refine mt_start (by decide) (Nat.le_of_ble_eq_true rfl) ?_
  intro p e s m below meth c ls hx hb hr hml hown hts hlk hnm hK hG hW hl
  have C : cx b_ru_addInput (none) 2 y_ru_addInput.cls "addInput" p s m [.ref (base + a0), .int a1].toArray meth c D cA base := ⟨hx, hb, hr, hml, hown, hts, hlk, hnm, hK, hG⟩
  have hl : lv_has ls 2 [(0, .ref (base + a0)), (1, .int a1)] := hl
  unfold f_ru_addInput at h
  replace h := its h
  obtain ⟨-, h⟩ := h
  refine lv_aload_n hx hb d_ru_addInput_0 rfl (lv_at hl 0 rfl) ?_
  replace h := bs h
  obtain ⟨x1, hx1, h⟩ := h
  refine gf_ru_28 hx hb hts hown hK hG hW (gI_s hx1) d_ru_addInput_1 ?_
  refine lv_bipush (v := (8 : Int32)) hx hb d_ru_addInput_4 (by decide) ?_
  refine lv_icmp_ge (tgt := 29) hx hb d_ru_addInput_6 (by decide) (fun c2 => ?_) (fun c2 => ?_)
  · rw [if_pos c2] at h
    exact j_ru_addInput_29 C w h _ _ _ hW (lv_sub hl [] rfl)
  · rw [if_neg c2] at h
    refine lv_aload_n hx hb d_ru_addInput_9 rfl (lv_at hl 0 rfl) ?_
    replace h := bs h
    obtain ⟨x3, hx3, h⟩ := h
    refine gf_ru_25 hx hb hts hown hK hG hW (gN_s hx3) d_ru_addInput_10 ?_
    refine lv_aload_n hx hb d_ru_addInput_13 rfl (lv_at hl 0 rfl) ?_
    replace h := bs h
    obtain ⟨x4, hx4, h⟩ := h
    refine gf_ru_28 hx hb hts hown hK hG hW (gI_s hx4) d_ru_addInput_14 ?_
    refine lv_iload_n hx hb d_ru_addInput_17 rfl (lv_at hl 1 rfl) ?_
    replace h := bs h
    obtain ⟨w5, hw5, h⟩ := h
    refine wo_iast hx hb hK hW (t := 0) rfl hw5 d_ru_addInput_18 (fun H locs hW => ?_)
    refine lv_aload_n hx hb d_ru_addInput_19 rfl (lv_at hl 0 rfl) ?_
    refine lv_dup hx hb d_ru_addInput_20 rfl ?_
    replace h := bs h
    obtain ⟨x6, hx6, h⟩ := h
    refine gf_ru_28 hx hb hts hown hK hG hW (gI_s hx6) d_ru_addInput_21 ?_
    refine lv_iconst (v := (1 : Int32)) hx hb d_ru_addInput_24 (by decide) ?_
    refine lv_iadd hx hb d_ru_addInput_25 ?_
    replace h := bs h
    obtain ⟨w7, hw7, h⟩ := h
    refine pf_ru_28 hx hb hts hown hK hG hW rfl rfl (pbi hw7 rfl) d_ru_addInput_26 (fun H locs hW => ?_)
    exact j_ru_addInput_29 C w7 h _ _ _ hW (lv_sub hl [] rfl)
theorem cv_a_94 {p : Program} {l : Launch} {e : Env} {R : Room} {s : State} {m : MethodId} {args : Array Value} {below : List Frame} {meth : Method} {c : Code} {H : Heap} {locs : List Loc} {cells slots : Nat} {Q : State → Prop} {D : va_G} {cA : Nat → ClassId} {base : Nat} {w w' : WW} {cc : ByteArray} {pc nL : Nat} {ls : Array Slot} {rest st0 As : List Value} {ov : Option Value} {b : Nat} (hx : p.tables.exec = Jvm.exec) (hb : c.code = cc) (hml : c.maxLocals = nL) (hown : s.vm.findClass Rc_a = some m.cls) (hts : ∀ w ∈ gt, w.before args s = true) (hK : va_K D cls (wo_tys cA) s) (hG : wo_G base s) (hW : wo_S D cls cA base s w H locs) (hM : mt l D cls (wo_tys cA) cA base y_ru_addInput (Cond.code y_ru_addInput b_ru_addInput 2 (none) :: gt) rm_ru_addInput (.ref (base + b) :: As) w ov w' rm_ru_addInput.cells rm_ru_addInput.slots) (hkb : kb w b 5 = true) (hR : rm_ru_addInput.frames + 1 ≤ R.frames ∧ 8 + (2 + 11) + rm_ru_addInput.locals ≤ R.locals) (hf : cells + rm_ru_addInput.cells ≤ R.cells ∧ slots + rm_ru_addInput.slots ≤ R.slots) (hn : As.length = 1) (hsz : ls.size = nL) (hst : st0 = As.reverse ++ .ref (base + b) :: rest) (hcat : (rest.map fun v => v.category).sum ≤ 8) (hdg : decode cc pc = .ok (.invokevirtual 94, 3)) (kk : ∀ (H1 : Heap) (locs1 : List Loc), wo_S D cls cA base s w' H1 locs1 → W p l e R s m args below meth c H1 locs1 (cells + rm_ru_addInput.cells) (slots + rm_ru_addInput.slots) Q (F0 m (pc + 3) ls (ov.toList ++ rest))) : W p l e R s m args below meth c H locs cells slots Q (F0 m pc ls st0) :=
  wo_callV (C := Rc_ru) hx hb hml hown hts hK hG hW hM hkb rfl (gt_of (i := 740) (by decide +kernel) (by decide +kernel)) (gt_of (i := 741) (by decide +kernel) (by decide +kernel)) (gt_of (i := 742) (by decide +kernel) (by decide +kernel)) (gt_of (i := 6) (by decide +kernel) (by decide +kernel)) (gt_of (i := 743) (by decide +kernel) (by decide +kernel)) (by decide +kernel) hR hf hn hsz hst hcat hdg kk
abbrev b_a_input : ByteArray := prog_1_method_9_code
def y_a_input : MethodName := ⟨"AlarmForge", "input", "(I)I"⟩
def rm_a_input : Room := { frames := 6, cells := 0, slots := 0, locals := 100 }
def rx_a_input : Room := { frames := 6, cells := 1, slots := 6, locals := 100 }
theorem d_a_input_0 : decode b_a_input 0 = .ok (.aload_n 0, 1) := by decide +kernel
theorem d_a_input_1 : decode b_a_input 1 = .ok (.getfield 43, 3) := by decide +kernel
theorem d_a_input_4 : decode b_a_input 4 = .ok (.getfield 91, 3) := by decide +kernel
theorem d_a_input_7 : decode b_a_input 7 = .ok (.bipush (8), 2) := by decide +kernel
theorem d_a_input_9 : decode b_a_input 9 = .ok (.if_icmp .lt (11), 3) := by decide +kernel
theorem d_a_input_12 : decode b_a_input 12 = .ok (.new 70, 3) := by decide +kernel
theorem d_a_input_15 : decode b_a_input 15 = .ok (.dup, 1) := by decide +kernel
theorem d_a_input_16 : decode b_a_input 16 = .ok (.invokespecial 72, 3) := by decide +kernel
theorem d_a_input_19 : decode b_a_input 19 = .ok (.athrow, 1) := by decide +kernel
theorem d_a_input_20 : decode b_a_input 20 = .ok (.aload_n 0, 1) := by decide +kernel
theorem d_a_input_21 : decode b_a_input 21 = .ok (.getfield 43, 3) := by decide +kernel
theorem d_a_input_24 : decode b_a_input 24 = .ok (.iload_n 1, 1) := by decide +kernel
theorem d_a_input_25 : decode b_a_input 25 = .ok (.invokevirtual 94, 3) := by decide +kernel
theorem d_a_input_28 : decode b_a_input 28 = .ok (.aload_n 0, 1) := by decide +kernel
theorem d_a_input_29 : decode b_a_input 29 = .ok (.getfield 43, 3) := by decide +kernel
theorem d_a_input_32 : decode b_a_input 32 = .ok (.getfield 91, 3) := by decide +kernel
theorem d_a_input_35 : decode b_a_input 35 = .ok (.ireturn, 1) := by decide +kernel
def f_a_input (a0 : Nat) (a1 : Int32) (w : WW) : Option ((Int32 ⊕ String) × WW) :=
  if kb w a0 0 = true then
    (gN w a0 0 7).bind fun x1 =>
    (gI w x1 5 5).bind fun x2 =>
    if x2 < (8 : Int32) then
      (gN w a0 0 7).bind fun x4 =>
      (f_ru_addInput x4 a1 w).bind fun w5 =>
      (gN w5 a0 0 7).bind fun x6 =>
      (gI w5 x6 5 5).bind fun x7 =>
      some (.inl x7, w5)
    else
      some (.inr "java/lang/IllegalStateException", w)
  else none
theorem kb_a_input {a0 : Nat} {a1 : Int32} {w : WW} {r : ((Int32 ⊕ String) × WW)} (h : f_a_input a0 a1 w = some r) : kb w a0 0 = true := (its h).1
set_option maxHeartbeats 4000000 in
set_option maxRecDepth 100000 in
theorem c_a_input (l : Launch) (D : va_G) (cA : Nat → ClassId) (base : Nat) {a0 : Nat} {a1 : Int32} {w w' : WW} {r : Int32} (h : f_a_input a0 a1 w = some (.inl r, w')) : mt l D cls (wo_tys cA) cA base y_a_input (Cond.code y_a_input b_a_input 2 (some .int) :: gt) rm_a_input [.ref (base + a0), .int a1] w (some (.int r)) w' rm_a_input.cells rm_a_input.slots := by
  refine mt_start (by decide) (Nat.le_of_ble_eq_true rfl) ?_
  intro p e s m below meth c ls hx hb hr hml hown hts hlk hnm hK hG hW hl
  have C : cx b_a_input (some .int) 2 y_a_input.cls "input" p s m [.ref (base + a0), .int a1].toArray meth c D cA base := ⟨hx, hb, hr, hml, hown, hts, hlk, hnm, hK, hG⟩
  have hl : lv_has ls 2 [(0, .ref (base + a0)), (1, .int a1)] := hl
  unfold f_a_input at h
  replace h := its h
  obtain ⟨-, h⟩ := h
  refine lv_aload_n hx hb d_a_input_0 rfl (lv_at hl 0 rfl) ?_
  replace h := bs h
  obtain ⟨x1, hx1, h⟩ := h
  refine gf_a_43 hx hb hts hown hK hG hW (gN_s hx1) d_a_input_1 ?_
  replace h := bs h
  obtain ⟨x2, hx2, h⟩ := h
  refine gf_a_91 hx hb hts hown hK hG hW (gI_s hx2) d_a_input_4 ?_
  refine lv_bipush (v := (8 : Int32)) hx hb d_a_input_7 (by decide) ?_
  refine lv_icmp_lt (tgt := 20) hx hb d_a_input_9 (by decide) (fun c3 => ?_) (fun c3 => ?_)
  · rw [if_pos c3] at h
    refine lv_aload_n hx hb d_a_input_20 rfl (lv_at hl 0 rfl) ?_
    replace h := bs h
    obtain ⟨x4, hx4, h⟩ := h
    refine gf_a_43 hx hb hts hown hK hG hW (gN_s hx4) d_a_input_21 ?_
    refine lv_iload_n hx hb d_a_input_24 rfl (lv_at hl 1 rfl) ?_
    replace h := bs h
    obtain ⟨w5, hw5, h⟩ := h
    refine cv_a_94 (As := [.int a1]) (rest := []) hx hb hml hown hts hK hG hW (c_ru_addInput l D cA base hw5) (kb_ru_addInput hw5) ⟨Nat.le_of_ble_eq_true rfl, Nat.le_of_ble_eq_true rfl⟩ ⟨Nat.le_of_ble_eq_true rfl, Nat.le_of_ble_eq_true rfl⟩ rfl hl.1 rfl (Nat.le_of_ble_eq_true rfl) d_a_input_25 (fun H locs hW => ?_)
    refine lv_aload_n hx hb d_a_input_28 rfl (lv_at hl 0 rfl) ?_
    replace h := bs h
    obtain ⟨x6, hx6, h⟩ := h
    refine gf_a_43 hx hb hts hown hK hG hW (gN_s hx6) d_a_input_29 ?_
    replace h := bs h
    obtain ⟨x7, hx7, h⟩ := h
    refine gf_a_91 hx hb hts hown hK hG hW (gI_s hx7) d_a_input_32 ?_
    cases h
    exact wo_iret hx hb hr hlk hW d_a_input_35
  · rw [if_neg c3] at h
    cases h
set_option maxHeartbeats 4000000 in
set_option maxRecDepth 100000 in
theorem x_a_input (l : Launch) (hst : l.stackTraces = false) (D : va_G) (cA : Nat → ClassId) (base : Nat) {a0 : Nat} {a1 : Int32} {w w' : WW} {E : String} (h : f_a_input a0 a1 w = some (.inr E, w')) : xt l D cls (wo_tys cA) cA base y_a_input (Cond.code y_a_input b_a_input 2 (some .int) :: gt) rx_a_input [.ref (base + a0), .int a1] w E w' rx_a_input.cells rx_a_input.slots := by
  refine xt_start (by decide) (Nat.le_of_ble_eq_true rfl) ?_
  intro p e s m below meth c ls hx hb hr hml hown hts hlk hnm hK hG hW hl hnt
  have C : cx b_a_input (some .int) 2 y_a_input.cls "input" p s m [.ref (base + a0), .int a1].toArray meth c D cA base ∧ (∀ x ∈ c.exceptionTable.toList, ∀ k : Nat, covers x k = false) ∧ l.stackTraces = false := ⟨⟨hx, hb, hr, hml, hown, hts, hlk, hnm, hK, hG⟩, hnt, hst⟩
  have hl : lv_has ls 2 [(0, .ref (base + a0)), (1, .int a1)] := hl
  unfold f_a_input at h
  replace h := its h
  obtain ⟨-, h⟩ := h
  refine lv_aload_n hx hb d_a_input_0 rfl (lv_at hl 0 rfl) ?_
  replace h := bs h
  obtain ⟨x1, hx1, h⟩ := h
  refine gf_a_43 hx hb hts hown hK hG hW (gN_s hx1) d_a_input_1 ?_
  replace h := bs h
  obtain ⟨x2, hx2, h⟩ := h
  refine gf_a_91 hx hb hts hown hK hG hW (gI_s hx2) d_a_input_4 ?_
  refine lv_bipush (v := (8 : Int32)) hx hb d_a_input_7 (by decide) ?_
  refine lv_icmp_lt (tgt := 20) hx hb d_a_input_9 (by decide) (fun c3 => ?_) (fun c3 => ?_)
  · rw [if_pos c3] at h
    refine lv_aload_n hx hb d_a_input_20 rfl (lv_at hl 0 rfl) ?_
    replace h := bs h
    obtain ⟨x4, hx4, h⟩ := h
    refine gf_a_43 hx hb hts hown hK hG hW (gN_s hx4) d_a_input_21 ?_
    refine lv_iload_n hx hb d_a_input_24 rfl (lv_at hl 1 rfl) ?_
    replace h := bs h
    obtain ⟨w5, hw5, h⟩ := h
    refine cv_a_94 (As := [.int a1]) (rest := []) hx hb hml hown hts hK hG hW (c_ru_addInput l D cA base hw5) (kb_ru_addInput hw5) ⟨Nat.le_of_ble_eq_true rfl, Nat.le_of_ble_eq_true rfl⟩ ⟨Nat.le_of_ble_eq_true rfl, Nat.le_of_ble_eq_true rfl⟩ rfl hl.1 rfl (Nat.le_of_ble_eq_true rfl) d_a_input_25 (fun H locs hW => ?_)
    refine lv_aload_n hx hb d_a_input_28 rfl (lv_at hl 0 rfl) ?_
    replace h := bs h
    obtain ⟨x6, hx6, h⟩ := h
    refine gf_a_43 hx hb hts hown hK hG hW (gN_s hx6) d_a_input_29 ?_
    replace h := bs h
    obtain ⟨x7, hx7, h⟩ := h
    refine gf_a_91 hx hb hts hown hK hG hW (gI_s hx7) d_a_input_32 ?_
    cases h
  · rw [if_neg c3] at h
    cases h
    exact wo_throw (names := ["java/lang/RuntimeException", "java/lang/Exception"]) hx hb hst hown hts hG hW hnt hlk (by decide) (by decide) (gt_of (i := 460) (by decide +kernel) (by decide +kernel)) (gt_of (i := 15) (by decide +kernel) (by decide +kernel)) ow_a_72 (hl.1.trans hml.symm) d_a_input_12 d_a_input_15 d_a_input_16 d_a_input_19 (Nat.le_of_ble_eq_true rfl) (Nat.le_of_ble_eq_true rfl) (Nat.le_of_ble_eq_true rfl) (Nat.le_of_ble_eq_true rfl) (Nat.le_of_ble_eq_true rfl) (Nat.le_of_ble_eq_true rfl)
abbrev b_ru_doProgram : ByteArray := prog_6_method_3_code
def y_ru_doProgram : MethodName := ⟨"AlarmForge$Runner", "doProgram", "(LAlarmForge$Program;I)Z"⟩
def rm_ru_doProgram : Room := { frames := 0, cells := 0, slots := 0, locals := 0 }
def rx_ru_doProgram : Room := { frames := 0, cells := 1, slots := 6, locals := 0 }
def f_ru_doProgram (a0 : Nat) (a1 : Nat) (a2 : Int32) (w : WW) : Option ((Int32 ⊕ String) × WW) := none
theorem kb_ru_doProgram {a0 : Nat} {a1 : Nat} {a2 : Int32} {w : WW} {r : ((Int32 ⊕ String) × WW)} (h : f_ru_doProgram a0 a1 a2 w = some r) : kb w a0 5 = true := by cases h
theorem c_ru_doProgram (l : Launch) (D : va_G) (cA : Nat → ClassId) (base : Nat) {a0 : Nat} {a1 : Nat} {a2 : Int32} {w w' : WW} {r : Int32} (h : f_ru_doProgram a0 a1 a2 w = some (.inl r, w')) : mt l D cls (wo_tys cA) cA base y_ru_doProgram (Cond.code y_ru_doProgram b_ru_doProgram 3 (some .boolean) :: gt) rm_ru_doProgram [.ref (base + a0), .ref (base + a1), .int a2] w (some (.int r)) w' rm_ru_doProgram.cells rm_ru_doProgram.slots := by
  cases h
theorem x_ru_doProgram (l : Launch) (hst : l.stackTraces = false) (D : va_G) (cA : Nat → ClassId) (base : Nat) {a0 : Nat} {a1 : Nat} {a2 : Int32} {w w' : WW} {E : String} (h : f_ru_doProgram a0 a1 a2 w = some (.inr E, w')) : xt l D cls (wo_tys cA) cA base y_ru_doProgram (Cond.code y_ru_doProgram b_ru_doProgram 3 (some .boolean) :: gt) rx_ru_doProgram [.ref (base + a0), .ref (base + a1), .int a2] w E w' rx_ru_doProgram.cells rx_ru_doProgram.slots := by
  cases h
theorem xv_a_98 {p : Program} {l : Launch} {e : Env} {R : Room} {s : State} {m : MethodId} {args : Array Value} {below : List Frame} {meth : Method} {c : Code} {H : Heap} {locs : List Loc} {cells slots : Nat} {Q : State → Prop} {D : va_G} {cA : Nat → ClassId} {base : Nat} {w w' : WW} {cc : ByteArray} {pc nL : Nat} {ls : Array Slot} {rest st0 As : List Value} {E : String} {b : Nat} (hx : p.tables.exec = Jvm.exec) (hb : c.code = cc) (hml : c.maxLocals = nL) (hown : s.vm.findClass Rc_a = some m.cls) (hts : ∀ w ∈ gt, w.before args s = true) (hK : va_K D cls (wo_tys cA) s) (hG : wo_G base s) (hW : wo_S D cls cA base s w H locs) (hM : xt l D cls (wo_tys cA) cA base y_ru_doProgram (Cond.code y_ru_doProgram b_ru_doProgram 3 (some .boolean) :: gt) rx_ru_doProgram (.ref (base + b) :: As) w E w' rx_ru_doProgram.cells rx_ru_doProgram.slots) (hkb : kb w b 5 = true) (hR : rx_ru_doProgram.frames + 1 ≤ R.frames ∧ 8 + (3 + 11) + rx_ru_doProgram.locals ≤ R.locals) (hf : cells + rx_ru_doProgram.cells ≤ R.cells ∧ slots + rx_ru_doProgram.slots ≤ R.slots) (hn : As.length = 2) (hsz : ls.size = nL) (hst : st0 = As.reverse ++ .ref (base + b) :: rest) (hcat : (rest.map fun v => v.category).sum ≤ 8) (hdg : decode cc pc = .ok (.invokevirtual 98, 3)) (kk : ∀ (H1 : Heap) (locs1 : List Loc) (q : Addr) (ce : Cell), wo_S D cls cA base s w' H1 locs1 → H1[q]? = some ce → ce.vm = .none → s.vm.findClass E = some ce.cls → XW p l e R s m args below meth c H1 locs1 (cells + rx_ru_doProgram.cells) (slots + rx_ru_doProgram.slots) Q (F0 m pc ls rest) q) : W p l e R s m args below meth c H locs cells slots Q (F0 m pc ls st0) :=
  wo_xcallV (C := Rc_ru) hx hb hml hown hts hK hG hW hM hkb rfl (gt_of (i := 754) (by decide +kernel) (by decide +kernel)) (gt_of (i := 755) (by decide +kernel) (by decide +kernel)) (gt_of (i := 756) (by decide +kernel) (by decide +kernel)) (gt_of (i := 6) (by decide +kernel) (by decide +kernel)) (gt_of (i := 757) (by decide +kernel) (by decide +kernel)) (by decide +kernel) hR hf hn hsz hst hcat hdg kk
theorem cv_a_98 {p : Program} {l : Launch} {e : Env} {R : Room} {s : State} {m : MethodId} {args : Array Value} {below : List Frame} {meth : Method} {c : Code} {H : Heap} {locs : List Loc} {cells slots : Nat} {Q : State → Prop} {D : va_G} {cA : Nat → ClassId} {base : Nat} {w w' : WW} {cc : ByteArray} {pc nL : Nat} {ls : Array Slot} {rest st0 As : List Value} {ov : Option Value} {b : Nat} (hx : p.tables.exec = Jvm.exec) (hb : c.code = cc) (hml : c.maxLocals = nL) (hown : s.vm.findClass Rc_a = some m.cls) (hts : ∀ w ∈ gt, w.before args s = true) (hK : va_K D cls (wo_tys cA) s) (hG : wo_G base s) (hW : wo_S D cls cA base s w H locs) (hM : mt l D cls (wo_tys cA) cA base y_ru_doProgram (Cond.code y_ru_doProgram b_ru_doProgram 3 (some .boolean) :: gt) rm_ru_doProgram (.ref (base + b) :: As) w ov w' rm_ru_doProgram.cells rm_ru_doProgram.slots) (hkb : kb w b 5 = true) (hR : rm_ru_doProgram.frames + 1 ≤ R.frames ∧ 8 + (3 + 11) + rm_ru_doProgram.locals ≤ R.locals) (hf : cells + rm_ru_doProgram.cells ≤ R.cells ∧ slots + rm_ru_doProgram.slots ≤ R.slots) (hn : As.length = 2) (hsz : ls.size = nL) (hst : st0 = As.reverse ++ .ref (base + b) :: rest) (hcat : (rest.map fun v => v.category).sum ≤ 8) (hdg : decode cc pc = .ok (.invokevirtual 98, 3)) (kk : ∀ (H1 : Heap) (locs1 : List Loc), wo_S D cls cA base s w' H1 locs1 → W p l e R s m args below meth c H1 locs1 (cells + rm_ru_doProgram.cells) (slots + rm_ru_doProgram.slots) Q (F0 m (pc + 3) ls (ov.toList ++ rest))) : W p l e R s m args below meth c H locs cells slots Q (F0 m pc ls st0) :=
  wo_callV (C := Rc_ru) hx hb hml hown hts hK hG hW hM hkb rfl (gt_of (i := 754) (by decide +kernel) (by decide +kernel)) (gt_of (i := 755) (by decide +kernel) (by decide +kernel)) (gt_of (i := 756) (by decide +kernel) (by decide +kernel)) (gt_of (i := 6) (by decide +kernel) (by decide +kernel)) (gt_of (i := 757) (by decide +kernel) (by decide +kernel)) (by decide +kernel) hR hf hn hsz hst hcat hdg kk
abbrev b_a_run : ByteArray := prog_1_method_11_code
def y_a_run : MethodName := ⟨"AlarmForge", "run", "(I)I"⟩
def rm_a_run : Room := { frames := 6, cells := 0, slots := 0, locals := 100 }
def rx_a_run : Room := { frames := 6, cells := 1, slots := 6, locals := 100 }
theorem d_a_run_0 : decode b_a_run 0 = .ok (.iload_n 1, 1) := by decide +kernel
theorem d_a_run_1 : decode b_a_run 1 = .ok (.ifCond .lt (10), 3) := by decide +kernel
theorem d_a_run_4 : decode b_a_run 4 = .ok (.iload_n 1, 1) := by decide +kernel
theorem d_a_run_5 : decode b_a_run 5 = .ok (.sipush (500), 3) := by decide +kernel
theorem d_a_run_8 : decode b_a_run 8 = .ok (.if_icmp .le (11), 3) := by decide +kernel
theorem d_a_run_11 : decode b_a_run 11 = .ok (.new 62, 3) := by decide +kernel
theorem d_a_run_14 : decode b_a_run 14 = .ok (.dup, 1) := by decide +kernel
theorem d_a_run_15 : decode b_a_run 15 = .ok (.invokespecial 64, 3) := by decide +kernel
theorem d_a_run_18 : decode b_a_run 18 = .ok (.athrow, 1) := by decide +kernel
theorem d_a_run_19 : decode b_a_run 19 = .ok (.aload_n 0, 1) := by decide +kernel
theorem d_a_run_20 : decode b_a_run 20 = .ok (.getfield 81, 3) := by decide +kernel
theorem d_a_run_23 : decode b_a_run 23 = .ok (.ifCond .ne (11), 3) := by decide +kernel
theorem d_a_run_26 : decode b_a_run 26 = .ok (.new 70, 3) := by decide +kernel
theorem d_a_run_29 : decode b_a_run 29 = .ok (.dup, 1) := by decide +kernel
theorem d_a_run_30 : decode b_a_run 30 = .ok (.invokespecial 72, 3) := by decide +kernel
theorem d_a_run_33 : decode b_a_run 33 = .ok (.athrow, 1) := by decide +kernel
theorem d_a_run_34 : decode b_a_run 34 = .ok (.aload_n 0, 1) := by decide +kernel
theorem d_a_run_35 : decode b_a_run 35 = .ok (.getfield 43, 3) := by decide +kernel
theorem d_a_run_38 : decode b_a_run 38 = .ok (.aload_n 0, 1) := by decide +kernel
theorem d_a_run_39 : decode b_a_run 39 = .ok (.getfield 33, 3) := by decide +kernel
theorem d_a_run_42 : decode b_a_run 42 = .ok (.iload_n 1, 1) := by decide +kernel
theorem d_a_run_43 : decode b_a_run 43 = .ok (.invokevirtual 98, 3) := by decide +kernel
theorem d_a_run_46 : decode b_a_run 46 = .ok (.ifCond .eq (7), 3) := by decide +kernel
theorem d_a_run_49 : decode b_a_run 49 = .ok (.iconst 0, 1) := by decide +kernel
theorem d_a_run_50 : decode b_a_run 50 = .ok (.goto (5), 3) := by decide +kernel
theorem d_a_run_53 : decode b_a_run 53 = .ok (.bipush (-5), 2) := by decide +kernel
theorem d_a_run_55 : decode b_a_run 55 = .ok (.ireturn, 1) := by decide +kernel
def f_a_run_11   (w : WW) : Option ((Int32 ⊕ String) × WW) :=
  some (.inr "java/lang/IllegalArgumentException", w)
def f_a_run_55  (z0 : Int32) (w : WW) : Option ((Int32 ⊕ String) × WW) :=
  some (.inl z0, w)
def f_a_run (a0 : Nat) (a1 : Int32) (w : WW) : Option ((Int32 ⊕ String) × WW) :=
  if kb w a0 0 = true then
    if a1 < 0 then
      f_a_run_11 w
    else
      if a1 ≤ (500 : Int32) then
        (gI w a0 0 6).bind fun x3 =>
        if x3 = 0 then
          some (.inr "java/lang/IllegalStateException", w)
        else
          (gN w a0 0 7).bind fun x5 =>
          (gN w a0 0 4).bind fun x6 =>
          bdx (f_ru_doProgram x5 x6 a1 w) fun x8 w7 =>
          if x8 = 0 then
            f_a_run_55 (-5 : Int32) w7
          else
            f_a_run_55 (0 : Int32) w7
      else
        f_a_run_11 w
  else none
theorem kb_a_run {a0 : Nat} {a1 : Int32} {w : WW} {r : ((Int32 ⊕ String) × WW)} (h : f_a_run a0 a1 w = some r) : kb w a0 0 = true := (its h).1
set_option maxHeartbeats 4000000 in
set_option maxRecDepth 100000 in
theorem j_a_run_11 {p : Program} {l : Launch} {e : Env} {s : State} {m : MethodId} {args : Array Value} {below : List Frame} {meth : Method} {c : Code} {D : va_G} {cA : Nat → ClassId} {base : Nat} {r : Int32} {w' : WW} (C : cx b_a_run (some .int) 2 y_a_run.cls "run" p s m args meth c D cA base)   : ∀  (w : WW), f_a_run_11  w = some (.inl r, w') → ∀ (H : Heap) (locs : List Loc) (ls : Array Slot), wo_S D cls cA base s w H locs → lv_has ls 2 [] → W p l e rm_a_run s m args below meth c H locs 0 0 (MQ below (wo_Q D cls cA base (some (.int r)) w') args s rm_a_run.cells rm_a_run.slots (wo_B base)) (F0 m 11 ls []) := by
  obtain ⟨hx, hb, hr, hml, hown, hts, hlk, hnm, hK, hG⟩ := id C
  intro  w h H locs ls hW hl
  unfold f_a_run_11 at h
  cases h
set_option maxHeartbeats 4000000 in
set_option maxRecDepth 100000 in
theorem j_a_run_55 {p : Program} {l : Launch} {e : Env} {s : State} {m : MethodId} {args : Array Value} {below : List Frame} {meth : Method} {c : Code} {D : va_G} {cA : Nat → ClassId} {base : Nat} {r : Int32} {w' : WW} (C : cx b_a_run (some .int) 2 y_a_run.cls "run" p s m args meth c D cA base)   : ∀ (z0 : Int32) (w : WW), f_a_run_55 z0 w = some (.inl r, w') → ∀ (H : Heap) (locs : List Loc) (ls : Array Slot), wo_S D cls cA base s w H locs → lv_has ls 2 [] → W p l e rm_a_run s m args below meth c H locs 0 0 (MQ below (wo_Q D cls cA base (some (.int r)) w') args s rm_a_run.cells rm_a_run.slots (wo_B base)) (F0 m 55 ls [.int z0]) := by
  obtain ⟨hx, hb, hr, hml, hown, hts, hlk, hnm, hK, hG⟩ := id C
  intro z0 w h H locs ls hW hl
  unfold f_a_run_55 at h
  cases h
  exact wo_iret hx hb hr hlk hW d_a_run_55
set_option maxHeartbeats 4000000 in
set_option maxRecDepth 100000 in
theorem c_a_run (l : Launch) (D : va_G) (cA : Nat → ClassId) (base : Nat) {a0 : Nat} {a1 : Int32} {w w' : WW} {r : Int32} (h : f_a_run a0 a1 w = some (.inl r, w')) : mt l D cls (wo_tys cA) cA base y_a_run (Cond.code y_a_run b_a_run 2 (some .int) :: gt) rm_a_run [.ref (base + a0), .int a1] w (some (.int r)) w' rm_a_run.cells rm_a_run.slots := by
  refine mt_start (by decide) (Nat.le_of_ble_eq_true rfl) ?_
  intro p e s m below meth c ls hx hb hr hml hown hts hlk hnm hK hG hW hl
  have C : cx b_a_run (some .int) 2 y_a_run.cls "run" p s m [.ref (base + a0), .int a1].toArray meth c D cA base := ⟨hx, hb, hr, hml, hown, hts, hlk, hnm, hK, hG⟩
  have hl : lv_has ls 2 [(0, .ref (base + a0)), (1, .int a1)] := hl
  unfold f_a_run at h
  replace h := its h
  obtain ⟨-, h⟩ := h
  refine lv_iload_n hx hb d_a_run_0 rfl (lv_at hl 1 rfl) ?_
  refine lv_if_lt (tgt := 11) hx hb d_a_run_1 (by decide) (fun c1 => ?_) (fun c1 => ?_)
  · rw [if_pos c1] at h
    exact j_a_run_11 C w h _ _ _ hW (lv_sub hl [] rfl)
  · rw [if_neg c1] at h
    refine lv_iload_n hx hb d_a_run_4 rfl (lv_at hl 1 rfl) ?_
    refine lv_sipush (v := (500 : Int32)) hx hb d_a_run_5 (by decide) ?_
    refine lv_icmp_le (tgt := 19) hx hb d_a_run_8 (by decide) (fun c2 => ?_) (fun c2 => ?_)
    · rw [if_pos c2] at h
      refine lv_aload_n hx hb d_a_run_19 rfl (lv_at hl 0 rfl) ?_
      replace h := bs h
      obtain ⟨x3, hx3, h⟩ := h
      refine gf_a_81 hx hb hts hown hK hG hW (gI_s hx3) d_a_run_20 ?_
      refine lv_if_ne (tgt := 34) hx hb d_a_run_23 (by decide) (fun c4 => ?_) (fun c4 => ?_)
      · rw [if_neg c4] at h
        refine lv_aload_n hx hb d_a_run_34 rfl (lv_at hl 0 rfl) ?_
        replace h := bs h
        obtain ⟨x5, hx5, h⟩ := h
        refine gf_a_43 hx hb hts hown hK hG hW (gN_s hx5) d_a_run_35 ?_
        refine lv_aload_n hx hb d_a_run_38 rfl (lv_at hl 0 rfl) ?_
        replace h := bs h
        obtain ⟨x6, hx6, h⟩ := h
        refine gf_a_33 hx hb hts hown hK hG hW (gN_s hx6) d_a_run_39 ?_
        refine lv_iload_n hx hb d_a_run_42 rfl (lv_at hl 1 rfl) ?_
        replace h := bsx h
        obtain ⟨x8, w7, hw7, h⟩ := h
        refine cv_a_98 (As := [.ref (base + x6), .int a1]) (rest := []) hx hb hml hown hts hK hG hW (c_ru_doProgram l D cA base hw7) (kb_ru_doProgram hw7) ⟨Nat.le_of_ble_eq_true rfl, Nat.le_of_ble_eq_true rfl⟩ ⟨Nat.le_of_ble_eq_true rfl, Nat.le_of_ble_eq_true rfl⟩ rfl hl.1 rfl (Nat.le_of_ble_eq_true rfl) d_a_run_43 (fun H locs hW => ?_)
        refine lv_if_eq (tgt := 53) hx hb d_a_run_46 (by decide) (fun c9 => ?_) (fun c9 => ?_)
        · rw [if_pos c9] at h
          refine lv_bipush (v := (-5 : Int32)) hx hb d_a_run_53 (by decide) ?_
          exact j_a_run_55 C (-5 : Int32) w7 h _ _ _ hW (lv_sub hl [] rfl)
        · rw [if_neg c9] at h
          refine lv_iconst (v := (0 : Int32)) hx hb d_a_run_49 (by decide) ?_
          refine lv_goto (tgt := 55) hx hb d_a_run_50 (by decide) ?_
          exact j_a_run_55 C (0 : Int32) w7 h _ _ _ hW (lv_sub hl [] rfl)
      · rw [if_pos c4] at h
        cases h
    · rw [if_neg c2] at h
      exact j_a_run_11 C w h _ _ _ hW (lv_sub hl [] rfl)
set_option maxHeartbeats 4000000 in
set_option maxRecDepth 100000 in
theorem jx_a_run_11 {p : Program} {l : Launch} {e : Env} {s : State} {m : MethodId} {args : Array Value} {below : List Frame} {meth : Method} {c : Code} {D : va_G} {cA : Nat → ClassId} {base : Nat} {E : String} {w' : WW} (C : cx b_a_run (some .int) 2 y_a_run.cls "run" p s m args meth c D cA base ∧ (∀ x ∈ c.exceptionTable.toList, ∀ k : Nat, covers x k = false) ∧ l.stackTraces = false)   : ∀  (w : WW), f_a_run_11  w = some (.inr E, w') → ∀ (H : Heap) (locs : List Loc) (ls : Array Slot), wo_S D cls cA base s w H locs → lv_has ls 2 [] → W p l e rx_a_run s m args below meth c H locs 0 0 (XQ below (wo_X D cls cA base E w' rx_a_run.cells rx_a_run.slots) args s) (F0 m 11 ls []) := by
  obtain ⟨hx, hb, hr, hml, hown, hts, hlk, hnm, hK, hG⟩ := id C.1
  have hnt := C.2.1
  have hst := C.2.2
  intro  w h H locs ls hW hl
  unfold f_a_run_11 at h
  cases h
  exact wo_throw (names := ["java/lang/RuntimeException", "java/lang/Exception"]) hx hb hst hown hts hG hW hnt hlk (by decide) (by decide) (gt_of (i := 395) (by decide +kernel) (by decide +kernel)) (gt_of (i := 14) (by decide +kernel) (by decide +kernel)) ow_a_64 (hl.1.trans hml.symm) d_a_run_11 d_a_run_14 d_a_run_15 d_a_run_18 (Nat.le_of_ble_eq_true rfl) (Nat.le_of_ble_eq_true rfl) (Nat.le_of_ble_eq_true rfl) (Nat.le_of_ble_eq_true rfl) (Nat.le_of_ble_eq_true rfl) (Nat.le_of_ble_eq_true rfl)
set_option maxHeartbeats 4000000 in
set_option maxRecDepth 100000 in
theorem jx_a_run_55 {p : Program} {l : Launch} {e : Env} {s : State} {m : MethodId} {args : Array Value} {below : List Frame} {meth : Method} {c : Code} {D : va_G} {cA : Nat → ClassId} {base : Nat} {E : String} {w' : WW} (C : cx b_a_run (some .int) 2 y_a_run.cls "run" p s m args meth c D cA base ∧ (∀ x ∈ c.exceptionTable.toList, ∀ k : Nat, covers x k = false) ∧ l.stackTraces = false)   : ∀ (z0 : Int32) (w : WW), f_a_run_55 z0 w = some (.inr E, w') → ∀ (H : Heap) (locs : List Loc) (ls : Array Slot), wo_S D cls cA base s w H locs → lv_has ls 2 [] → W p l e rx_a_run s m args below meth c H locs 0 0 (XQ below (wo_X D cls cA base E w' rx_a_run.cells rx_a_run.slots) args s) (F0 m 55 ls [.int z0]) := by
  obtain ⟨hx, hb, hr, hml, hown, hts, hlk, hnm, hK, hG⟩ := id C.1
  have hnt := C.2.1
  have hst := C.2.2
  intro z0 w h H locs ls hW hl
  unfold f_a_run_55 at h
  cases h
set_option maxHeartbeats 4000000 in
set_option maxRecDepth 100000 in
theorem x_a_run (l : Launch) (hst : l.stackTraces = false) (D : va_G) (cA : Nat → ClassId) (base : Nat) {a0 : Nat} {a1 : Int32} {w w' : WW} {E : String} (h : f_a_run a0 a1 w = some (.inr E, w')) : xt l D cls (wo_tys cA) cA base y_a_run (Cond.code y_a_run b_a_run 2 (some .int) :: gt) rx_a_run [.ref (base + a0), .int a1] w E w' rx_a_run.cells rx_a_run.slots := by
  refine xt_start (by decide) (Nat.le_of_ble_eq_true rfl) ?_
  intro p e s m below meth c ls hx hb hr hml hown hts hlk hnm hK hG hW hl hnt
  have C : cx b_a_run (some .int) 2 y_a_run.cls "run" p s m [.ref (base + a0), .int a1].toArray meth c D cA base ∧ (∀ x ∈ c.exceptionTable.toList, ∀ k : Nat, covers x k = false) ∧ l.stackTraces = false := ⟨⟨hx, hb, hr, hml, hown, hts, hlk, hnm, hK, hG⟩, hnt, hst⟩
  have hl : lv_has ls 2 [(0, .ref (base + a0)), (1, .int a1)] := hl
  unfold f_a_run at h
  replace h := its h
  obtain ⟨-, h⟩ := h
  refine lv_iload_n hx hb d_a_run_0 rfl (lv_at hl 1 rfl) ?_
  refine lv_if_lt (tgt := 11) hx hb d_a_run_1 (by decide) (fun c1 => ?_) (fun c1 => ?_)
  · rw [if_pos c1] at h
    exact jx_a_run_11 C w h _ _ _ hW (lv_sub hl [] rfl)
  · rw [if_neg c1] at h
    refine lv_iload_n hx hb d_a_run_4 rfl (lv_at hl 1 rfl) ?_
    refine lv_sipush (v := (500 : Int32)) hx hb d_a_run_5 (by decide) ?_
    refine lv_icmp_le (tgt := 19) hx hb d_a_run_8 (by decide) (fun c2 => ?_) (fun c2 => ?_)
    · rw [if_pos c2] at h
      refine lv_aload_n hx hb d_a_run_19 rfl (lv_at hl 0 rfl) ?_
      replace h := bs h
      obtain ⟨x3, hx3, h⟩ := h
      refine gf_a_81 hx hb hts hown hK hG hW (gI_s hx3) d_a_run_20 ?_
      refine lv_if_ne (tgt := 34) hx hb d_a_run_23 (by decide) (fun c4 => ?_) (fun c4 => ?_)
      · rw [if_neg c4] at h
        refine lv_aload_n hx hb d_a_run_34 rfl (lv_at hl 0 rfl) ?_
        replace h := bs h
        obtain ⟨x5, hx5, h⟩ := h
        refine gf_a_43 hx hb hts hown hK hG hW (gN_s hx5) d_a_run_35 ?_
        refine lv_aload_n hx hb d_a_run_38 rfl (lv_at hl 0 rfl) ?_
        replace h := bs h
        obtain ⟨x6, hx6, h⟩ := h
        refine gf_a_33 hx hb hts hown hK hG hW (gN_s hx6) d_a_run_39 ?_
        refine lv_iload_n hx hb d_a_run_42 rfl (lv_at hl 1 rfl) ?_
        rcases bsy h with hw7 | ⟨x8, w7, hw7, hnw7⟩
        · exact xv_a_98 (As := [.ref (base + x6), .int a1]) (rest := []) hx hb hml hown hts hK hG hW (x_ru_doProgram l hst D cA base hw7) (kb_ru_doProgram hw7) ⟨Nat.le_of_ble_eq_true rfl, Nat.le_of_ble_eq_true rfl⟩ ⟨Nat.le_of_ble_eq_true rfl, Nat.le_of_ble_eq_true rfl⟩ rfl hl.1 rfl (Nat.le_of_ble_eq_true rfl) d_a_run_43 (fun H locs q ce hW h1 h2 h3 => wo_xout hnt hlk hW h1 h2 h3 (Nat.le_of_ble_eq_true rfl) (Nat.le_of_ble_eq_true rfl))
        clear h
        have h := hnw7
        clear hnw7
        refine cv_a_98 (As := [.ref (base + x6), .int a1]) (rest := []) hx hb hml hown hts hK hG hW (c_ru_doProgram l D cA base hw7) (kb_ru_doProgram hw7) ⟨Nat.le_of_ble_eq_true rfl, Nat.le_of_ble_eq_true rfl⟩ ⟨Nat.le_of_ble_eq_true rfl, Nat.le_of_ble_eq_true rfl⟩ rfl hl.1 rfl (Nat.le_of_ble_eq_true rfl) d_a_run_43 (fun H locs hW => ?_)
        refine lv_if_eq (tgt := 53) hx hb d_a_run_46 (by decide) (fun c9 => ?_) (fun c9 => ?_)
        · rw [if_pos c9] at h
          refine lv_bipush (v := (-5 : Int32)) hx hb d_a_run_53 (by decide) ?_
          exact jx_a_run_55 C (-5 : Int32) w7 h _ _ _ hW (lv_sub hl [] rfl)
        · rw [if_neg c9] at h
          refine lv_iconst (v := (0 : Int32)) hx hb d_a_run_49 (by decide) ?_
          refine lv_goto (tgt := 55) hx hb d_a_run_50 (by decide) ?_
          exact jx_a_run_55 C (0 : Int32) w7 h _ _ _ hW (lv_sub hl [] rfl)
      · rw [if_pos c4] at h
        cases h
        exact wo_throw (names := ["java/lang/RuntimeException", "java/lang/Exception"]) hx hb hst hown hts hG hW hnt hlk (by decide) (by decide) (gt_of (i := 460) (by decide +kernel) (by decide +kernel)) (gt_of (i := 15) (by decide +kernel) (by decide +kernel)) ow_a_72 (hl.1.trans hml.symm) d_a_run_26 d_a_run_29 d_a_run_30 d_a_run_33 (Nat.le_of_ble_eq_true rfl) (Nat.le_of_ble_eq_true rfl) (Nat.le_of_ble_eq_true rfl) (Nat.le_of_ble_eq_true rfl) (Nat.le_of_ble_eq_true rfl) (Nat.le_of_ble_eq_true rfl)
    · rw [if_neg c2] at h
      exact jx_a_run_11 C w h _ _ _ hW (lv_sub hl [] rfl)
