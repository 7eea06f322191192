/-! Methods as functions, and their contracts (by wip/gen/run.py). -/
abbrev b_ma_min_JJ : ByteArray := prog_18_method_70_code
def y_ma_min_JJ : MethodName := ⟨"java/lang/Math", "min", "(JJ)J"⟩
def rm_ma_min_JJ : Room := { frames := 0, cells := 0, slots := 0, locals := 0 }
theorem d_ma_min_JJ_0 : decode b_ma_min_JJ 0 = .ok (.lload_n 0, 1) := by decide +kernel
theorem d_ma_min_JJ_1 : decode b_ma_min_JJ 1 = .ok (.lload_n 2, 1) := by decide +kernel
theorem d_ma_min_JJ_2 : decode b_ma_min_JJ 2 = .ok (.lcmp, 1) := by decide +kernel
theorem d_ma_min_JJ_3 : decode b_ma_min_JJ 3 = .ok (.ifCond .gt (7), 3) := by decide +kernel
theorem d_ma_min_JJ_6 : decode b_ma_min_JJ 6 = .ok (.lload_n 0, 1) := by decide +kernel
theorem d_ma_min_JJ_7 : decode b_ma_min_JJ 7 = .ok (.goto (4), 3) := by decide +kernel
theorem d_ma_min_JJ_10 : decode b_ma_min_JJ 10 = .ok (.lload_n 2, 1) := by decide +kernel
theorem d_ma_min_JJ_11 : decode b_ma_min_JJ 11 = .ok (.lreturn, 1) := by decide +kernel
set_option maxHeartbeats 4000000 in
set_option maxRecDepth 100000 in
theorem j_ma_min_JJ_11 {p : Program} {l : Launch} {e : Env} {s : State} {m : MethodId} {args : Array Value} {below : List Frame} {meth : Method} {c : Code} {D : va_G} {cA : Nat → ClassId} {base : Nat} {r : Int64} {w' : WW} (C : cx b_ma_min_JJ (some .long) 4 y_ma_min_JJ.cls "min" p s m args meth c D cA base)   : ∀ (z0 : Int64) (w : WW), f_ma_min_JJ_11 z0 w = some (r, w') → ∀ (H : Heap) (locs : List Loc) (ls : Array Slot), wo_S D cls cA base s w H locs → lv_has ls 4 [] → W p l e rm_ma_min_JJ s m args below meth c H locs 0 0 (MQ below (wo_Q D cls cA base (some (.long r)) w') args s rm_ma_min_JJ.cells rm_ma_min_JJ.slots (wo_B base)) (F0 m 11 ls [.long z0]) := by
  obtain ⟨hx, hb, hr, hml, hown, hts, hlk, hnm, hK, hG⟩ := id C
  intro z0 w h H locs ls hW hl
  unfold f_ma_min_JJ_11 at h
  cases h
  exact wo_lret hx hb hr hlk hW d_ma_min_JJ_11
set_option maxHeartbeats 4000000 in
set_option maxRecDepth 100000 in
theorem c_ma_min_JJ (l : Launch) (D : va_G) (cA : Nat → ClassId) (base : Nat) {a0 : Int64} {a2 : Int64} {w w' : WW} {r : Int64} (h : f_ma_min_JJ a0 a2 w = some (r, w')) : mt l D cls (wo_tys cA) cA base y_ma_min_JJ (Cond.code y_ma_min_JJ b_ma_min_JJ 4 (some .long) :: gt) rm_ma_min_JJ [.long a0, .long a2] w (some (.long r)) w' rm_ma_min_JJ.cells rm_ma_min_JJ.slots := by
  refine mt_startF (by decide +kernel) (Nat.le_of_ble_eq_true rfl) ?_
  intro p e s m below meth c ls hx hb hr hml hown hts hlk hnm hK hG hW hl
  have C : cx b_ma_min_JJ (some .long) 4 y_ma_min_JJ.cls "min" p s m [.long a0, .long a2].toArray meth c D cA base := ⟨hx, hb, hr, hml, hown, hts, hlk, hnm, hK, hG⟩
  have hl : lv_has ls 4 [(0, .long a0), (2, .long a2)] := hl
  unfold f_ma_min_JJ at h
  refine lv_lload_n hx hb d_ma_min_JJ_0 rfl (lv_at hl 0 rfl) ?_
  refine lv_lload_n hx hb d_ma_min_JJ_1 rfl (lv_at hl 1 rfl) ?_
  refine lc_gt (tgt := 10) hx hb d_ma_min_JJ_2 d_ma_min_JJ_3 (by decide) (fun c1 => ?_) (fun c1 => ?_)
  · rw [if_pos c1] at h
    refine lv_lload_n hx hb d_ma_min_JJ_10 rfl (lv_at hl 1 rfl) ?_
    exact j_ma_min_JJ_11 C a2 w h _ _ _ hW (lv_sub hl [] rfl)
  · rw [if_neg c1] at h
    refine lv_lload_n hx hb d_ma_min_JJ_6 rfl (lv_at hl 0 rfl) ?_
    refine lv_goto (tgt := 11) hx hb d_ma_min_JJ_7 (by decide) ?_
    exact j_ma_min_JJ_11 C a0 w h _ _ _ hW (lv_sub hl [] rfl)
abbrev b_ma_max_JJ : ByteArray := prog_18_method_66_code
def y_ma_max_JJ : MethodName := ⟨"java/lang/Math", "max", "(JJ)J"⟩
def rm_ma_max_JJ : Room := { frames := 0, cells := 0, slots := 0, locals := 0 }
theorem d_ma_max_JJ_0 : decode b_ma_max_JJ 0 = .ok (.lload_n 0, 1) := by decide +kernel
theorem d_ma_max_JJ_1 : decode b_ma_max_JJ 1 = .ok (.lload_n 2, 1) := by decide +kernel
theorem d_ma_max_JJ_2 : decode b_ma_max_JJ 2 = .ok (.lcmp, 1) := by decide +kernel
theorem d_ma_max_JJ_3 : decode b_ma_max_JJ 3 = .ok (.ifCond .lt (7), 3) := by decide +kernel
theorem d_ma_max_JJ_6 : decode b_ma_max_JJ 6 = .ok (.lload_n 0, 1) := by decide +kernel
theorem d_ma_max_JJ_7 : decode b_ma_max_JJ 7 = .ok (.goto (4), 3) := by decide +kernel
theorem d_ma_max_JJ_10 : decode b_ma_max_JJ 10 = .ok (.lload_n 2, 1) := by decide +kernel
theorem d_ma_max_JJ_11 : decode b_ma_max_JJ 11 = .ok (.lreturn, 1) := by decide +kernel
set_option maxHeartbeats 4000000 in
set_option maxRecDepth 100000 in
theorem j_ma_max_JJ_11 {p : Program} {l : Launch} {e : Env} {s : State} {m : MethodId} {args : Array Value} {below : List Frame} {meth : Method} {c : Code} {D : va_G} {cA : Nat → ClassId} {base : Nat} {r : Int64} {w' : WW} (C : cx b_ma_max_JJ (some .long) 4 y_ma_max_JJ.cls "max" p s m args meth c D cA base)   : ∀ (z0 : Int64) (w : WW), f_ma_max_JJ_11 z0 w = some (r, w') → ∀ (H : Heap) (locs : List Loc) (ls : Array Slot), wo_S D cls cA base s w H locs → lv_has ls 4 [] → W p l e rm_ma_max_JJ s m args below meth c H locs 0 0 (MQ below (wo_Q D cls cA base (some (.long r)) w') args s rm_ma_max_JJ.cells rm_ma_max_JJ.slots (wo_B base)) (F0 m 11 ls [.long z0]) := by
  obtain ⟨hx, hb, hr, hml, hown, hts, hlk, hnm, hK, hG⟩ := id C
  intro z0 w h H locs ls hW hl
  unfold f_ma_max_JJ_11 at h
  cases h
  exact wo_lret hx hb hr hlk hW d_ma_max_JJ_11
set_option maxHeartbeats 4000000 in
set_option maxRecDepth 100000 in
theorem c_ma_max_JJ (l : Launch) (D : va_G) (cA : Nat → ClassId) (base : Nat) {a0 : Int64} {a2 : Int64} {w w' : WW} {r : Int64} (h : f_ma_max_JJ a0 a2 w = some (r, w')) : mt l D cls (wo_tys cA) cA base y_ma_max_JJ (Cond.code y_ma_max_JJ b_ma_max_JJ 4 (some .long) :: gt) rm_ma_max_JJ [.long a0, .long a2] w (some (.long r)) w' rm_ma_max_JJ.cells rm_ma_max_JJ.slots := by
  refine mt_startF (by decide +kernel) (Nat.le_of_ble_eq_true rfl) ?_
  intro p e s m below meth c ls hx hb hr hml hown hts hlk hnm hK hG hW hl
  have C : cx b_ma_max_JJ (some .long) 4 y_ma_max_JJ.cls "max" p s m [.long a0, .long a2].toArray meth c D cA base := ⟨hx, hb, hr, hml, hown, hts, hlk, hnm, hK, hG⟩
  have hl : lv_has ls 4 [(0, .long a0), (2, .long a2)] := hl
  unfold f_ma_max_JJ at h
  refine lv_lload_n hx hb d_ma_max_JJ_0 rfl (lv_at hl 0 rfl) ?_
  refine lv_lload_n hx hb d_ma_max_JJ_1 rfl (lv_at hl 1 rfl) ?_
  refine lc_lt (tgt := 10) hx hb d_ma_max_JJ_2 d_ma_max_JJ_3 (by decide) (fun c1 => ?_) (fun c1 => ?_)
  · rw [if_pos c1] at h
    refine lv_lload_n hx hb d_ma_max_JJ_10 rfl (lv_at hl 1 rfl) ?_
    exact j_ma_max_JJ_11 C a2 w h _ _ _ hW (lv_sub hl [] rfl)
  · rw [if_neg c1] at h
    refine lv_lload_n hx hb d_ma_max_JJ_6 rfl (lv_at hl 0 rfl) ?_
    refine lv_goto (tgt := 11) hx hb d_ma_max_JJ_7 (by decide) ?_
    exact j_ma_max_JJ_11 C a0 w h _ _ _ hW (lv_sub hl [] rfl)
abbrev b_ma_abs : ByteArray := prog_18_method_61_code
def y_ma_abs : MethodName := ⟨"java/lang/Math", "abs", "(J)J"⟩
def rm_ma_abs : Room := { frames := 0, cells := 0, slots := 0, locals := 0 }
theorem d_ma_abs_0 : decode b_ma_abs 0 = .ok (.lload_n 0, 1) := by decide +kernel
theorem d_ma_abs_1 : decode b_ma_abs 1 = .ok (.lconst 0, 1) := by decide +kernel
theorem d_ma_abs_2 : decode b_ma_abs 2 = .ok (.lcmp, 1) := by decide +kernel
theorem d_ma_abs_3 : decode b_ma_abs 3 = .ok (.ifCond .ge (8), 3) := by decide +kernel
theorem d_ma_abs_6 : decode b_ma_abs 6 = .ok (.lload_n 0, 1) := by decide +kernel
theorem d_ma_abs_7 : decode b_ma_abs 7 = .ok (.lneg, 1) := by decide +kernel
theorem d_ma_abs_8 : decode b_ma_abs 8 = .ok (.goto (4), 3) := by decide +kernel
theorem d_ma_abs_11 : decode b_ma_abs 11 = .ok (.lload_n 0, 1) := by decide +kernel
theorem d_ma_abs_12 : decode b_ma_abs 12 = .ok (.lreturn, 1) := by decide +kernel
set_option maxHeartbeats 4000000 in
set_option maxRecDepth 100000 in
theorem j_ma_abs_12 {p : Program} {l : Launch} {e : Env} {s : State} {m : MethodId} {args : Array Value} {below : List Frame} {meth : Method} {c : Code} {D : va_G} {cA : Nat → ClassId} {base : Nat} {r : Int64} {w' : WW} (C : cx b_ma_abs (some .long) 2 y_ma_abs.cls "abs" p s m args meth c D cA base)   : ∀ (z0 : Int64) (w : WW), f_ma_abs_12 z0 w = some (r, w') → ∀ (H : Heap) (locs : List Loc) (ls : Array Slot), wo_S D cls cA base s w H locs → lv_has ls 2 [] → W p l e rm_ma_abs s m args below meth c H locs 0 0 (MQ below (wo_Q D cls cA base (some (.long r)) w') args s rm_ma_abs.cells rm_ma_abs.slots (wo_B base)) (F0 m 12 ls [.long z0]) := by
  obtain ⟨hx, hb, hr, hml, hown, hts, hlk, hnm, hK, hG⟩ := id C
  intro z0 w h H locs ls hW hl
  unfold f_ma_abs_12 at h
  cases h
  exact wo_lret hx hb hr hlk hW d_ma_abs_12
set_option maxHeartbeats 4000000 in
set_option maxRecDepth 100000 in
theorem c_ma_abs (l : Launch) (D : va_G) (cA : Nat → ClassId) (base : Nat) {a0 : Int64} {w w' : WW} {r : Int64} (h : f_ma_abs a0 w = some (r, w')) : mt l D cls (wo_tys cA) cA base y_ma_abs (Cond.code y_ma_abs b_ma_abs 2 (some .long) :: gt) rm_ma_abs [.long a0] w (some (.long r)) w' rm_ma_abs.cells rm_ma_abs.slots := by
  refine mt_startF (by decide +kernel) (Nat.le_of_ble_eq_true rfl) ?_
  intro p e s m below meth c ls hx hb hr hml hown hts hlk hnm hK hG hW hl
  have C : cx b_ma_abs (some .long) 2 y_ma_abs.cls "abs" p s m [.long a0].toArray meth c D cA base := ⟨hx, hb, hr, hml, hown, hts, hlk, hnm, hK, hG⟩
  have hl : lv_has ls 2 [(0, .long a0)] := hl
  unfold f_ma_abs at h
  refine lv_lload_n hx hb d_ma_abs_0 rfl (lv_at hl 0 rfl) ?_
  refine lv_lconst (v := (0 : Int64)) hx hb d_ma_abs_1 (by decide) ?_
  refine lc_ge (tgt := 11) hx hb d_ma_abs_2 d_ma_abs_3 (by decide) (fun c1 => ?_) (fun c1 => ?_)
  · rw [if_pos c1] at h
    refine lv_lload_n hx hb d_ma_abs_11 rfl (lv_at hl 0 rfl) ?_
    exact j_ma_abs_12 C a0 w h _ _ _ hW (lv_sub hl [] rfl)
  · rw [if_neg c1] at h
    refine lv_lload_n hx hb d_ma_abs_6 rfl (lv_at hl 0 rfl) ?_
    refine lv_lneg hx hb d_ma_abs_7 ?_
    refine lv_goto (tgt := 12) hx hb d_ma_abs_8 (by decide) ?_
    exact j_ma_abs_12 C (-a0) w h _ _ _ hW (lv_sub hl [] rfl)
theorem cs_va_40 {p : Program} {l : Launch} {e : Env} {R : Room} {s : State} {m : MethodId} {args : Array Value} {below : List Frame} {meth : Method} {c : Code} {H : Heap} {locs : List Loc} {cells slots : Nat} {Q : State → Prop} {D : va_G} {cA : Nat → ClassId} {base : Nat} {w w' : WW} {cc : ByteArray} {pc nL : Nat} {ls : Array Slot} {rest st0 As : List Value} {ov : Option Value} (hx : p.tables.exec = Jvm.exec) (hb : c.code = cc) (hml : c.maxLocals = nL) (hown : s.vm.findClass Rc_va = some m.cls) (hts : ∀ w ∈ gt, w.before args s = true) (hK : va_K D cls (wo_tys cA) s) (hG : wo_G cA base s) (hW : wo_S D cls cA base s w H locs) (hM : mt l D cls (wo_tys cA) cA base y_ma_abs (Cond.code y_ma_abs b_ma_abs 2 (some .long) :: gt) rm_ma_abs (As) w ov w' rm_ma_abs.cells rm_ma_abs.slots) (hR : rm_ma_abs.frames + 1 ≤ R.frames ∧ 8 + (2 + 11) + rm_ma_abs.locals ≤ R.locals) (hf : cells + rm_ma_abs.cells ≤ R.cells ∧ slots + rm_ma_abs.slots ≤ R.slots) (hn : As.length = 1) (hsz : ls.size = nL) (hst : st0 = As.reverse ++ rest) (hcat : (rest.map fun v => v.category).sum ≤ 8) (hdg : decode cc pc = .ok (.invokestatic 40, 3)) (kk : ∀ (H1 : Heap) (locs1 : List Loc), wo_S D cls cA base s w' H1 locs1 → W p l e R s m args below meth c H1 locs1 (cells + rm_ma_abs.cells) (slots + rm_ma_abs.slots) Q (F0 m (pc + 3) ls (ov.toList ++ rest))) : W p l e R s m args below meth c H locs cells slots Q (F0 m pc ls st0) :=
  wo_callS hx hb hml hown hts hK hG hW hM (gt_of (i := 962) (by decide +kernel) (by decide +kernel)) (gt_of (i := 963) (by decide +kernel) (by decide +kernel)) (gt_of (i := 20) (by decide +kernel) (by decide +kernel)) (gt_of (i := 964) (by decide +kernel) (by decide +kernel)) (by decide +kernel) hR hf hn hsz hst hcat hdg kk
abbrev b_va_commonDivisor : ByteArray := prog_9_method_11_code
def y_va_commonDivisor : MethodName := ⟨"AlarmForge$Value", "commonDivisor", "(JJ)J"⟩
def rm_va_commonDivisor : Room := { frames := 1, cells := 0, slots := 0, locals := 21 }
theorem d_va_commonDivisor_0 : decode b_va_commonDivisor 0 = .ok (.lload_n 0, 1) := by decide +kernel
theorem d_va_commonDivisor_1 : decode b_va_commonDivisor 1 = .ok (.invokestatic 40, 3) := by decide +kernel
theorem d_va_commonDivisor_4 : decode b_va_commonDivisor 4 = .ok (.lstore 4, 2) := by decide +kernel
theorem d_va_commonDivisor_6 : decode b_va_commonDivisor 6 = .ok (.lload_n 2, 1) := by decide +kernel
theorem d_va_commonDivisor_7 : decode b_va_commonDivisor 7 = .ok (.invokestatic 40, 3) := by decide +kernel
theorem d_va_commonDivisor_10 : decode b_va_commonDivisor 10 = .ok (.lstore 6, 2) := by decide +kernel
theorem d_va_commonDivisor_12 : decode b_va_commonDivisor 12 = .ok (.iconst 0, 1) := by decide +kernel
theorem d_va_commonDivisor_13 : decode b_va_commonDivisor 13 = .ok (.istore 8, 2) := by decide +kernel
theorem d_va_commonDivisor_15 : decode b_va_commonDivisor 15 = .ok (.iload 8, 2) := by decide +kernel
theorem d_va_commonDivisor_17 : decode b_va_commonDivisor 17 = .ok (.bipush (100), 2) := by decide +kernel
theorem d_va_commonDivisor_19 : decode b_va_commonDivisor 19 = .ok (.if_icmp .ge (31), 3) := by decide +kernel
theorem d_va_commonDivisor_22 : decode b_va_commonDivisor 22 = .ok (.lload 6, 2) := by decide +kernel
theorem d_va_commonDivisor_24 : decode b_va_commonDivisor 24 = .ok (.lconst 0, 1) := by decide +kernel
theorem d_va_commonDivisor_25 : decode b_va_commonDivisor 25 = .ok (.lcmp, 1) := by decide +kernel
theorem d_va_commonDivisor_26 : decode b_va_commonDivisor 26 = .ok (.ifCond .eq (24), 3) := by decide +kernel
theorem d_va_commonDivisor_29 : decode b_va_commonDivisor 29 = .ok (.lload 4, 2) := by decide +kernel
theorem d_va_commonDivisor_31 : decode b_va_commonDivisor 31 = .ok (.lload 6, 2) := by decide +kernel
theorem d_va_commonDivisor_33 : decode b_va_commonDivisor 33 = .ok (.lrem, 1) := by decide +kernel
theorem d_va_commonDivisor_34 : decode b_va_commonDivisor 34 = .ok (.lstore 9, 2) := by decide +kernel
theorem d_va_commonDivisor_36 : decode b_va_commonDivisor 36 = .ok (.lload 6, 2) := by decide +kernel
theorem d_va_commonDivisor_38 : decode b_va_commonDivisor 38 = .ok (.lstore 4, 2) := by decide +kernel
theorem d_va_commonDivisor_40 : decode b_va_commonDivisor 40 = .ok (.lload 9, 2) := by decide +kernel
theorem d_va_commonDivisor_42 : decode b_va_commonDivisor 42 = .ok (.lstore 6, 2) := by decide +kernel
theorem d_va_commonDivisor_44 : decode b_va_commonDivisor 44 = .ok (.iinc 8 (1), 3) := by decide +kernel
theorem d_va_commonDivisor_47 : decode b_va_commonDivisor 47 = .ok (.goto (-32), 3) := by decide +kernel
theorem d_va_commonDivisor_50 : decode b_va_commonDivisor 50 = .ok (.lload 4, 2) := by decide +kernel
theorem d_va_commonDivisor_52 : decode b_va_commonDivisor 52 = .ok (.lreturn, 1) := by decide +kernel
set_option maxHeartbeats 4000000 in
set_option maxRecDepth 100000 in
theorem j_va_commonDivisor_50 {p : Program} {l : Launch} {e : Env} {s : State} {m : MethodId} {args : Array Value} {below : List Frame} {meth : Method} {c : Code} {D : va_G} {cA : Nat → ClassId} {base : Nat} {r : Int64} {w' : WW} (C : cx b_va_commonDivisor (some .long) 11 y_va_commonDivisor.cls "commonDivisor" p s m args meth c D cA base)   : ∀ (y4 : Int64) (w : WW), f_va_commonDivisor_50 y4 w = some (r, w') → ∀ (H : Heap) (locs : List Loc) (ls : Array Slot), wo_S D cls cA base s w H locs → lv_has ls 11 [(4, .long y4)] → W p l e rm_va_commonDivisor s m args below meth c H locs 0 0 (MQ below (wo_Q D cls cA base (some (.long r)) w') args s rm_va_commonDivisor.cells rm_va_commonDivisor.slots (wo_B base)) (F0 m 50 ls []) := by
  obtain ⟨hx, hb, hr, hml, hown, hts, hlk, hnm, hK, hG⟩ := id C
  intro y4 w h H locs ls hW hl
  unfold f_va_commonDivisor_50 at h
  refine lv_lload hx hb d_va_commonDivisor_50 (lv_at hl 0 rfl) ?_
  cases h
  exact wo_lret hx hb hr hlk hW d_va_commonDivisor_52
set_option maxHeartbeats 4000000 in
set_option maxRecDepth 100000 in
theorem j_va_commonDivisor_15 {p : Program} {l : Launch} {e : Env} {s : State} {m : MethodId} {args : Array Value} {below : List Frame} {meth : Method} {c : Code} {D : va_G} {cA : Nat → ClassId} {base : Nat} {r : Int64} {w' : WW} (C : cx b_va_commonDivisor (some .long) 11 y_va_commonDivisor.cls "commonDivisor" p s m args meth c D cA base)   : ∀ n : Nat, ∀ (y4 : Int64) (y6 : Int64) (y8 : Int32) (w : WW), f_va_commonDivisor_15 n y4 y6 y8 w = some (r, w') → ∀ (H : Heap) (locs : List Loc) (ls : Array Slot), wo_S D cls cA base s w H locs → lv_has ls 11 [(4, .long y4), (6, .long y6), (8, .int y8)] → W p l e rm_va_commonDivisor s m args below meth c H locs 0 0 (MQ below (wo_Q D cls cA base (some (.long r)) w') args s rm_va_commonDivisor.cells rm_va_commonDivisor.slots (wo_B base)) (F0 m 15 ls []) := by
  obtain ⟨hx, hb, hr, hml, hown, hts, hlk, hnm, hK, hG⟩ := id C
  intro n
  induction n with
  | zero => intro y4 y6 y8 w h; cases h
  | succ n ih =>
    intro y4 y6 y8 w h H locs ls hW hl
    rw [f_va_commonDivisor_15] at h
    refine lv_iload hx hb d_va_commonDivisor_15 (lv_at hl 2 rfl) ?_
    refine lv_bipush (v := (100 : Int32)) hx hb d_va_commonDivisor_17 (by decide) ?_
    refine lv_icmp_ge (tgt := 50) hx hb d_va_commonDivisor_19 (by decide) (fun c5 => ?_) (fun c5 => ?_)
    · rw [if_pos c5] at h
      exact j_va_commonDivisor_50 C y4 w h _ _ _ hW (lv_sub hl [0] rfl)
    · rw [if_neg c5] at h
      refine lv_lload hx hb d_va_commonDivisor_22 (lv_at hl 1 rfl) ?_
      refine lv_lconst (v := (0 : Int64)) hx hb d_va_commonDivisor_24 (by decide) ?_
      refine lc_eq (tgt := 50) hx hb d_va_commonDivisor_25 d_va_commonDivisor_26 (by decide) (fun c6 => ?_) (fun c6 => ?_)
      · rw [if_pos c6] at h
        exact j_va_commonDivisor_50 C y4 w h _ _ _ hW (lv_sub hl [0] rfl)
      · rw [if_neg c6] at h
        refine lv_lload hx hb d_va_commonDivisor_29 (lv_at hl 0 rfl) ?_
        refine lv_lload hx hb d_va_commonDivisor_31 (lv_at hl 1 rfl) ?_
        replace h := its h
        obtain ⟨c7, h⟩ := h
        refine lv_lrem hx hb d_va_commonDivisor_33 c7 ?_
        refine lv_lstore (lv' := [(9, .long (y4 - y4 / y6 * y6)), (4, .long y4), (6, .long y6), (8, .int y8)]) hx hb d_va_commonDivisor_34 hl (by decide) rfl (fun ls hl => ?_)
        refine lv_lload hx hb d_va_commonDivisor_36 (lv_at hl 2 rfl) ?_
        refine lv_lstore (lv' := [(4, .long y6), (9, .long (y4 - y4 / y6 * y6)), (6, .long y6), (8, .int y8)]) hx hb d_va_commonDivisor_38 hl (by decide) rfl (fun ls hl => ?_)
        refine lv_lload hx hb d_va_commonDivisor_40 (lv_at hl 1 rfl) ?_
        refine lv_lstore (lv' := [(6, .long (y4 - y4 / y6 * y6)), (4, .long y6), (9, .long (y4 - y4 / y6 * y6)), (8, .int y8)]) hx hb d_va_commonDivisor_42 hl (by decide) rfl (fun ls hl => ?_)
        refine lv_iinc (v := (y8 + (1 : Int32))) (lv' := [(8, .int (y8 + (1 : Int32))), (6, .long (y4 - y4 / y6 * y6)), (4, .long y6), (9, .long (y4 - y4 / y6 * y6))]) hx hb d_va_commonDivisor_44 hl (k := 3) rfl rfl (by decide) rfl (fun ls hl => ?_)
        refine lv_goto (tgt := 15) hx hb d_va_commonDivisor_47 (by decide) ?_
        exact ih y6 (y4 - y4 / y6 * y6) (y8 + (1 : Int32)) w h _ _ _ hW (lv_sub hl [2, 1, 0] rfl)
set_option maxHeartbeats 4000000 in
set_option maxRecDepth 100000 in
theorem c_va_commonDivisor (l : Launch) (D : va_G) (cA : Nat → ClassId) (base : Nat) {a0 : Int64} {a2 : Int64} {w w' : WW} {r : Int64} (h : f_va_commonDivisor a0 a2 w = some (r, w')) : mt l D cls (wo_tys cA) cA base y_va_commonDivisor (Cond.code y_va_commonDivisor b_va_commonDivisor 11 (some .long) :: gt) rm_va_commonDivisor [.long a0, .long a2] w (some (.long r)) w' rm_va_commonDivisor.cells rm_va_commonDivisor.slots := by
  refine mt_start (by decide) (Nat.le_of_ble_eq_true rfl) ?_
  intro p e s m below meth c ls hx hb hr hml hown hts hlk hnm hK hG hW hl
  have C : cx b_va_commonDivisor (some .long) 11 y_va_commonDivisor.cls "commonDivisor" p s m [.long a0, .long a2].toArray meth c D cA base := ⟨hx, hb, hr, hml, hown, hts, hlk, hnm, hK, hG⟩
  have hl : lv_has ls 11 [(0, .long a0), (2, .long a2)] := hl
  unfold f_va_commonDivisor at h
  refine lv_lload_n hx hb d_va_commonDivisor_0 rfl (lv_at hl 0 rfl) ?_
  replace h := bs2 h
  obtain ⟨x2, w1, hw1, h⟩ := h
  refine cs_va_40 (As := [.long a0]) (rest := []) hx hb hml hown hts hK hG hW (c_ma_abs l D cA base hw1) ⟨Nat.le_of_ble_eq_true rfl, Nat.le_of_ble_eq_true rfl⟩ ⟨Nat.le_of_ble_eq_true rfl, Nat.le_of_ble_eq_true rfl⟩ rfl hl.1 rfl (Nat.le_of_ble_eq_true rfl) d_va_commonDivisor_1 (fun H locs hW => ?_)
  refine lv_lstore (lv' := [(4, .long x2), (0, .long a0), (2, .long a2)]) hx hb d_va_commonDivisor_4 hl (by decide) rfl (fun ls hl => ?_)
  refine lv_lload_n hx hb d_va_commonDivisor_6 rfl (lv_at hl 2 rfl) ?_
  replace h := bs2 h
  obtain ⟨x4, w3, hw3, h⟩ := h
  refine cs_va_40 (As := [.long a2]) (rest := []) hx hb hml hown hts hK hG hW (c_ma_abs l D cA base hw3) ⟨Nat.le_of_ble_eq_true rfl, Nat.le_of_ble_eq_true rfl⟩ ⟨Nat.le_of_ble_eq_true rfl, Nat.le_of_ble_eq_true rfl⟩ rfl hl.1 rfl (Nat.le_of_ble_eq_true rfl) d_va_commonDivisor_7 (fun H locs hW => ?_)
  refine lv_lstore (lv' := [(6, .long x4), (4, .long x2), (0, .long a0), (2, .long a2)]) hx hb d_va_commonDivisor_10 hl (by decide) rfl (fun ls hl => ?_)
  refine lv_iconst (v := (0 : Int32)) hx hb d_va_commonDivisor_12 (by decide) ?_
  refine lv_istore (lv' := [(8, .int (0 : Int32)), (6, .long x4), (4, .long x2), (0, .long a0), (2, .long a2)]) hx hb d_va_commonDivisor_13 hl (by decide) rfl (fun ls hl => ?_)
  exact j_va_commonDivisor_15 C KK x2 x4 (0 : Int32) w3 h _ _ _ hW (lv_sub hl [2, 1, 0] rfl)
abbrev b_va_restBy : ByteArray := prog_9_method_10_code
def y_va_restBy : MethodName := ⟨"AlarmForge$Value", "restBy", "(JJ)J"⟩
def rm_va_restBy : Room := { frames := 1, cells := 0, slots := 0, locals := 25 }
theorem d_va_restBy_0 : decode b_va_restBy 0 = .ok (.lload_n 2, 1) := by decide +kernel
theorem d_va_restBy_1 : decode b_va_restBy 1 = .ok (.lconst 0, 1) := by decide +kernel
theorem d_va_restBy_2 : decode b_va_restBy 2 = .ok (.lcmp, 1) := by decide +kernel
theorem d_va_restBy_3 : decode b_va_restBy 3 = .ok (.ifCond .ne (7), 3) := by decide +kernel
theorem d_va_restBy_6 : decode b_va_restBy 6 = .ok (.lload_n 0, 1) := by decide +kernel
theorem d_va_restBy_7 : decode b_va_restBy 7 = .ok (.goto (8), 3) := by decide +kernel
theorem d_va_restBy_10 : decode b_va_restBy 10 = .ok (.lload_n 0, 1) := by decide +kernel
theorem d_va_restBy_11 : decode b_va_restBy 11 = .ok (.lload_n 2, 1) := by decide +kernel
theorem d_va_restBy_12 : decode b_va_restBy 12 = .ok (.invokestatic 32, 3) := by decide +kernel
theorem d_va_restBy_15 : decode b_va_restBy 15 = .ok (.lreturn, 1) := by decide +kernel
set_option maxHeartbeats 4000000 in
set_option maxRecDepth 100000 in
theorem j_va_restBy_15 {p : Program} {l : Launch} {e : Env} {s : State} {m : MethodId} {args : Array Value} {below : List Frame} {meth : Method} {c : Code} {D : va_G} {cA : Nat → ClassId} {base : Nat} {r : Int64} {w' : WW} (C : cx b_va_restBy (some .long) 4 y_va_restBy.cls "restBy" p s m args meth c D cA base)   : ∀ (z0 : Int64) (w : WW), f_va_restBy_15 z0 w = some (r, w') → ∀ (H : Heap) (locs : List Loc) (ls : Array Slot), wo_S D cls cA base s w H locs → lv_has ls 4 [] → W p l e rm_va_restBy s m args below meth c H locs 0 0 (MQ below (wo_Q D cls cA base (some (.long r)) w') args s rm_va_restBy.cells rm_va_restBy.slots (wo_B base)) (F0 m 15 ls [.long z0]) := by
  obtain ⟨hx, hb, hr, hml, hown, hts, hlk, hnm, hK, hG⟩ := id C
  intro z0 w h H locs ls hW hl
  unfold f_va_restBy_15 at h
  cases h
  exact wo_lret hx hb hr hlk hW d_va_restBy_15
set_option maxHeartbeats 4000000 in
set_option maxRecDepth 100000 in
theorem c_va_restBy (l : Launch) (D : va_G) (cA : Nat → ClassId) (base : Nat) {a0 : Int64} {a2 : Int64} {w w' : WW} {r : Int64} (h : f_va_restBy a0 a2 w = some (r, w')) : mt l D cls (wo_tys cA) cA base y_va_restBy (Cond.code y_va_restBy b_va_restBy 4 (some .long) :: gt) rm_va_restBy [.long a0, .long a2] w (some (.long r)) w' rm_va_restBy.cells rm_va_restBy.slots := by
  refine mt_start (by decide) (Nat.le_of_ble_eq_true rfl) ?_
  intro p e s m below meth c ls hx hb hr hml hown hts hlk hnm hK hG hW hl
  have C : cx b_va_restBy (some .long) 4 y_va_restBy.cls "restBy" p s m [.long a0, .long a2].toArray meth c D cA base := ⟨hx, hb, hr, hml, hown, hts, hlk, hnm, hK, hG⟩
  have hl : lv_has ls 4 [(0, .long a0), (2, .long a2)] := hl
  unfold f_va_restBy at h
  refine lv_lload_n hx hb d_va_restBy_0 rfl (lv_at hl 1 rfl) ?_
  refine lv_lconst (v := (0 : Int64)) hx hb d_va_restBy_1 (by decide) ?_
  refine lc_ne (tgt := 10) hx hb d_va_restBy_2 d_va_restBy_3 (by decide) (fun c1 => ?_) (fun c1 => ?_)
  · rw [if_neg c1] at h
    refine lv_lload_n hx hb d_va_restBy_10 rfl (lv_at hl 0 rfl) ?_
    refine lv_lload_n hx hb d_va_restBy_11 rfl (lv_at hl 1 rfl) ?_
    replace h := bs2 h
    obtain ⟨x3, w2, hw2, h⟩ := h
    refine cs_va_32 (As := [.long a0, .long a2]) (rest := []) hx hb hml hown hts hK hG hW (c_ma_floorMod l D cA base hw2) ⟨Nat.le_of_ble_eq_true rfl, Nat.le_of_ble_eq_true rfl⟩ ⟨Nat.le_of_ble_eq_true rfl, Nat.le_of_ble_eq_true rfl⟩ rfl hl.1 rfl (Nat.le_of_ble_eq_true rfl) d_va_restBy_12 (fun H locs hW => ?_)
    exact j_va_restBy_15 C x3 w2 h _ _ _ hW (lv_sub hl [] rfl)
  · rw [if_pos c1] at h
    refine lv_lload_n hx hb d_va_restBy_6 rfl (lv_at hl 0 rfl) ?_
    refine lv_goto (tgt := 15) hx hb d_va_restBy_7 (by decide) ?_
    exact j_va_restBy_15 C a0 w h _ _ _ hW (lv_sub hl [] rfl)
theorem cs_va_44 {p : Program} {l : Launch} {e : Env} {R : Room} {s : State} {m : MethodId} {args : Array Value} {below : List Frame} {meth : Method} {c : Code} {H : Heap} {locs : List Loc} {cells slots : Nat} {Q : State → Prop} {D : va_G} {cA : Nat → ClassId} {base : Nat} {w w' : WW} {cc : ByteArray} {pc nL : Nat} {ls : Array Slot} {rest st0 As : List Value} {ov : Option Value} (hx : p.tables.exec = Jvm.exec) (hb : c.code = cc) (hml : c.maxLocals = nL) (hown : s.vm.findClass Rc_va = some m.cls) (hts : ∀ w ∈ gt, w.before args s = true) (hK : va_K D cls (wo_tys cA) s) (hG : wo_G cA base s) (hW : wo_S D cls cA base s w H locs) (hM : mt l D cls (wo_tys cA) cA base y_ma_max_JJ (Cond.code y_ma_max_JJ b_ma_max_JJ 4 (some .long) :: gt) rm_ma_max_JJ (As) w ov w' rm_ma_max_JJ.cells rm_ma_max_JJ.slots) (hR : rm_ma_max_JJ.frames + 1 ≤ R.frames ∧ 8 + (4 + 11) + rm_ma_max_JJ.locals ≤ R.locals) (hf : cells + rm_ma_max_JJ.cells ≤ R.cells ∧ slots + rm_ma_max_JJ.slots ≤ R.slots) (hn : As.length = 2) (hsz : ls.size = nL) (hst : st0 = As.reverse ++ rest) (hcat : (rest.map fun v => v.category).sum ≤ 8) (hdg : decode cc pc = .ok (.invokestatic 44, 3)) (kk : ∀ (H1 : Heap) (locs1 : List Loc), wo_S D cls cA base s w' H1 locs1 → W p l e R s m args below meth c H1 locs1 (cells + rm_ma_max_JJ.cells) (slots + rm_ma_max_JJ.slots) Q (F0 m (pc + 3) ls (ov.toList ++ rest))) : W p l e R s m args below meth c H locs cells slots Q (F0 m pc ls st0) :=
  wo_callS hx hb hml hown hts hK hG hW hM (gt_of (i := 956) (by decide +kernel) (by decide +kernel)) (gt_of (i := 957) (by decide +kernel) (by decide +kernel)) (gt_of (i := 20) (by decide +kernel) (by decide +kernel)) (gt_of (i := 958) (by decide +kernel) (by decide +kernel)) (by decide +kernel) hR hf hn hsz hst hcat hdg kk
theorem cs_va_47 {p : Program} {l : Launch} {e : Env} {R : Room} {s : State} {m : MethodId} {args : Array Value} {below : List Frame} {meth : Method} {c : Code} {H : Heap} {locs : List Loc} {cells slots : Nat} {Q : State → Prop} {D : va_G} {cA : Nat → ClassId} {base : Nat} {w w' : WW} {cc : ByteArray} {pc nL : Nat} {ls : Array Slot} {rest st0 As : List Value} {ov : Option Value} (hx : p.tables.exec = Jvm.exec) (hb : c.code = cc) (hml : c.maxLocals = nL) (hown : s.vm.findClass Rc_va = some m.cls) (hts : ∀ w ∈ gt, w.before args s = true) (hK : va_K D cls (wo_tys cA) s) (hG : wo_G cA base s) (hW : wo_S D cls cA base s w H locs) (hM : mt l D cls (wo_tys cA) cA base y_ma_min_JJ (Cond.code y_ma_min_JJ b_ma_min_JJ 4 (some .long) :: gt) rm_ma_min_JJ (As) w ov w' rm_ma_min_JJ.cells rm_ma_min_JJ.slots) (hR : rm_ma_min_JJ.frames + 1 ≤ R.frames ∧ 8 + (4 + 11) + rm_ma_min_JJ.locals ≤ R.locals) (hf : cells + rm_ma_min_JJ.cells ≤ R.cells ∧ slots + rm_ma_min_JJ.slots ≤ R.slots) (hn : As.length = 2) (hsz : ls.size = nL) (hst : st0 = As.reverse ++ rest) (hcat : (rest.map fun v => v.category).sum ≤ 8) (hdg : decode cc pc = .ok (.invokestatic 47, 3)) (kk : ∀ (H1 : Heap) (locs1 : List Loc), wo_S D cls cA base s w' H1 locs1 → W p l e R s m args below meth c H1 locs1 (cells + rm_ma_min_JJ.cells) (slots + rm_ma_min_JJ.slots) Q (F0 m (pc + 3) ls (ov.toList ++ rest))) : W p l e R s m args below meth c H locs cells slots Q (F0 m pc ls st0) :=
  wo_callS hx hb hml hown hts hK hG hW hM (gt_of (i := 953) (by decide +kernel) (by decide +kernel)) (gt_of (i := 954) (by decide +kernel) (by decide +kernel)) (gt_of (i := 20) (by decide +kernel) (by decide +kernel)) (gt_of (i := 955) (by decide +kernel) (by decide +kernel)) (by decide +kernel) hR hf hn hsz hst hcat hdg kk
abbrev b_va_putTight : ByteArray := prog_9_method_12_code
def y_va_putTight : MethodName := ⟨"AlarmForge$Value", "putTight", "()Z"⟩
def rm_va_putTight : Room := { frames := 1, cells := 0, slots := 0, locals := 25 }
theorem d_va_putTight_0 : decode b_va_putTight 0 = .ok (.aload_n 0, 1) := by decide +kernel
theorem d_va_putTight_1 : decode b_va_putTight 1 = .ok (.getfield 15, 3) := by decide +kernel
theorem d_va_putTight_4 : decode b_va_putTight 4 = .ok (.ldc2_w 28, 3) := by decide +kernel
theorem d_va_putTight_7 : decode b_va_putTight 7 = .ok (.lcmp, 1) := by decide +kernel
theorem d_va_putTight_8 : decode b_va_putTight 8 = .ok (.ifCond .lt (14), 3) := by decide +kernel
theorem d_va_putTight_11 : decode b_va_putTight 11 = .ok (.aload_n 0, 1) := by decide +kernel
theorem d_va_putTight_12 : decode b_va_putTight 12 = .ok (.getfield 19, 3) := by decide +kernel
theorem d_va_putTight_15 : decode b_va_putTight 15 = .ok (.ldc2_w 30, 3) := by decide +kernel
theorem d_va_putTight_18 : decode b_va_putTight 18 = .ok (.lcmp, 1) := by decide +kernel
theorem d_va_putTight_19 : decode b_va_putTight 19 = .ok (.ifCond .le (7), 3) := by decide +kernel
theorem d_va_putTight_22 : decode b_va_putTight 22 = .ok (.iconst 1, 1) := by decide +kernel
theorem d_va_putTight_23 : decode b_va_putTight 23 = .ok (.goto (4), 3) := by decide +kernel
theorem d_va_putTight_26 : decode b_va_putTight 26 = .ok (.iconst 0, 1) := by decide +kernel
theorem d_va_putTight_27 : decode b_va_putTight 27 = .ok (.istore_n 1, 1) := by decide +kernel
theorem d_va_putTight_28 : decode b_va_putTight 28 = .ok (.aload_n 0, 1) := by decide +kernel
theorem d_va_putTight_29 : decode b_va_putTight 29 = .ok (.aload_n 0, 1) := by decide +kernel
theorem d_va_putTight_30 : decode b_va_putTight 30 = .ok (.getfield 15, 3) := by decide +kernel
theorem d_va_putTight_33 : decode b_va_putTight 33 = .ok (.ldc2_w 28, 3) := by decide +kernel
theorem d_va_putTight_36 : decode b_va_putTight 36 = .ok (.invokestatic 44, 3) := by decide +kernel
theorem d_va_putTight_39 : decode b_va_putTight 39 = .ok (.putfield 15, 3) := by decide +kernel
theorem d_va_putTight_42 : decode b_va_putTight 42 = .ok (.aload_n 0, 1) := by decide +kernel
theorem d_va_putTight_43 : decode b_va_putTight 43 = .ok (.aload_n 0, 1) := by decide +kernel
theorem d_va_putTight_44 : decode b_va_putTight 44 = .ok (.getfield 19, 3) := by decide +kernel
theorem d_va_putTight_47 : decode b_va_putTight 47 = .ok (.ldc2_w 30, 3) := by decide +kernel
theorem d_va_putTight_50 : decode b_va_putTight 50 = .ok (.invokestatic 47, 3) := by decide +kernel
theorem d_va_putTight_53 : decode b_va_putTight 53 = .ok (.putfield 19, 3) := by decide +kernel
theorem d_va_putTight_56 : decode b_va_putTight 56 = .ok (.aload_n 0, 1) := by decide +kernel
theorem d_va_putTight_57 : decode b_va_putTight 57 = .ok (.getfield 22, 3) := by decide +kernel
theorem d_va_putTight_60 : decode b_va_putTight 60 = .ok (.ldc2_w 50, 3) := by decide +kernel
theorem d_va_putTight_63 : decode b_va_putTight 63 = .ok (.lcmp, 1) := by decide +kernel
theorem d_va_putTight_64 : decode b_va_putTight 64 = .ok (.ifCond .le (13), 3) := by decide +kernel
theorem d_va_putTight_67 : decode b_va_putTight 67 = .ok (.aload_n 0, 1) := by decide +kernel
theorem d_va_putTight_68 : decode b_va_putTight 68 = .ok (.lconst 1, 1) := by decide +kernel
theorem d_va_putTight_69 : decode b_va_putTight 69 = .ok (.putfield 22, 3) := by decide +kernel
theorem d_va_putTight_72 : decode b_va_putTight 72 = .ok (.aload_n 0, 1) := by decide +kernel
theorem d_va_putTight_73 : decode b_va_putTight 73 = .ok (.lconst 0, 1) := by decide +kernel
theorem d_va_putTight_74 : decode b_va_putTight 74 = .ok (.putfield 25, 3) := by decide +kernel
theorem d_va_putTight_77 : decode b_va_putTight 77 = .ok (.aload_n 0, 1) := by decide +kernel
theorem d_va_putTight_78 : decode b_va_putTight 78 = .ok (.getfield 22, 3) := by decide +kernel
theorem d_va_putTight_81 : decode b_va_putTight 81 = .ok (.lconst 0, 1) := by decide +kernel
theorem d_va_putTight_82 : decode b_va_putTight 82 = .ok (.lcmp, 1) := by decide +kernel
theorem d_va_putTight_83 : decode b_va_putTight 83 = .ok (.ifCond .ne (61), 3) := by decide +kernel
theorem d_va_putTight_86 : decode b_va_putTight 86 = .ok (.aload_n 0, 1) := by decide +kernel
theorem d_va_putTight_87 : decode b_va_putTight 87 = .ok (.aload_n 0, 1) := by decide +kernel
theorem d_va_putTight_88 : decode b_va_putTight 88 = .ok (.getfield 9, 3) := by decide +kernel
theorem d_va_putTight_91 : decode b_va_putTight 91 = .ok (.ifCond .ne (27), 3) := by decide +kernel
theorem d_va_putTight_94 : decode b_va_putTight 94 = .ok (.aload_n 0, 1) := by decide +kernel
theorem d_va_putTight_95 : decode b_va_putTight 95 = .ok (.getfield 25, 3) := by decide +kernel
theorem d_va_putTight_98 : decode b_va_putTight 98 = .ok (.aload_n 0, 1) := by decide +kernel
theorem d_va_putTight_99 : decode b_va_putTight 99 = .ok (.getfield 15, 3) := by decide +kernel
theorem d_va_putTight_102 : decode b_va_putTight 102 = .ok (.lcmp, 1) := by decide +kernel
theorem d_va_putTight_103 : decode b_va_putTight 103 = .ok (.ifCond .lt (15), 3) := by decide +kernel
theorem d_va_putTight_106 : decode b_va_putTight 106 = .ok (.aload_n 0, 1) := by decide +kernel
theorem d_va_putTight_107 : decode b_va_putTight 107 = .ok (.getfield 25, 3) := by decide +kernel
theorem d_va_putTight_110 : decode b_va_putTight 110 = .ok (.aload_n 0, 1) := by decide +kernel
theorem d_va_putTight_111 : decode b_va_putTight 111 = .ok (.getfield 19, 3) := by decide +kernel
theorem d_va_putTight_114 : decode b_va_putTight 114 = .ok (.lcmp, 1) := by decide +kernel
theorem d_va_putTight_115 : decode b_va_putTight 115 = .ok (.ifCond .le (7), 3) := by decide +kernel
theorem d_va_putTight_118 : decode b_va_putTight 118 = .ok (.iconst 1, 1) := by decide +kernel
theorem d_va_putTight_119 : decode b_va_putTight 119 = .ok (.goto (4), 3) := by decide +kernel
theorem d_va_putTight_122 : decode b_va_putTight 122 = .ok (.iconst 0, 1) := by decide +kernel
theorem d_va_putTight_123 : decode b_va_putTight 123 = .ok (.putfield 9, 3) := by decide +kernel
theorem d_va_putTight_126 : decode b_va_putTight 126 = .ok (.aload_n 0, 1) := by decide +kernel
theorem d_va_putTight_127 : decode b_va_putTight 127 = .ok (.aload_n 0, 1) := by decide +kernel
theorem d_va_putTight_128 : decode b_va_putTight 128 = .ok (.getfield 25, 3) := by decide +kernel
theorem d_va_putTight_131 : decode b_va_putTight 131 = .ok (.putfield 15, 3) := by decide +kernel
theorem d_va_putTight_134 : decode b_va_putTight 134 = .ok (.aload_n 0, 1) := by decide +kernel
theorem d_va_putTight_135 : decode b_va_putTight 135 = .ok (.aload_n 0, 1) := by decide +kernel
theorem d_va_putTight_136 : decode b_va_putTight 136 = .ok (.getfield 25, 3) := by decide +kernel
theorem d_va_putTight_139 : decode b_va_putTight 139 = .ok (.putfield 19, 3) := by decide +kernel
theorem d_va_putTight_142 : decode b_va_putTight 142 = .ok (.iload_n 1, 1) := by decide +kernel
theorem d_va_putTight_143 : decode b_va_putTight 143 = .ok (.ireturn, 1) := by decide +kernel
theorem d_va_putTight_144 : decode b_va_putTight 144 = .ok (.aload_n 0, 1) := by decide +kernel
theorem d_va_putTight_145 : decode b_va_putTight 145 = .ok (.dup, 1) := by decide +kernel
theorem d_va_putTight_146 : decode b_va_putTight 146 = .ok (.getfield 15, 3) := by decide +kernel
theorem d_va_putTight_149 : decode b_va_putTight 149 = .ok (.aload_n 0, 1) := by decide +kernel
theorem d_va_putTight_150 : decode b_va_putTight 150 = .ok (.getfield 25, 3) := by decide +kernel
theorem d_va_putTight_153 : decode b_va_putTight 153 = .ok (.aload_n 0, 1) := by decide +kernel
theorem d_va_putTight_154 : decode b_va_putTight 154 = .ok (.getfield 15, 3) := by decide +kernel
theorem d_va_putTight_157 : decode b_va_putTight 157 = .ok (.lsub, 1) := by decide +kernel
theorem d_va_putTight_158 : decode b_va_putTight 158 = .ok (.aload_n 0, 1) := by decide +kernel
theorem d_va_putTight_159 : decode b_va_putTight 159 = .ok (.getfield 22, 3) := by decide +kernel
theorem d_va_putTight_162 : decode b_va_putTight 162 = .ok (.invokestatic 32, 3) := by decide +kernel
theorem d_va_putTight_165 : decode b_va_putTight 165 = .ok (.ladd, 1) := by decide +kernel
theorem d_va_putTight_166 : decode b_va_putTight 166 = .ok (.putfield 15, 3) := by decide +kernel
theorem d_va_putTight_169 : decode b_va_putTight 169 = .ok (.aload_n 0, 1) := by decide +kernel
theorem d_va_putTight_170 : decode b_va_putTight 170 = .ok (.dup, 1) := by decide +kernel
theorem d_va_putTight_171 : decode b_va_putTight 171 = .ok (.getfield 19, 3) := by decide +kernel
theorem d_va_putTight_174 : decode b_va_putTight 174 = .ok (.aload_n 0, 1) := by decide +kernel
theorem d_va_putTight_175 : decode b_va_putTight 175 = .ok (.getfield 19, 3) := by decide +kernel
theorem d_va_putTight_178 : decode b_va_putTight 178 = .ok (.aload_n 0, 1) := by decide +kernel
theorem d_va_putTight_179 : decode b_va_putTight 179 = .ok (.getfield 25, 3) := by decide +kernel
theorem d_va_putTight_182 : decode b_va_putTight 182 = .ok (.lsub, 1) := by decide +kernel
theorem d_va_putTight_183 : decode b_va_putTight 183 = .ok (.aload_n 0, 1) := by decide +kernel
theorem d_va_putTight_184 : decode b_va_putTight 184 = .ok (.getfield 22, 3) := by decide +kernel
theorem d_va_putTight_187 : decode b_va_putTight 187 = .ok (.invokestatic 32, 3) := by decide +kernel
theorem d_va_putTight_190 : decode b_va_putTight 190 = .ok (.lsub, 1) := by decide +kernel
theorem d_va_putTight_191 : decode b_va_putTight 191 = .ok (.putfield 19, 3) := by decide +kernel
theorem d_va_putTight_194 : decode b_va_putTight 194 = .ok (.aload_n 0, 1) := by decide +kernel
theorem d_va_putTight_195 : decode b_va_putTight 195 = .ok (.aload_n 0, 1) := by decide +kernel
theorem d_va_putTight_196 : decode b_va_putTight 196 = .ok (.getfield 9, 3) := by decide +kernel
theorem d_va_putTight_199 : decode b_va_putTight 199 = .ok (.ifCond .ne (15), 3) := by decide +kernel
theorem d_va_putTight_202 : decode b_va_putTight 202 = .ok (.aload_n 0, 1) := by decide +kernel
theorem d_va_putTight_203 : decode b_va_putTight 203 = .ok (.getfield 15, 3) := by decide +kernel
theorem d_va_putTight_206 : decode b_va_putTight 206 = .ok (.aload_n 0, 1) := by decide +kernel
theorem d_va_putTight_207 : decode b_va_putTight 207 = .ok (.getfield 19, 3) := by decide +kernel
theorem d_va_putTight_210 : decode b_va_putTight 210 = .ok (.lcmp, 1) := by decide +kernel
theorem d_va_putTight_211 : decode b_va_putTight 211 = .ok (.ifCond .le (7), 3) := by decide +kernel
theorem d_va_putTight_214 : decode b_va_putTight 214 = .ok (.iconst 1, 1) := by decide +kernel
theorem d_va_putTight_215 : decode b_va_putTight 215 = .ok (.goto (4), 3) := by decide +kernel
theorem d_va_putTight_218 : decode b_va_putTight 218 = .ok (.iconst 0, 1) := by decide +kernel
theorem d_va_putTight_219 : decode b_va_putTight 219 = .ok (.putfield 9, 3) := by decide +kernel
theorem d_va_putTight_222 : decode b_va_putTight 222 = .ok (.aload_n 0, 1) := by decide +kernel
theorem d_va_putTight_223 : decode b_va_putTight 223 = .ok (.getfield 15, 3) := by decide +kernel
theorem d_va_putTight_226 : decode b_va_putTight 226 = .ok (.aload_n 0, 1) := by decide +kernel
theorem d_va_putTight_227 : decode b_va_putTight 227 = .ok (.getfield 19, 3) := by decide +kernel
theorem d_va_putTight_230 : decode b_va_putTight 230 = .ok (.lcmp, 1) := by decide +kernel
theorem d_va_putTight_231 : decode b_va_putTight 231 = .ok (.ifCond .ne (16), 3) := by decide +kernel
theorem d_va_putTight_234 : decode b_va_putTight 234 = .ok (.aload_n 0, 1) := by decide +kernel
theorem d_va_putTight_235 : decode b_va_putTight 235 = .ok (.lconst 0, 1) := by decide +kernel
theorem d_va_putTight_236 : decode b_va_putTight 236 = .ok (.putfield 22, 3) := by decide +kernel
theorem d_va_putTight_239 : decode b_va_putTight 239 = .ok (.aload_n 0, 1) := by decide +kernel
theorem d_va_putTight_240 : decode b_va_putTight 240 = .ok (.aload_n 0, 1) := by decide +kernel
theorem d_va_putTight_241 : decode b_va_putTight 241 = .ok (.getfield 15, 3) := by decide +kernel
theorem d_va_putTight_244 : decode b_va_putTight 244 = .ok (.putfield 25, 3) := by decide +kernel
theorem d_va_putTight_247 : decode b_va_putTight 247 = .ok (.iload_n 1, 1) := by decide +kernel
theorem d_va_putTight_248 : decode b_va_putTight 248 = .ok (.ireturn, 1) := by decide +kernel
theorem kb_va_putTight {a0 : Nat}  {w : WW} {r : (Int32 × WW)} (h : f_va_putTight a0 w = some r) : kb w a0 8 = true := (its h).1
set_option maxHeartbeats 4000000 in
set_option maxRecDepth 100000 in
theorem j_va_putTight_247 {p : Program} {l : Launch} {e : Env} {s : State} {m : MethodId} {args : Array Value} {below : List Frame} {meth : Method} {c : Code} {D : va_G} {cA : Nat → ClassId} {base : Nat} {r : Int32} {w' : WW} (C : cx b_va_putTight (some .boolean) 2 y_va_putTight.cls "putTight" p s m args meth c D cA base)   : ∀ (y1 : Int32) (w : WW), f_va_putTight_247 y1 w = some (r, w') → ∀ (H : Heap) (locs : List Loc) (ls : Array Slot), wo_S D cls cA base s w H locs → lv_has ls 2 [(1, .int y1)] → W p l e rm_va_putTight s m args below meth c H locs 0 0 (MQ below (wo_Q D cls cA base (some (.int r)) w') args s rm_va_putTight.cells rm_va_putTight.slots (wo_B base)) (F0 m 247 ls []) := by
  obtain ⟨hx, hb, hr, hml, hown, hts, hlk, hnm, hK, hG⟩ := id C
  intro y1 w h H locs ls hW hl
  unfold f_va_putTight_247 at h
  refine lv_iload_n hx hb d_va_putTight_247 rfl (lv_at hl 0 rfl) ?_
  replace h := its h
  obtain ⟨c36, h⟩ := h
  cases h
  exact wo_zret hx hb hr hlk hW c36 d_va_putTight_248
set_option maxHeartbeats 4000000 in
set_option maxRecDepth 100000 in
theorem j_va_putTight_219 {p : Program} {l : Launch} {e : Env} {s : State} {m : MethodId} {args : Array Value} {below : List Frame} {meth : Method} {c : Code} {D : va_G} {cA : Nat → ClassId} {base : Nat} {r : Int32} {w' : WW} (C : cx b_va_putTight (some .boolean) 2 y_va_putTight.cls "putTight" p s m args meth c D cA base)   : ∀ (y0 : Nat) (y1 : Int32) (z0 : Nat) (z1 : Int32) (w : WW), f_va_putTight_219 y0 y1 z0 z1 w = some (r, w') → ∀ (H : Heap) (locs : List Loc) (ls : Array Slot), wo_S D cls cA base s w H locs → lv_has ls 2 [(0, .ref (base + y0)), (1, .int y1)] → W p l e rm_va_putTight s m args below meth c H locs 0 0 (MQ below (wo_Q D cls cA base (some (.int r)) w') args s rm_va_putTight.cells rm_va_putTight.slots (wo_B base)) (F0 m 219 ls [.int z1, .ref (base + z0)]) := by
  obtain ⟨hx, hb, hr, hml, hown, hts, hlk, hnm, hK, hG⟩ := id C
  intro y0 y1 z0 z1 w h H locs ls hW hl
  unfold f_va_putTight_219 at h
  replace h := its h
  obtain ⟨c32, h⟩ := h
  replace h := bs h
  obtain ⟨w31, hw31, h⟩ := h
  refine pf_va_9 hx hb hts hown hK hG hW (z_n c32) (z_f c32) (pbi hw31 rfl) d_va_putTight_219 (fun H locs hW => ?_)
  refine lv_aload_n hx hb d_va_putTight_222 rfl (lv_at hl 0 rfl) ?_
  replace h := bs h
  obtain ⟨x33, hx33, h⟩ := h
  refine gf_va_15 hx hb hts hown hK hG hW (gL_s hx33) d_va_putTight_223 ?_
  refine lv_aload_n hx hb d_va_putTight_226 rfl (lv_at hl 0 rfl) ?_
  replace h := bs h
  obtain ⟨x34, hx34, h⟩ := h
  refine gf_va_19 hx hb hts hown hK hG hW (gL_s hx34) d_va_putTight_227 ?_
  refine lc_ne (tgt := 247) hx hb d_va_putTight_230 d_va_putTight_231 (by decide) (fun c35 => ?_) (fun c35 => ?_)
  · rw [if_neg c35] at h
    exact j_va_putTight_247 C y1 w31 h _ _ _ hW (lv_sub hl [1] rfl)
  · rw [if_pos c35] at h
    refine lv_aload_n hx hb d_va_putTight_234 rfl (lv_at hl 0 rfl) ?_
    refine lv_lconst (v := (0 : Int64)) hx hb d_va_putTight_235 (by decide) ?_
    replace h := bs h
    obtain ⟨w37, hw37, h⟩ := h
    refine pf_va_22 hx hb hts hown hK hG hW rfl rfl (pbi hw37 rfl) d_va_putTight_236 (fun H locs hW => ?_)
    refine lv_aload_n hx hb d_va_putTight_239 rfl (lv_at hl 0 rfl) ?_
    refine lv_aload_n hx hb d_va_putTight_240 rfl (lv_at hl 0 rfl) ?_
    replace h := bs h
    obtain ⟨x38, hx38, h⟩ := h
    refine gf_va_15 hx hb hts hown hK hG hW (gL_s hx38) d_va_putTight_241 ?_
    replace h := bs h
    obtain ⟨w39, hw39, h⟩ := h
    refine pf_va_25 hx hb hts hown hK hG hW rfl rfl (pbi hw39 rfl) d_va_putTight_244 (fun H locs hW => ?_)
    exact j_va_putTight_247 C y1 w39 h _ _ _ hW (lv_sub hl [1] rfl)
set_option maxHeartbeats 4000000 in
set_option maxRecDepth 100000 in
theorem j_va_putTight_214 {p : Program} {l : Launch} {e : Env} {s : State} {m : MethodId} {args : Array Value} {below : List Frame} {meth : Method} {c : Code} {D : va_G} {cA : Nat → ClassId} {base : Nat} {r : Int32} {w' : WW} (C : cx b_va_putTight (some .boolean) 2 y_va_putTight.cls "putTight" p s m args meth c D cA base)   : ∀ (y0 : Nat) (y1 : Int32) (z0 : Nat) (w : WW), f_va_putTight_214 y0 y1 z0 w = some (r, w') → ∀ (H : Heap) (locs : List Loc) (ls : Array Slot), wo_S D cls cA base s w H locs → lv_has ls 2 [(0, .ref (base + y0)), (1, .int y1)] → W p l e rm_va_putTight s m args below meth c H locs 0 0 (MQ below (wo_Q D cls cA base (some (.int r)) w') args s rm_va_putTight.cells rm_va_putTight.slots (wo_B base)) (F0 m 214 ls [.ref (base + z0)]) := by
  obtain ⟨hx, hb, hr, hml, hown, hts, hlk, hnm, hK, hG⟩ := id C
  intro y0 y1 z0 w h H locs ls hW hl
  unfold f_va_putTight_214 at h
  refine lv_iconst (v := (1 : Int32)) hx hb d_va_putTight_214 (by decide) ?_
  refine lv_goto (tgt := 219) hx hb d_va_putTight_215 (by decide) ?_
  exact j_va_putTight_219 C y0 y1 z0 (1 : Int32) w h _ _ _ hW (lv_sub hl [0, 1] rfl)
set_option maxHeartbeats 4000000 in
set_option maxRecDepth 100000 in
theorem j_va_putTight_123 {p : Program} {l : Launch} {e : Env} {s : State} {m : MethodId} {args : Array Value} {below : List Frame} {meth : Method} {c : Code} {D : va_G} {cA : Nat → ClassId} {base : Nat} {r : Int32} {w' : WW} (C : cx b_va_putTight (some .boolean) 2 y_va_putTight.cls "putTight" p s m args meth c D cA base)   : ∀ (y0 : Nat) (y1 : Int32) (z0 : Nat) (z1 : Int32) (w : WW), f_va_putTight_123 y0 y1 z0 z1 w = some (r, w') → ∀ (H : Heap) (locs : List Loc) (ls : Array Slot), wo_S D cls cA base s w H locs → lv_has ls 2 [(0, .ref (base + y0)), (1, .int y1)] → W p l e rm_va_putTight s m args below meth c H locs 0 0 (MQ below (wo_Q D cls cA base (some (.int r)) w') args s rm_va_putTight.cells rm_va_putTight.slots (wo_B base)) (F0 m 123 ls [.int z1, .ref (base + z0)]) := by
  obtain ⟨hx, hb, hr, hml, hown, hts, hlk, hnm, hK, hG⟩ := id C
  intro y0 y1 z0 z1 w h H locs ls hW hl
  unfold f_va_putTight_123 at h
  replace h := its h
  obtain ⟨c46, h⟩ := h
  replace h := bs h
  obtain ⟨w45, hw45, h⟩ := h
  refine pf_va_9 hx hb hts hown hK hG hW (z_n c46) (z_f c46) (pbi hw45 rfl) d_va_putTight_123 (fun H locs hW => ?_)
  refine lv_aload_n hx hb d_va_putTight_126 rfl (lv_at hl 0 rfl) ?_
  refine lv_aload_n hx hb d_va_putTight_127 rfl (lv_at hl 0 rfl) ?_
  replace h := bs h
  obtain ⟨x47, hx47, h⟩ := h
  refine gf_va_25 hx hb hts hown hK hG hW (gL_s hx47) d_va_putTight_128 ?_
  replace h := bs h
  obtain ⟨w48, hw48, h⟩ := h
  refine pf_va_15 hx hb hts hown hK hG hW rfl rfl (pbi hw48 rfl) d_va_putTight_131 (fun H locs hW => ?_)
  refine lv_aload_n hx hb d_va_putTight_134 rfl (lv_at hl 0 rfl) ?_
  refine lv_aload_n hx hb d_va_putTight_135 rfl (lv_at hl 0 rfl) ?_
  replace h := bs h
  obtain ⟨x49, hx49, h⟩ := h
  refine gf_va_25 hx hb hts hown hK hG hW (gL_s hx49) d_va_putTight_136 ?_
  replace h := bs h
  obtain ⟨w50, hw50, h⟩ := h
  refine pf_va_19 hx hb hts hown hK hG hW rfl rfl (pbi hw50 rfl) d_va_putTight_139 (fun H locs hW => ?_)
  refine lv_iload_n hx hb d_va_putTight_142 rfl (lv_at hl 1 rfl) ?_
  replace h := its h
  obtain ⟨c51, h⟩ := h
  cases h
  exact wo_zret hx hb hr hlk hW c51 d_va_putTight_143
set_option maxHeartbeats 4000000 in
set_option maxRecDepth 100000 in
theorem j_va_putTight_118 {p : Program} {l : Launch} {e : Env} {s : State} {m : MethodId} {args : Array Value} {below : List Frame} {meth : Method} {c : Code} {D : va_G} {cA : Nat → ClassId} {base : Nat} {r : Int32} {w' : WW} (C : cx b_va_putTight (some .boolean) 2 y_va_putTight.cls "putTight" p s m args meth c D cA base)   : ∀ (y0 : Nat) (y1 : Int32) (z0 : Nat) (w : WW), f_va_putTight_118 y0 y1 z0 w = some (r, w') → ∀ (H : Heap) (locs : List Loc) (ls : Array Slot), wo_S D cls cA base s w H locs → lv_has ls 2 [(0, .ref (base + y0)), (1, .int y1)] → W p l e rm_va_putTight s m args below meth c H locs 0 0 (MQ below (wo_Q D cls cA base (some (.int r)) w') args s rm_va_putTight.cells rm_va_putTight.slots (wo_B base)) (F0 m 118 ls [.ref (base + z0)]) := by
  obtain ⟨hx, hb, hr, hml, hown, hts, hlk, hnm, hK, hG⟩ := id C
  intro y0 y1 z0 w h H locs ls hW hl
  unfold f_va_putTight_118 at h
  refine lv_iconst (v := (1 : Int32)) hx hb d_va_putTight_118 (by decide) ?_
  refine lv_goto (tgt := 123) hx hb d_va_putTight_119 (by decide) ?_
  exact j_va_putTight_123 C y0 y1 z0 (1 : Int32) w h _ _ _ hW (lv_sub hl [0, 1] rfl)
set_option maxHeartbeats 4000000 in
set_option maxRecDepth 100000 in
theorem j_va_putTight_77 {p : Program} {l : Launch} {e : Env} {s : State} {m : MethodId} {args : Array Value} {below : List Frame} {meth : Method} {c : Code} {D : va_G} {cA : Nat → ClassId} {base : Nat} {r : Int32} {w' : WW} (C : cx b_va_putTight (some .boolean) 2 y_va_putTight.cls "putTight" p s m args meth c D cA base)   : ∀ (y0 : Nat) (y1 : Int32) (w : WW), f_va_putTight_77 y0 y1 w = some (r, w') → ∀ (H : Heap) (locs : List Loc) (ls : Array Slot), wo_S D cls cA base s w H locs → lv_has ls 2 [(0, .ref (base + y0)), (1, .int y1)] → W p l e rm_va_putTight s m args below meth c H locs 0 0 (MQ below (wo_Q D cls cA base (some (.int r)) w') args s rm_va_putTight.cells rm_va_putTight.slots (wo_B base)) (F0 m 77 ls []) := by
  obtain ⟨hx, hb, hr, hml, hown, hts, hlk, hnm, hK, hG⟩ := id C
  intro y0 y1 w h H locs ls hW hl
  unfold f_va_putTight_77 at h
  refine lv_aload_n hx hb d_va_putTight_77 rfl (lv_at hl 0 rfl) ?_
  replace h := bs h
  obtain ⟨x13, hx13, h⟩ := h
  refine gf_va_22 hx hb hts hown hK hG hW (gL_s hx13) d_va_putTight_78 ?_
  refine lv_lconst (v := (0 : Int64)) hx hb d_va_putTight_81 (by decide) ?_
  refine lc_ne (tgt := 144) hx hb d_va_putTight_82 d_va_putTight_83 (by decide) (fun c14 => ?_) (fun c14 => ?_)
  · rw [if_neg c14] at h
    refine lv_aload_n hx hb d_va_putTight_144 rfl (lv_at hl 0 rfl) ?_
    refine lv_dup hx hb d_va_putTight_145 rfl ?_
    replace h := bs h
    obtain ⟨x15, hx15, h⟩ := h
    refine gf_va_15 hx hb hts hown hK hG hW (gL_s hx15) d_va_putTight_146 ?_
    refine lv_aload_n hx hb d_va_putTight_149 rfl (lv_at hl 0 rfl) ?_
    replace h := bs h
    obtain ⟨x16, hx16, h⟩ := h
    refine gf_va_25 hx hb hts hown hK hG hW (gL_s hx16) d_va_putTight_150 ?_
    refine lv_aload_n hx hb d_va_putTight_153 rfl (lv_at hl 0 rfl) ?_
    replace h := bs h
    obtain ⟨x17, hx17, h⟩ := h
    refine gf_va_15 hx hb hts hown hK hG hW (gL_s hx17) d_va_putTight_154 ?_
    refine lv_lsub hx hb d_va_putTight_157 ?_
    refine lv_aload_n hx hb d_va_putTight_158 rfl (lv_at hl 0 rfl) ?_
    replace h := bs h
    obtain ⟨x18, hx18, h⟩ := h
    refine gf_va_22 hx hb hts hown hK hG hW (gL_s hx18) d_va_putTight_159 ?_
    replace h := bs2 h
    obtain ⟨x20, w19, hw19, h⟩ := h
    refine cs_va_32 (As := [.long (x16 - x17), .long x18]) (rest := [.long x15, .ref (base + y0)]) hx hb hml hown hts hK hG hW (c_ma_floorMod l D cA base hw19) ⟨Nat.le_of_ble_eq_true rfl, Nat.le_of_ble_eq_true rfl⟩ ⟨Nat.le_of_ble_eq_true rfl, Nat.le_of_ble_eq_true rfl⟩ rfl hl.1 rfl (Nat.le_of_ble_eq_true rfl) d_va_putTight_162 (fun H locs hW => ?_)
    refine lv_ladd hx hb d_va_putTight_165 ?_
    replace h := bs h
    obtain ⟨w21, hw21, h⟩ := h
    refine pf_va_15 hx hb hts hown hK hG hW rfl rfl (pbi hw21 rfl) d_va_putTight_166 (fun H locs hW => ?_)
    refine lv_aload_n hx hb d_va_putTight_169 rfl (lv_at hl 0 rfl) ?_
    refine lv_dup hx hb d_va_putTight_170 rfl ?_
    replace h := bs h
    obtain ⟨x22, hx22, h⟩ := h
    refine gf_va_19 hx hb hts hown hK hG hW (gL_s hx22) d_va_putTight_171 ?_
    refine lv_aload_n hx hb d_va_putTight_174 rfl (lv_at hl 0 rfl) ?_
    replace h := bs h
    obtain ⟨x23, hx23, h⟩ := h
    refine gf_va_19 hx hb hts hown hK hG hW (gL_s hx23) d_va_putTight_175 ?_
    refine lv_aload_n hx hb d_va_putTight_178 rfl (lv_at hl 0 rfl) ?_
    replace h := bs h
    obtain ⟨x24, hx24, h⟩ := h
    refine gf_va_25 hx hb hts hown hK hG hW (gL_s hx24) d_va_putTight_179 ?_
    refine lv_lsub hx hb d_va_putTight_182 ?_
    refine lv_aload_n hx hb d_va_putTight_183 rfl (lv_at hl 0 rfl) ?_
    replace h := bs h
    obtain ⟨x25, hx25, h⟩ := h
    refine gf_va_22 hx hb hts hown hK hG hW (gL_s hx25) d_va_putTight_184 ?_
    replace h := bs2 h
    obtain ⟨x27, w26, hw26, h⟩ := h
    refine cs_va_32 (As := [.long (x23 - x24), .long x25]) (rest := [.long x22, .ref (base + y0)]) hx hb hml hown hts hK hG hW (c_ma_floorMod l D cA base hw26) ⟨Nat.le_of_ble_eq_true rfl, Nat.le_of_ble_eq_true rfl⟩ ⟨Nat.le_of_ble_eq_true rfl, Nat.le_of_ble_eq_true rfl⟩ rfl hl.1 rfl (Nat.le_of_ble_eq_true rfl) d_va_putTight_187 (fun H locs hW => ?_)
    refine lv_lsub hx hb d_va_putTight_190 ?_
    replace h := bs h
    obtain ⟨w28, hw28, h⟩ := h
    refine pf_va_19 hx hb hts hown hK hG hW rfl rfl (pbi hw28 rfl) d_va_putTight_191 (fun H locs hW => ?_)
    refine lv_aload_n hx hb d_va_putTight_194 rfl (lv_at hl 0 rfl) ?_
    refine lv_aload_n hx hb d_va_putTight_195 rfl (lv_at hl 0 rfl) ?_
    replace h := bs h
    obtain ⟨x29, hx29, h⟩ := h
    refine gf_va_9 hx hb hts hown hK hG hW (gI_s hx29) d_va_putTight_196 ?_
    refine lv_if_ne (tgt := 214) hx hb d_va_putTight_199 (by decide) (fun c30 => ?_) (fun c30 => ?_)
    · rw [if_neg c30] at h
      exact j_va_putTight_214 C y0 y1 y0 w28 h _ _ _ hW (lv_sub hl [0, 1] rfl)
    · rw [if_pos c30] at h
      refine lv_aload_n hx hb d_va_putTight_202 rfl (lv_at hl 0 rfl) ?_
      replace h := bs h
      obtain ⟨x40, hx40, h⟩ := h
      refine gf_va_15 hx hb hts hown hK hG hW (gL_s hx40) d_va_putTight_203 ?_
      refine lv_aload_n hx hb d_va_putTight_206 rfl (lv_at hl 0 rfl) ?_
      replace h := bs h
      obtain ⟨x41, hx41, h⟩ := h
      refine gf_va_19 hx hb hts hown hK hG hW (gL_s hx41) d_va_putTight_207 ?_
      refine lc_le (tgt := 218) hx hb d_va_putTight_210 d_va_putTight_211 (by decide) (fun c42 => ?_) (fun c42 => ?_)
      · rw [if_pos c42] at h
        refine lv_iconst (v := (0 : Int32)) hx hb d_va_putTight_218 (by decide) ?_
        exact j_va_putTight_219 C y0 y1 y0 (0 : Int32) w28 h _ _ _ hW (lv_sub hl [0, 1] rfl)
      · rw [if_neg c42] at h
        exact j_va_putTight_214 C y0 y1 y0 w28 h _ _ _ hW (lv_sub hl [0, 1] rfl)
  · rw [if_pos c14] at h
    refine lv_aload_n hx hb d_va_putTight_86 rfl (lv_at hl 0 rfl) ?_
    refine lv_aload_n hx hb d_va_putTight_87 rfl (lv_at hl 0 rfl) ?_
    replace h := bs h
    obtain ⟨x43, hx43, h⟩ := h
    refine gf_va_9 hx hb hts hown hK hG hW (gI_s hx43) d_va_putTight_88 ?_
    refine lv_if_ne (tgt := 118) hx hb d_va_putTight_91 (by decide) (fun c44 => ?_) (fun c44 => ?_)
    · rw [if_neg c44] at h
      exact j_va_putTight_118 C y0 y1 y0 w h _ _ _ hW (lv_sub hl [0, 1] rfl)
    · rw [if_pos c44] at h
      refine lv_aload_n hx hb d_va_putTight_94 rfl (lv_at hl 0 rfl) ?_
      replace h := bs h
      obtain ⟨x52, hx52, h⟩ := h
      refine gf_va_25 hx hb hts hown hK hG hW (gL_s hx52) d_va_putTight_95 ?_
      refine lv_aload_n hx hb d_va_putTight_98 rfl (lv_at hl 0 rfl) ?_
      replace h := bs h
      obtain ⟨x53, hx53, h⟩ := h
      refine gf_va_15 hx hb hts hown hK hG hW (gL_s hx53) d_va_putTight_99 ?_
      refine lc_lt (tgt := 118) hx hb d_va_putTight_102 d_va_putTight_103 (by decide) (fun c54 => ?_) (fun c54 => ?_)
      · rw [if_pos c54] at h
        exact j_va_putTight_118 C y0 y1 y0 w h _ _ _ hW (lv_sub hl [0, 1] rfl)
      · rw [if_neg c54] at h
        refine lv_aload_n hx hb d_va_putTight_106 rfl (lv_at hl 0 rfl) ?_
        replace h := bs h
        obtain ⟨x55, hx55, h⟩ := h
        refine gf_va_25 hx hb hts hown hK hG hW (gL_s hx55) d_va_putTight_107 ?_
        refine lv_aload_n hx hb d_va_putTight_110 rfl (lv_at hl 0 rfl) ?_
        replace h := bs h
        obtain ⟨x56, hx56, h⟩ := h
        refine gf_va_19 hx hb hts hown hK hG hW (gL_s hx56) d_va_putTight_111 ?_
        refine lc_le (tgt := 122) hx hb d_va_putTight_114 d_va_putTight_115 (by decide) (fun c57 => ?_) (fun c57 => ?_)
        · rw [if_pos c57] at h
          refine lv_iconst (v := (0 : Int32)) hx hb d_va_putTight_122 (by decide) ?_
          exact j_va_putTight_123 C y0 y1 y0 (0 : Int32) w h _ _ _ hW (lv_sub hl [0, 1] rfl)
        · rw [if_neg c57] at h
          exact j_va_putTight_118 C y0 y1 y0 w h _ _ _ hW (lv_sub hl [0, 1] rfl)
set_option maxHeartbeats 4000000 in
set_option maxRecDepth 100000 in
theorem j_va_putTight_27 {p : Program} {l : Launch} {e : Env} {s : State} {m : MethodId} {args : Array Value} {below : List Frame} {meth : Method} {c : Code} {D : va_G} {cA : Nat → ClassId} {base : Nat} {r : Int32} {w' : WW} (C : cx b_va_putTight (some .boolean) 2 y_va_putTight.cls "putTight" p s m args meth c D cA base)   : ∀ (y0 : Nat) (z0 : Int32) (w : WW), f_va_putTight_27 y0 z0 w = some (r, w') → ∀ (H : Heap) (locs : List Loc) (ls : Array Slot), wo_S D cls cA base s w H locs → lv_has ls 2 [(0, .ref (base + y0))] → W p l e rm_va_putTight s m args below meth c H locs 0 0 (MQ below (wo_Q D cls cA base (some (.int r)) w') args s rm_va_putTight.cells rm_va_putTight.slots (wo_B base)) (F0 m 27 ls [.int z0]) := by
  obtain ⟨hx, hb, hr, hml, hown, hts, hlk, hnm, hK, hG⟩ := id C
  intro y0 z0 w h H locs ls hW hl
  unfold f_va_putTight_27 at h
  refine lv_istore_n (lv' := [(1, .int z0), (0, .ref (base + y0))]) hx hb d_va_putTight_27 rfl hl (by decide) rfl (fun ls hl => ?_)
  refine lv_aload_n hx hb d_va_putTight_28 rfl (lv_at hl 1 rfl) ?_
  refine lv_aload_n hx hb d_va_putTight_29 rfl (lv_at hl 1 rfl) ?_
  replace h := bs h
  obtain ⟨x3, hx3, h⟩ := h
  refine gf_va_15 hx hb hts hown hK hG hW (gL_s hx3) d_va_putTight_30 ?_
  refine lv_ldc2 (own := Rc_va) (v := (-2147483648 : Int64)) hx hb hown (hts (.constantLong "AlarmForge$Value" 28 (-2147483648 : Int64)) (gt_of (i := 972) (by decide +kernel) (by decide +kernel))) d_va_putTight_33 ?_
  replace h := bs2 h
  obtain ⟨x5, w4, hw4, h⟩ := h
  refine cs_va_44 (As := [.long x3, .long (-2147483648 : Int64)]) (rest := [.ref (base + y0)]) hx hb hml hown hts hK hG hW (c_ma_max_JJ l D cA base hw4) ⟨Nat.le_of_ble_eq_true rfl, Nat.le_of_ble_eq_true rfl⟩ ⟨Nat.le_of_ble_eq_true rfl, Nat.le_of_ble_eq_true rfl⟩ rfl hl.1 rfl (Nat.le_of_ble_eq_true rfl) d_va_putTight_36 (fun H locs hW => ?_)
  replace h := bs h
  obtain ⟨w6, hw6, h⟩ := h
  refine pf_va_15 hx hb hts hown hK hG hW rfl rfl (pbi hw6 rfl) d_va_putTight_39 (fun H locs hW => ?_)
  refine lv_aload_n hx hb d_va_putTight_42 rfl (lv_at hl 1 rfl) ?_
  refine lv_aload_n hx hb d_va_putTight_43 rfl (lv_at hl 1 rfl) ?_
  replace h := bs h
  obtain ⟨x7, hx7, h⟩ := h
  refine gf_va_19 hx hb hts hown hK hG hW (gL_s hx7) d_va_putTight_44 ?_
  refine lv_ldc2 (own := Rc_va) (v := (2147483647 : Int64)) hx hb hown (hts (.constantLong "AlarmForge$Value" 30 (2147483647 : Int64)) (gt_of (i := 973) (by decide +kernel) (by decide +kernel))) d_va_putTight_47 ?_
  replace h := bs2 h
  obtain ⟨x9, w8, hw8, h⟩ := h
  refine cs_va_47 (As := [.long x7, .long (2147483647 : Int64)]) (rest := [.ref (base + y0)]) hx hb hml hown hts hK hG hW (c_ma_min_JJ l D cA base hw8) ⟨Nat.le_of_ble_eq_true rfl, Nat.le_of_ble_eq_true rfl⟩ ⟨Nat.le_of_ble_eq_true rfl, Nat.le_of_ble_eq_true rfl⟩ rfl hl.1 rfl (Nat.le_of_ble_eq_true rfl) d_va_putTight_50 (fun H locs hW => ?_)
  replace h := bs h
  obtain ⟨w10, hw10, h⟩ := h
  refine pf_va_19 hx hb hts hown hK hG hW rfl rfl (pbi hw10 rfl) d_va_putTight_53 (fun H locs hW => ?_)
  refine lv_aload_n hx hb d_va_putTight_56 rfl (lv_at hl 1 rfl) ?_
  replace h := bs h
  obtain ⟨x11, hx11, h⟩ := h
  refine gf_va_22 hx hb hts hown hK hG hW (gL_s hx11) d_va_putTight_57 ?_
  refine lv_ldc2 (own := Rc_va) (v := (65536 : Int64)) hx hb hown (hts (.constantLong "AlarmForge$Value" 50 (65536 : Int64)) (gt_of (i := 974) (by decide +kernel) (by decide +kernel))) d_va_putTight_60 ?_
  refine lc_le (tgt := 77) hx hb d_va_putTight_63 d_va_putTight_64 (by decide) (fun c12 => ?_) (fun c12 => ?_)
  · rw [if_pos c12] at h
    exact j_va_putTight_77 C y0 z0 w10 h _ _ _ hW (lv_sub hl [1, 0] rfl)
  · rw [if_neg c12] at h
    refine lv_aload_n hx hb d_va_putTight_67 rfl (lv_at hl 1 rfl) ?_
    refine lv_lconst (v := (1 : Int64)) hx hb d_va_putTight_68 (by decide) ?_
    replace h := bs h
    obtain ⟨w58, hw58, h⟩ := h
    refine pf_va_22 hx hb hts hown hK hG hW rfl rfl (pbi hw58 rfl) d_va_putTight_69 (fun H locs hW => ?_)
    refine lv_aload_n hx hb d_va_putTight_72 rfl (lv_at hl 1 rfl) ?_
    refine lv_lconst (v := (0 : Int64)) hx hb d_va_putTight_73 (by decide) ?_
    replace h := bs h
    obtain ⟨w59, hw59, h⟩ := h
    refine pf_va_25 hx hb hts hown hK hG hW rfl rfl (pbi hw59 rfl) d_va_putTight_74 (fun H locs hW => ?_)
    exact j_va_putTight_77 C y0 z0 w59 h _ _ _ hW (lv_sub hl [1, 0] rfl)
set_option maxHeartbeats 4000000 in
set_option maxRecDepth 100000 in
theorem j_va_putTight_22 {p : Program} {l : Launch} {e : Env} {s : State} {m : MethodId} {args : Array Value} {below : List Frame} {meth : Method} {c : Code} {D : va_G} {cA : Nat → ClassId} {base : Nat} {r : Int32} {w' : WW} (C : cx b_va_putTight (some .boolean) 2 y_va_putTight.cls "putTight" p s m args meth c D cA base)   : ∀ (y0 : Nat) (w : WW), f_va_putTight_22 y0 w = some (r, w') → ∀ (H : Heap) (locs : List Loc) (ls : Array Slot), wo_S D cls cA base s w H locs → lv_has ls 2 [(0, .ref (base + y0))] → W p l e rm_va_putTight s m args below meth c H locs 0 0 (MQ below (wo_Q D cls cA base (some (.int r)) w') args s rm_va_putTight.cells rm_va_putTight.slots (wo_B base)) (F0 m 22 ls []) := by
  obtain ⟨hx, hb, hr, hml, hown, hts, hlk, hnm, hK, hG⟩ := id C
  intro y0 w h H locs ls hW hl
  unfold f_va_putTight_22 at h
  refine lv_iconst (v := (1 : Int32)) hx hb d_va_putTight_22 (by decide) ?_
  refine lv_goto (tgt := 27) hx hb d_va_putTight_23 (by decide) ?_
  exact j_va_putTight_27 C y0 (1 : Int32) w h _ _ _ hW (lv_sub hl [0] rfl)
set_option maxHeartbeats 4000000 in
set_option maxRecDepth 100000 in
theorem c_va_putTight (l : Launch) (D : va_G) (cA : Nat → ClassId) (base : Nat) {a0 : Nat} {w w' : WW} {r : Int32} (h : f_va_putTight a0 w = some (r, w')) : mt l D cls (wo_tys cA) cA base y_va_putTight (Cond.code y_va_putTight b_va_putTight 2 (some .boolean) :: gt) rm_va_putTight [.ref (base + a0)] w (some (.int r)) w' rm_va_putTight.cells rm_va_putTight.slots := by
  refine mt_start (by decide) (Nat.le_of_ble_eq_true rfl) ?_
  intro p e s m below meth c ls hx hb hr hml hown hts hlk hnm hK hG hW hl
  have C : cx b_va_putTight (some .boolean) 2 y_va_putTight.cls "putTight" p s m [.ref (base + a0)].toArray meth c D cA base := ⟨hx, hb, hr, hml, hown, hts, hlk, hnm, hK, hG⟩
  have hl : lv_has ls 2 [(0, .ref (base + a0))] := hl
  unfold f_va_putTight at h
  replace h := its h
  obtain ⟨-, h⟩ := h
  refine lv_aload_n hx hb d_va_putTight_0 rfl (lv_at hl 0 rfl) ?_
  replace h := bs h
  obtain ⟨x1, hx1, h⟩ := h
  refine gf_va_15 hx hb hts hown hK hG hW (gL_s hx1) d_va_putTight_1 ?_
  refine lv_ldc2 (own := Rc_va) (v := (-2147483648 : Int64)) hx hb hown (hts (.constantLong "AlarmForge$Value" 28 (-2147483648 : Int64)) (gt_of (i := 972) (by decide +kernel) (by decide +kernel))) d_va_putTight_4 ?_
  refine lc_lt (tgt := 22) hx hb d_va_putTight_7 d_va_putTight_8 (by decide) (fun c2 => ?_) (fun c2 => ?_)
  · rw [if_pos c2] at h
    exact j_va_putTight_22 C a0 w h _ _ _ hW (lv_sub hl [0] rfl)
  · rw [if_neg c2] at h
    refine lv_aload_n hx hb d_va_putTight_11 rfl (lv_at hl 0 rfl) ?_
    replace h := bs h
    obtain ⟨x60, hx60, h⟩ := h
    refine gf_va_19 hx hb hts hown hK hG hW (gL_s hx60) d_va_putTight_12 ?_
    refine lv_ldc2 (own := Rc_va) (v := (2147483647 : Int64)) hx hb hown (hts (.constantLong "AlarmForge$Value" 30 (2147483647 : Int64)) (gt_of (i := 973) (by decide +kernel) (by decide +kernel))) d_va_putTight_15 ?_
    refine lc_le (tgt := 26) hx hb d_va_putTight_18 d_va_putTight_19 (by decide) (fun c61 => ?_) (fun c61 => ?_)
    · rw [if_pos c61] at h
      refine lv_iconst (v := (0 : Int32)) hx hb d_va_putTight_26 (by decide) ?_
      exact j_va_putTight_27 C a0 (0 : Int32) w h _ _ _ hW (lv_sub hl [0] rfl)
    · rw [if_neg c61] at h
      exact j_va_putTight_22 C a0 w h _ _ _ hW (lv_sub hl [0] rfl)
theorem cv_va_52 {p : Program} {l : Launch} {e : Env} {R : Room} {s : State} {m : MethodId} {args : Array Value} {below : List Frame} {meth : Method} {c : Code} {H : Heap} {locs : List Loc} {cells slots : Nat} {Q : State → Prop} {D : va_G} {cA : Nat → ClassId} {base : Nat} {w w' : WW} {cc : ByteArray} {pc nL : Nat} {ls : Array Slot} {rest st0 As : List Value} {ov : Option Value} {b : Nat} (hx : p.tables.exec = Jvm.exec) (hb : c.code = cc) (hml : c.maxLocals = nL) (hown : s.vm.findClass Rc_va = some m.cls) (hts : ∀ w ∈ gt, w.before args s = true) (hK : va_K D cls (wo_tys cA) s) (hG : wo_G cA base s) (hW : wo_S D cls cA base s w H locs) (hM : mt l D cls (wo_tys cA) cA base y_va_copy (Cond.code y_va_copy b_va_copy 2 (none) :: gt) rm_va_copy (.ref (base + b) :: As) w ov w' rm_va_copy.cells rm_va_copy.slots) (hkb : kb w b 8 = true) (hR : rm_va_copy.frames + 1 ≤ R.frames ∧ 8 + (2 + 11) + rm_va_copy.locals ≤ R.locals) (hf : cells + rm_va_copy.cells ≤ R.cells ∧ slots + rm_va_copy.slots ≤ R.slots) (hn : As.length = 1) (hsz : ls.size = nL) (hst : st0 = As.reverse ++ .ref (base + b) :: rest) (hcat : (rest.map fun v => v.category).sum ≤ 8) (hdg : decode cc pc = .ok (.invokevirtual 52, 3)) (kk : ∀ (H1 : Heap) (locs1 : List Loc), wo_S D cls cA base s w' H1 locs1 → W p l e R s m args below meth c H1 locs1 (cells + rm_va_copy.cells) (slots + rm_va_copy.slots) Q (F0 m (pc + 3) ls (ov.toList ++ rest))) : W p l e R s m args below meth c H locs cells slots Q (F0 m pc ls st0) :=
  wo_callV (C := Rc_va) hx hb hml hown hts hK hG hW hM hkb rfl (gt_of (i := 952) (by decide +kernel) (by decide +kernel)) (gt_of (i := 928) (by decide +kernel) (by decide +kernel)) (gt_of (i := 929) (by decide +kernel) (by decide +kernel)) (gt_of (i := 9) (by decide +kernel) (by decide +kernel)) (gt_of (i := 930) (by decide +kernel) (by decide +kernel)) (by decide +kernel) hR hf hn hsz hst hcat hdg kk
theorem cs_va_56 {p : Program} {l : Launch} {e : Env} {R : Room} {s : State} {m : MethodId} {args : Array Value} {below : List Frame} {meth : Method} {c : Code} {H : Heap} {locs : List Loc} {cells slots : Nat} {Q : State → Prop} {D : va_G} {cA : Nat → ClassId} {base : Nat} {w w' : WW} {cc : ByteArray} {pc nL : Nat} {ls : Array Slot} {rest st0 As : List Value} {ov : Option Value} (hx : p.tables.exec = Jvm.exec) (hb : c.code = cc) (hml : c.maxLocals = nL) (hown : s.vm.findClass Rc_va = some m.cls) (hts : ∀ w ∈ gt, w.before args s = true) (hK : va_K D cls (wo_tys cA) s) (hG : wo_G cA base s) (hW : wo_S D cls cA base s w H locs) (hM : mt l D cls (wo_tys cA) cA base y_va_commonDivisor (Cond.code y_va_commonDivisor b_va_commonDivisor 11 (some .long) :: gt) rm_va_commonDivisor (As) w ov w' rm_va_commonDivisor.cells rm_va_commonDivisor.slots) (hR : rm_va_commonDivisor.frames + 1 ≤ R.frames ∧ 8 + (11 + 11) + rm_va_commonDivisor.locals ≤ R.locals) (hf : cells + rm_va_commonDivisor.cells ≤ R.cells ∧ slots + rm_va_commonDivisor.slots ≤ R.slots) (hn : As.length = 2) (hsz : ls.size = nL) (hst : st0 = As.reverse ++ rest) (hcat : (rest.map fun v => v.category).sum ≤ 8) (hdg : decode cc pc = .ok (.invokestatic 56, 3)) (kk : ∀ (H1 : Heap) (locs1 : List Loc), wo_S D cls cA base s w' H1 locs1 → W p l e R s m args below meth c H1 locs1 (cells + rm_va_commonDivisor.cells) (slots + rm_va_commonDivisor.slots) Q (F0 m (pc + 3) ls (ov.toList ++ rest))) : W p l e R s m args below meth c H locs cells slots Q (F0 m pc ls st0) :=
  wo_callS hx hb hml hown hts hK hG hW hM (gt_of (i := 959) (by decide +kernel) (by decide +kernel)) (gt_of (i := 960) (by decide +kernel) (by decide +kernel)) (gt_of (i := 9) (by decide +kernel) (by decide +kernel)) (gt_of (i := 961) (by decide +kernel) (by decide +kernel)) (by decide +kernel) hR hf hn hsz hst hcat hdg kk
theorem cs_va_59 {p : Program} {l : Launch} {e : Env} {R : Room} {s : State} {m : MethodId} {args : Array Value} {below : List Frame} {meth : Method} {c : Code} {H : Heap} {locs : List Loc} {cells slots : Nat} {Q : State → Prop} {D : va_G} {cA : Nat → ClassId} {base : Nat} {w w' : WW} {cc : ByteArray} {pc nL : Nat} {ls : Array Slot} {rest st0 As : List Value} {ov : Option Value} (hx : p.tables.exec = Jvm.exec) (hb : c.code = cc) (hml : c.maxLocals = nL) (hown : s.vm.findClass Rc_va = some m.cls) (hts : ∀ w ∈ gt, w.before args s = true) (hK : va_K D cls (wo_tys cA) s) (hG : wo_G cA base s) (hW : wo_S D cls cA base s w H locs) (hM : mt l D cls (wo_tys cA) cA base y_va_restBy (Cond.code y_va_restBy b_va_restBy 4 (some .long) :: gt) rm_va_restBy (As) w ov w' rm_va_restBy.cells rm_va_restBy.slots) (hR : rm_va_restBy.frames + 1 ≤ R.frames ∧ 8 + (4 + 11) + rm_va_restBy.locals ≤ R.locals) (hf : cells + rm_va_restBy.cells ≤ R.cells ∧ slots + rm_va_restBy.slots ≤ R.slots) (hn : As.length = 2) (hsz : ls.size = nL) (hst : st0 = As.reverse ++ rest) (hcat : (rest.map fun v => v.category).sum ≤ 8) (hdg : decode cc pc = .ok (.invokestatic 59, 3)) (kk : ∀ (H1 : Heap) (locs1 : List Loc), wo_S D cls cA base s w' H1 locs1 → W p l e R s m args below meth c H1 locs1 (cells + rm_va_restBy.cells) (slots + rm_va_restBy.slots) Q (F0 m (pc + 3) ls (ov.toList ++ rest))) : W p l e R s m args below meth c H locs cells slots Q (F0 m pc ls st0) :=
  wo_callS hx hb hml hown hts hK hG hW hM (gt_of (i := 965) (by decide +kernel) (by decide +kernel)) (gt_of (i := 966) (by decide +kernel) (by decide +kernel)) (gt_of (i := 9) (by decide +kernel) (by decide +kernel)) (gt_of (i := 967) (by decide +kernel) (by decide +kernel)) (by decide +kernel) hR hf hn hsz hst hcat hdg kk
theorem cv_va_62 {p : Program} {l : Launch} {e : Env} {R : Room} {s : State} {m : MethodId} {args : Array Value} {below : List Frame} {meth : Method} {c : Code} {H : Heap} {locs : List Loc} {cells slots : Nat} {Q : State → Prop} {D : va_G} {cA : Nat → ClassId} {base : Nat} {w w' : WW} {cc : ByteArray} {pc nL : Nat} {ls : Array Slot} {rest st0 As : List Value} {ov : Option Value} {b : Nat} (hx : p.tables.exec = Jvm.exec) (hb : c.code = cc) (hml : c.maxLocals = nL) (hown : s.vm.findClass Rc_va = some m.cls) (hts : ∀ w ∈ gt, w.before args s = true) (hK : va_K D cls (wo_tys cA) s) (hG : wo_G cA base s) (hW : wo_S D cls cA base s w H locs) (hM : mt l D cls (wo_tys cA) cA base y_va_putTight (Cond.code y_va_putTight b_va_putTight 2 (some .boolean) :: gt) rm_va_putTight (.ref (base + b) :: As) w ov w' rm_va_putTight.cells rm_va_putTight.slots) (hkb : kb w b 8 = true) (hR : rm_va_putTight.frames + 1 ≤ R.frames ∧ 8 + (2 + 11) + rm_va_putTight.locals ≤ R.locals) (hf : cells + rm_va_putTight.cells ≤ R.cells ∧ slots + rm_va_putTight.slots ≤ R.slots) (hn : As.length = 0) (hsz : ls.size = nL) (hst : st0 = As.reverse ++ .ref (base + b) :: rest) (hcat : (rest.map fun v => v.category).sum ≤ 8) (hdg : decode cc pc = .ok (.invokevirtual 62, 3)) (kk : ∀ (H1 : Heap) (locs1 : List Loc), wo_S D cls cA base s w' H1 locs1 → W p l e R s m args below meth c H1 locs1 (cells + rm_va_putTight.cells) (slots + rm_va_putTight.slots) Q (F0 m (pc + 3) ls (ov.toList ++ rest))) : W p l e R s m args below meth c H locs cells slots Q (F0 m pc ls st0) :=
  wo_callV (C := Rc_va) hx hb hml hown hts hK hG hW hM hkb rfl (gt_of (i := 968) (by decide +kernel) (by decide +kernel)) (gt_of (i := 970) (by decide +kernel) (by decide +kernel)) (gt_sel (i := 43) (by decide +kernel) (by decide +kernel)) (gt_of (i := 9) (by decide +kernel) (by decide +kernel)) (gt_of (i := 971) (by decide +kernel) (by decide +kernel)) (by decide +kernel) hR hf hn hsz hst hcat hdg kk
abbrev b_va_join : ByteArray := prog_9_method_13_code
def y_va_join : MethodName := ⟨"AlarmForge$Value", "join", "(LAlarmForge$Value;)V"⟩
def rm_va_join : Room := { frames := 2, cells := 0, slots := 0, locals := 51 }
theorem d_va_join_0 : decode b_va_join 0 = .ok (.aload_n 1, 1) := by decide +kernel
theorem d_va_join_1 : decode b_va_join 1 = .ok (.getfield 9, 3) := by decide +kernel
theorem d_va_join_4 : decode b_va_join 4 = .ok (.ifCond .eq (4), 3) := by decide +kernel
theorem d_va_join_7 : decode b_va_join 7 = .ok (.return_, 1) := by decide +kernel
theorem d_va_join_8 : decode b_va_join 8 = .ok (.aload_n 0, 1) := by decide +kernel
theorem d_va_join_9 : decode b_va_join 9 = .ok (.getfield 9, 3) := by decide +kernel
theorem d_va_join_12 : decode b_va_join 12 = .ok (.ifCond .eq (9), 3) := by decide +kernel
theorem d_va_join_15 : decode b_va_join 15 = .ok (.aload_n 0, 1) := by decide +kernel
theorem d_va_join_16 : decode b_va_join 16 = .ok (.aload_n 1, 1) := by decide +kernel
theorem d_va_join_17 : decode b_va_join 17 = .ok (.invokevirtual 52, 3) := by decide +kernel
theorem d_va_join_20 : decode b_va_join 20 = .ok (.return_, 1) := by decide +kernel
theorem d_va_join_21 : decode b_va_join 21 = .ok (.aload_n 0, 1) := by decide +kernel
theorem d_va_join_22 : decode b_va_join 22 = .ok (.aload_n 0, 1) := by decide +kernel
theorem d_va_join_23 : decode b_va_join 23 = .ok (.getfield 15, 3) := by decide +kernel
theorem d_va_join_26 : decode b_va_join 26 = .ok (.aload_n 1, 1) := by decide +kernel
theorem d_va_join_27 : decode b_va_join 27 = .ok (.getfield 15, 3) := by decide +kernel
theorem d_va_join_30 : decode b_va_join 30 = .ok (.invokestatic 47, 3) := by decide +kernel
theorem d_va_join_33 : decode b_va_join 33 = .ok (.putfield 15, 3) := by decide +kernel
theorem d_va_join_36 : decode b_va_join 36 = .ok (.aload_n 0, 1) := by decide +kernel
theorem d_va_join_37 : decode b_va_join 37 = .ok (.aload_n 0, 1) := by decide +kernel
theorem d_va_join_38 : decode b_va_join 38 = .ok (.getfield 19, 3) := by decide +kernel
theorem d_va_join_41 : decode b_va_join 41 = .ok (.aload_n 1, 1) := by decide +kernel
theorem d_va_join_42 : decode b_va_join 42 = .ok (.getfield 19, 3) := by decide +kernel
theorem d_va_join_45 : decode b_va_join 45 = .ok (.invokestatic 44, 3) := by decide +kernel
theorem d_va_join_48 : decode b_va_join 48 = .ok (.putfield 19, 3) := by decide +kernel
theorem d_va_join_51 : decode b_va_join 51 = .ok (.aload_n 0, 1) := by decide +kernel
theorem d_va_join_52 : decode b_va_join 52 = .ok (.aload_n 0, 1) := by decide +kernel
theorem d_va_join_53 : decode b_va_join 53 = .ok (.getfield 22, 3) := by decide +kernel
theorem d_va_join_56 : decode b_va_join 56 = .ok (.aload_n 1, 1) := by decide +kernel
theorem d_va_join_57 : decode b_va_join 57 = .ok (.getfield 22, 3) := by decide +kernel
theorem d_va_join_60 : decode b_va_join 60 = .ok (.invokestatic 56, 3) := by decide +kernel
theorem d_va_join_63 : decode b_va_join 63 = .ok (.aload_n 0, 1) := by decide +kernel
theorem d_va_join_64 : decode b_va_join 64 = .ok (.getfield 25, 3) := by decide +kernel
theorem d_va_join_67 : decode b_va_join 67 = .ok (.aload_n 1, 1) := by decide +kernel
theorem d_va_join_68 : decode b_va_join 68 = .ok (.getfield 25, 3) := by decide +kernel
theorem d_va_join_71 : decode b_va_join 71 = .ok (.lsub, 1) := by decide +kernel
theorem d_va_join_72 : decode b_va_join 72 = .ok (.invokestatic 56, 3) := by decide +kernel
theorem d_va_join_75 : decode b_va_join 75 = .ok (.putfield 22, 3) := by decide +kernel
theorem d_va_join_78 : decode b_va_join 78 = .ok (.aload_n 0, 1) := by decide +kernel
theorem d_va_join_79 : decode b_va_join 79 = .ok (.aload_n 0, 1) := by decide +kernel
theorem d_va_join_80 : decode b_va_join 80 = .ok (.getfield 25, 3) := by decide +kernel
theorem d_va_join_83 : decode b_va_join 83 = .ok (.aload_n 0, 1) := by decide +kernel
theorem d_va_join_84 : decode b_va_join 84 = .ok (.getfield 22, 3) := by decide +kernel
theorem d_va_join_87 : decode b_va_join 87 = .ok (.invokestatic 59, 3) := by decide +kernel
theorem d_va_join_90 : decode b_va_join 90 = .ok (.putfield 25, 3) := by decide +kernel
theorem d_va_join_93 : decode b_va_join 93 = .ok (.aload_n 0, 1) := by decide +kernel
theorem d_va_join_94 : decode b_va_join 94 = .ok (.invokevirtual 62, 3) := by decide +kernel
theorem d_va_join_97 : decode b_va_join 97 = .ok (.pop, 1) := by decide +kernel
theorem d_va_join_98 : decode b_va_join 98 = .ok (.return_, 1) := by decide +kernel
theorem kb_va_join {a0 a1 : Nat}  {w : WW} {r : WW} (h : f_va_join a0 a1 w = some r) : kb w a0 8 = true := (its h).1
set_option maxHeartbeats 4000000 in
set_option maxRecDepth 100000 in
theorem c_va_join (l : Launch) (D : va_G) (cA : Nat → ClassId) (base : Nat) {a0 : Nat} {a1 : Nat} {w w' : WW} (h : f_va_join a0 a1 w = some w') : mt l D cls (wo_tys cA) cA base y_va_join (Cond.code y_va_join b_va_join 2 (none) :: gt) rm_va_join [.ref (base + a0), .ref (base + a1)] w none w' rm_va_join.cells rm_va_join.slots := by
  refine mt_start (by decide) (Nat.le_of_ble_eq_true rfl) ?_
  intro p e s m below meth c ls hx hb hr hml hown hts hlk hnm hK hG hW hl
  have C : cx b_va_join (none) 2 y_va_join.cls "join" p s m [.ref (base + a0), .ref (base + a1)].toArray meth c D cA base := ⟨hx, hb, hr, hml, hown, hts, hlk, hnm, hK, hG⟩
  have hl : lv_has ls 2 [(0, .ref (base + a0)), (1, .ref (base + a1))] := hl
  unfold f_va_join at h
  replace h := its h
  obtain ⟨-, h⟩ := h
  refine lv_aload_n hx hb d_va_join_0 rfl (lv_at hl 1 rfl) ?_
  replace h := bs h
  obtain ⟨x1, hx1, h⟩ := h
  refine gf_va_9 hx hb hts hown hK hG hW (gI_s hx1) d_va_join_1 ?_
  refine lv_if_eq (tgt := 8) hx hb d_va_join_4 (by decide) (fun c2 => ?_) (fun c2 => ?_)
  · rw [if_pos c2] at h
    refine lv_aload_n hx hb d_va_join_8 rfl (lv_at hl 0 rfl) ?_
    replace h := bs h
    obtain ⟨x3, hx3, h⟩ := h
    refine gf_va_9 hx hb hts hown hK hG hW (gI_s hx3) d_va_join_9 ?_
    refine lv_if_eq (tgt := 21) hx hb d_va_join_12 (by decide) (fun c4 => ?_) (fun c4 => ?_)
    · rw [if_pos c4] at h
      refine lv_aload_n hx hb d_va_join_21 rfl (lv_at hl 0 rfl) ?_
      refine lv_aload_n hx hb d_va_join_22 rfl (lv_at hl 0 rfl) ?_
      replace h := bs h
      obtain ⟨x5, hx5, h⟩ := h
      refine gf_va_15 hx hb hts hown hK hG hW (gL_s hx5) d_va_join_23 ?_
      refine lv_aload_n hx hb d_va_join_26 rfl (lv_at hl 1 rfl) ?_
      replace h := bs h
      obtain ⟨x6, hx6, h⟩ := h
      refine gf_va_15 hx hb hts hown hK hG hW (gL_s hx6) d_va_join_27 ?_
      replace h := bs2 h
      obtain ⟨x8, w7, hw7, h⟩ := h
      refine cs_va_47 (As := [.long x5, .long x6]) (rest := [.ref (base + a0)]) hx hb hml hown hts hK hG hW (c_ma_min_JJ l D cA base hw7) ⟨Nat.le_of_ble_eq_true rfl, Nat.le_of_ble_eq_true rfl⟩ ⟨Nat.le_of_ble_eq_true rfl, Nat.le_of_ble_eq_true rfl⟩ rfl hl.1 rfl (Nat.le_of_ble_eq_true rfl) d_va_join_30 (fun H locs hW => ?_)
      replace h := bs h
      obtain ⟨w9, hw9, h⟩ := h
      refine pf_va_15 hx hb hts hown hK hG hW rfl rfl (pbi hw9 rfl) d_va_join_33 (fun H locs hW => ?_)
      refine lv_aload_n hx hb d_va_join_36 rfl (lv_at hl 0 rfl) ?_
      refine lv_aload_n hx hb d_va_join_37 rfl (lv_at hl 0 rfl) ?_
      replace h := bs h
      obtain ⟨x10, hx10, h⟩ := h
      refine gf_va_19 hx hb hts hown hK hG hW (gL_s hx10) d_va_join_38 ?_
      refine lv_aload_n hx hb d_va_join_41 rfl (lv_at hl 1 rfl) ?_
      replace h := bs h
      obtain ⟨x11, hx11, h⟩ := h
      refine gf_va_19 hx hb hts hown hK hG hW (gL_s hx11) d_va_join_42 ?_
      replace h := bs2 h
      obtain ⟨x13, w12, hw12, h⟩ := h
      refine cs_va_44 (As := [.long x10, .long x11]) (rest := [.ref (base + a0)]) hx hb hml hown hts hK hG hW (c_ma_max_JJ l D cA base hw12) ⟨Nat.le_of_ble_eq_true rfl, Nat.le_of_ble_eq_true rfl⟩ ⟨Nat.le_of_ble_eq_true rfl, Nat.le_of_ble_eq_true rfl⟩ rfl hl.1 rfl (Nat.le_of_ble_eq_true rfl) d_va_join_45 (fun H locs hW => ?_)
      replace h := bs h
      obtain ⟨w14, hw14, h⟩ := h
      refine pf_va_19 hx hb hts hown hK hG hW rfl rfl (pbi hw14 rfl) d_va_join_48 (fun H locs hW => ?_)
      refine lv_aload_n hx hb d_va_join_51 rfl (lv_at hl 0 rfl) ?_
      refine lv_aload_n hx hb d_va_join_52 rfl (lv_at hl 0 rfl) ?_
      replace h := bs h
      obtain ⟨x15, hx15, h⟩ := h
      refine gf_va_22 hx hb hts hown hK hG hW (gL_s hx15) d_va_join_53 ?_
      refine lv_aload_n hx hb d_va_join_56 rfl (lv_at hl 1 rfl) ?_
      replace h := bs h
      obtain ⟨x16, hx16, h⟩ := h
      refine gf_va_22 hx hb hts hown hK hG hW (gL_s hx16) d_va_join_57 ?_
      replace h := bs2 h
      obtain ⟨x18, w17, hw17, h⟩ := h
      refine cs_va_56 (As := [.long x15, .long x16]) (rest := [.ref (base + a0)]) hx hb hml hown hts hK hG hW (c_va_commonDivisor l D cA base hw17) ⟨Nat.le_of_ble_eq_true rfl, Nat.le_of_ble_eq_true rfl⟩ ⟨Nat.le_of_ble_eq_true rfl, Nat.le_of_ble_eq_true rfl⟩ rfl hl.1 rfl (Nat.le_of_ble_eq_true rfl) d_va_join_60 (fun H locs hW => ?_)
      refine lv_aload_n hx hb d_va_join_63 rfl (lv_at hl 0 rfl) ?_
      replace h := bs h
      obtain ⟨x19, hx19, h⟩ := h
      refine gf_va_25 hx hb hts hown hK hG hW (gL_s hx19) d_va_join_64 ?_
      refine lv_aload_n hx hb d_va_join_67 rfl (lv_at hl 1 rfl) ?_
      replace h := bs h
      obtain ⟨x20, hx20, h⟩ := h
      refine gf_va_25 hx hb hts hown hK hG hW (gL_s hx20) d_va_join_68 ?_
      refine lv_lsub hx hb d_va_join_71 ?_
      replace h := bs2 h
      obtain ⟨x22, w21, hw21, h⟩ := h
      refine cs_va_56 (As := [.long x18, .long (x19 - x20)]) (rest := [.ref (base + a0)]) hx hb hml hown hts hK hG hW (c_va_commonDivisor l D cA base hw21) ⟨Nat.le_of_ble_eq_true rfl, Nat.le_of_ble_eq_true rfl⟩ ⟨Nat.le_of_ble_eq_true rfl, Nat.le_of_ble_eq_true rfl⟩ rfl hl.1 rfl (Nat.le_of_ble_eq_true rfl) d_va_join_72 (fun H locs hW => ?_)
      replace h := bs h
      obtain ⟨w23, hw23, h⟩ := h
      refine pf_va_22 hx hb hts hown hK hG hW rfl rfl (pbi hw23 rfl) d_va_join_75 (fun H locs hW => ?_)
      refine lv_aload_n hx hb d_va_join_78 rfl (lv_at hl 0 rfl) ?_
      refine lv_aload_n hx hb d_va_join_79 rfl (lv_at hl 0 rfl) ?_
      replace h := bs h
      obtain ⟨x24, hx24, h⟩ := h
      refine gf_va_25 hx hb hts hown hK hG hW (gL_s hx24) d_va_join_80 ?_
      refine lv_aload_n hx hb d_va_join_83 rfl (lv_at hl 0 rfl) ?_
      replace h := bs h
      obtain ⟨x25, hx25, h⟩ := h
      refine gf_va_22 hx hb hts hown hK hG hW (gL_s hx25) d_va_join_84 ?_
      replace h := bs2 h
      obtain ⟨x27, w26, hw26, h⟩ := h
      refine cs_va_59 (As := [.long x24, .long x25]) (rest := [.ref (base + a0)]) hx hb hml hown hts hK hG hW (c_va_restBy l D cA base hw26) ⟨Nat.le_of_ble_eq_true rfl, Nat.le_of_ble_eq_true rfl⟩ ⟨Nat.le_of_ble_eq_true rfl, Nat.le_of_ble_eq_true rfl⟩ rfl hl.1 rfl (Nat.le_of_ble_eq_true rfl) d_va_join_87 (fun H locs hW => ?_)
      replace h := bs h
      obtain ⟨w28, hw28, h⟩ := h
      refine pf_va_25 hx hb hts hown hK hG hW rfl rfl (pbi hw28 rfl) d_va_join_90 (fun H locs hW => ?_)
      refine lv_aload_n hx hb d_va_join_93 rfl (lv_at hl 0 rfl) ?_
      replace h := bs2 h
      obtain ⟨x30, w29, hw29, h⟩ := h
      refine cv_va_62 (As := []) (rest := []) hx hb hml hown hts hK hG hW (c_va_putTight l D cA base hw29) (kb_va_putTight hw29) ⟨Nat.le_of_ble_eq_true rfl, Nat.le_of_ble_eq_true rfl⟩ ⟨Nat.le_of_ble_eq_true rfl, Nat.le_of_ble_eq_true rfl⟩ rfl hl.1 rfl (Nat.le_of_ble_eq_true rfl) d_va_join_94 (fun H locs hW => ?_)
      refine lv_pop hx hb d_va_join_97 rfl ?_
      cases h
      exact wo_vret hx hb hr hlk hW d_va_join_98
    · rw [if_neg c4] at h
      refine lv_aload_n hx hb d_va_join_15 rfl (lv_at hl 0 rfl) ?_
      refine lv_aload_n hx hb d_va_join_16 rfl (lv_at hl 1 rfl) ?_
      replace h := bs h
      obtain ⟨w31, hw31, h⟩ := h
      refine cv_va_52 (As := [.ref (base + a1)]) (rest := []) hx hb hml hown hts hK hG hW (c_va_copy l D cA base hw31) (kb_va_copy hw31) ⟨Nat.le_of_ble_eq_true rfl, Nat.le_of_ble_eq_true rfl⟩ ⟨Nat.le_of_ble_eq_true rfl, Nat.le_of_ble_eq_true rfl⟩ rfl hl.1 rfl (Nat.le_of_ble_eq_true rfl) d_va_join_17 (fun H locs hW => ?_)
      cases h
      exact wo_vret hx hb hr hlk hW d_va_join_20
  · rw [if_neg c2] at h
    cases h
    exact wo_vret hx hb hr hlk hW d_va_join_7
abbrev b_va_subtract : ByteArray := prog_9_method_20_code
def y_va_subtract : MethodName := ⟨"AlarmForge$Value", "subtract", "(LAlarmForge$Value;)Z"⟩
def rm_va_subtract : Room := { frames := 2, cells := 0, slots := 0, locals := 51 }
theorem d_va_subtract_0 : decode b_va_subtract 0 = .ok (.aload_n 0, 1) := by decide +kernel
theorem d_va_subtract_1 : decode b_va_subtract 1 = .ok (.dup, 1) := by decide +kernel
theorem d_va_subtract_2 : decode b_va_subtract 2 = .ok (.getfield 15, 3) := by decide +kernel
theorem d_va_subtract_5 : decode b_va_subtract 5 = .ok (.aload_n 1, 1) := by decide +kernel
theorem d_va_subtract_6 : decode b_va_subtract 6 = .ok (.getfield 19, 3) := by decide +kernel
theorem d_va_subtract_9 : decode b_va_subtract 9 = .ok (.lsub, 1) := by decide +kernel
theorem d_va_subtract_10 : decode b_va_subtract 10 = .ok (.putfield 15, 3) := by decide +kernel
theorem d_va_subtract_13 : decode b_va_subtract 13 = .ok (.aload_n 0, 1) := by decide +kernel
theorem d_va_subtract_14 : decode b_va_subtract 14 = .ok (.dup, 1) := by decide +kernel
theorem d_va_subtract_15 : decode b_va_subtract 15 = .ok (.getfield 19, 3) := by decide +kernel
theorem d_va_subtract_18 : decode b_va_subtract 18 = .ok (.aload_n 1, 1) := by decide +kernel
theorem d_va_subtract_19 : decode b_va_subtract 19 = .ok (.getfield 15, 3) := by decide +kernel
theorem d_va_subtract_22 : decode b_va_subtract 22 = .ok (.lsub, 1) := by decide +kernel
theorem d_va_subtract_23 : decode b_va_subtract 23 = .ok (.putfield 19, 3) := by decide +kernel
theorem d_va_subtract_26 : decode b_va_subtract 26 = .ok (.aload_n 0, 1) := by decide +kernel
theorem d_va_subtract_27 : decode b_va_subtract 27 = .ok (.aload_n 0, 1) := by decide +kernel
theorem d_va_subtract_28 : decode b_va_subtract 28 = .ok (.getfield 22, 3) := by decide +kernel
theorem d_va_subtract_31 : decode b_va_subtract 31 = .ok (.aload_n 1, 1) := by decide +kernel
theorem d_va_subtract_32 : decode b_va_subtract 32 = .ok (.getfield 22, 3) := by decide +kernel
theorem d_va_subtract_35 : decode b_va_subtract 35 = .ok (.invokestatic 56, 3) := by decide +kernel
theorem d_va_subtract_38 : decode b_va_subtract 38 = .ok (.putfield 22, 3) := by decide +kernel
theorem d_va_subtract_41 : decode b_va_subtract 41 = .ok (.aload_n 0, 1) := by decide +kernel
theorem d_va_subtract_42 : decode b_va_subtract 42 = .ok (.aload_n 0, 1) := by decide +kernel
theorem d_va_subtract_43 : decode b_va_subtract 43 = .ok (.getfield 25, 3) := by decide +kernel
theorem d_va_subtract_46 : decode b_va_subtract 46 = .ok (.aload_n 1, 1) := by decide +kernel
theorem d_va_subtract_47 : decode b_va_subtract 47 = .ok (.getfield 25, 3) := by decide +kernel
theorem d_va_subtract_50 : decode b_va_subtract 50 = .ok (.lsub, 1) := by decide +kernel
theorem d_va_subtract_51 : decode b_va_subtract 51 = .ok (.aload_n 0, 1) := by decide +kernel
theorem d_va_subtract_52 : decode b_va_subtract 52 = .ok (.getfield 22, 3) := by decide +kernel
theorem d_va_subtract_55 : decode b_va_subtract 55 = .ok (.invokestatic 59, 3) := by decide +kernel
theorem d_va_subtract_58 : decode b_va_subtract 58 = .ok (.putfield 25, 3) := by decide +kernel
theorem d_va_subtract_61 : decode b_va_subtract 61 = .ok (.aload_n 0, 1) := by decide +kernel
theorem d_va_subtract_62 : decode b_va_subtract 62 = .ok (.invokevirtual 62, 3) := by decide +kernel
theorem d_va_subtract_65 : decode b_va_subtract 65 = .ok (.ireturn, 1) := by decide +kernel
theorem kb_va_subtract {a0 a1 : Nat}  {w : WW} {r : (Int32 × WW)} (h : f_va_subtract a0 a1 w = some r) : kb w a0 8 = true := (its h).1
set_option maxHeartbeats 4000000 in
set_option maxRecDepth 100000 in
theorem c_va_subtract (l : Launch) (D : va_G) (cA : Nat → ClassId) (base : Nat) {a0 : Nat} {a1 : Nat} {w w' : WW} {r : Int32} (h : f_va_subtract a0 a1 w = some (r, w')) : mt l D cls (wo_tys cA) cA base y_va_subtract (Cond.code y_va_subtract b_va_subtract 2 (some .boolean) :: gt) rm_va_subtract [.ref (base + a0), .ref (base + a1)] w (some (.int r)) w' rm_va_subtract.cells rm_va_subtract.slots := by
  refine mt_start (by decide) (Nat.le_of_ble_eq_true rfl) ?_
  intro p e s m below meth c ls hx hb hr hml hown hts hlk hnm hK hG hW hl
  have C : cx b_va_subtract (some .boolean) 2 y_va_subtract.cls "subtract" p s m [.ref (base + a0), .ref (base + a1)].toArray meth c D cA base := ⟨hx, hb, hr, hml, hown, hts, hlk, hnm, hK, hG⟩
  have hl : lv_has ls 2 [(0, .ref (base + a0)), (1, .ref (base + a1))] := hl
  unfold f_va_subtract at h
  replace h := its h
  obtain ⟨-, h⟩ := h
  refine lv_aload_n hx hb d_va_subtract_0 rfl (lv_at hl 0 rfl) ?_
  refine lv_dup hx hb d_va_subtract_1 rfl ?_
  replace h := bs h
  obtain ⟨x1, hx1, h⟩ := h
  refine gf_va_15 hx hb hts hown hK hG hW (gL_s hx1) d_va_subtract_2 ?_
  refine lv_aload_n hx hb d_va_subtract_5 rfl (lv_at hl 1 rfl) ?_
  replace h := bs h
  obtain ⟨x2, hx2, h⟩ := h
  refine gf_va_19 hx hb hts hown hK hG hW (gL_s hx2) d_va_subtract_6 ?_
  refine lv_lsub hx hb d_va_subtract_9 ?_
  replace h := bs h
  obtain ⟨w3, hw3, h⟩ := h
  refine pf_va_15 hx hb hts hown hK hG hW rfl rfl (pbi hw3 rfl) d_va_subtract_10 (fun H locs hW => ?_)
  refine lv_aload_n hx hb d_va_subtract_13 rfl (lv_at hl 0 rfl) ?_
  refine lv_dup hx hb d_va_subtract_14 rfl ?_
  replace h := bs h
  obtain ⟨x4, hx4, h⟩ := h
  refine gf_va_19 hx hb hts hown hK hG hW (gL_s hx4) d_va_subtract_15 ?_
  refine lv_aload_n hx hb d_va_subtract_18 rfl (lv_at hl 1 rfl) ?_
  replace h := bs h
  obtain ⟨x5, hx5, h⟩ := h
  refine gf_va_15 hx hb hts hown hK hG hW (gL_s hx5) d_va_subtract_19 ?_
  refine lv_lsub hx hb d_va_subtract_22 ?_
  replace h := bs h
  obtain ⟨w6, hw6, h⟩ := h
  refine pf_va_19 hx hb hts hown hK hG hW rfl rfl (pbi hw6 rfl) d_va_subtract_23 (fun H locs hW => ?_)
  refine lv_aload_n hx hb d_va_subtract_26 rfl (lv_at hl 0 rfl) ?_
  refine lv_aload_n hx hb d_va_subtract_27 rfl (lv_at hl 0 rfl) ?_
  replace h := bs h
  obtain ⟨x7, hx7, h⟩ := h
  refine gf_va_22 hx hb hts hown hK hG hW (gL_s hx7) d_va_subtract_28 ?_
  refine lv_aload_n hx hb d_va_subtract_31 rfl (lv_at hl 1 rfl) ?_
  replace h := bs h
  obtain ⟨x8, hx8, h⟩ := h
  refine gf_va_22 hx hb hts hown hK hG hW (gL_s hx8) d_va_subtract_32 ?_
  replace h := bs2 h
  obtain ⟨x10, w9, hw9, h⟩ := h
  refine cs_va_56 (As := [.long x7, .long x8]) (rest := [.ref (base + a0)]) hx hb hml hown hts hK hG hW (c_va_commonDivisor l D cA base hw9) ⟨Nat.le_of_ble_eq_true rfl, Nat.le_of_ble_eq_true rfl⟩ ⟨Nat.le_of_ble_eq_true rfl, Nat.le_of_ble_eq_true rfl⟩ rfl hl.1 rfl (Nat.le_of_ble_eq_true rfl) d_va_subtract_35 (fun H locs hW => ?_)
  replace h := bs h
  obtain ⟨w11, hw11, h⟩ := h
  refine pf_va_22 hx hb hts hown hK hG hW rfl rfl (pbi hw11 rfl) d_va_subtract_38 (fun H locs hW => ?_)
  refine lv_aload_n hx hb d_va_subtract_41 rfl (lv_at hl 0 rfl) ?_
  refine lv_aload_n hx hb d_va_subtract_42 rfl (lv_at hl 0 rfl) ?_
  replace h := bs h
  obtain ⟨x12, hx12, h⟩ := h
  refine gf_va_25 hx hb hts hown hK hG hW (gL_s hx12) d_va_subtract_43 ?_
  refine lv_aload_n hx hb d_va_subtract_46 rfl (lv_at hl 1 rfl) ?_
  replace h := bs h
  obtain ⟨x13, hx13, h⟩ := h
  refine gf_va_25 hx hb hts hown hK hG hW (gL_s hx13) d_va_subtract_47 ?_
  refine lv_lsub hx hb d_va_subtract_50 ?_
  refine lv_aload_n hx hb d_va_subtract_51 rfl (lv_at hl 0 rfl) ?_
  replace h := bs h
  obtain ⟨x14, hx14, h⟩ := h
  refine gf_va_22 hx hb hts hown hK hG hW (gL_s hx14) d_va_subtract_52 ?_
  replace h := bs2 h
  obtain ⟨x16, w15, hw15, h⟩ := h
  refine cs_va_59 (As := [.long (x12 - x13), .long x14]) (rest := [.ref (base + a0)]) hx hb hml hown hts hK hG hW (c_va_restBy l D cA base hw15) ⟨Nat.le_of_ble_eq_true rfl, Nat.le_of_ble_eq_true rfl⟩ ⟨Nat.le_of_ble_eq_true rfl, Nat.le_of_ble_eq_true rfl⟩ rfl hl.1 rfl (Nat.le_of_ble_eq_true rfl) d_va_subtract_55 (fun H locs hW => ?_)
  replace h := bs h
  obtain ⟨w17, hw17, h⟩ := h
  refine pf_va_25 hx hb hts hown hK hG hW rfl rfl (pbi hw17 rfl) d_va_subtract_58 (fun H locs hW => ?_)
  refine lv_aload_n hx hb d_va_subtract_61 rfl (lv_at hl 0 rfl) ?_
  replace h := bs2 h
  obtain ⟨x19, w18, hw18, h⟩ := h
  refine cv_va_62 (As := []) (rest := []) hx hb hml hown hts hK hG hW (c_va_putTight l D cA base hw18) (kb_va_putTight hw18) ⟨Nat.le_of_ble_eq_true rfl, Nat.le_of_ble_eq_true rfl⟩ ⟨Nat.le_of_ble_eq_true rfl, Nat.le_of_ble_eq_true rfl⟩ rfl hl.1 rfl (Nat.le_of_ble_eq_true rfl) d_va_subtract_62 (fun H locs hW => ?_)
  replace h := its h
  obtain ⟨c20, h⟩ := h
  cases h
  exact wo_zret hx hb hr hlk hW c20 d_va_subtract_65
abbrev b_va_add : ByteArray := prog_9_method_19_code
def y_va_add : MethodName := ⟨"AlarmForge$Value", "add", "(LAlarmForge$Value;)Z"⟩
def rm_va_add : Room := { frames := 2, cells := 0, slots := 0, locals := 51 }
theorem d_va_add_0 : decode b_va_add 0 = .ok (.aload_n 0, 1) := by decide +kernel
theorem d_va_add_1 : decode b_va_add 1 = .ok (.dup, 1) := by decide +kernel
theorem d_va_add_2 : decode b_va_add 2 = .ok (.getfield 15, 3) := by decide +kernel
theorem d_va_add_5 : decode b_va_add 5 = .ok (.aload_n 1, 1) := by decide +kernel
theorem d_va_add_6 : decode b_va_add 6 = .ok (.getfield 15, 3) := by decide +kernel
theorem d_va_add_9 : decode b_va_add 9 = .ok (.ladd, 1) := by decide +kernel
theorem d_va_add_10 : decode b_va_add 10 = .ok (.putfield 15, 3) := by decide +kernel
theorem d_va_add_13 : decode b_va_add 13 = .ok (.aload_n 0, 1) := by decide +kernel
theorem d_va_add_14 : decode b_va_add 14 = .ok (.dup, 1) := by decide +kernel
theorem d_va_add_15 : decode b_va_add 15 = .ok (.getfield 19, 3) := by decide +kernel
theorem d_va_add_18 : decode b_va_add 18 = .ok (.aload_n 1, 1) := by decide +kernel
theorem d_va_add_19 : decode b_va_add 19 = .ok (.getfield 19, 3) := by decide +kernel
theorem d_va_add_22 : decode b_va_add 22 = .ok (.ladd, 1) := by decide +kernel
theorem d_va_add_23 : decode b_va_add 23 = .ok (.putfield 19, 3) := by decide +kernel
theorem d_va_add_26 : decode b_va_add 26 = .ok (.aload_n 0, 1) := by decide +kernel
theorem d_va_add_27 : decode b_va_add 27 = .ok (.aload_n 0, 1) := by decide +kernel
theorem d_va_add_28 : decode b_va_add 28 = .ok (.getfield 22, 3) := by decide +kernel
theorem d_va_add_31 : decode b_va_add 31 = .ok (.aload_n 1, 1) := by decide +kernel
theorem d_va_add_32 : decode b_va_add 32 = .ok (.getfield 22, 3) := by decide +kernel
theorem d_va_add_35 : decode b_va_add 35 = .ok (.invokestatic 56, 3) := by decide +kernel
theorem d_va_add_38 : decode b_va_add 38 = .ok (.putfield 22, 3) := by decide +kernel
theorem d_va_add_41 : decode b_va_add 41 = .ok (.aload_n 0, 1) := by decide +kernel
theorem d_va_add_42 : decode b_va_add 42 = .ok (.aload_n 0, 1) := by decide +kernel
theorem d_va_add_43 : decode b_va_add 43 = .ok (.getfield 25, 3) := by decide +kernel
theorem d_va_add_46 : decode b_va_add 46 = .ok (.aload_n 1, 1) := by decide +kernel
theorem d_va_add_47 : decode b_va_add 47 = .ok (.getfield 25, 3) := by decide +kernel
theorem d_va_add_50 : decode b_va_add 50 = .ok (.ladd, 1) := by decide +kernel
theorem d_va_add_51 : decode b_va_add 51 = .ok (.aload_n 0, 1) := by decide +kernel
theorem d_va_add_52 : decode b_va_add 52 = .ok (.getfield 22, 3) := by decide +kernel
theorem d_va_add_55 : decode b_va_add 55 = .ok (.invokestatic 59, 3) := by decide +kernel
theorem d_va_add_58 : decode b_va_add 58 = .ok (.putfield 25, 3) := by decide +kernel
theorem d_va_add_61 : decode b_va_add 61 = .ok (.aload_n 0, 1) := by decide +kernel
theorem d_va_add_62 : decode b_va_add 62 = .ok (.invokevirtual 62, 3) := by decide +kernel
theorem d_va_add_65 : decode b_va_add 65 = .ok (.ireturn, 1) := by decide +kernel
theorem kb_va_add {a0 a1 : Nat}  {w : WW} {r : (Int32 × WW)} (h : f_va_add a0 a1 w = some r) : kb w a0 8 = true := (its h).1
set_option maxHeartbeats 4000000 in
set_option maxRecDepth 100000 in
theorem c_va_add (l : Launch) (D : va_G) (cA : Nat → ClassId) (base : Nat) {a0 : Nat} {a1 : Nat} {w w' : WW} {r : Int32} (h : f_va_add a0 a1 w = some (r, w')) : mt l D cls (wo_tys cA) cA base y_va_add (Cond.code y_va_add b_va_add 2 (some .boolean) :: gt) rm_va_add [.ref (base + a0), .ref (base + a1)] w (some (.int r)) w' rm_va_add.cells rm_va_add.slots := by
  refine mt_start (by decide) (Nat.le_of_ble_eq_true rfl) ?_
  intro p e s m below meth c ls hx hb hr hml hown hts hlk hnm hK hG hW hl
  have C : cx b_va_add (some .boolean) 2 y_va_add.cls "add" p s m [.ref (base + a0), .ref (base + a1)].toArray meth c D cA base := ⟨hx, hb, hr, hml, hown, hts, hlk, hnm, hK, hG⟩
  have hl : lv_has ls 2 [(0, .ref (base + a0)), (1, .ref (base + a1))] := hl
  unfold f_va_add at h
  replace h := its h
  obtain ⟨-, h⟩ := h
  refine lv_aload_n hx hb d_va_add_0 rfl (lv_at hl 0 rfl) ?_
  refine lv_dup hx hb d_va_add_1 rfl ?_
  replace h := bs h
  obtain ⟨x1, hx1, h⟩ := h
  refine gf_va_15 hx hb hts hown hK hG hW (gL_s hx1) d_va_add_2 ?_
  refine lv_aload_n hx hb d_va_add_5 rfl (lv_at hl 1 rfl) ?_
  replace h := bs h
  obtain ⟨x2, hx2, h⟩ := h
  refine gf_va_15 hx hb hts hown hK hG hW (gL_s hx2) d_va_add_6 ?_
  refine lv_ladd hx hb d_va_add_9 ?_
  replace h := bs h
  obtain ⟨w3, hw3, h⟩ := h
  refine pf_va_15 hx hb hts hown hK hG hW rfl rfl (pbi hw3 rfl) d_va_add_10 (fun H locs hW => ?_)
  refine lv_aload_n hx hb d_va_add_13 rfl (lv_at hl 0 rfl) ?_
  refine lv_dup hx hb d_va_add_14 rfl ?_
  replace h := bs h
  obtain ⟨x4, hx4, h⟩ := h
  refine gf_va_19 hx hb hts hown hK hG hW (gL_s hx4) d_va_add_15 ?_
  refine lv_aload_n hx hb d_va_add_18 rfl (lv_at hl 1 rfl) ?_
  replace h := bs h
  obtain ⟨x5, hx5, h⟩ := h
  refine gf_va_19 hx hb hts hown hK hG hW (gL_s hx5) d_va_add_19 ?_
  refine lv_ladd hx hb d_va_add_22 ?_
  replace h := bs h
  obtain ⟨w6, hw6, h⟩ := h
  refine pf_va_19 hx hb hts hown hK hG hW rfl rfl (pbi hw6 rfl) d_va_add_23 (fun H locs hW => ?_)
  refine lv_aload_n hx hb d_va_add_26 rfl (lv_at hl 0 rfl) ?_
  refine lv_aload_n hx hb d_va_add_27 rfl (lv_at hl 0 rfl) ?_
  replace h := bs h
  obtain ⟨x7, hx7, h⟩ := h
  refine gf_va_22 hx hb hts hown hK hG hW (gL_s hx7) d_va_add_28 ?_
  refine lv_aload_n hx hb d_va_add_31 rfl (lv_at hl 1 rfl) ?_
  replace h := bs h
  obtain ⟨x8, hx8, h⟩ := h
  refine gf_va_22 hx hb hts hown hK hG hW (gL_s hx8) d_va_add_32 ?_
  replace h := bs2 h
  obtain ⟨x10, w9, hw9, h⟩ := h
  refine cs_va_56 (As := [.long x7, .long x8]) (rest := [.ref (base + a0)]) hx hb hml hown hts hK hG hW (c_va_commonDivisor l D cA base hw9) ⟨Nat.le_of_ble_eq_true rfl, Nat.le_of_ble_eq_true rfl⟩ ⟨Nat.le_of_ble_eq_true rfl, Nat.le_of_ble_eq_true rfl⟩ rfl hl.1 rfl (Nat.le_of_ble_eq_true rfl) d_va_add_35 (fun H locs hW => ?_)
  replace h := bs h
  obtain ⟨w11, hw11, h⟩ := h
  refine pf_va_22 hx hb hts hown hK hG hW rfl rfl (pbi hw11 rfl) d_va_add_38 (fun H locs hW => ?_)
  refine lv_aload_n hx hb d_va_add_41 rfl (lv_at hl 0 rfl) ?_
  refine lv_aload_n hx hb d_va_add_42 rfl (lv_at hl 0 rfl) ?_
  replace h := bs h
  obtain ⟨x12, hx12, h⟩ := h
  refine gf_va_25 hx hb hts hown hK hG hW (gL_s hx12) d_va_add_43 ?_
  refine lv_aload_n hx hb d_va_add_46 rfl (lv_at hl 1 rfl) ?_
  replace h := bs h
  obtain ⟨x13, hx13, h⟩ := h
  refine gf_va_25 hx hb hts hown hK hG hW (gL_s hx13) d_va_add_47 ?_
  refine lv_ladd hx hb d_va_add_50 ?_
  refine lv_aload_n hx hb d_va_add_51 rfl (lv_at hl 0 rfl) ?_
  replace h := bs h
  obtain ⟨x14, hx14, h⟩ := h
  refine gf_va_22 hx hb hts hown hK hG hW (gL_s hx14) d_va_add_52 ?_
  replace h := bs2 h
  obtain ⟨x16, w15, hw15, h⟩ := h
  refine cs_va_59 (As := [.long (x12 + x13), .long x14]) (rest := [.ref (base + a0)]) hx hb hml hown hts hK hG hW (c_va_restBy l D cA base hw15) ⟨Nat.le_of_ble_eq_true rfl, Nat.le_of_ble_eq_true rfl⟩ ⟨Nat.le_of_ble_eq_true rfl, Nat.le_of_ble_eq_true rfl⟩ rfl hl.1 rfl (Nat.le_of_ble_eq_true rfl) d_va_add_55 (fun H locs hW => ?_)
  replace h := bs h
  obtain ⟨w17, hw17, h⟩ := h
  refine pf_va_25 hx hb hts hown hK hG hW rfl rfl (pbi hw17 rfl) d_va_add_58 (fun H locs hW => ?_)
  refine lv_aload_n hx hb d_va_add_61 rfl (lv_at hl 0 rfl) ?_
  replace h := bs2 h
  obtain ⟨x19, w18, hw18, h⟩ := h
  refine cv_va_62 (As := []) (rest := []) hx hb hml hown hts hK hG hW (c_va_putTight l D cA base hw18) (kb_va_putTight hw18) ⟨Nat.le_of_ble_eq_true rfl, Nat.le_of_ble_eq_true rfl⟩ ⟨Nat.le_of_ble_eq_true rfl, Nat.le_of_ble_eq_true rfl⟩ rfl hl.1 rfl (Nat.le_of_ble_eq_true rfl) d_va_add_62 (fun H locs hW => ?_)
  replace h := its h
  obtain ⟨c20, h⟩ := h
  cases h
  exact wo_zret hx hb hr hlk hW c20 d_va_add_65
abbrev b_va_multiply : ByteArray := prog_9_method_21_code
def y_va_multiply : MethodName := ⟨"AlarmForge$Value", "multiply", "(LAlarmForge$Value;)Z"⟩
def rm_va_multiply : Room := { frames := 2, cells := 0, slots := 0, locals := 51 }
theorem d_va_multiply_0 : decode b_va_multiply 0 = .ok (.aload_n 0, 1) := by decide +kernel
theorem d_va_multiply_1 : decode b_va_multiply 1 = .ok (.getfield 15, 3) := by decide +kernel
theorem d_va_multiply_4 : decode b_va_multiply 4 = .ok (.aload_n 1, 1) := by decide +kernel
theorem d_va_multiply_5 : decode b_va_multiply 5 = .ok (.getfield 15, 3) := by decide +kernel
theorem d_va_multiply_8 : decode b_va_multiply 8 = .ok (.lmul, 1) := by decide +kernel
theorem d_va_multiply_9 : decode b_va_multiply 9 = .ok (.lstore_n 2, 1) := by decide +kernel
theorem d_va_multiply_10 : decode b_va_multiply 10 = .ok (.aload_n 0, 1) := by decide +kernel
theorem d_va_multiply_11 : decode b_va_multiply 11 = .ok (.getfield 15, 3) := by decide +kernel
theorem d_va_multiply_14 : decode b_va_multiply 14 = .ok (.aload_n 1, 1) := by decide +kernel
theorem d_va_multiply_15 : decode b_va_multiply 15 = .ok (.getfield 19, 3) := by decide +kernel
theorem d_va_multiply_18 : decode b_va_multiply 18 = .ok (.lmul, 1) := by decide +kernel
theorem d_va_multiply_19 : decode b_va_multiply 19 = .ok (.lstore 4, 2) := by decide +kernel
theorem d_va_multiply_21 : decode b_va_multiply 21 = .ok (.aload_n 0, 1) := by decide +kernel
theorem d_va_multiply_22 : decode b_va_multiply 22 = .ok (.getfield 19, 3) := by decide +kernel
theorem d_va_multiply_25 : decode b_va_multiply 25 = .ok (.aload_n 1, 1) := by decide +kernel
theorem d_va_multiply_26 : decode b_va_multiply 26 = .ok (.getfield 15, 3) := by decide +kernel
theorem d_va_multiply_29 : decode b_va_multiply 29 = .ok (.lmul, 1) := by decide +kernel
theorem d_va_multiply_30 : decode b_va_multiply 30 = .ok (.lstore 6, 2) := by decide +kernel
theorem d_va_multiply_32 : decode b_va_multiply 32 = .ok (.aload_n 0, 1) := by decide +kernel
theorem d_va_multiply_33 : decode b_va_multiply 33 = .ok (.getfield 19, 3) := by decide +kernel
theorem d_va_multiply_36 : decode b_va_multiply 36 = .ok (.aload_n 1, 1) := by decide +kernel
theorem d_va_multiply_37 : decode b_va_multiply 37 = .ok (.getfield 19, 3) := by decide +kernel
theorem d_va_multiply_40 : decode b_va_multiply 40 = .ok (.lmul, 1) := by decide +kernel
theorem d_va_multiply_41 : decode b_va_multiply 41 = .ok (.lstore 8, 2) := by decide +kernel
theorem d_va_multiply_43 : decode b_va_multiply 43 = .ok (.aload_n 0, 1) := by decide +kernel
theorem d_va_multiply_44 : decode b_va_multiply 44 = .ok (.lload_n 2, 1) := by decide +kernel
theorem d_va_multiply_45 : decode b_va_multiply 45 = .ok (.lload 4, 2) := by decide +kernel
theorem d_va_multiply_47 : decode b_va_multiply 47 = .ok (.invokestatic 47, 3) := by decide +kernel
theorem d_va_multiply_50 : decode b_va_multiply 50 = .ok (.lload 6, 2) := by decide +kernel
theorem d_va_multiply_52 : decode b_va_multiply 52 = .ok (.lload 8, 2) := by decide +kernel
theorem d_va_multiply_54 : decode b_va_multiply 54 = .ok (.invokestatic 47, 3) := by decide +kernel
theorem d_va_multiply_57 : decode b_va_multiply 57 = .ok (.invokestatic 47, 3) := by decide +kernel
theorem d_va_multiply_60 : decode b_va_multiply 60 = .ok (.putfield 15, 3) := by decide +kernel
theorem d_va_multiply_63 : decode b_va_multiply 63 = .ok (.aload_n 0, 1) := by decide +kernel
theorem d_va_multiply_64 : decode b_va_multiply 64 = .ok (.lload_n 2, 1) := by decide +kernel
theorem d_va_multiply_65 : decode b_va_multiply 65 = .ok (.lload 4, 2) := by decide +kernel
theorem d_va_multiply_67 : decode b_va_multiply 67 = .ok (.invokestatic 44, 3) := by decide +kernel
theorem d_va_multiply_70 : decode b_va_multiply 70 = .ok (.lload 6, 2) := by decide +kernel
theorem d_va_multiply_72 : decode b_va_multiply 72 = .ok (.lload 8, 2) := by decide +kernel
theorem d_va_multiply_74 : decode b_va_multiply 74 = .ok (.invokestatic 44, 3) := by decide +kernel
theorem d_va_multiply_77 : decode b_va_multiply 77 = .ok (.invokestatic 44, 3) := by decide +kernel
theorem d_va_multiply_80 : decode b_va_multiply 80 = .ok (.putfield 19, 3) := by decide +kernel
theorem d_va_multiply_83 : decode b_va_multiply 83 = .ok (.aload_n 0, 1) := by decide +kernel
theorem d_va_multiply_84 : decode b_va_multiply 84 = .ok (.getfield 22, 3) := by decide +kernel
theorem d_va_multiply_87 : decode b_va_multiply 87 = .ok (.aload_n 1, 1) := by decide +kernel
theorem d_va_multiply_88 : decode b_va_multiply 88 = .ok (.getfield 22, 3) := by decide +kernel
theorem d_va_multiply_91 : decode b_va_multiply 91 = .ok (.lmul, 1) := by decide +kernel
theorem d_va_multiply_92 : decode b_va_multiply 92 = .ok (.aload_n 0, 1) := by decide +kernel
theorem d_va_multiply_93 : decode b_va_multiply 93 = .ok (.getfield 22, 3) := by decide +kernel
theorem d_va_multiply_96 : decode b_va_multiply 96 = .ok (.aload_n 1, 1) := by decide +kernel
theorem d_va_multiply_97 : decode b_va_multiply 97 = .ok (.getfield 25, 3) := by decide +kernel
theorem d_va_multiply_100 : decode b_va_multiply 100 = .ok (.lmul, 1) := by decide +kernel
theorem d_va_multiply_101 : decode b_va_multiply 101 = .ok (.invokestatic 56, 3) := by decide +kernel
theorem d_va_multiply_104 : decode b_va_multiply 104 = .ok (.aload_n 1, 1) := by decide +kernel
theorem d_va_multiply_105 : decode b_va_multiply 105 = .ok (.getfield 22, 3) := by decide +kernel
theorem d_va_multiply_108 : decode b_va_multiply 108 = .ok (.aload_n 0, 1) := by decide +kernel
theorem d_va_multiply_109 : decode b_va_multiply 109 = .ok (.getfield 25, 3) := by decide +kernel
theorem d_va_multiply_112 : decode b_va_multiply 112 = .ok (.lmul, 1) := by decide +kernel
theorem d_va_multiply_113 : decode b_va_multiply 113 = .ok (.invokestatic 56, 3) := by decide +kernel
theorem d_va_multiply_116 : decode b_va_multiply 116 = .ok (.lstore 10, 2) := by decide +kernel
theorem d_va_multiply_118 : decode b_va_multiply 118 = .ok (.aload_n 0, 1) := by decide +kernel
theorem d_va_multiply_119 : decode b_va_multiply 119 = .ok (.aload_n 0, 1) := by decide +kernel
theorem d_va_multiply_120 : decode b_va_multiply 120 = .ok (.getfield 25, 3) := by decide +kernel
theorem d_va_multiply_123 : decode b_va_multiply 123 = .ok (.aload_n 1, 1) := by decide +kernel
theorem d_va_multiply_124 : decode b_va_multiply 124 = .ok (.getfield 25, 3) := by decide +kernel
theorem d_va_multiply_127 : decode b_va_multiply 127 = .ok (.lmul, 1) := by decide +kernel
theorem d_va_multiply_128 : decode b_va_multiply 128 = .ok (.lload 10, 2) := by decide +kernel
theorem d_va_multiply_130 : decode b_va_multiply 130 = .ok (.invokestatic 59, 3) := by decide +kernel
theorem d_va_multiply_133 : decode b_va_multiply 133 = .ok (.putfield 25, 3) := by decide +kernel
theorem d_va_multiply_136 : decode b_va_multiply 136 = .ok (.aload_n 0, 1) := by decide +kernel
theorem d_va_multiply_137 : decode b_va_multiply 137 = .ok (.lload 10, 2) := by decide +kernel
theorem d_va_multiply_139 : decode b_va_multiply 139 = .ok (.putfield 22, 3) := by decide +kernel
theorem d_va_multiply_142 : decode b_va_multiply 142 = .ok (.aload_n 0, 1) := by decide +kernel
theorem d_va_multiply_143 : decode b_va_multiply 143 = .ok (.invokevirtual 62, 3) := by decide +kernel
theorem d_va_multiply_146 : decode b_va_multiply 146 = .ok (.ireturn, 1) := by decide +kernel
theorem kb_va_multiply {a0 a1 : Nat}  {w : WW} {r : (Int32 × WW)} (h : f_va_multiply a0 a1 w = some r) : kb w a0 8 = true := (its h).1
set_option maxHeartbeats 4000000 in
set_option maxRecDepth 100000 in
theorem c_va_multiply (l : Launch) (D : va_G) (cA : Nat → ClassId) (base : Nat) {a0 : Nat} {a1 : Nat} {w w' : WW} {r : Int32} (h : f_va_multiply a0 a1 w = some (r, w')) : mt l D cls (wo_tys cA) cA base y_va_multiply (Cond.code y_va_multiply b_va_multiply 12 (some .boolean) :: gt) rm_va_multiply [.ref (base + a0), .ref (base + a1)] w (some (.int r)) w' rm_va_multiply.cells rm_va_multiply.slots := by
  refine mt_start (by decide) (Nat.le_of_ble_eq_true rfl) ?_
  intro p e s m below meth c ls hx hb hr hml hown hts hlk hnm hK hG hW hl
  have C : cx b_va_multiply (some .boolean) 12 y_va_multiply.cls "multiply" p s m [.ref (base + a0), .ref (base + a1)].toArray meth c D cA base := ⟨hx, hb, hr, hml, hown, hts, hlk, hnm, hK, hG⟩
  have hl : lv_has ls 12 [(0, .ref (base + a0)), (1, .ref (base + a1))] := hl
  unfold f_va_multiply at h
  replace h := its h
  obtain ⟨-, h⟩ := h
  refine lv_aload_n hx hb d_va_multiply_0 rfl (lv_at hl 0 rfl) ?_
  replace h := bs h
  obtain ⟨x1, hx1, h⟩ := h
  refine gf_va_15 hx hb hts hown hK hG hW (gL_s hx1) d_va_multiply_1 ?_
  refine lv_aload_n hx hb d_va_multiply_4 rfl (lv_at hl 1 rfl) ?_
  replace h := bs h
  obtain ⟨x2, hx2, h⟩ := h
  refine gf_va_15 hx hb hts hown hK hG hW (gL_s hx2) d_va_multiply_5 ?_
  refine lv_lmul hx hb d_va_multiply_8 ?_
  refine lv_lstore_n (lv' := [(2, .long (x1 * x2)), (0, .ref (base + a0)), (1, .ref (base + a1))]) hx hb d_va_multiply_9 rfl hl (by decide) rfl (fun ls hl => ?_)
  refine lv_aload_n hx hb d_va_multiply_10 rfl (lv_at hl 1 rfl) ?_
  replace h := bs h
  obtain ⟨x3, hx3, h⟩ := h
  refine gf_va_15 hx hb hts hown hK hG hW (gL_s hx3) d_va_multiply_11 ?_
  refine lv_aload_n hx hb d_va_multiply_14 rfl (lv_at hl 2 rfl) ?_
  replace h := bs h
  obtain ⟨x4, hx4, h⟩ := h
  refine gf_va_19 hx hb hts hown hK hG hW (gL_s hx4) d_va_multiply_15 ?_
  refine lv_lmul hx hb d_va_multiply_18 ?_
  refine lv_lstore (lv' := [(4, .long (x3 * x4)), (2, .long (x1 * x2)), (0, .ref (base + a0)), (1, .ref (base + a1))]) hx hb d_va_multiply_19 hl (by decide) rfl (fun ls hl => ?_)
  refine lv_aload_n hx hb d_va_multiply_21 rfl (lv_at hl 2 rfl) ?_
  replace h := bs h
  obtain ⟨x5, hx5, h⟩ := h
  refine gf_va_19 hx hb hts hown hK hG hW (gL_s hx5) d_va_multiply_22 ?_
  refine lv_aload_n hx hb d_va_multiply_25 rfl (lv_at hl 3 rfl) ?_
  replace h := bs h
  obtain ⟨x6, hx6, h⟩ := h
  refine gf_va_15 hx hb hts hown hK hG hW (gL_s hx6) d_va_multiply_26 ?_
  refine lv_lmul hx hb d_va_multiply_29 ?_
  refine lv_lstore (lv' := [(6, .long (x5 * x6)), (4, .long (x3 * x4)), (2, .long (x1 * x2)), (0, .ref (base + a0)), (1, .ref (base + a1))]) hx hb d_va_multiply_30 hl (by decide) rfl (fun ls hl => ?_)
  refine lv_aload_n hx hb d_va_multiply_32 rfl (lv_at hl 3 rfl) ?_
  replace h := bs h
  obtain ⟨x7, hx7, h⟩ := h
  refine gf_va_19 hx hb hts hown hK hG hW (gL_s hx7) d_va_multiply_33 ?_
  refine lv_aload_n hx hb d_va_multiply_36 rfl (lv_at hl 4 rfl) ?_
  replace h := bs h
  obtain ⟨x8, hx8, h⟩ := h
  refine gf_va_19 hx hb hts hown hK hG hW (gL_s hx8) d_va_multiply_37 ?_
  refine lv_lmul hx hb d_va_multiply_40 ?_
  refine lv_lstore (lv' := [(8, .long (x7 * x8)), (6, .long (x5 * x6)), (4, .long (x3 * x4)), (2, .long (x1 * x2)), (0, .ref (base + a0)), (1, .ref (base + a1))]) hx hb d_va_multiply_41 hl (by decide) rfl (fun ls hl => ?_)
  refine lv_aload_n hx hb d_va_multiply_43 rfl (lv_at hl 4 rfl) ?_
  refine lv_lload_n hx hb d_va_multiply_44 rfl (lv_at hl 3 rfl) ?_
  refine lv_lload hx hb d_va_multiply_45 (lv_at hl 2 rfl) ?_
  replace h := bs2 h
  obtain ⟨x10, w9, hw9, h⟩ := h
  refine cs_va_47 (As := [.long (x1 * x2), .long (x3 * x4)]) (rest := [.ref (base + a0)]) hx hb hml hown hts hK hG hW (c_ma_min_JJ l D cA base hw9) ⟨Nat.le_of_ble_eq_true rfl, Nat.le_of_ble_eq_true rfl⟩ ⟨Nat.le_of_ble_eq_true rfl, Nat.le_of_ble_eq_true rfl⟩ rfl hl.1 rfl (Nat.le_of_ble_eq_true rfl) d_va_multiply_47 (fun H locs hW => ?_)
  refine lv_lload hx hb d_va_multiply_50 (lv_at hl 1 rfl) ?_
  refine lv_lload hx hb d_va_multiply_52 (lv_at hl 0 rfl) ?_
  replace h := bs2 h
  obtain ⟨x12, w11, hw11, h⟩ := h
  refine cs_va_47 (As := [.long (x5 * x6), .long (x7 * x8)]) (rest := [.long x10, .ref (base + a0)]) hx hb hml hown hts hK hG hW (c_ma_min_JJ l D cA base hw11) ⟨Nat.le_of_ble_eq_true rfl, Nat.le_of_ble_eq_true rfl⟩ ⟨Nat.le_of_ble_eq_true rfl, Nat.le_of_ble_eq_true rfl⟩ rfl hl.1 rfl (Nat.le_of_ble_eq_true rfl) d_va_multiply_54 (fun H locs hW => ?_)
  replace h := bs2 h
  obtain ⟨x14, w13, hw13, h⟩ := h
  refine cs_va_47 (As := [.long x10, .long x12]) (rest := [.ref (base + a0)]) hx hb hml hown hts hK hG hW (c_ma_min_JJ l D cA base hw13) ⟨Nat.le_of_ble_eq_true rfl, Nat.le_of_ble_eq_true rfl⟩ ⟨Nat.le_of_ble_eq_true rfl, Nat.le_of_ble_eq_true rfl⟩ rfl hl.1 rfl (Nat.le_of_ble_eq_true rfl) d_va_multiply_57 (fun H locs hW => ?_)
  replace h := bs h
  obtain ⟨w15, hw15, h⟩ := h
  refine pf_va_15 hx hb hts hown hK hG hW rfl rfl (pbi hw15 rfl) d_va_multiply_60 (fun H locs hW => ?_)
  refine lv_aload_n hx hb d_va_multiply_63 rfl (lv_at hl 4 rfl) ?_
  refine lv_lload_n hx hb d_va_multiply_64 rfl (lv_at hl 3 rfl) ?_
  refine lv_lload hx hb d_va_multiply_65 (lv_at hl 2 rfl) ?_
  replace h := bs2 h
  obtain ⟨x17, w16, hw16, h⟩ := h
  refine cs_va_44 (As := [.long (x1 * x2), .long (x3 * x4)]) (rest := [.ref (base + a0)]) hx hb hml hown hts hK hG hW (c_ma_max_JJ l D cA base hw16) ⟨Nat.le_of_ble_eq_true rfl, Nat.le_of_ble_eq_true rfl⟩ ⟨Nat.le_of_ble_eq_true rfl, Nat.le_of_ble_eq_true rfl⟩ rfl hl.1 rfl (Nat.le_of_ble_eq_true rfl) d_va_multiply_67 (fun H locs hW => ?_)
  refine lv_lload hx hb d_va_multiply_70 (lv_at hl 1 rfl) ?_
  refine lv_lload hx hb d_va_multiply_72 (lv_at hl 0 rfl) ?_
  replace h := bs2 h
  obtain ⟨x19, w18, hw18, h⟩ := h
  refine cs_va_44 (As := [.long (x5 * x6), .long (x7 * x8)]) (rest := [.long x17, .ref (base + a0)]) hx hb hml hown hts hK hG hW (c_ma_max_JJ l D cA base hw18) ⟨Nat.le_of_ble_eq_true rfl, Nat.le_of_ble_eq_true rfl⟩ ⟨Nat.le_of_ble_eq_true rfl, Nat.le_of_ble_eq_true rfl⟩ rfl hl.1 rfl (Nat.le_of_ble_eq_true rfl) d_va_multiply_74 (fun H locs hW => ?_)
  replace h := bs2 h
  obtain ⟨x21, w20, hw20, h⟩ := h
  refine cs_va_44 (As := [.long x17, .long x19]) (rest := [.ref (base + a0)]) hx hb hml hown hts hK hG hW (c_ma_max_JJ l D cA base hw20) ⟨Nat.le_of_ble_eq_true rfl, Nat.le_of_ble_eq_true rfl⟩ ⟨Nat.le_of_ble_eq_true rfl, Nat.le_of_ble_eq_true rfl⟩ rfl hl.1 rfl (Nat.le_of_ble_eq_true rfl) d_va_multiply_77 (fun H locs hW => ?_)
  replace h := bs h
  obtain ⟨w22, hw22, h⟩ := h
  refine pf_va_19 hx hb hts hown hK hG hW rfl rfl (pbi hw22 rfl) d_va_multiply_80 (fun H locs hW => ?_)
  refine lv_aload_n hx hb d_va_multiply_83 rfl (lv_at hl 4 rfl) ?_
  replace h := bs h
  obtain ⟨x23, hx23, h⟩ := h
  refine gf_va_22 hx hb hts hown hK hG hW (gL_s hx23) d_va_multiply_84 ?_
  refine lv_aload_n hx hb d_va_multiply_87 rfl (lv_at hl 5 rfl) ?_
  replace h := bs h
  obtain ⟨x24, hx24, h⟩ := h
  refine gf_va_22 hx hb hts hown hK hG hW (gL_s hx24) d_va_multiply_88 ?_
  refine lv_lmul hx hb d_va_multiply_91 ?_
  refine lv_aload_n hx hb d_va_multiply_92 rfl (lv_at hl 4 rfl) ?_
  replace h := bs h
  obtain ⟨x25, hx25, h⟩ := h
  refine gf_va_22 hx hb hts hown hK hG hW (gL_s hx25) d_va_multiply_93 ?_
  refine lv_aload_n hx hb d_va_multiply_96 rfl (lv_at hl 5 rfl) ?_
  replace h := bs h
  obtain ⟨x26, hx26, h⟩ := h
  refine gf_va_25 hx hb hts hown hK hG hW (gL_s hx26) d_va_multiply_97 ?_
  refine lv_lmul hx hb d_va_multiply_100 ?_
  replace h := bs2 h
  obtain ⟨x28, w27, hw27, h⟩ := h
  refine cs_va_56 (As := [.long (x23 * x24), .long (x25 * x26)]) (rest := []) hx hb hml hown hts hK hG hW (c_va_commonDivisor l D cA base hw27) ⟨Nat.le_of_ble_eq_true rfl, Nat.le_of_ble_eq_true rfl⟩ ⟨Nat.le_of_ble_eq_true rfl, Nat.le_of_ble_eq_true rfl⟩ rfl hl.1 rfl (Nat.le_of_ble_eq_true rfl) d_va_multiply_101 (fun H locs hW => ?_)
  refine lv_aload_n hx hb d_va_multiply_104 rfl (lv_at hl 5 rfl) ?_
  replace h := bs h
  obtain ⟨x29, hx29, h⟩ := h
  refine gf_va_22 hx hb hts hown hK hG hW (gL_s hx29) d_va_multiply_105 ?_
  refine lv_aload_n hx hb d_va_multiply_108 rfl (lv_at hl 4 rfl) ?_
  replace h := bs h
  obtain ⟨x30, hx30, h⟩ := h
  refine gf_va_25 hx hb hts hown hK hG hW (gL_s hx30) d_va_multiply_109 ?_
  refine lv_lmul hx hb d_va_multiply_112 ?_
  replace h := bs2 h
  obtain ⟨x32, w31, hw31, h⟩ := h
  refine cs_va_56 (As := [.long x28, .long (x29 * x30)]) (rest := []) hx hb hml hown hts hK hG hW (c_va_commonDivisor l D cA base hw31) ⟨Nat.le_of_ble_eq_true rfl, Nat.le_of_ble_eq_true rfl⟩ ⟨Nat.le_of_ble_eq_true rfl, Nat.le_of_ble_eq_true rfl⟩ rfl hl.1 rfl (Nat.le_of_ble_eq_true rfl) d_va_multiply_113 (fun H locs hW => ?_)
  refine lv_lstore (lv' := [(10, .long x32), (8, .long (x7 * x8)), (6, .long (x5 * x6)), (4, .long (x3 * x4)), (2, .long (x1 * x2)), (0, .ref (base + a0)), (1, .ref (base + a1))]) hx hb d_va_multiply_116 hl (by decide) rfl (fun ls hl => ?_)
  refine lv_aload_n hx hb d_va_multiply_118 rfl (lv_at hl 5 rfl) ?_
  refine lv_aload_n hx hb d_va_multiply_119 rfl (lv_at hl 5 rfl) ?_
  replace h := bs h
  obtain ⟨x33, hx33, h⟩ := h
  refine gf_va_25 hx hb hts hown hK hG hW (gL_s hx33) d_va_multiply_120 ?_
  refine lv_aload_n hx hb d_va_multiply_123 rfl (lv_at hl 6 rfl) ?_
  replace h := bs h
  obtain ⟨x34, hx34, h⟩ := h
  refine gf_va_25 hx hb hts hown hK hG hW (gL_s hx34) d_va_multiply_124 ?_
  refine lv_lmul hx hb d_va_multiply_127 ?_
  refine lv_lload hx hb d_va_multiply_128 (lv_at hl 0 rfl) ?_
  replace h := bs2 h
  obtain ⟨x36, w35, hw35, h⟩ := h
  refine cs_va_59 (As := [.long (x33 * x34), .long x32]) (rest := [.ref (base + a0)]) hx hb hml hown hts hK hG hW (c_va_restBy l D cA base hw35) ⟨Nat.le_of_ble_eq_true rfl, Nat.le_of_ble_eq_true rfl⟩ ⟨Nat.le_of_ble_eq_true rfl, Nat.le_of_ble_eq_true rfl⟩ rfl hl.1 rfl (Nat.le_of_ble_eq_true rfl) d_va_multiply_130 (fun H locs hW => ?_)
  replace h := bs h
  obtain ⟨w37, hw37, h⟩ := h
  refine pf_va_25 hx hb hts hown hK hG hW rfl rfl (pbi hw37 rfl) d_va_multiply_133 (fun H locs hW => ?_)
  refine lv_aload_n hx hb d_va_multiply_136 rfl (lv_at hl 5 rfl) ?_
  refine lv_lload hx hb d_va_multiply_137 (lv_at hl 0 rfl) ?_
  replace h := bs h
  obtain ⟨w38, hw38, h⟩ := h
  refine pf_va_22 hx hb hts hown hK hG hW rfl rfl (pbi hw38 rfl) d_va_multiply_139 (fun H locs hW => ?_)
  refine lv_aload_n hx hb d_va_multiply_142 rfl (lv_at hl 5 rfl) ?_
  replace h := bs2 h
  obtain ⟨x40, w39, hw39, h⟩ := h
  refine cv_va_62 (As := []) (rest := []) hx hb hml hown hts hK hG hW (c_va_putTight l D cA base hw39) (kb_va_putTight hw39) ⟨Nat.le_of_ble_eq_true rfl, Nat.le_of_ble_eq_true rfl⟩ ⟨Nat.le_of_ble_eq_true rfl, Nat.le_of_ble_eq_true rfl⟩ rfl hl.1 rfl (Nat.le_of_ble_eq_true rfl) d_va_multiply_143 (fun H locs hW => ?_)
  replace h := its h
  obtain ⟨c41, h⟩ := h
  cases h
  exact wo_zret hx hb hr hlk hW c41 d_va_multiply_146
