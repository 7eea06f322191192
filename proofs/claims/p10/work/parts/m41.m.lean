/-! Methods as functions, and their contracts (by wip/gen/run.py). -/
abbrev b_va_trim : ByteArray := prog_9_method_16_code
def y_va_trim : MethodName := ⟨"AlarmForge$Value", "trim", "(J)V"⟩
def rm_va_trim : Room := { frames := 2, cells := 0, slots := 0, locals := 46 }
theorem d_va_trim_0 : decode b_va_trim 0 = .ok (.aload_n 0, 1) := by decide +kernel
theorem d_va_trim_1 : decode b_va_trim 1 = .ok (.getfield 15, 3) := by decide +kernel
theorem d_va_trim_4 : decode b_va_trim 4 = .ok (.lload_n 1, 1) := by decide +kernel
theorem d_va_trim_5 : decode b_va_trim 5 = .ok (.lcmp, 1) := by decide +kernel
theorem d_va_trim_6 : decode b_va_trim 6 = .ok (.ifCond .ne (7), 3) := by decide +kernel
theorem d_va_trim_9 : decode b_va_trim 9 = .ok (.iconst 1, 1) := by decide +kernel
theorem d_va_trim_10 : decode b_va_trim 10 = .ok (.goto (4), 3) := by decide +kernel
theorem d_va_trim_13 : decode b_va_trim 13 = .ok (.iconst 0, 1) := by decide +kernel
theorem d_va_trim_14 : decode b_va_trim 14 = .ok (.istore_n 3, 1) := by decide +kernel
theorem d_va_trim_15 : decode b_va_trim 15 = .ok (.aload_n 0, 1) := by decide +kernel
theorem d_va_trim_16 : decode b_va_trim 16 = .ok (.getfield 19, 3) := by decide +kernel
theorem d_va_trim_19 : decode b_va_trim 19 = .ok (.lload_n 1, 1) := by decide +kernel
theorem d_va_trim_20 : decode b_va_trim 20 = .ok (.lcmp, 1) := by decide +kernel
theorem d_va_trim_21 : decode b_va_trim 21 = .ok (.ifCond .ne (7), 3) := by decide +kernel
theorem d_va_trim_24 : decode b_va_trim 24 = .ok (.iconst 1, 1) := by decide +kernel
theorem d_va_trim_25 : decode b_va_trim 25 = .ok (.goto (4), 3) := by decide +kernel
theorem d_va_trim_28 : decode b_va_trim 28 = .ok (.iconst 0, 1) := by decide +kernel
theorem d_va_trim_29 : decode b_va_trim 29 = .ok (.istore 4, 2) := by decide +kernel
theorem d_va_trim_31 : decode b_va_trim 31 = .ok (.aload_n 0, 1) := by decide +kernel
theorem d_va_trim_32 : decode b_va_trim 32 = .ok (.dup, 1) := by decide +kernel
theorem d_va_trim_33 : decode b_va_trim 33 = .ok (.getfield 15, 3) := by decide +kernel
theorem d_va_trim_36 : decode b_va_trim 36 = .ok (.iload_n 3, 1) := by decide +kernel
theorem d_va_trim_37 : decode b_va_trim 37 = .ok (.ifCond .eq (7), 3) := by decide +kernel
theorem d_va_trim_40 : decode b_va_trim 40 = .ok (.lconst 1, 1) := by decide +kernel
theorem d_va_trim_41 : decode b_va_trim 41 = .ok (.goto (4), 3) := by decide +kernel
theorem d_va_trim_44 : decode b_va_trim 44 = .ok (.lconst 0, 1) := by decide +kernel
theorem d_va_trim_45 : decode b_va_trim 45 = .ok (.ladd, 1) := by decide +kernel
theorem d_va_trim_46 : decode b_va_trim 46 = .ok (.putfield 15, 3) := by decide +kernel
theorem d_va_trim_49 : decode b_va_trim 49 = .ok (.aload_n 0, 1) := by decide +kernel
theorem d_va_trim_50 : decode b_va_trim 50 = .ok (.dup, 1) := by decide +kernel
theorem d_va_trim_51 : decode b_va_trim 51 = .ok (.getfield 19, 3) := by decide +kernel
theorem d_va_trim_54 : decode b_va_trim 54 = .ok (.iload 4, 2) := by decide +kernel
theorem d_va_trim_56 : decode b_va_trim 56 = .ok (.ifCond .eq (7), 3) := by decide +kernel
theorem d_va_trim_59 : decode b_va_trim 59 = .ok (.lconst 1, 1) := by decide +kernel
theorem d_va_trim_60 : decode b_va_trim 60 = .ok (.goto (4), 3) := by decide +kernel
theorem d_va_trim_63 : decode b_va_trim 63 = .ok (.lconst 0, 1) := by decide +kernel
theorem d_va_trim_64 : decode b_va_trim 64 = .ok (.lsub, 1) := by decide +kernel
theorem d_va_trim_65 : decode b_va_trim 65 = .ok (.putfield 19, 3) := by decide +kernel
theorem d_va_trim_68 : decode b_va_trim 68 = .ok (.aload_n 0, 1) := by decide +kernel
theorem d_va_trim_69 : decode b_va_trim 69 = .ok (.invokevirtual 62, 3) := by decide +kernel
theorem d_va_trim_72 : decode b_va_trim 72 = .ok (.pop, 1) := by decide +kernel
theorem d_va_trim_73 : decode b_va_trim 73 = .ok (.return_, 1) := by decide +kernel
theorem kb_va_trim {a0 : Nat} {a1 : Int64} {w : WW} {r : WW} (h : f_va_trim a0 a1 w = some r) : kb w a0 8 = true := (its h).1
set_option maxHeartbeats 4000000 in
set_option maxRecDepth 100000 in
theorem j_va_trim_64 {p : Program} {l : Launch} {e : Env} {s : State} {m : MethodId} {args : Array Value} {below : List Frame} {meth : Method} {c : Code} {D : va_G} {cA : Nat → ClassId} {base : Nat} {w' : WW} (C : cx b_va_trim (none) 5 y_va_trim.cls "trim" p s m args meth c D cA base)   : ∀ (y0 : Nat) (z0 : Nat) (z1 : Int64) (z2 : Int64) (w : WW), f_va_trim_64 y0 z0 z1 z2 w = some w' → ∀ (H : Heap) (locs : List Loc) (ls : Array Slot), wo_S D cls cA base s w H locs → lv_has ls 5 [(0, .ref (base + y0))] → W p l e rm_va_trim s m args below meth c H locs 0 0 (MQ below (wo_Q D cls cA base none w') args s rm_va_trim.cells rm_va_trim.slots (wo_B base)) (F0 m 64 ls [.long z2, .long z1, .ref (base + z0)]) := by
  obtain ⟨hx, hb, hr, hml, hown, hts, hlk, hnm, hK, hG⟩ := id C
  intro y0 z0 z1 z2 w h H locs ls hW hl
  unfold f_va_trim_64 at h
  refine lv_lsub hx hb d_va_trim_64 ?_
  replace h := bs h
  obtain ⟨w10, hw10, h⟩ := h
  refine pf_va_19 hx hb hts hown hK hG hW rfl rfl (pbi hw10 rfl) d_va_trim_65 (fun H locs hW => ?_)
  refine lv_aload_n hx hb d_va_trim_68 rfl (lv_at hl 0 rfl) ?_
  replace h := bs2 h
  obtain ⟨x12, w11, hw11, h⟩ := h
  refine cv_va_62 (As := []) (rest := []) hx hb hml hown hts hK hG hW (c_va_putTight l D cA base hw11) (kb_va_putTight hw11) ⟨Nat.le_of_ble_eq_true rfl, Nat.le_of_ble_eq_true rfl⟩ ⟨Nat.le_of_ble_eq_true rfl, Nat.le_of_ble_eq_true rfl⟩ rfl hl.1 rfl (Nat.le_of_ble_eq_true rfl) d_va_trim_69 (fun H locs hW => ?_)
  refine lv_pop hx hb d_va_trim_72 rfl ?_
  cases h
  exact wo_vret hx hb hr hlk hW d_va_trim_73
set_option maxHeartbeats 4000000 in
set_option maxRecDepth 100000 in
theorem j_va_trim_45 {p : Program} {l : Launch} {e : Env} {s : State} {m : MethodId} {args : Array Value} {below : List Frame} {meth : Method} {c : Code} {D : va_G} {cA : Nat → ClassId} {base : Nat} {w' : WW} (C : cx b_va_trim (none) 5 y_va_trim.cls "trim" p s m args meth c D cA base)   : ∀ (y0 : Nat) (y4 : Int32) (z0 : Nat) (z1 : Int64) (z2 : Int64) (w : WW), f_va_trim_45 y0 y4 z0 z1 z2 w = some w' → ∀ (H : Heap) (locs : List Loc) (ls : Array Slot), wo_S D cls cA base s w H locs → lv_has ls 5 [(0, .ref (base + y0)), (4, .int y4)] → W p l e rm_va_trim s m args below meth c H locs 0 0 (MQ below (wo_Q D cls cA base none w') args s rm_va_trim.cells rm_va_trim.slots (wo_B base)) (F0 m 45 ls [.long z2, .long z1, .ref (base + z0)]) := by
  obtain ⟨hx, hb, hr, hml, hown, hts, hlk, hnm, hK, hG⟩ := id C
  intro y0 y4 z0 z1 z2 w h H locs ls hW hl
  unfold f_va_trim_45 at h
  refine lv_ladd hx hb d_va_trim_45 ?_
  replace h := bs h
  obtain ⟨w7, hw7, h⟩ := h
  refine pf_va_15 hx hb hts hown hK hG hW rfl rfl (pbi hw7 rfl) d_va_trim_46 (fun H locs hW => ?_)
  refine lv_aload_n hx hb d_va_trim_49 rfl (lv_at hl 0 rfl) ?_
  refine lv_dup hx hb d_va_trim_50 rfl ?_
  replace h := bs h
  obtain ⟨x8, hx8, h⟩ := h
  refine gf_va_19 hx hb hts hown hK hG hW (gL_s hx8) d_va_trim_51 ?_
  refine lv_iload hx hb d_va_trim_54 (lv_at hl 1 rfl) ?_
  refine lv_if_eq (tgt := 63) hx hb d_va_trim_56 (by decide) (fun c9 => ?_) (fun c9 => ?_)
  · rw [if_pos c9] at h
    refine lv_lconst (v := (0 : Int64)) hx hb d_va_trim_63 (by decide) ?_
    exact j_va_trim_64 C y0 y0 x8 (0 : Int64) w7 h _ _ _ hW (lv_sub hl [0] rfl)
  · rw [if_neg c9] at h
    refine lv_lconst (v := (1 : Int64)) hx hb d_va_trim_59 (by decide) ?_
    refine lv_goto (tgt := 64) hx hb d_va_trim_60 (by decide) ?_
    exact j_va_trim_64 C y0 y0 x8 (1 : Int64) w7 h _ _ _ hW (lv_sub hl [0] rfl)
set_option maxHeartbeats 4000000 in
set_option maxRecDepth 100000 in
theorem j_va_trim_29 {p : Program} {l : Launch} {e : Env} {s : State} {m : MethodId} {args : Array Value} {below : List Frame} {meth : Method} {c : Code} {D : va_G} {cA : Nat → ClassId} {base : Nat} {w' : WW} (C : cx b_va_trim (none) 5 y_va_trim.cls "trim" p s m args meth c D cA base)   : ∀ (y0 : Nat) (y3 : Int32) (z0 : Int32) (w : WW), f_va_trim_29 y0 y3 z0 w = some w' → ∀ (H : Heap) (locs : List Loc) (ls : Array Slot), wo_S D cls cA base s w H locs → lv_has ls 5 [(0, .ref (base + y0)), (3, .int y3)] → W p l e rm_va_trim s m args below meth c H locs 0 0 (MQ below (wo_Q D cls cA base none w') args s rm_va_trim.cells rm_va_trim.slots (wo_B base)) (F0 m 29 ls [.int z0]) := by
  obtain ⟨hx, hb, hr, hml, hown, hts, hlk, hnm, hK, hG⟩ := id C
  intro y0 y3 z0 w h H locs ls hW hl
  unfold f_va_trim_29 at h
  refine lv_istore (lv' := [(4, .int z0), (0, .ref (base + y0)), (3, .int y3)]) hx hb d_va_trim_29 hl (by decide) rfl (fun ls hl => ?_)
  refine lv_aload_n hx hb d_va_trim_31 rfl (lv_at hl 1 rfl) ?_
  refine lv_dup hx hb d_va_trim_32 rfl ?_
  replace h := bs h
  obtain ⟨x5, hx5, h⟩ := h
  refine gf_va_15 hx hb hts hown hK hG hW (gL_s hx5) d_va_trim_33 ?_
  refine lv_iload_n hx hb d_va_trim_36 rfl (lv_at hl 2 rfl) ?_
  refine lv_if_eq (tgt := 44) hx hb d_va_trim_37 (by decide) (fun c6 => ?_) (fun c6 => ?_)
  · rw [if_pos c6] at h
    refine lv_lconst (v := (0 : Int64)) hx hb d_va_trim_44 (by decide) ?_
    exact j_va_trim_45 C y0 z0 y0 x5 (0 : Int64) w h _ _ _ hW (lv_sub hl [1, 0] rfl)
  · rw [if_neg c6] at h
    refine lv_lconst (v := (1 : Int64)) hx hb d_va_trim_40 (by decide) ?_
    refine lv_goto (tgt := 45) hx hb d_va_trim_41 (by decide) ?_
    exact j_va_trim_45 C y0 z0 y0 x5 (1 : Int64) w h _ _ _ hW (lv_sub hl [1, 0] rfl)
set_option maxHeartbeats 4000000 in
set_option maxRecDepth 100000 in
theorem j_va_trim_14 {p : Program} {l : Launch} {e : Env} {s : State} {m : MethodId} {args : Array Value} {below : List Frame} {meth : Method} {c : Code} {D : va_G} {cA : Nat → ClassId} {base : Nat} {w' : WW} (C : cx b_va_trim (none) 5 y_va_trim.cls "trim" p s m args meth c D cA base)   : ∀ (y0 : Nat) (y1 : Int64) (z0 : Int32) (w : WW), f_va_trim_14 y0 y1 z0 w = some w' → ∀ (H : Heap) (locs : List Loc) (ls : Array Slot), wo_S D cls cA base s w H locs → lv_has ls 5 [(0, .ref (base + y0)), (1, .long y1)] → W p l e rm_va_trim s m args below meth c H locs 0 0 (MQ below (wo_Q D cls cA base none w') args s rm_va_trim.cells rm_va_trim.slots (wo_B base)) (F0 m 14 ls [.int z0]) := by
  obtain ⟨hx, hb, hr, hml, hown, hts, hlk, hnm, hK, hG⟩ := id C
  intro y0 y1 z0 w h H locs ls hW hl
  unfold f_va_trim_14 at h
  refine lv_istore_n (lv' := [(3, .int z0), (0, .ref (base + y0)), (1, .long y1)]) hx hb d_va_trim_14 rfl hl (by decide) rfl (fun ls hl => ?_)
  refine lv_aload_n hx hb d_va_trim_15 rfl (lv_at hl 1 rfl) ?_
  replace h := bs h
  obtain ⟨x3, hx3, h⟩ := h
  refine gf_va_19 hx hb hts hown hK hG hW (gL_s hx3) d_va_trim_16 ?_
  refine lv_lload_n hx hb d_va_trim_19 rfl (lv_at hl 2 rfl) ?_
  refine lc_ne (tgt := 28) hx hb d_va_trim_20 d_va_trim_21 (by decide) (fun c4 => ?_) (fun c4 => ?_)
  · rw [if_neg c4] at h
    refine lv_iconst (v := (0 : Int32)) hx hb d_va_trim_28 (by decide) ?_
    exact j_va_trim_29 C y0 z0 (0 : Int32) w h _ _ _ hW (lv_sub hl [1, 0] rfl)
  · rw [if_pos c4] at h
    refine lv_iconst (v := (1 : Int32)) hx hb d_va_trim_24 (by decide) ?_
    refine lv_goto (tgt := 29) hx hb d_va_trim_25 (by decide) ?_
    exact j_va_trim_29 C y0 z0 (1 : Int32) w h _ _ _ hW (lv_sub hl [1, 0] rfl)
set_option maxHeartbeats 4000000 in
set_option maxRecDepth 100000 in
theorem c_va_trim (l : Launch) (D : va_G) (cA : Nat → ClassId) (base : Nat) {a0 : Nat} {a1 : Int64} {w w' : WW} (h : f_va_trim a0 a1 w = some w') : mt l D cls (wo_tys cA) cA base y_va_trim (Cond.code y_va_trim b_va_trim 5 (none) :: gt) rm_va_trim [.ref (base + a0), .long a1] w none w' rm_va_trim.cells rm_va_trim.slots := by
  refine mt_start (by decide) (Nat.le_of_ble_eq_true rfl) ?_
  intro p e s m below meth c ls hx hb hr hml hown hts hlk hnm hK hG hW hl
  have C : cx b_va_trim (none) 5 y_va_trim.cls "trim" p s m [.ref (base + a0), .long a1].toArray meth c D cA base := ⟨hx, hb, hr, hml, hown, hts, hlk, hnm, hK, hG⟩
  have hl : lv_has ls 5 [(0, .ref (base + a0)), (1, .long a1)] := hl
  unfold f_va_trim at h
  replace h := its h
  obtain ⟨-, h⟩ := h
  refine lv_aload_n hx hb d_va_trim_0 rfl (lv_at hl 0 rfl) ?_
  replace h := bs h
  obtain ⟨x1, hx1, h⟩ := h
  refine gf_va_15 hx hb hts hown hK hG hW (gL_s hx1) d_va_trim_1 ?_
  refine lv_lload_n hx hb d_va_trim_4 rfl (lv_at hl 1 rfl) ?_
  refine lc_ne (tgt := 13) hx hb d_va_trim_5 d_va_trim_6 (by decide) (fun c2 => ?_) (fun c2 => ?_)
  · rw [if_neg c2] at h
    refine lv_iconst (v := (0 : Int32)) hx hb d_va_trim_13 (by decide) ?_
    exact j_va_trim_14 C a0 a1 (0 : Int32) w h _ _ _ hW (lv_sub hl [0, 1] rfl)
  · rw [if_pos c2] at h
    refine lv_iconst (v := (1 : Int32)) hx hb d_va_trim_9 (by decide) ?_
    refine lv_goto (tgt := 14) hx hb d_va_trim_10 (by decide) ?_
    exact j_va_trim_14 C a0 a1 (1 : Int32) w h _ _ _ hW (lv_sub hl [0, 1] rfl)
theorem cv_an_219 {p : Program} {l : Launch} {e : Env} {R : Room} {s : State} {m : MethodId} {args : Array Value} {below : List Frame} {meth : Method} {c : Code} {H : Heap} {locs : List Loc} {cells slots : Nat} {Q : State → Prop} {D : va_G} {cA : Nat → ClassId} {base : Nat} {w w' : WW} {cc : ByteArray} {pc nL : Nat} {ls : Array Slot} {rest st0 As : List Value} {ov : Option Value} {b : Nat} (hx : p.tables.exec = Jvm.exec) (hb : c.code = cc) (hml : c.maxLocals = nL) (hown : s.vm.findClass Rc_an = some m.cls) (hts : ∀ w ∈ gt, w.before args s = true) (hK : va_K D cls (wo_tys cA) s) (hG : wo_G cA base s) (hW : wo_S D cls cA base s w H locs) (hM : mt l D cls (wo_tys cA) cA base y_va_trim (Cond.code y_va_trim b_va_trim 5 (none) :: gt) rm_va_trim (.ref (base + b) :: As) w ov w' rm_va_trim.cells rm_va_trim.slots) (hkb : kb w b 8 = true) (hR : rm_va_trim.frames + 1 ≤ R.frames ∧ 8 + (5 + 11) + rm_va_trim.locals ≤ R.locals) (hf : cells + rm_va_trim.cells ≤ R.cells ∧ slots + rm_va_trim.slots ≤ R.slots) (hn : As.length = 1) (hsz : ls.size = nL) (hst : st0 = As.reverse ++ .ref (base + b) :: rest) (hcat : (rest.map fun v => v.category).sum ≤ 8) (hdg : decode cc pc = .ok (.invokevirtual 219, 3)) (kk : ∀ (H1 : Heap) (locs1 : List Loc), wo_S D cls cA base s w' H1 locs1 → W p l e R s m args below meth c H1 locs1 (cells + rm_va_trim.cells) (slots + rm_va_trim.slots) Q (F0 m (pc + 3) ls (ov.toList ++ rest))) : W p l e R s m args below meth c H locs cells slots Q (F0 m pc ls st0) :=
  wo_callV (C := Rc_va) hx hb hml hown hts hK hG hW hM hkb rfl (gt_of (i := 1044) (by decide +kernel) (by decide +kernel)) (gt_of (i := 1045) (by decide +kernel) (by decide +kernel)) (gt_of (i := 1046) (by decide +kernel) (by decide +kernel)) (gt_of (i := 9) (by decide +kernel) (by decide +kernel)) (gt_of (i := 1047) (by decide +kernel) (by decide +kernel)) (by decide +kernel) hR hf hn hsz hst hcat hdg kk
abbrev b_an_compareUnequal : ByteArray := prog_2_method_18_code
def y_an_compareUnequal : MethodName := ⟨"AlarmForge$Analyser", "compareUnequal", "(LAlarmForge$Value;LAlarmForge$Value;)V"⟩
def rm_an_compareUnequal : Room := { frames := 3, cells := 0, slots := 0, locals := 70 }
theorem d_an_compareUnequal_0 : decode b_an_compareUnequal 0 = .ok (.aload_n 1, 1) := by decide +kernel
theorem d_an_compareUnequal_1 : decode b_an_compareUnequal 1 = .ok (.getfield 212, 3) := by decide +kernel
theorem d_an_compareUnequal_4 : decode b_an_compareUnequal 4 = .ok (.lconst 0, 1) := by decide +kernel
theorem d_an_compareUnequal_5 : decode b_an_compareUnequal 5 = .ok (.lcmp, 1) := by decide +kernel
theorem d_an_compareUnequal_6 : decode b_an_compareUnequal 6 = .ok (.ifCond .ne (7), 3) := by decide +kernel
theorem d_an_compareUnequal_9 : decode b_an_compareUnequal 9 = .ok (.iconst 1, 1) := by decide +kernel
theorem d_an_compareUnequal_10 : decode b_an_compareUnequal 10 = .ok (.goto (4), 3) := by decide +kernel
theorem d_an_compareUnequal_13 : decode b_an_compareUnequal 13 = .ok (.iconst 0, 1) := by decide +kernel
theorem d_an_compareUnequal_14 : decode b_an_compareUnequal 14 = .ok (.istore_n 3, 1) := by decide +kernel
theorem d_an_compareUnequal_15 : decode b_an_compareUnequal 15 = .ok (.aload_n 2, 1) := by decide +kernel
theorem d_an_compareUnequal_16 : decode b_an_compareUnequal 16 = .ok (.getfield 212, 3) := by decide +kernel
theorem d_an_compareUnequal_19 : decode b_an_compareUnequal 19 = .ok (.lconst 0, 1) := by decide +kernel
theorem d_an_compareUnequal_20 : decode b_an_compareUnequal 20 = .ok (.lcmp, 1) := by decide +kernel
theorem d_an_compareUnequal_21 : decode b_an_compareUnequal 21 = .ok (.ifCond .ne (7), 3) := by decide +kernel
theorem d_an_compareUnequal_24 : decode b_an_compareUnequal 24 = .ok (.iconst 1, 1) := by decide +kernel
theorem d_an_compareUnequal_25 : decode b_an_compareUnequal 25 = .ok (.goto (4), 3) := by decide +kernel
theorem d_an_compareUnequal_28 : decode b_an_compareUnequal 28 = .ok (.iconst 0, 1) := by decide +kernel
theorem d_an_compareUnequal_29 : decode b_an_compareUnequal 29 = .ok (.istore 4, 2) := by decide +kernel
theorem d_an_compareUnequal_31 : decode b_an_compareUnequal 31 = .ok (.aload_n 1, 1) := by decide +kernel
theorem d_an_compareUnequal_32 : decode b_an_compareUnequal 32 = .ok (.getfield 216, 3) := by decide +kernel
theorem d_an_compareUnequal_35 : decode b_an_compareUnequal 35 = .ok (.lstore 5, 2) := by decide +kernel
theorem d_an_compareUnequal_37 : decode b_an_compareUnequal 37 = .ok (.aload_n 2, 1) := by decide +kernel
theorem d_an_compareUnequal_38 : decode b_an_compareUnequal 38 = .ok (.getfield 216, 3) := by decide +kernel
theorem d_an_compareUnequal_41 : decode b_an_compareUnequal 41 = .ok (.lstore 7, 2) := by decide +kernel
theorem d_an_compareUnequal_43 : decode b_an_compareUnequal 43 = .ok (.iload 4, 2) := by decide +kernel
theorem d_an_compareUnequal_45 : decode b_an_compareUnequal 45 = .ok (.ifCond .eq (9), 3) := by decide +kernel
theorem d_an_compareUnequal_48 : decode b_an_compareUnequal 48 = .ok (.aload_n 1, 1) := by decide +kernel
theorem d_an_compareUnequal_49 : decode b_an_compareUnequal 49 = .ok (.lload 7, 2) := by decide +kernel
theorem d_an_compareUnequal_51 : decode b_an_compareUnequal 51 = .ok (.invokevirtual 219, 3) := by decide +kernel
theorem d_an_compareUnequal_54 : decode b_an_compareUnequal 54 = .ok (.iload_n 3, 1) := by decide +kernel
theorem d_an_compareUnequal_55 : decode b_an_compareUnequal 55 = .ok (.ifCond .eq (9), 3) := by decide +kernel
theorem d_an_compareUnequal_58 : decode b_an_compareUnequal 58 = .ok (.aload_n 2, 1) := by decide +kernel
theorem d_an_compareUnequal_59 : decode b_an_compareUnequal 59 = .ok (.lload 5, 2) := by decide +kernel
theorem d_an_compareUnequal_61 : decode b_an_compareUnequal 61 = .ok (.invokevirtual 219, 3) := by decide +kernel
theorem d_an_compareUnequal_64 : decode b_an_compareUnequal 64 = .ok (.return_, 1) := by decide +kernel
theorem kb_an_compareUnequal {a0 a1 a2 : Nat}  {w : WW} {r : WW} (h : f_an_compareUnequal a0 a1 a2 w = some r) : kb w a0 6 = true := (its h).1
set_option maxHeartbeats 4000000 in
set_option maxRecDepth 100000 in
theorem j_an_compareUnequal_64 {p : Program} {l : Launch} {e : Env} {s : State} {m : MethodId} {args : Array Value} {below : List Frame} {meth : Method} {c : Code} {D : va_G} {cA : Nat → ClassId} {base : Nat} {w' : WW} (C : cx b_an_compareUnequal (none) 9 y_an_compareUnequal.cls "compareUnequal" p s m args meth c D cA base)   : ∀  (w : WW), f_an_compareUnequal_64  w = some w' → ∀ (H : Heap) (locs : List Loc) (ls : Array Slot), wo_S D cls cA base s w H locs → lv_has ls 9 [] → W p l e rm_an_compareUnequal s m args below meth c H locs 0 0 (MQ below (wo_Q D cls cA base none w') args s rm_an_compareUnequal.cells rm_an_compareUnequal.slots (wo_B base)) (F0 m 64 ls []) := by
  obtain ⟨hx, hb, hr, hml, hown, hts, hlk, hnm, hK, hG⟩ := id C
  intro  w h H locs ls hW hl
  unfold f_an_compareUnequal_64 at h
  cases h
  exact wo_vret hx hb hr hlk hW d_an_compareUnequal_64
set_option maxHeartbeats 4000000 in
set_option maxRecDepth 100000 in
theorem j_an_compareUnequal_54 {p : Program} {l : Launch} {e : Env} {s : State} {m : MethodId} {args : Array Value} {below : List Frame} {meth : Method} {c : Code} {D : va_G} {cA : Nat → ClassId} {base : Nat} {w' : WW} (C : cx b_an_compareUnequal (none) 9 y_an_compareUnequal.cls "compareUnequal" p s m args meth c D cA base)   : ∀ (y2 : Nat) (y3 : Int32) (y5 : Int64) (w : WW), f_an_compareUnequal_54 y2 y3 y5 w = some w' → ∀ (H : Heap) (locs : List Loc) (ls : Array Slot), wo_S D cls cA base s w H locs → lv_has ls 9 [(2, .ref (base + y2)), (3, .int y3), (5, .long y5)] → W p l e rm_an_compareUnequal s m args below meth c H locs 0 0 (MQ below (wo_Q D cls cA base none w') args s rm_an_compareUnequal.cells rm_an_compareUnequal.slots (wo_B base)) (F0 m 54 ls []) := by
  obtain ⟨hx, hb, hr, hml, hown, hts, hlk, hnm, hK, hG⟩ := id C
  intro y2 y3 y5 w h H locs ls hW hl
  unfold f_an_compareUnequal_54 at h
  refine lv_iload_n hx hb d_an_compareUnequal_54 rfl (lv_at hl 1 rfl) ?_
  refine lv_if_eq (tgt := 64) hx hb d_an_compareUnequal_55 (by decide) (fun c8 => ?_) (fun c8 => ?_)
  · rw [if_pos c8] at h
    exact j_an_compareUnequal_64 C w h _ _ _ hW (lv_sub hl [] rfl)
  · rw [if_neg c8] at h
    refine lv_aload_n hx hb d_an_compareUnequal_58 rfl (lv_at hl 0 rfl) ?_
    refine lv_lload hx hb d_an_compareUnequal_59 (lv_at hl 2 rfl) ?_
    replace h := bs h
    obtain ⟨w9, hw9, h⟩ := h
    refine cv_an_219 (As := [.long y5]) (rest := []) hx hb hml hown hts hK hG hW (c_va_trim l D cA base hw9) (kb_va_trim hw9) ⟨Nat.le_of_ble_eq_true rfl, Nat.le_of_ble_eq_true rfl⟩ ⟨Nat.le_of_ble_eq_true rfl, Nat.le_of_ble_eq_true rfl⟩ rfl hl.1 rfl (Nat.le_of_ble_eq_true rfl) d_an_compareUnequal_61 (fun H locs hW => ?_)
    exact j_an_compareUnequal_64 C w9 h _ _ _ hW (lv_sub hl [] rfl)
set_option maxHeartbeats 4000000 in
set_option maxRecDepth 100000 in
theorem j_an_compareUnequal_29 {p : Program} {l : Launch} {e : Env} {s : State} {m : MethodId} {args : Array Value} {below : List Frame} {meth : Method} {c : Code} {D : va_G} {cA : Nat → ClassId} {base : Nat} {w' : WW} (C : cx b_an_compareUnequal (none) 9 y_an_compareUnequal.cls "compareUnequal" p s m args meth c D cA base)   : ∀ (y1 : Nat) (y2 : Nat) (y3 : Int32) (z0 : Int32) (w : WW), f_an_compareUnequal_29 y1 y2 y3 z0 w = some w' → ∀ (H : Heap) (locs : List Loc) (ls : Array Slot), wo_S D cls cA base s w H locs → lv_has ls 9 [(1, .ref (base + y1)), (2, .ref (base + y2)), (3, .int y3)] → W p l e rm_an_compareUnequal s m args below meth c H locs 0 0 (MQ below (wo_Q D cls cA base none w') args s rm_an_compareUnequal.cells rm_an_compareUnequal.slots (wo_B base)) (F0 m 29 ls [.int z0]) := by
  obtain ⟨hx, hb, hr, hml, hown, hts, hlk, hnm, hK, hG⟩ := id C
  intro y1 y2 y3 z0 w h H locs ls hW hl
  unfold f_an_compareUnequal_29 at h
  refine lv_istore (lv' := [(4, .int z0), (1, .ref (base + y1)), (2, .ref (base + y2)), (3, .int y3)]) hx hb d_an_compareUnequal_29 hl (by decide) rfl (fun ls hl => ?_)
  refine lv_aload_n hx hb d_an_compareUnequal_31 rfl (lv_at hl 1 rfl) ?_
  replace h := bs h
  obtain ⟨x5, hx5, h⟩ := h
  refine gf_an_216 hx hb hts hown hK hG hW (gL_s hx5) d_an_compareUnequal_32 ?_
  refine lv_lstore (lv' := [(5, .long x5), (4, .int z0), (1, .ref (base + y1)), (2, .ref (base + y2)), (3, .int y3)]) hx hb d_an_compareUnequal_35 hl (by decide) rfl (fun ls hl => ?_)
  refine lv_aload_n hx hb d_an_compareUnequal_37 rfl (lv_at hl 3 rfl) ?_
  replace h := bs h
  obtain ⟨x6, hx6, h⟩ := h
  refine gf_an_216 hx hb hts hown hK hG hW (gL_s hx6) d_an_compareUnequal_38 ?_
  refine lv_lstore (lv' := [(7, .long x6), (5, .long x5), (4, .int z0), (1, .ref (base + y1)), (2, .ref (base + y2)), (3, .int y3)]) hx hb d_an_compareUnequal_41 hl (by decide) rfl (fun ls hl => ?_)
  refine lv_iload hx hb d_an_compareUnequal_43 (lv_at hl 2 rfl) ?_
  refine lv_if_eq (tgt := 54) hx hb d_an_compareUnequal_45 (by decide) (fun c7 => ?_) (fun c7 => ?_)
  · rw [if_pos c7] at h
    exact j_an_compareUnequal_54 C y2 y3 x5 w h _ _ _ hW (lv_sub hl [4, 5, 1] rfl)
  · rw [if_neg c7] at h
    refine lv_aload_n hx hb d_an_compareUnequal_48 rfl (lv_at hl 3 rfl) ?_
    refine lv_lload hx hb d_an_compareUnequal_49 (lv_at hl 0 rfl) ?_
    replace h := bs h
    obtain ⟨w10, hw10, h⟩ := h
    refine cv_an_219 (As := [.long x6]) (rest := []) hx hb hml hown hts hK hG hW (c_va_trim l D cA base hw10) (kb_va_trim hw10) ⟨Nat.le_of_ble_eq_true rfl, Nat.le_of_ble_eq_true rfl⟩ ⟨Nat.le_of_ble_eq_true rfl, Nat.le_of_ble_eq_true rfl⟩ rfl hl.1 rfl (Nat.le_of_ble_eq_true rfl) d_an_compareUnequal_51 (fun H locs hW => ?_)
    exact j_an_compareUnequal_54 C y2 y3 x5 w10 h _ _ _ hW (lv_sub hl [4, 5, 1] rfl)
set_option maxHeartbeats 4000000 in
set_option maxRecDepth 100000 in
theorem j_an_compareUnequal_14 {p : Program} {l : Launch} {e : Env} {s : State} {m : MethodId} {args : Array Value} {below : List Frame} {meth : Method} {c : Code} {D : va_G} {cA : Nat → ClassId} {base : Nat} {w' : WW} (C : cx b_an_compareUnequal (none) 9 y_an_compareUnequal.cls "compareUnequal" p s m args meth c D cA base)   : ∀ (y1 : Nat) (y2 : Nat) (z0 : Int32) (w : WW), f_an_compareUnequal_14 y1 y2 z0 w = some w' → ∀ (H : Heap) (locs : List Loc) (ls : Array Slot), wo_S D cls cA base s w H locs → lv_has ls 9 [(1, .ref (base + y1)), (2, .ref (base + y2))] → W p l e rm_an_compareUnequal s m args below meth c H locs 0 0 (MQ below (wo_Q D cls cA base none w') args s rm_an_compareUnequal.cells rm_an_compareUnequal.slots (wo_B base)) (F0 m 14 ls [.int z0]) := by
  obtain ⟨hx, hb, hr, hml, hown, hts, hlk, hnm, hK, hG⟩ := id C
  intro y1 y2 z0 w h H locs ls hW hl
  unfold f_an_compareUnequal_14 at h
  refine lv_istore_n (lv' := [(3, .int z0), (1, .ref (base + y1)), (2, .ref (base + y2))]) hx hb d_an_compareUnequal_14 rfl hl (by decide) rfl (fun ls hl => ?_)
  refine lv_aload_n hx hb d_an_compareUnequal_15 rfl (lv_at hl 2 rfl) ?_
  replace h := bs h
  obtain ⟨x3, hx3, h⟩ := h
  refine gf_an_212 hx hb hts hown hK hG hW (gL_s hx3) d_an_compareUnequal_16 ?_
  refine lv_lconst (v := (0 : Int64)) hx hb d_an_compareUnequal_19 (by decide) ?_
  refine lc_ne (tgt := 28) hx hb d_an_compareUnequal_20 d_an_compareUnequal_21 (by decide) (fun c4 => ?_) (fun c4 => ?_)
  · rw [if_neg c4] at h
    refine lv_iconst (v := (0 : Int32)) hx hb d_an_compareUnequal_28 (by decide) ?_
    exact j_an_compareUnequal_29 C y1 y2 z0 (0 : Int32) w h _ _ _ hW (lv_sub hl [1, 2, 0] rfl)
  · rw [if_pos c4] at h
    refine lv_iconst (v := (1 : Int32)) hx hb d_an_compareUnequal_24 (by decide) ?_
    refine lv_goto (tgt := 29) hx hb d_an_compareUnequal_25 (by decide) ?_
    exact j_an_compareUnequal_29 C y1 y2 z0 (1 : Int32) w h _ _ _ hW (lv_sub hl [1, 2, 0] rfl)
set_option maxHeartbeats 4000000 in
set_option maxRecDepth 100000 in
theorem c_an_compareUnequal (l : Launch) (D : va_G) (cA : Nat → ClassId) (base : Nat) {a0 : Nat} {a1 : Nat} {a2 : Nat} {w w' : WW} (h : f_an_compareUnequal a0 a1 a2 w = some w') : mt l D cls (wo_tys cA) cA base y_an_compareUnequal (Cond.code y_an_compareUnequal b_an_compareUnequal 9 (none) :: gt) rm_an_compareUnequal [.ref (base + a0), .ref (base + a1), .ref (base + a2)] w none w' rm_an_compareUnequal.cells rm_an_compareUnequal.slots := by
  refine mt_start (by decide) (Nat.le_of_ble_eq_true rfl) ?_
  intro p e s m below meth c ls hx hb hr hml hown hts hlk hnm hK hG hW hl
  have C : cx b_an_compareUnequal (none) 9 y_an_compareUnequal.cls "compareUnequal" p s m [.ref (base + a0), .ref (base + a1), .ref (base + a2)].toArray meth c D cA base := ⟨hx, hb, hr, hml, hown, hts, hlk, hnm, hK, hG⟩
  have hl : lv_has ls 9 [(0, .ref (base + a0)), (1, .ref (base + a1)), (2, .ref (base + a2))] := hl
  unfold f_an_compareUnequal at h
  replace h := its h
  obtain ⟨-, h⟩ := h
  refine lv_aload_n hx hb d_an_compareUnequal_0 rfl (lv_at hl 1 rfl) ?_
  replace h := bs h
  obtain ⟨x1, hx1, h⟩ := h
  refine gf_an_212 hx hb hts hown hK hG hW (gL_s hx1) d_an_compareUnequal_1 ?_
  refine lv_lconst (v := (0 : Int64)) hx hb d_an_compareUnequal_4 (by decide) ?_
  refine lc_ne (tgt := 13) hx hb d_an_compareUnequal_5 d_an_compareUnequal_6 (by decide) (fun c2 => ?_) (fun c2 => ?_)
  · rw [if_neg c2] at h
    refine lv_iconst (v := (0 : Int32)) hx hb d_an_compareUnequal_13 (by decide) ?_
    exact j_an_compareUnequal_14 C a1 a2 (0 : Int32) w h _ _ _ hW (lv_sub hl [1, 2] rfl)
  · rw [if_pos c2] at h
    refine lv_iconst (v := (1 : Int32)) hx hb d_an_compareUnequal_9 (by decide) ?_
    refine lv_goto (tgt := 14) hx hb d_an_compareUnequal_10 (by decide) ?_
    exact j_an_compareUnequal_14 C a1 a2 (1 : Int32) w h _ _ _ hW (lv_sub hl [1, 2] rfl)
abbrev b_va_lowerTo : ByteArray := prog_9_method_17_code
def y_va_lowerTo : MethodName := ⟨"AlarmForge$Value", "lowerTo", "(J)V"⟩
def rm_va_lowerTo : Room := { frames := 2, cells := 0, slots := 0, locals := 46 }
theorem d_va_lowerTo_0 : decode b_va_lowerTo 0 = .ok (.aload_n 0, 1) := by decide +kernel
theorem d_va_lowerTo_1 : decode b_va_lowerTo 1 = .ok (.aload_n 0, 1) := by decide +kernel
theorem d_va_lowerTo_2 : decode b_va_lowerTo 2 = .ok (.getfield 19, 3) := by decide +kernel
theorem d_va_lowerTo_5 : decode b_va_lowerTo 5 = .ok (.lload_n 1, 1) := by decide +kernel
theorem d_va_lowerTo_6 : decode b_va_lowerTo 6 = .ok (.invokestatic 47, 3) := by decide +kernel
theorem d_va_lowerTo_9 : decode b_va_lowerTo 9 = .ok (.putfield 19, 3) := by decide +kernel
theorem d_va_lowerTo_12 : decode b_va_lowerTo 12 = .ok (.aload_n 0, 1) := by decide +kernel
theorem d_va_lowerTo_13 : decode b_va_lowerTo 13 = .ok (.invokevirtual 62, 3) := by decide +kernel
theorem d_va_lowerTo_16 : decode b_va_lowerTo 16 = .ok (.pop, 1) := by decide +kernel
theorem d_va_lowerTo_17 : decode b_va_lowerTo 17 = .ok (.return_, 1) := by decide +kernel
theorem kb_va_lowerTo {a0 : Nat} {a1 : Int64} {w : WW} {r : WW} (h : f_va_lowerTo a0 a1 w = some r) : kb w a0 8 = true := (its h).1
set_option maxHeartbeats 4000000 in
set_option maxRecDepth 100000 in
theorem c_va_lowerTo (l : Launch) (D : va_G) (cA : Nat → ClassId) (base : Nat) {a0 : Nat} {a1 : Int64} {w w' : WW} (h : f_va_lowerTo a0 a1 w = some w') : mt l D cls (wo_tys cA) cA base y_va_lowerTo (Cond.code y_va_lowerTo b_va_lowerTo 3 (none) :: gt) rm_va_lowerTo [.ref (base + a0), .long a1] w none w' rm_va_lowerTo.cells rm_va_lowerTo.slots := by
  refine mt_start (by decide) (Nat.le_of_ble_eq_true rfl) ?_
  intro p e s m below meth c ls hx hb hr hml hown hts hlk hnm hK hG hW hl
  have C : cx b_va_lowerTo (none) 3 y_va_lowerTo.cls "lowerTo" p s m [.ref (base + a0), .long a1].toArray meth c D cA base := ⟨hx, hb, hr, hml, hown, hts, hlk, hnm, hK, hG⟩
  have hl : lv_has ls 3 [(0, .ref (base + a0)), (1, .long a1)] := hl
  unfold f_va_lowerTo at h
  replace h := its h
  obtain ⟨-, h⟩ := h
  refine lv_aload_n hx hb d_va_lowerTo_0 rfl (lv_at hl 0 rfl) ?_
  refine lv_aload_n hx hb d_va_lowerTo_1 rfl (lv_at hl 0 rfl) ?_
  replace h := bs h
  obtain ⟨x1, hx1, h⟩ := h
  refine gf_va_19 hx hb hts hown hK hG hW (gL_s hx1) d_va_lowerTo_2 ?_
  refine lv_lload_n hx hb d_va_lowerTo_5 rfl (lv_at hl 1 rfl) ?_
  replace h := bs2 h
  obtain ⟨x3, w2, hw2, h⟩ := h
  refine cs_va_47 (As := [.long x1, .long a1]) (rest := [.ref (base + a0)]) hx hb hml hown hts hK hG hW (c_ma_min_JJ l D cA base hw2) ⟨Nat.le_of_ble_eq_true rfl, Nat.le_of_ble_eq_true rfl⟩ ⟨Nat.le_of_ble_eq_true rfl, Nat.le_of_ble_eq_true rfl⟩ rfl hl.1 rfl (Nat.le_of_ble_eq_true rfl) d_va_lowerTo_6 (fun H locs hW => ?_)
  replace h := bs h
  obtain ⟨w4, hw4, h⟩ := h
  refine pf_va_19 hx hb hts hown hK hG hW rfl rfl (pbi hw4 rfl) d_va_lowerTo_9 (fun H locs hW => ?_)
  refine lv_aload_n hx hb d_va_lowerTo_12 rfl (lv_at hl 0 rfl) ?_
  replace h := bs2 h
  obtain ⟨x6, w5, hw5, h⟩ := h
  refine cv_va_62 (As := []) (rest := []) hx hb hml hown hts hK hG hW (c_va_putTight l D cA base hw5) (kb_va_putTight hw5) ⟨Nat.le_of_ble_eq_true rfl, Nat.le_of_ble_eq_true rfl⟩ ⟨Nat.le_of_ble_eq_true rfl, Nat.le_of_ble_eq_true rfl⟩ rfl hl.1 rfl (Nat.le_of_ble_eq_true rfl) d_va_lowerTo_13 (fun H locs hW => ?_)
  refine lv_pop hx hb d_va_lowerTo_16 rfl ?_
  cases h
  exact wo_vret hx hb hr hlk hW d_va_lowerTo_17
abbrev b_va_raiseTo : ByteArray := prog_9_method_18_code
def y_va_raiseTo : MethodName := ⟨"AlarmForge$Value", "raiseTo", "(J)V"⟩
def rm_va_raiseTo : Room := { frames := 2, cells := 0, slots := 0, locals := 46 }
theorem d_va_raiseTo_0 : decode b_va_raiseTo 0 = .ok (.aload_n 0, 1) := by decide +kernel
theorem d_va_raiseTo_1 : decode b_va_raiseTo 1 = .ok (.aload_n 0, 1) := by decide +kernel
theorem d_va_raiseTo_2 : decode b_va_raiseTo 2 = .ok (.getfield 15, 3) := by decide +kernel
theorem d_va_raiseTo_5 : decode b_va_raiseTo 5 = .ok (.lload_n 1, 1) := by decide +kernel
theorem d_va_raiseTo_6 : decode b_va_raiseTo 6 = .ok (.invokestatic 44, 3) := by decide +kernel
theorem d_va_raiseTo_9 : decode b_va_raiseTo 9 = .ok (.putfield 15, 3) := by decide +kernel
theorem d_va_raiseTo_12 : decode b_va_raiseTo 12 = .ok (.aload_n 0, 1) := by decide +kernel
theorem d_va_raiseTo_13 : decode b_va_raiseTo 13 = .ok (.invokevirtual 62, 3) := by decide +kernel
theorem d_va_raiseTo_16 : decode b_va_raiseTo 16 = .ok (.pop, 1) := by decide +kernel
theorem d_va_raiseTo_17 : decode b_va_raiseTo 17 = .ok (.return_, 1) := by decide +kernel
theorem kb_va_raiseTo {a0 : Nat} {a1 : Int64} {w : WW} {r : WW} (h : f_va_raiseTo a0 a1 w = some r) : kb w a0 8 = true := (its h).1
set_option maxHeartbeats 4000000 in
set_option maxRecDepth 100000 in
theorem c_va_raiseTo (l : Launch) (D : va_G) (cA : Nat → ClassId) (base : Nat) {a0 : Nat} {a1 : Int64} {w w' : WW} (h : f_va_raiseTo a0 a1 w = some w') : mt l D cls (wo_tys cA) cA base y_va_raiseTo (Cond.code y_va_raiseTo b_va_raiseTo 3 (none) :: gt) rm_va_raiseTo [.ref (base + a0), .long a1] w none w' rm_va_raiseTo.cells rm_va_raiseTo.slots := by
  refine mt_start (by decide) (Nat.le_of_ble_eq_true rfl) ?_
  intro p e s m below meth c ls hx hb hr hml hown hts hlk hnm hK hG hW hl
  have C : cx b_va_raiseTo (none) 3 y_va_raiseTo.cls "raiseTo" p s m [.ref (base + a0), .long a1].toArray meth c D cA base := ⟨hx, hb, hr, hml, hown, hts, hlk, hnm, hK, hG⟩
  have hl : lv_has ls 3 [(0, .ref (base + a0)), (1, .long a1)] := hl
  unfold f_va_raiseTo at h
  replace h := its h
  obtain ⟨-, h⟩ := h
  refine lv_aload_n hx hb d_va_raiseTo_0 rfl (lv_at hl 0 rfl) ?_
  refine lv_aload_n hx hb d_va_raiseTo_1 rfl (lv_at hl 0 rfl) ?_
  replace h := bs h
  obtain ⟨x1, hx1, h⟩ := h
  refine gf_va_15 hx hb hts hown hK hG hW (gL_s hx1) d_va_raiseTo_2 ?_
  refine lv_lload_n hx hb d_va_raiseTo_5 rfl (lv_at hl 1 rfl) ?_
  replace h := bs2 h
  obtain ⟨x3, w2, hw2, h⟩ := h
  refine cs_va_44 (As := [.long x1, .long a1]) (rest := [.ref (base + a0)]) hx hb hml hown hts hK hG hW (c_ma_max_JJ l D cA base hw2) ⟨Nat.le_of_ble_eq_true rfl, Nat.le_of_ble_eq_true rfl⟩ ⟨Nat.le_of_ble_eq_true rfl, Nat.le_of_ble_eq_true rfl⟩ rfl hl.1 rfl (Nat.le_of_ble_eq_true rfl) d_va_raiseTo_6 (fun H locs hW => ?_)
  replace h := bs h
  obtain ⟨w4, hw4, h⟩ := h
  refine pf_va_15 hx hb hts hown hK hG hW rfl rfl (pbi hw4 rfl) d_va_raiseTo_9 (fun H locs hW => ?_)
  refine lv_aload_n hx hb d_va_raiseTo_12 rfl (lv_at hl 0 rfl) ?_
  replace h := bs2 h
  obtain ⟨x6, w5, hw5, h⟩ := h
  refine cv_va_62 (As := []) (rest := []) hx hb hml hown hts hK hG hW (c_va_putTight l D cA base hw5) (kb_va_putTight hw5) ⟨Nat.le_of_ble_eq_true rfl, Nat.le_of_ble_eq_true rfl⟩ ⟨Nat.le_of_ble_eq_true rfl, Nat.le_of_ble_eq_true rfl⟩ rfl hl.1 rfl (Nat.le_of_ble_eq_true rfl) d_va_raiseTo_13 (fun H locs hW => ?_)
  refine lv_pop hx hb d_va_raiseTo_16 rfl ?_
  cases h
  exact wo_vret hx hb hr hlk hW d_va_raiseTo_17
theorem cv_an_229 {p : Program} {l : Launch} {e : Env} {R : Room} {s : State} {m : MethodId} {args : Array Value} {below : List Frame} {meth : Method} {c : Code} {H : Heap} {locs : List Loc} {cells slots : Nat} {Q : State → Prop} {D : va_G} {cA : Nat → ClassId} {base : Nat} {w w' : WW} {cc : ByteArray} {pc nL : Nat} {ls : Array Slot} {rest st0 As : List Value} {ov : Option Value} {b : Nat} (hx : p.tables.exec = Jvm.exec) (hb : c.code = cc) (hml : c.maxLocals = nL) (hown : s.vm.findClass Rc_an = some m.cls) (hts : ∀ w ∈ gt, w.before args s = true) (hK : va_K D cls (wo_tys cA) s) (hG : wo_G cA base s) (hW : wo_S D cls cA base s w H locs) (hM : mt l D cls (wo_tys cA) cA base y_va_lowerTo (Cond.code y_va_lowerTo b_va_lowerTo 3 (none) :: gt) rm_va_lowerTo (.ref (base + b) :: As) w ov w' rm_va_lowerTo.cells rm_va_lowerTo.slots) (hkb : kb w b 8 = true) (hR : rm_va_lowerTo.frames + 1 ≤ R.frames ∧ 8 + (3 + 11) + rm_va_lowerTo.locals ≤ R.locals) (hf : cells + rm_va_lowerTo.cells ≤ R.cells ∧ slots + rm_va_lowerTo.slots ≤ R.slots) (hn : As.length = 1) (hsz : ls.size = nL) (hst : st0 = As.reverse ++ .ref (base + b) :: rest) (hcat : (rest.map fun v => v.category).sum ≤ 8) (hdg : decode cc pc = .ok (.invokevirtual 229, 3)) (kk : ∀ (H1 : Heap) (locs1 : List Loc), wo_S D cls cA base s w' H1 locs1 → W p l e R s m args below meth c H1 locs1 (cells + rm_va_lowerTo.cells) (slots + rm_va_lowerTo.slots) Q (F0 m (pc + 3) ls (ov.toList ++ rest))) : W p l e R s m args below meth c H locs cells slots Q (F0 m pc ls st0) :=
  wo_callV (C := Rc_va) hx hb hml hown hts hK hG hW hM hkb rfl (gt_of (i := 1052) (by decide +kernel) (by decide +kernel)) (gt_of (i := 1053) (by decide +kernel) (by decide +kernel)) (gt_of (i := 1054) (by decide +kernel) (by decide +kernel)) (gt_of (i := 9) (by decide +kernel) (by decide +kernel)) (gt_of (i := 1055) (by decide +kernel) (by decide +kernel)) (by decide +kernel) hR hf hn hsz hst hcat hdg kk
theorem cv_an_232 {p : Program} {l : Launch} {e : Env} {R : Room} {s : State} {m : MethodId} {args : Array Value} {below : List Frame} {meth : Method} {c : Code} {H : Heap} {locs : List Loc} {cells slots : Nat} {Q : State → Prop} {D : va_G} {cA : Nat → ClassId} {base : Nat} {w w' : WW} {cc : ByteArray} {pc nL : Nat} {ls : Array Slot} {rest st0 As : List Value} {ov : Option Value} {b : Nat} (hx : p.tables.exec = Jvm.exec) (hb : c.code = cc) (hml : c.maxLocals = nL) (hown : s.vm.findClass Rc_an = some m.cls) (hts : ∀ w ∈ gt, w.before args s = true) (hK : va_K D cls (wo_tys cA) s) (hG : wo_G cA base s) (hW : wo_S D cls cA base s w H locs) (hM : mt l D cls (wo_tys cA) cA base y_va_raiseTo (Cond.code y_va_raiseTo b_va_raiseTo 3 (none) :: gt) rm_va_raiseTo (.ref (base + b) :: As) w ov w' rm_va_raiseTo.cells rm_va_raiseTo.slots) (hkb : kb w b 8 = true) (hR : rm_va_raiseTo.frames + 1 ≤ R.frames ∧ 8 + (3 + 11) + rm_va_raiseTo.locals ≤ R.locals) (hf : cells + rm_va_raiseTo.cells ≤ R.cells ∧ slots + rm_va_raiseTo.slots ≤ R.slots) (hn : As.length = 1) (hsz : ls.size = nL) (hst : st0 = As.reverse ++ .ref (base + b) :: rest) (hcat : (rest.map fun v => v.category).sum ≤ 8) (hdg : decode cc pc = .ok (.invokevirtual 232, 3)) (kk : ∀ (H1 : Heap) (locs1 : List Loc), wo_S D cls cA base s w' H1 locs1 → W p l e R s m args below meth c H1 locs1 (cells + rm_va_raiseTo.cells) (slots + rm_va_raiseTo.slots) Q (F0 m (pc + 3) ls (ov.toList ++ rest))) : W p l e R s m args below meth c H locs cells slots Q (F0 m pc ls st0) :=
  wo_callV (C := Rc_va) hx hb hml hown hts hK hG hW hM hkb rfl (gt_of (i := 1056) (by decide +kernel) (by decide +kernel)) (gt_of (i := 1057) (by decide +kernel) (by decide +kernel)) (gt_of (i := 1058) (by decide +kernel) (by decide +kernel)) (gt_of (i := 9) (by decide +kernel) (by decide +kernel)) (gt_of (i := 1059) (by decide +kernel) (by decide +kernel)) (by decide +kernel) hR hf hn hsz hst hcat hdg kk
abbrev b_an_compareOrder : ByteArray := prog_2_method_19_code
def y_an_compareOrder : MethodName := ⟨"AlarmForge$Analyser", "compareOrder", "(LAlarmForge$Value;LAlarmForge$Value;I)V"⟩
def rm_an_compareOrder : Room := { frames := 3, cells := 0, slots := 0, locals := 68 }
theorem d_an_compareOrder_0 : decode b_an_compareOrder 0 = .ok (.aload_n 1, 1) := by decide +kernel
theorem d_an_compareOrder_1 : decode b_an_compareOrder 1 = .ok (.getfield 223, 3) := by decide +kernel
theorem d_an_compareOrder_4 : decode b_an_compareOrder 4 = .ok (.lstore 4, 2) := by decide +kernel
theorem d_an_compareOrder_6 : decode b_an_compareOrder 6 = .ok (.aload_n 1, 1) := by decide +kernel
theorem d_an_compareOrder_7 : decode b_an_compareOrder 7 = .ok (.aload_n 2, 1) := by decide +kernel
theorem d_an_compareOrder_8 : decode b_an_compareOrder 8 = .ok (.getfield 226, 3) := by decide +kernel
theorem d_an_compareOrder_11 : decode b_an_compareOrder 11 = .ok (.iload_n 3, 1) := by decide +kernel
theorem d_an_compareOrder_12 : decode b_an_compareOrder 12 = .ok (.i2l, 1) := by decide +kernel
theorem d_an_compareOrder_13 : decode b_an_compareOrder 13 = .ok (.lsub, 1) := by decide +kernel
theorem d_an_compareOrder_14 : decode b_an_compareOrder 14 = .ok (.invokevirtual 229, 3) := by decide +kernel
theorem d_an_compareOrder_17 : decode b_an_compareOrder 17 = .ok (.aload_n 2, 1) := by decide +kernel
theorem d_an_compareOrder_18 : decode b_an_compareOrder 18 = .ok (.lload 4, 2) := by decide +kernel
theorem d_an_compareOrder_20 : decode b_an_compareOrder 20 = .ok (.iload_n 3, 1) := by decide +kernel
theorem d_an_compareOrder_21 : decode b_an_compareOrder 21 = .ok (.i2l, 1) := by decide +kernel
theorem d_an_compareOrder_22 : decode b_an_compareOrder 22 = .ok (.ladd, 1) := by decide +kernel
theorem d_an_compareOrder_23 : decode b_an_compareOrder 23 = .ok (.invokevirtual 232, 3) := by decide +kernel
theorem d_an_compareOrder_26 : decode b_an_compareOrder 26 = .ok (.return_, 1) := by decide +kernel
theorem kb_an_compareOrder {a0 a1 a2 : Nat} {a3 : Int32} {w : WW} {r : WW} (h : f_an_compareOrder a0 a1 a2 a3 w = some r) : kb w a0 6 = true := (its h).1
set_option maxHeartbeats 4000000 in
set_option maxRecDepth 100000 in
theorem c_an_compareOrder (l : Launch) (D : va_G) (cA : Nat → ClassId) (base : Nat) {a0 : Nat} {a1 : Nat} {a2 : Nat} {a3 : Int32} {w w' : WW} (h : f_an_compareOrder a0 a1 a2 a3 w = some w') : mt l D cls (wo_tys cA) cA base y_an_compareOrder (Cond.code y_an_compareOrder b_an_compareOrder 6 (none) :: gt) rm_an_compareOrder [.ref (base + a0), .ref (base + a1), .ref (base + a2), .int a3] w none w' rm_an_compareOrder.cells rm_an_compareOrder.slots := by
  refine mt_start (by decide) (Nat.le_of_ble_eq_true rfl) ?_
  intro p e s m below meth c ls hx hb hr hml hown hts hlk hnm hK hG hW hl
  have C : cx b_an_compareOrder (none) 6 y_an_compareOrder.cls "compareOrder" p s m [.ref (base + a0), .ref (base + a1), .ref (base + a2), .int a3].toArray meth c D cA base := ⟨hx, hb, hr, hml, hown, hts, hlk, hnm, hK, hG⟩
  have hl : lv_has ls 6 [(0, .ref (base + a0)), (1, .ref (base + a1)), (2, .ref (base + a2)), (3, .int a3)] := hl
  unfold f_an_compareOrder at h
  replace h := its h
  obtain ⟨-, h⟩ := h
  refine lv_aload_n hx hb d_an_compareOrder_0 rfl (lv_at hl 1 rfl) ?_
  replace h := bs h
  obtain ⟨x1, hx1, h⟩ := h
  refine gf_an_223 hx hb hts hown hK hG hW (gL_s hx1) d_an_compareOrder_1 ?_
  refine lv_lstore (lv' := [(4, .long x1), (0, .ref (base + a0)), (1, .ref (base + a1)), (2, .ref (base + a2)), (3, .int a3)]) hx hb d_an_compareOrder_4 hl (by decide) rfl (fun ls hl => ?_)
  refine lv_aload_n hx hb d_an_compareOrder_6 rfl (lv_at hl 2 rfl) ?_
  refine lv_aload_n hx hb d_an_compareOrder_7 rfl (lv_at hl 3 rfl) ?_
  replace h := bs h
  obtain ⟨x2, hx2, h⟩ := h
  refine gf_an_226 hx hb hts hown hK hG hW (gL_s hx2) d_an_compareOrder_8 ?_
  refine lv_iload_n hx hb d_an_compareOrder_11 rfl (lv_at hl 4 rfl) ?_
  refine lv_i2l hx hb d_an_compareOrder_12 rfl ?_
  refine lv_lsub hx hb d_an_compareOrder_13 ?_
  replace h := bs h
  obtain ⟨w3, hw3, h⟩ := h
  refine cv_an_229 (As := [.long (x2 - (Int32.toInt64 a3))]) (rest := []) hx hb hml hown hts hK hG hW (c_va_lowerTo l D cA base hw3) (kb_va_lowerTo hw3) ⟨Nat.le_of_ble_eq_true rfl, Nat.le_of_ble_eq_true rfl⟩ ⟨Nat.le_of_ble_eq_true rfl, Nat.le_of_ble_eq_true rfl⟩ rfl hl.1 rfl (Nat.le_of_ble_eq_true rfl) d_an_compareOrder_14 (fun H locs hW => ?_)
  refine lv_aload_n hx hb d_an_compareOrder_17 rfl (lv_at hl 3 rfl) ?_
  refine lv_lload hx hb d_an_compareOrder_18 (lv_at hl 0 rfl) ?_
  refine lv_iload_n hx hb d_an_compareOrder_20 rfl (lv_at hl 4 rfl) ?_
  refine lv_i2l hx hb d_an_compareOrder_21 rfl ?_
  refine lv_ladd hx hb d_an_compareOrder_22 ?_
  replace h := bs h
  obtain ⟨w4, hw4, h⟩ := h
  refine cv_an_232 (As := [.long (x1 + (Int32.toInt64 a3))]) (rest := []) hx hb hml hown hts hK hG hW (c_va_raiseTo l D cA base hw4) (kb_va_raiseTo hw4) ⟨Nat.le_of_ble_eq_true rfl, Nat.le_of_ble_eq_true rfl⟩ ⟨Nat.le_of_ble_eq_true rfl, Nat.le_of_ble_eq_true rfl⟩ rfl hl.1 rfl (Nat.le_of_ble_eq_true rfl) d_an_compareOrder_23 (fun H locs hW => ?_)
  cases h
  exact wo_vret hx hb hr hlk hW d_an_compareOrder_26
theorem cv_an_201 {p : Program} {l : Launch} {e : Env} {R : Room} {s : State} {m : MethodId} {args : Array Value} {below : List Frame} {meth : Method} {c : Code} {H : Heap} {locs : List Loc} {cells slots : Nat} {Q : State → Prop} {D : va_G} {cA : Nat → ClassId} {base : Nat} {w w' : WW} {cc : ByteArray} {pc nL : Nat} {ls : Array Slot} {rest st0 As : List Value} {ov : Option Value} {b : Nat} (hx : p.tables.exec = Jvm.exec) (hb : c.code = cc) (hml : c.maxLocals = nL) (hown : s.vm.findClass Rc_an = some m.cls) (hts : ∀ w ∈ gt, w.before args s = true) (hK : va_K D cls (wo_tys cA) s) (hG : wo_G cA base s) (hW : wo_S D cls cA base s w H locs) (hM : mt l D cls (wo_tys cA) cA base y_va_meet (Cond.code y_va_meet b_va_meet 3 (none) :: gt) rm_va_meet (.ref (base + b) :: As) w ov w' rm_va_meet.cells rm_va_meet.slots) (hkb : kb w b 8 = true) (hR : rm_va_meet.frames + 1 ≤ R.frames ∧ 8 + (3 + 11) + rm_va_meet.locals ≤ R.locals) (hf : cells + rm_va_meet.cells ≤ R.cells ∧ slots + rm_va_meet.slots ≤ R.slots) (hn : As.length = 1) (hsz : ls.size = nL) (hst : st0 = As.reverse ++ .ref (base + b) :: rest) (hcat : (rest.map fun v => v.category).sum ≤ 8) (hdg : decode cc pc = .ok (.invokevirtual 201, 3)) (kk : ∀ (H1 : Heap) (locs1 : List Loc), wo_S D cls cA base s w' H1 locs1 → W p l e R s m args below meth c H1 locs1 (cells + rm_va_meet.cells) (slots + rm_va_meet.slots) Q (F0 m (pc + 3) ls (ov.toList ++ rest))) : W p l e R s m args below meth c H locs cells slots Q (F0 m pc ls st0) :=
  wo_callV (C := Rc_va) hx hb hml hown hts hK hG hW hM hkb rfl (gt_of (i := 1032) (by decide +kernel) (by decide +kernel)) (gt_of (i := 1033) (by decide +kernel) (by decide +kernel)) (gt_of (i := 1034) (by decide +kernel) (by decide +kernel)) (gt_of (i := 9) (by decide +kernel) (by decide +kernel)) (gt_of (i := 1035) (by decide +kernel) (by decide +kernel)) (by decide +kernel) hR hf hn hsz hst hcat hdg kk
theorem cv_an_204 {p : Program} {l : Launch} {e : Env} {R : Room} {s : State} {m : MethodId} {args : Array Value} {below : List Frame} {meth : Method} {c : Code} {H : Heap} {locs : List Loc} {cells slots : Nat} {Q : State → Prop} {D : va_G} {cA : Nat → ClassId} {base : Nat} {w w' : WW} {cc : ByteArray} {pc nL : Nat} {ls : Array Slot} {rest st0 As : List Value} {ov : Option Value} {b : Nat} (hx : p.tables.exec = Jvm.exec) (hb : c.code = cc) (hml : c.maxLocals = nL) (hown : s.vm.findClass Rc_an = some m.cls) (hts : ∀ w ∈ gt, w.before args s = true) (hK : va_K D cls (wo_tys cA) s) (hG : wo_G cA base s) (hW : wo_S D cls cA base s w H locs) (hM : mt l D cls (wo_tys cA) cA base y_an_compareUnequal (Cond.code y_an_compareUnequal b_an_compareUnequal 9 (none) :: gt) rm_an_compareUnequal (.ref (base + b) :: As) w ov w' rm_an_compareUnequal.cells rm_an_compareUnequal.slots) (hkb : kb w b 6 = true) (hR : rm_an_compareUnequal.frames + 1 ≤ R.frames ∧ 8 + (9 + 11) + rm_an_compareUnequal.locals ≤ R.locals) (hf : cells + rm_an_compareUnequal.cells ≤ R.cells ∧ slots + rm_an_compareUnequal.slots ≤ R.slots) (hn : As.length = 2) (hsz : ls.size = nL) (hst : st0 = As.reverse ++ .ref (base + b) :: rest) (hcat : (rest.map fun v => v.category).sum ≤ 8) (hdg : decode cc pc = .ok (.invokevirtual 204, 3)) (kk : ∀ (H1 : Heap) (locs1 : List Loc), wo_S D cls cA base s w' H1 locs1 → W p l e R s m args below meth c H1 locs1 (cells + rm_an_compareUnequal.cells) (slots + rm_an_compareUnequal.slots) Q (F0 m (pc + 3) ls (ov.toList ++ rest))) : W p l e R s m args below meth c H locs cells slots Q (F0 m pc ls st0) :=
  wo_callV (C := Rc_an) hx hb hml hown hts hK hG hW hM hkb rfl (gt_of (i := 1040) (by decide +kernel) (by decide +kernel)) (gt_of (i := 1042) (by decide +kernel) (by decide +kernel)) (gt_sel (i := 50) (by decide +kernel) (by decide +kernel)) (gt_of (i := 7) (by decide +kernel) (by decide +kernel)) (gt_of (i := 1043) (by decide +kernel) (by decide +kernel)) (by decide +kernel) hR hf hn hsz hst hcat hdg kk
theorem cv_an_208 {p : Program} {l : Launch} {e : Env} {R : Room} {s : State} {m : MethodId} {args : Array Value} {below : List Frame} {meth : Method} {c : Code} {H : Heap} {locs : List Loc} {cells slots : Nat} {Q : State → Prop} {D : va_G} {cA : Nat → ClassId} {base : Nat} {w w' : WW} {cc : ByteArray} {pc nL : Nat} {ls : Array Slot} {rest st0 As : List Value} {ov : Option Value} {b : Nat} (hx : p.tables.exec = Jvm.exec) (hb : c.code = cc) (hml : c.maxLocals = nL) (hown : s.vm.findClass Rc_an = some m.cls) (hts : ∀ w ∈ gt, w.before args s = true) (hK : va_K D cls (wo_tys cA) s) (hG : wo_G cA base s) (hW : wo_S D cls cA base s w H locs) (hM : mt l D cls (wo_tys cA) cA base y_an_compareOrder (Cond.code y_an_compareOrder b_an_compareOrder 6 (none) :: gt) rm_an_compareOrder (.ref (base + b) :: As) w ov w' rm_an_compareOrder.cells rm_an_compareOrder.slots) (hkb : kb w b 6 = true) (hR : rm_an_compareOrder.frames + 1 ≤ R.frames ∧ 8 + (6 + 11) + rm_an_compareOrder.locals ≤ R.locals) (hf : cells + rm_an_compareOrder.cells ≤ R.cells ∧ slots + rm_an_compareOrder.slots ≤ R.slots) (hn : As.length = 3) (hsz : ls.size = nL) (hst : st0 = As.reverse ++ .ref (base + b) :: rest) (hcat : (rest.map fun v => v.category).sum ≤ 8) (hdg : decode cc pc = .ok (.invokevirtual 208, 3)) (kk : ∀ (H1 : Heap) (locs1 : List Loc), wo_S D cls cA base s w' H1 locs1 → W p l e R s m args below meth c H1 locs1 (cells + rm_an_compareOrder.cells) (slots + rm_an_compareOrder.slots) Q (F0 m (pc + 3) ls (ov.toList ++ rest))) : W p l e R s m args below meth c H locs cells slots Q (F0 m pc ls st0) :=
  wo_callV (C := Rc_an) hx hb hml hown hts hK hG hW hM hkb rfl (gt_of (i := 1048) (by decide +kernel) (by decide +kernel)) (gt_of (i := 1050) (by decide +kernel) (by decide +kernel)) (gt_sel (i := 51) (by decide +kernel) (by decide +kernel)) (gt_of (i := 7) (by decide +kernel) (by decide +kernel)) (gt_of (i := 1051) (by decide +kernel) (by decide +kernel)) (by decide +kernel) hR hf hn hsz hst hcat hdg kk
abbrev b_an_compare : ByteArray := prog_2_method_17_code
def y_an_compare : MethodName := ⟨"AlarmForge$Analyser", "compare", "(ILAlarmForge$Value;LAlarmForge$Value;)V"⟩
def rm_an_compare : Room := { frames := 4, cells := 0, slots := 0, locals := 98 }
theorem d_an_compare_0 : decode b_an_compare 0 = .ok (.iload_n 1, 1) := by decide +kernel
theorem d_an_compare_1 : decode b_an_compare 1 = .ok (.lookupswitch (67) #[(60, 57), (256, 35), (257, 48)], 35) := by decide +kernel
theorem d_an_compare_36 : decode b_an_compare 36 = .ok (.aload_n 2, 1) := by decide +kernel
theorem d_an_compare_37 : decode b_an_compare 37 = .ok (.aload_n 3, 1) := by decide +kernel
theorem d_an_compare_38 : decode b_an_compare 38 = .ok (.invokevirtual 201, 3) := by decide +kernel
theorem d_an_compare_41 : decode b_an_compare 41 = .ok (.aload_n 3, 1) := by decide +kernel
theorem d_an_compare_42 : decode b_an_compare 42 = .ok (.aload_n 2, 1) := by decide +kernel
theorem d_an_compare_43 : decode b_an_compare 43 = .ok (.invokevirtual 122, 3) := by decide +kernel
theorem d_an_compare_46 : decode b_an_compare 46 = .ok (.goto (29), 3) := by decide +kernel
theorem d_an_compare_49 : decode b_an_compare 49 = .ok (.aload_n 0, 1) := by decide +kernel
theorem d_an_compare_50 : decode b_an_compare 50 = .ok (.aload_n 2, 1) := by decide +kernel
theorem d_an_compare_51 : decode b_an_compare 51 = .ok (.aload_n 3, 1) := by decide +kernel
theorem d_an_compare_52 : decode b_an_compare 52 = .ok (.invokevirtual 204, 3) := by decide +kernel
theorem d_an_compare_55 : decode b_an_compare 55 = .ok (.goto (20), 3) := by decide +kernel
theorem d_an_compare_58 : decode b_an_compare 58 = .ok (.aload_n 0, 1) := by decide +kernel
theorem d_an_compare_59 : decode b_an_compare 59 = .ok (.aload_n 2, 1) := by decide +kernel
theorem d_an_compare_60 : decode b_an_compare 60 = .ok (.aload_n 3, 1) := by decide +kernel
theorem d_an_compare_61 : decode b_an_compare 61 = .ok (.iconst 1, 1) := by decide +kernel
theorem d_an_compare_62 : decode b_an_compare 62 = .ok (.invokevirtual 208, 3) := by decide +kernel
theorem d_an_compare_65 : decode b_an_compare 65 = .ok (.goto (10), 3) := by decide +kernel
theorem d_an_compare_68 : decode b_an_compare 68 = .ok (.aload_n 0, 1) := by decide +kernel
theorem d_an_compare_69 : decode b_an_compare 69 = .ok (.aload_n 2, 1) := by decide +kernel
theorem d_an_compare_70 : decode b_an_compare 70 = .ok (.aload_n 3, 1) := by decide +kernel
theorem d_an_compare_71 : decode b_an_compare 71 = .ok (.iconst 0, 1) := by decide +kernel
theorem d_an_compare_72 : decode b_an_compare 72 = .ok (.invokevirtual 208, 3) := by decide +kernel
theorem d_an_compare_75 : decode b_an_compare 75 = .ok (.return_, 1) := by decide +kernel
theorem kb_an_compare {a0 a2 a3 : Nat} {a1 : Int32} {w : WW} {r : WW} (h : f_an_compare a0 a1 a2 a3 w = some r) : kb w a0 6 = true := (its h).1
set_option maxHeartbeats 4000000 in
set_option maxRecDepth 100000 in
theorem j_an_compare_75 {p : Program} {l : Launch} {e : Env} {s : State} {m : MethodId} {args : Array Value} {below : List Frame} {meth : Method} {c : Code} {D : va_G} {cA : Nat → ClassId} {base : Nat} {w' : WW} (C : cx b_an_compare (none) 4 y_an_compare.cls "compare" p s m args meth c D cA base)   : ∀  (w : WW), f_an_compare_75  w = some w' → ∀ (H : Heap) (locs : List Loc) (ls : Array Slot), wo_S D cls cA base s w H locs → lv_has ls 4 [] → W p l e rm_an_compare s m args below meth c H locs 0 0 (MQ below (wo_Q D cls cA base none w') args s rm_an_compare.cells rm_an_compare.slots (wo_B base)) (F0 m 75 ls []) := by
  obtain ⟨hx, hb, hr, hml, hown, hts, hlk, hnm, hK, hG⟩ := id C
  intro  w h H locs ls hW hl
  unfold f_an_compare_75 at h
  cases h
  exact wo_vret hx hb hr hlk hW d_an_compare_75
set_option maxHeartbeats 4000000 in
set_option maxRecDepth 100000 in
theorem c_an_compare (l : Launch) (D : va_G) (cA : Nat → ClassId) (base : Nat) {a0 : Nat} {a1 : Int32} {a2 : Nat} {a3 : Nat} {w w' : WW} (h : f_an_compare a0 a1 a2 a3 w = some w') : mt l D cls (wo_tys cA) cA base y_an_compare (Cond.code y_an_compare b_an_compare 4 (none) :: gt) rm_an_compare [.ref (base + a0), .int a1, .ref (base + a2), .ref (base + a3)] w none w' rm_an_compare.cells rm_an_compare.slots := by
  refine mt_start (by decide) (Nat.le_of_ble_eq_true rfl) ?_
  intro p e s m below meth c ls hx hb hr hml hown hts hlk hnm hK hG hW hl
  have C : cx b_an_compare (none) 4 y_an_compare.cls "compare" p s m [.ref (base + a0), .int a1, .ref (base + a2), .ref (base + a3)].toArray meth c D cA base := ⟨hx, hb, hr, hml, hown, hts, hlk, hnm, hK, hG⟩
  have hl : lv_has ls 4 [(0, .ref (base + a0)), (1, .int a1), (2, .ref (base + a2)), (3, .ref (base + a3))] := hl
  unfold f_an_compare at h
  replace h := its h
  obtain ⟨-, h⟩ := h
  refine lv_iload_n hx hb d_an_compare_0 rfl (lv_at hl 1 rfl) ?_
  by_cases c1 : a1 = (60 : Int32)
  · rw [if_pos c1] at h
    refine lv_lookup (off := 57) (tgt := 58) hx hb d_an_compare_1 (by decide) (by rw [c1]; rfl) (by decide) ?_
    refine lv_aload_n hx hb d_an_compare_58 rfl (lv_at hl 0 rfl) ?_
    refine lv_aload_n hx hb d_an_compare_59 rfl (lv_at hl 2 rfl) ?_
    refine lv_aload_n hx hb d_an_compare_60 rfl (lv_at hl 3 rfl) ?_
    refine lv_iconst (v := (1 : Int32)) hx hb d_an_compare_61 (by decide) ?_
    replace h := bs h
    obtain ⟨w2, hw2, h⟩ := h
    refine cv_an_208 (As := [.ref (base + a2), .ref (base + a3), .int (1 : Int32)]) (rest := []) hx hb hml hown hts hK hG hW (c_an_compareOrder l D cA base hw2) (kb_an_compareOrder hw2) ⟨Nat.le_of_ble_eq_true rfl, Nat.le_of_ble_eq_true rfl⟩ ⟨Nat.le_of_ble_eq_true rfl, Nat.le_of_ble_eq_true rfl⟩ rfl hl.1 rfl (Nat.le_of_ble_eq_true rfl) d_an_compare_62 (fun H locs hW => ?_)
    refine lv_goto (tgt := 75) hx hb d_an_compare_65 (by decide) ?_
    exact j_an_compare_75 C w2 h _ _ _ hW (lv_sub hl [] rfl)
  · rw [if_neg c1] at h
    by_cases c3 : a1 = (256 : Int32)
    · rw [if_pos c3] at h
      refine lv_lookup (off := 35) (tgt := 36) hx hb d_an_compare_1 (by decide) (by rw [c3]; rfl) (by decide) ?_
      refine lv_aload_n hx hb d_an_compare_36 rfl (lv_at hl 2 rfl) ?_
      refine lv_aload_n hx hb d_an_compare_37 rfl (lv_at hl 3 rfl) ?_
      replace h := bs h
      obtain ⟨w4, hw4, h⟩ := h
      refine cv_an_201 (As := [.ref (base + a3)]) (rest := []) hx hb hml hown hts hK hG hW (c_va_meet l D cA base hw4) (kb_va_meet hw4) ⟨Nat.le_of_ble_eq_true rfl, Nat.le_of_ble_eq_true rfl⟩ ⟨Nat.le_of_ble_eq_true rfl, Nat.le_of_ble_eq_true rfl⟩ rfl hl.1 rfl (Nat.le_of_ble_eq_true rfl) d_an_compare_38 (fun H locs hW => ?_)
      refine lv_aload_n hx hb d_an_compare_41 rfl (lv_at hl 3 rfl) ?_
      refine lv_aload_n hx hb d_an_compare_42 rfl (lv_at hl 2 rfl) ?_
      replace h := bs h
      obtain ⟨w5, hw5, h⟩ := h
      refine cv_an_122 (As := [.ref (base + a2)]) (rest := []) hx hb hml hown hts hK hG hW (c_va_copy l D cA base hw5) (kb_va_copy hw5) ⟨Nat.le_of_ble_eq_true rfl, Nat.le_of_ble_eq_true rfl⟩ ⟨Nat.le_of_ble_eq_true rfl, Nat.le_of_ble_eq_true rfl⟩ rfl hl.1 rfl (Nat.le_of_ble_eq_true rfl) d_an_compare_43 (fun H locs hW => ?_)
      refine lv_goto (tgt := 75) hx hb d_an_compare_46 (by decide) ?_
      exact j_an_compare_75 C w5 h _ _ _ hW (lv_sub hl [] rfl)
    · rw [if_neg c3] at h
      by_cases c6 : a1 = (257 : Int32)
      · rw [if_pos c6] at h
        refine lv_lookup (off := 48) (tgt := 49) hx hb d_an_compare_1 (by decide) (by rw [c6]; rfl) (by decide) ?_
        refine lv_aload_n hx hb d_an_compare_49 rfl (lv_at hl 0 rfl) ?_
        refine lv_aload_n hx hb d_an_compare_50 rfl (lv_at hl 2 rfl) ?_
        refine lv_aload_n hx hb d_an_compare_51 rfl (lv_at hl 3 rfl) ?_
        replace h := bs h
        obtain ⟨w7, hw7, h⟩ := h
        refine cv_an_204 (As := [.ref (base + a2), .ref (base + a3)]) (rest := []) hx hb hml hown hts hK hG hW (c_an_compareUnequal l D cA base hw7) (kb_an_compareUnequal hw7) ⟨Nat.le_of_ble_eq_true rfl, Nat.le_of_ble_eq_true rfl⟩ ⟨Nat.le_of_ble_eq_true rfl, Nat.le_of_ble_eq_true rfl⟩ rfl hl.1 rfl (Nat.le_of_ble_eq_true rfl) d_an_compare_52 (fun H locs hW => ?_)
        refine lv_goto (tgt := 75) hx hb d_an_compare_55 (by decide) ?_
        exact j_an_compare_75 C w7 h _ _ _ hW (lv_sub hl [] rfl)
      · rw [if_neg c6] at h
        refine lv_lookup (off := 67) (tgt := 68) hx hb d_an_compare_1 (by decide) (by rw [lv_osw c1 (show (60 : Int32).toInt = 60 from rfl)]; rw [lv_osw c3 (show (256 : Int32).toInt = 256 from rfl)]; rw [lv_osw c6 (show (257 : Int32).toInt = 257 from rfl)]; rfl) (by decide) ?_
        refine lv_aload_n hx hb d_an_compare_68 rfl (lv_at hl 0 rfl) ?_
        refine lv_aload_n hx hb d_an_compare_69 rfl (lv_at hl 2 rfl) ?_
        refine lv_aload_n hx hb d_an_compare_70 rfl (lv_at hl 3 rfl) ?_
        refine lv_iconst (v := (0 : Int32)) hx hb d_an_compare_71 (by decide) ?_
        replace h := bs h
        obtain ⟨w8, hw8, h⟩ := h
        refine cv_an_208 (As := [.ref (base + a2), .ref (base + a3), .int (0 : Int32)]) (rest := []) hx hb hml hown hts hK hG hW (c_an_compareOrder l D cA base hw8) (kb_an_compareOrder hw8) ⟨Nat.le_of_ble_eq_true rfl, Nat.le_of_ble_eq_true rfl⟩ ⟨Nat.le_of_ble_eq_true rfl, Nat.le_of_ble_eq_true rfl⟩ rfl hl.1 rfl (Nat.le_of_ble_eq_true rfl) d_an_compare_72 (fun H locs hW => ?_)
        exact j_an_compare_75 C w8 h _ _ _ hW (lv_sub hl [] rfl)
abbrev b_an_learn : ByteArray := prog_2_method_16_code
def y_an_learn : MethodName := ⟨"AlarmForge$Analyser", "learn", "(IILAlarmForge$Value;LAlarmForge$State;)V"⟩
def rm_an_learn : Room := { frames := 1, cells := 0, slots := 0, locals := 21 }
theorem d_an_learn_0 : decode b_an_learn 0 = .ok (.iload_n 2, 1) := by decide +kernel
theorem d_an_learn_1 : decode b_an_learn 1 = .ok (.iload_n 1, 1) := by decide +kernel
theorem d_an_learn_2 : decode b_an_learn 2 = .ok (.iconst 1, 1) := by decide +kernel
theorem d_an_learn_3 : decode b_an_learn 3 = .ok (.iadd, 1) := by decide +kernel
theorem d_an_learn_4 : decode b_an_learn 4 = .ok (.if_icmp .ne (35), 3) := by decide +kernel
theorem d_an_learn_7 : decode b_an_learn 7 = .ok (.aload_n 0, 1) := by decide +kernel
theorem d_an_learn_8 : decode b_an_learn 8 = .ok (.getfield 33, 3) := by decide +kernel
theorem d_an_learn_11 : decode b_an_learn 11 = .ok (.getfield 195, 3) := by decide +kernel
theorem d_an_learn_14 : decode b_an_learn 14 = .ok (.iload_n 1, 1) := by decide +kernel
theorem d_an_learn_15 : decode b_an_learn 15 = .ok (.iaload, 1) := by decide +kernel
theorem d_an_learn_16 : decode b_an_learn 16 = .ok (.iconst 2, 1) := by decide +kernel
theorem d_an_learn_17 : decode b_an_learn 17 = .ok (.if_icmp .ne (22), 3) := by decide +kernel
theorem d_an_learn_20 : decode b_an_learn 20 = .ok (.aload 4, 2) := by decide +kernel
theorem d_an_learn_22 : decode b_an_learn 22 = .ok (.getfield 88, 3) := by decide +kernel
theorem d_an_learn_25 : decode b_an_learn 25 = .ok (.aload_n 0, 1) := by decide +kernel
theorem d_an_learn_26 : decode b_an_learn 26 = .ok (.getfield 33, 3) := by decide +kernel
theorem d_an_learn_29 : decode b_an_learn 29 = .ok (.getfield 198, 3) := by decide +kernel
theorem d_an_learn_32 : decode b_an_learn 32 = .ok (.iload_n 1, 1) := by decide +kernel
theorem d_an_learn_33 : decode b_an_learn 33 = .ok (.iaload, 1) := by decide +kernel
theorem d_an_learn_34 : decode b_an_learn 34 = .ok (.aaload, 1) := by decide +kernel
theorem d_an_learn_35 : decode b_an_learn 35 = .ok (.aload_n 3, 1) := by decide +kernel
theorem d_an_learn_36 : decode b_an_learn 36 = .ok (.invokevirtual 122, 3) := by decide +kernel
theorem d_an_learn_39 : decode b_an_learn 39 = .ok (.return_, 1) := by decide +kernel
theorem kb_an_learn {a0 a3 a4 : Nat} {a1 : Int32} {a2 : Int32} {w : WW} {r : WW} (h : f_an_learn a0 a1 a2 a3 a4 w = some r) : kb w a0 6 = true := (its h).1
set_option maxHeartbeats 4000000 in
set_option maxRecDepth 100000 in
theorem j_an_learn_39 {p : Program} {l : Launch} {e : Env} {s : State} {m : MethodId} {args : Array Value} {below : List Frame} {meth : Method} {c : Code} {D : va_G} {cA : Nat → ClassId} {base : Nat} {w' : WW} (C : cx b_an_learn (none) 5 y_an_learn.cls "learn" p s m args meth c D cA base)   : ∀  (w : WW), f_an_learn_39  w = some w' → ∀ (H : Heap) (locs : List Loc) (ls : Array Slot), wo_S D cls cA base s w H locs → lv_has ls 5 [] → W p l e rm_an_learn s m args below meth c H locs 0 0 (MQ below (wo_Q D cls cA base none w') args s rm_an_learn.cells rm_an_learn.slots (wo_B base)) (F0 m 39 ls []) := by
  obtain ⟨hx, hb, hr, hml, hown, hts, hlk, hnm, hK, hG⟩ := id C
  intro  w h H locs ls hW hl
  unfold f_an_learn_39 at h
  cases h
  exact wo_vret hx hb hr hlk hW d_an_learn_39
set_option maxHeartbeats 4000000 in
set_option maxRecDepth 100000 in
theorem c_an_learn (l : Launch) (D : va_G) (cA : Nat → ClassId) (base : Nat) {a0 : Nat} {a1 : Int32} {a2 : Int32} {a3 : Nat} {a4 : Nat} {w w' : WW} (h : f_an_learn a0 a1 a2 a3 a4 w = some w') : mt l D cls (wo_tys cA) cA base y_an_learn (Cond.code y_an_learn b_an_learn 5 (none) :: gt) rm_an_learn [.ref (base + a0), .int a1, .int a2, .ref (base + a3), .ref (base + a4)] w none w' rm_an_learn.cells rm_an_learn.slots := by
  refine mt_start (by decide) (Nat.le_of_ble_eq_true rfl) ?_
  intro p e s m below meth c ls hx hb hr hml hown hts hlk hnm hK hG hW hl
  have C : cx b_an_learn (none) 5 y_an_learn.cls "learn" p s m [.ref (base + a0), .int a1, .int a2, .ref (base + a3), .ref (base + a4)].toArray meth c D cA base := ⟨hx, hb, hr, hml, hown, hts, hlk, hnm, hK, hG⟩
  have hl : lv_has ls 5 [(0, .ref (base + a0)), (1, .int a1), (2, .int a2), (3, .ref (base + a3)), (4, .ref (base + a4))] := hl
  unfold f_an_learn at h
  replace h := its h
  obtain ⟨-, h⟩ := h
  refine lv_iload_n hx hb d_an_learn_0 rfl (lv_at hl 2 rfl) ?_
  refine lv_iload_n hx hb d_an_learn_1 rfl (lv_at hl 1 rfl) ?_
  refine lv_iconst (v := (1 : Int32)) hx hb d_an_learn_2 (by decide) ?_
  refine lv_iadd hx hb d_an_learn_3 ?_
  refine lv_icmp_ne (tgt := 39) hx hb d_an_learn_4 (by decide) (fun c1 => ?_) (fun c1 => ?_)
  · rw [if_neg c1] at h
    exact j_an_learn_39 C w h _ _ _ hW (lv_sub hl [] rfl)
  · rw [if_pos c1] at h
    refine lv_aload_n hx hb d_an_learn_7 rfl (lv_at hl 0 rfl) ?_
    replace h := bs h
    obtain ⟨x2, hx2, h⟩ := h
    refine gf_an_33 hx hb hts hown hK hG hW (gR_s hx2) d_an_learn_8 ?_
    replace h := bs h
    obtain ⟨x3, ex3, h⟩ := h
    subst ex3
    replace h := bs h
    obtain ⟨x4, hx4, h⟩ := h
    refine gf_an_195 hx hb hts hown hK hG hW (gN_s hx4) d_an_learn_11 ?_
    refine lv_iload_n hx hb d_an_learn_14 rfl (lv_at hl 1 rfl) ?_
    replace h := bs h
    obtain ⟨x5, hx5, h⟩ := h
    refine wo_iald hx hb hK hW (t := 0) rfl hx5 d_an_learn_15 ?_
    refine lv_iconst (v := (2 : Int32)) hx hb d_an_learn_16 (by decide) ?_
    refine lv_icmp_ne (tgt := 39) hx hb d_an_learn_17 (by decide) (fun c6 => ?_) (fun c6 => ?_)
    · rw [if_neg c6] at h
      exact j_an_learn_39 C w h _ _ _ hW (lv_sub hl [] rfl)
    · rw [if_pos c6] at h
      refine lv_aload hx hb d_an_learn_20 (lv_at hl 4 rfl) ?_
      replace h := bs h
      obtain ⟨x7, hx7, h⟩ := h
      refine gf_an_88 hx hb hts hown hK hG hW (gN_s hx7) d_an_learn_22 ?_
      refine lv_aload_n hx hb d_an_learn_25 rfl (lv_at hl 0 rfl) ?_
      replace h := bs h
      obtain ⟨x8, hx8, h⟩ := h
      refine gf_an_33 hx hb hts hown hK hG hW (gR_s hx8) d_an_learn_26 ?_
      replace h := bs h
      obtain ⟨x9, ex9, h⟩ := h
      subst ex9
      replace h := bs h
      obtain ⟨x10, hx10, h⟩ := h
      refine gf_an_198 hx hb hts hown hK hG hW (gN_s hx10) d_an_learn_29 ?_
      refine lv_iload_n hx hb d_an_learn_32 rfl (lv_at hl 1 rfl) ?_
      replace h := bs h
      obtain ⟨x11, hx11, h⟩ := h
      refine wo_iald hx hb hK hW (t := 0) rfl hx11 d_an_learn_33 ?_
      replace h := bs h
      obtain ⟨x12, hx12, h⟩ := h
      refine wo_aald hx hb hK hW (t := 4) rfl (rN_s hx12) d_an_learn_34 ?_
      refine lv_aload_n hx hb d_an_learn_35 rfl (lv_at hl 3 rfl) ?_
      replace h := bs h
      obtain ⟨w13, hw13, h⟩ := h
      refine cv_an_122 (As := [.ref (base + a3)]) (rest := []) hx hb hml hown hts hK hG hW (c_va_copy l D cA base hw13) (kb_va_copy hw13) ⟨Nat.le_of_ble_eq_true rfl, Nat.le_of_ble_eq_true rfl⟩ ⟨Nat.le_of_ble_eq_true rfl, Nat.le_of_ble_eq_true rfl⟩ rfl hl.1 rfl (Nat.le_of_ble_eq_true rfl) d_an_learn_36 (fun H locs hW => ?_)
      exact j_an_learn_39 C w13 h _ _ _ hW (lv_sub hl [] rfl)
theorem cs_an_181 {p : Program} {l : Launch} {e : Env} {R : Room} {s : State} {m : MethodId} {args : Array Value} {below : List Frame} {meth : Method} {c : Code} {H : Heap} {locs : List Loc} {cells slots : Nat} {Q : State → Prop} {D : va_G} {cA : Nat → ClassId} {base : Nat} {w w' : WW} {cc : ByteArray} {pc nL : Nat} {ls : Array Slot} {rest st0 As : List Value} {ov : Option Value} (hx : p.tables.exec = Jvm.exec) (hb : c.code = cc) (hml : c.maxLocals = nL) (hown : s.vm.findClass Rc_an = some m.cls) (hts : ∀ w ∈ gt, w.before args s = true) (hK : va_K D cls (wo_tys cA) s) (hG : wo_G cA base s) (hW : wo_S D cls cA base s w H locs) (hM : mt l D cls (wo_tys cA) cA base y_an_contraryOf (Cond.code y_an_contraryOf b_an_contraryOf 1 (some .int) :: gt) rm_an_contraryOf (As) w ov w' rm_an_contraryOf.cells rm_an_contraryOf.slots) (hR : rm_an_contraryOf.frames + 1 ≤ R.frames ∧ 8 + (1 + 11) + rm_an_contraryOf.locals ≤ R.locals) (hf : cells + rm_an_contraryOf.cells ≤ R.cells ∧ slots + rm_an_contraryOf.slots ≤ R.slots) (hn : As.length = 1) (hsz : ls.size = nL) (hst : st0 = As.reverse ++ rest) (hcat : (rest.map fun v => v.category).sum ≤ 8) (hdg : decode cc pc = .ok (.invokestatic 181, 3)) (kk : ∀ (H1 : Heap) (locs1 : List Loc), wo_S D cls cA base s w' H1 locs1 → W p l e R s m args below meth c H1 locs1 (cells + rm_an_contraryOf.cells) (slots + rm_an_contraryOf.slots) Q (F0 m (pc + 3) ls (ov.toList ++ rest))) : W p l e R s m args below meth c H locs cells slots Q (F0 m pc ls st0) :=
  wo_callS hx hb hml hown hts hK hG hW hM (gt_of (i := 1025) (by decide +kernel) (by decide +kernel)) (gt_of (i := 1026) (by decide +kernel) (by decide +kernel)) (gt_of (i := 7) (by decide +kernel) (by decide +kernel)) (gt_of (i := 1027) (by decide +kernel) (by decide +kernel)) (by decide +kernel) hR hf hn hsz hst hcat hdg kk
theorem cv_an_185 {p : Program} {l : Launch} {e : Env} {R : Room} {s : State} {m : MethodId} {args : Array Value} {below : List Frame} {meth : Method} {c : Code} {H : Heap} {locs : List Loc} {cells slots : Nat} {Q : State → Prop} {D : va_G} {cA : Nat → ClassId} {base : Nat} {w w' : WW} {cc : ByteArray} {pc nL : Nat} {ls : Array Slot} {rest st0 As : List Value} {ov : Option Value} {b : Nat} (hx : p.tables.exec = Jvm.exec) (hb : c.code = cc) (hml : c.maxLocals = nL) (hown : s.vm.findClass Rc_an = some m.cls) (hts : ∀ w ∈ gt, w.before args s = true) (hK : va_K D cls (wo_tys cA) s) (hG : wo_G cA base s) (hW : wo_S D cls cA base s w H locs) (hM : mt l D cls (wo_tys cA) cA base y_an_compare (Cond.code y_an_compare b_an_compare 4 (none) :: gt) rm_an_compare (.ref (base + b) :: As) w ov w' rm_an_compare.cells rm_an_compare.slots) (hkb : kb w b 6 = true) (hR : rm_an_compare.frames + 1 ≤ R.frames ∧ 8 + (4 + 11) + rm_an_compare.locals ≤ R.locals) (hf : cells + rm_an_compare.cells ≤ R.cells ∧ slots + rm_an_compare.slots ≤ R.slots) (hn : As.length = 3) (hsz : ls.size = nL) (hst : st0 = As.reverse ++ .ref (base + b) :: rest) (hcat : (rest.map fun v => v.category).sum ≤ 8) (hdg : decode cc pc = .ok (.invokevirtual 185, 3)) (kk : ∀ (H1 : Heap) (locs1 : List Loc), wo_S D cls cA base s w' H1 locs1 → W p l e R s m args below meth c H1 locs1 (cells + rm_an_compare.cells) (slots + rm_an_compare.slots) Q (F0 m (pc + 3) ls (ov.toList ++ rest))) : W p l e R s m args below meth c H locs cells slots Q (F0 m pc ls st0) :=
  wo_callV (C := Rc_an) hx hb hml hown hts hK hG hW hM hkb rfl (gt_of (i := 1028) (by decide +kernel) (by decide +kernel)) (gt_of (i := 1030) (by decide +kernel) (by decide +kernel)) (gt_sel (i := 48) (by decide +kernel) (by decide +kernel)) (gt_of (i := 7) (by decide +kernel) (by decide +kernel)) (gt_of (i := 1031) (by decide +kernel) (by decide +kernel)) (by decide +kernel) hR hf hn hsz hst hcat hdg kk
theorem cv_an_191 {p : Program} {l : Launch} {e : Env} {R : Room} {s : State} {m : MethodId} {args : Array Value} {below : List Frame} {meth : Method} {c : Code} {H : Heap} {locs : List Loc} {cells slots : Nat} {Q : State → Prop} {D : va_G} {cA : Nat → ClassId} {base : Nat} {w w' : WW} {cc : ByteArray} {pc nL : Nat} {ls : Array Slot} {rest st0 As : List Value} {ov : Option Value} {b : Nat} (hx : p.tables.exec = Jvm.exec) (hb : c.code = cc) (hml : c.maxLocals = nL) (hown : s.vm.findClass Rc_an = some m.cls) (hts : ∀ w ∈ gt, w.before args s = true) (hK : va_K D cls (wo_tys cA) s) (hG : wo_G cA base s) (hW : wo_S D cls cA base s w H locs) (hM : mt l D cls (wo_tys cA) cA base y_an_learn (Cond.code y_an_learn b_an_learn 5 (none) :: gt) rm_an_learn (.ref (base + b) :: As) w ov w' rm_an_learn.cells rm_an_learn.slots) (hkb : kb w b 6 = true) (hR : rm_an_learn.frames + 1 ≤ R.frames ∧ 8 + (5 + 11) + rm_an_learn.locals ≤ R.locals) (hf : cells + rm_an_learn.cells ≤ R.cells ∧ slots + rm_an_learn.slots ≤ R.slots) (hn : As.length = 4) (hsz : ls.size = nL) (hst : st0 = As.reverse ++ .ref (base + b) :: rest) (hcat : (rest.map fun v => v.category).sum ≤ 8) (hdg : decode cc pc = .ok (.invokevirtual 191, 3)) (kk : ∀ (H1 : Heap) (locs1 : List Loc), wo_S D cls cA base s w' H1 locs1 → W p l e R s m args below meth c H1 locs1 (cells + rm_an_learn.cells) (slots + rm_an_learn.slots) Q (F0 m (pc + 3) ls (ov.toList ++ rest))) : W p l e R s m args below meth c H locs cells slots Q (F0 m pc ls st0) :=
  wo_callV (C := Rc_an) hx hb hml hown hts hK hG hW hM hkb rfl (gt_of (i := 1060) (by decide +kernel) (by decide +kernel)) (gt_of (i := 1062) (by decide +kernel) (by decide +kernel)) (gt_sel (i := 52) (by decide +kernel) (by decide +kernel)) (gt_of (i := 7) (by decide +kernel) (by decide +kernel)) (gt_of (i := 1063) (by decide +kernel) (by decide +kernel)) (by decide +kernel) hR hf hn hsz hst hcat hdg kk
abbrev b_an_assume : ByteArray := prog_2_method_14_code
def y_an_assume : MethodName := ⟨"AlarmForge$Analyser", "assume", "(LAlarmForge$Statement;LAlarmForge$State;Z)V"⟩
def rm_an_assume : Room := { frames := 5, cells := 0, slots := 0, locals := 136 }
theorem d_an_assume_0 : decode b_an_assume 0 = .ok (.aload_n 0, 1) := by decide +kernel
theorem d_an_assume_1 : decode b_an_assume 1 = .ok (.aload_n 1, 1) := by decide +kernel
theorem d_an_assume_2 : decode b_an_assume 2 = .ok (.getfield 113, 3) := by decide +kernel
theorem d_an_assume_5 : decode b_an_assume 5 = .ok (.aload_n 1, 1) := by decide +kernel
theorem d_an_assume_6 : decode b_an_assume 6 = .ok (.getfield 126, 3) := by decide +kernel
theorem d_an_assume_9 : decode b_an_assume 9 = .ok (.iconst 0, 1) := by decide +kernel
theorem d_an_assume_10 : decode b_an_assume 10 = .ok (.aload_n 2, 1) := by decide +kernel
theorem d_an_assume_11 : decode b_an_assume 11 = .ok (.invokevirtual 118, 3) := by decide +kernel
theorem d_an_assume_14 : decode b_an_assume 14 = .ok (.ifCond .eq (20), 3) := by decide +kernel
theorem d_an_assume_17 : decode b_an_assume 17 = .ok (.aload_n 0, 1) := by decide +kernel
theorem d_an_assume_18 : decode b_an_assume 18 = .ok (.aload_n 1, 1) := by decide +kernel
theorem d_an_assume_19 : decode b_an_assume 19 = .ok (.getfield 126, 3) := by decide +kernel
theorem d_an_assume_22 : decode b_an_assume 22 = .ok (.aload_n 1, 1) := by decide +kernel
theorem d_an_assume_23 : decode b_an_assume 23 = .ok (.getfield 116, 3) := by decide +kernel
theorem d_an_assume_26 : decode b_an_assume 26 = .ok (.iconst 1, 1) := by decide +kernel
theorem d_an_assume_27 : decode b_an_assume 27 = .ok (.aload_n 2, 1) := by decide +kernel
theorem d_an_assume_28 : decode b_an_assume 28 = .ok (.invokevirtual 118, 3) := by decide +kernel
theorem d_an_assume_31 : decode b_an_assume 31 = .ok (.ifCond .ne (9), 3) := by decide +kernel
theorem d_an_assume_34 : decode b_an_assume 34 = .ok (.aload_n 2, 1) := by decide +kernel
theorem d_an_assume_35 : decode b_an_assume 35 = .ok (.iconst 1, 1) := by decide +kernel
theorem d_an_assume_36 : decode b_an_assume 36 = .ok (.putfield 70, 3) := by decide +kernel
theorem d_an_assume_39 : decode b_an_assume 39 = .ok (.return_, 1) := by decide +kernel
theorem d_an_assume_40 : decode b_an_assume 40 = .ok (.iload_n 3, 1) := by decide +kernel
theorem d_an_assume_41 : decode b_an_assume 41 = .ok (.ifCond .ne (26), 3) := by decide +kernel
theorem d_an_assume_44 : decode b_an_assume 44 = .ok (.aload_n 1, 1) := by decide +kernel
theorem d_an_assume_45 : decode b_an_assume 45 = .ok (.getfield 178, 3) := by decide +kernel
theorem d_an_assume_48 : decode b_an_assume 48 = .ok (.bipush (60), 2) := by decide +kernel
theorem d_an_assume_50 : decode b_an_assume 50 = .ok (.if_icmp .eq (13), 3) := by decide +kernel
theorem d_an_assume_53 : decode b_an_assume 53 = .ok (.aload_n 1, 1) := by decide +kernel
theorem d_an_assume_54 : decode b_an_assume 54 = .ok (.getfield 178, 3) := by decide +kernel
theorem d_an_assume_57 : decode b_an_assume 57 = .ok (.sipush (258), 3) := by decide +kernel
theorem d_an_assume_60 : decode b_an_assume 60 = .ok (.if_icmp .ne (7), 3) := by decide +kernel
theorem d_an_assume_63 : decode b_an_assume 63 = .ok (.iconst 1, 1) := by decide +kernel
theorem d_an_assume_64 : decode b_an_assume 64 = .ok (.goto (4), 3) := by decide +kernel
theorem d_an_assume_67 : decode b_an_assume 67 = .ok (.iconst 0, 1) := by decide +kernel
theorem d_an_assume_68 : decode b_an_assume 68 = .ok (.istore 4, 2) := by decide +kernel
theorem d_an_assume_70 : decode b_an_assume 70 = .ok (.aload_n 0, 1) := by decide +kernel
theorem d_an_assume_71 : decode b_an_assume 71 = .ok (.getfield 24, 3) := by decide +kernel
theorem d_an_assume_74 : decode b_an_assume 74 = .ok (.iload 4, 2) := by decide +kernel
theorem d_an_assume_76 : decode b_an_assume 76 = .ok (.ifCond .eq (7), 3) := by decide +kernel
theorem d_an_assume_79 : decode b_an_assume 79 = .ok (.iconst 1, 1) := by decide +kernel
theorem d_an_assume_80 : decode b_an_assume 80 = .ok (.goto (4), 3) := by decide +kernel
theorem d_an_assume_83 : decode b_an_assume 83 = .ok (.iconst 0, 1) := by decide +kernel
theorem d_an_assume_84 : decode b_an_assume 84 = .ok (.aaload, 1) := by decide +kernel
theorem d_an_assume_85 : decode b_an_assume 85 = .ok (.astore 5, 2) := by decide +kernel
theorem d_an_assume_87 : decode b_an_assume 87 = .ok (.aload_n 0, 1) := by decide +kernel
theorem d_an_assume_88 : decode b_an_assume 88 = .ok (.getfield 24, 3) := by decide +kernel
theorem d_an_assume_91 : decode b_an_assume 91 = .ok (.iload 4, 2) := by decide +kernel
theorem d_an_assume_93 : decode b_an_assume 93 = .ok (.ifCond .eq (7), 3) := by decide +kernel
theorem d_an_assume_96 : decode b_an_assume 96 = .ok (.iconst 0, 1) := by decide +kernel
theorem d_an_assume_97 : decode b_an_assume 97 = .ok (.goto (4), 3) := by decide +kernel
theorem d_an_assume_100 : decode b_an_assume 100 = .ok (.iconst 1, 1) := by decide +kernel
theorem d_an_assume_101 : decode b_an_assume 101 = .ok (.aaload, 1) := by decide +kernel
theorem d_an_assume_102 : decode b_an_assume 102 = .ok (.astore 6, 2) := by decide +kernel
theorem d_an_assume_104 : decode b_an_assume 104 = .ok (.aload_n 0, 1) := by decide +kernel
theorem d_an_assume_105 : decode b_an_assume 105 = .ok (.iload_n 3, 1) := by decide +kernel
theorem d_an_assume_106 : decode b_an_assume 106 = .ok (.ifCond .eq (10), 3) := by decide +kernel
theorem d_an_assume_109 : decode b_an_assume 109 = .ok (.aload_n 1, 1) := by decide +kernel
theorem d_an_assume_110 : decode b_an_assume 110 = .ok (.getfield 178, 3) := by decide +kernel
theorem d_an_assume_113 : decode b_an_assume 113 = .ok (.goto (10), 3) := by decide +kernel
theorem d_an_assume_116 : decode b_an_assume 116 = .ok (.aload_n 1, 1) := by decide +kernel
theorem d_an_assume_117 : decode b_an_assume 117 = .ok (.getfield 178, 3) := by decide +kernel
theorem d_an_assume_120 : decode b_an_assume 120 = .ok (.invokestatic 181, 3) := by decide +kernel
theorem d_an_assume_123 : decode b_an_assume 123 = .ok (.aload 5, 2) := by decide +kernel
theorem d_an_assume_125 : decode b_an_assume 125 = .ok (.aload 6, 2) := by decide +kernel
theorem d_an_assume_127 : decode b_an_assume 127 = .ok (.invokevirtual 185, 3) := by decide +kernel
theorem d_an_assume_130 : decode b_an_assume 130 = .ok (.aload 5, 2) := by decide +kernel
theorem d_an_assume_132 : decode b_an_assume 132 = .ok (.getfield 188, 3) := by decide +kernel
theorem d_an_assume_135 : decode b_an_assume 135 = .ok (.ifCond .ne (11), 3) := by decide +kernel
theorem d_an_assume_138 : decode b_an_assume 138 = .ok (.aload 6, 2) := by decide +kernel
theorem d_an_assume_140 : decode b_an_assume 140 = .ok (.getfield 188, 3) := by decide +kernel
theorem d_an_assume_143 : decode b_an_assume 143 = .ok (.ifCond .eq (11), 3) := by decide +kernel
theorem d_an_assume_146 : decode b_an_assume 146 = .ok (.aload_n 2, 1) := by decide +kernel
theorem d_an_assume_147 : decode b_an_assume 147 = .ok (.iconst 1, 1) := by decide +kernel
theorem d_an_assume_148 : decode b_an_assume 148 = .ok (.putfield 70, 3) := by decide +kernel
theorem d_an_assume_151 : decode b_an_assume 151 = .ok (.goto (71), 3) := by decide +kernel
theorem d_an_assume_154 : decode b_an_assume 154 = .ok (.iload 4, 2) := by decide +kernel
theorem d_an_assume_156 : decode b_an_assume 156 = .ok (.ifCond .eq (36), 3) := by decide +kernel
theorem d_an_assume_159 : decode b_an_assume 159 = .ok (.aload_n 0, 1) := by decide +kernel
theorem d_an_assume_160 : decode b_an_assume 160 = .ok (.aload_n 1, 1) := by decide +kernel
theorem d_an_assume_161 : decode b_an_assume 161 = .ok (.getfield 126, 3) := by decide +kernel
theorem d_an_assume_164 : decode b_an_assume 164 = .ok (.aload_n 1, 1) := by decide +kernel
theorem d_an_assume_165 : decode b_an_assume 165 = .ok (.getfield 116, 3) := by decide +kernel
theorem d_an_assume_168 : decode b_an_assume 168 = .ok (.aload 5, 2) := by decide +kernel
theorem d_an_assume_170 : decode b_an_assume 170 = .ok (.aload_n 2, 1) := by decide +kernel
theorem d_an_assume_171 : decode b_an_assume 171 = .ok (.invokevirtual 191, 3) := by decide +kernel
theorem d_an_assume_174 : decode b_an_assume 174 = .ok (.aload_n 0, 1) := by decide +kernel
theorem d_an_assume_175 : decode b_an_assume 175 = .ok (.aload_n 1, 1) := by decide +kernel
theorem d_an_assume_176 : decode b_an_assume 176 = .ok (.getfield 113, 3) := by decide +kernel
theorem d_an_assume_179 : decode b_an_assume 179 = .ok (.aload_n 1, 1) := by decide +kernel
theorem d_an_assume_180 : decode b_an_assume 180 = .ok (.getfield 126, 3) := by decide +kernel
theorem d_an_assume_183 : decode b_an_assume 183 = .ok (.aload 6, 2) := by decide +kernel
theorem d_an_assume_185 : decode b_an_assume 185 = .ok (.aload_n 2, 1) := by decide +kernel
theorem d_an_assume_186 : decode b_an_assume 186 = .ok (.invokevirtual 191, 3) := by decide +kernel
theorem d_an_assume_189 : decode b_an_assume 189 = .ok (.goto (33), 3) := by decide +kernel
theorem d_an_assume_192 : decode b_an_assume 192 = .ok (.aload_n 0, 1) := by decide +kernel
theorem d_an_assume_193 : decode b_an_assume 193 = .ok (.aload_n 1, 1) := by decide +kernel
theorem d_an_assume_194 : decode b_an_assume 194 = .ok (.getfield 113, 3) := by decide +kernel
theorem d_an_assume_197 : decode b_an_assume 197 = .ok (.aload_n 1, 1) := by decide +kernel
theorem d_an_assume_198 : decode b_an_assume 198 = .ok (.getfield 126, 3) := by decide +kernel
theorem d_an_assume_201 : decode b_an_assume 201 = .ok (.aload 5, 2) := by decide +kernel
theorem d_an_assume_203 : decode b_an_assume 203 = .ok (.aload_n 2, 1) := by decide +kernel
theorem d_an_assume_204 : decode b_an_assume 204 = .ok (.invokevirtual 191, 3) := by decide +kernel
theorem d_an_assume_207 : decode b_an_assume 207 = .ok (.aload_n 0, 1) := by decide +kernel
theorem d_an_assume_208 : decode b_an_assume 208 = .ok (.aload_n 1, 1) := by decide +kernel
theorem d_an_assume_209 : decode b_an_assume 209 = .ok (.getfield 126, 3) := by decide +kernel
theorem d_an_assume_212 : decode b_an_assume 212 = .ok (.aload_n 1, 1) := by decide +kernel
theorem d_an_assume_213 : decode b_an_assume 213 = .ok (.getfield 116, 3) := by decide +kernel
theorem d_an_assume_216 : decode b_an_assume 216 = .ok (.aload 6, 2) := by decide +kernel
theorem d_an_assume_218 : decode b_an_assume 218 = .ok (.aload_n 2, 1) := by decide +kernel
theorem d_an_assume_219 : decode b_an_assume 219 = .ok (.invokevirtual 191, 3) := by decide +kernel
theorem d_an_assume_222 : decode b_an_assume 222 = .ok (.return_, 1) := by decide +kernel
theorem kb_an_assume {a0 a2 : Nat} {a1 : Option Nat} {a3 : Int32} {w : WW} {r : WW} (h : f_an_assume a0 a1 a2 a3 w = some r) : kb w a0 6 = true := (its h).1
set_option maxHeartbeats 4000000 in
set_option maxRecDepth 100000 in
theorem j_an_assume_34 {p : Program} {l : Launch} {e : Env} {s : State} {m : MethodId} {args : Array Value} {below : List Frame} {meth : Method} {c : Code} {D : va_G} {cA : Nat → ClassId} {base : Nat} {w' : WW} (C : cx b_an_assume (none) 7 y_an_assume.cls "assume" p s m args meth c D cA base)   : ∀ (y2 : Nat) (w : WW), f_an_assume_34 y2 w = some w' → ∀ (H : Heap) (locs : List Loc) (ls : Array Slot), wo_S D cls cA base s w H locs → lv_has ls 7 [(2, .ref (base + y2))] → W p l e rm_an_assume s m args below meth c H locs 0 0 (MQ below (wo_Q D cls cA base none w') args s rm_an_assume.cells rm_an_assume.slots (wo_B base)) (F0 m 34 ls []) := by
  obtain ⟨hx, hb, hr, hml, hown, hts, hlk, hnm, hK, hG⟩ := id C
  intro y2 w h H locs ls hW hl
  unfold f_an_assume_34 at h
  refine lv_aload_n hx hb d_an_assume_34 rfl (lv_at hl 0 rfl) ?_
  refine lv_iconst (v := (1 : Int32)) hx hb d_an_assume_35 (by decide) ?_
  replace h := its h
  obtain ⟨c8, h⟩ := h
  replace h := bs h
  obtain ⟨w7, hw7, h⟩ := h
  refine pf_an_70 hx hb hts hown hK hG hW (z_n c8) (z_f c8) (pbi hw7 rfl) d_an_assume_36 (fun H locs hW => ?_)
  cases h
  exact wo_vret hx hb hr hlk hW d_an_assume_39
set_option maxHeartbeats 4000000 in
set_option maxRecDepth 100000 in
theorem j_an_assume_222 {p : Program} {l : Launch} {e : Env} {s : State} {m : MethodId} {args : Array Value} {below : List Frame} {meth : Method} {c : Code} {D : va_G} {cA : Nat → ClassId} {base : Nat} {w' : WW} (C : cx b_an_assume (none) 7 y_an_assume.cls "assume" p s m args meth c D cA base)   : ∀  (w : WW), f_an_assume_222  w = some w' → ∀ (H : Heap) (locs : List Loc) (ls : Array Slot), wo_S D cls cA base s w H locs → lv_has ls 7 [] → W p l e rm_an_assume s m args below meth c H locs 0 0 (MQ below (wo_Q D cls cA base none w') args s rm_an_assume.cells rm_an_assume.slots (wo_B base)) (F0 m 222 ls []) := by
  obtain ⟨hx, hb, hr, hml, hown, hts, hlk, hnm, hK, hG⟩ := id C
  intro  w h H locs ls hW hl
  unfold f_an_assume_222 at h
  cases h
  exact wo_vret hx hb hr hlk hW d_an_assume_222
set_option maxHeartbeats 4000000 in
set_option maxRecDepth 100000 in
theorem j_an_assume_146 {p : Program} {l : Launch} {e : Env} {s : State} {m : MethodId} {args : Array Value} {below : List Frame} {meth : Method} {c : Code} {D : va_G} {cA : Nat → ClassId} {base : Nat} {w' : WW} (C : cx b_an_assume (none) 7 y_an_assume.cls "assume" p s m args meth c D cA base)   : ∀ (y2 : Nat) (w : WW), f_an_assume_146 y2 w = some w' → ∀ (H : Heap) (locs : List Loc) (ls : Array Slot), wo_S D cls cA base s w H locs → lv_has ls 7 [(2, .ref (base + y2))] → W p l e rm_an_assume s m args below meth c H locs 0 0 (MQ below (wo_Q D cls cA base none w') args s rm_an_assume.cells rm_an_assume.slots (wo_B base)) (F0 m 146 ls []) := by
  obtain ⟨hx, hb, hr, hml, hown, hts, hlk, hnm, hK, hG⟩ := id C
  intro y2 w h H locs ls hW hl
  unfold f_an_assume_146 at h
  refine lv_aload_n hx hb d_an_assume_146 rfl (lv_at hl 0 rfl) ?_
  refine lv_iconst (v := (1 : Int32)) hx hb d_an_assume_147 (by decide) ?_
  replace h := its h
  obtain ⟨c29, h⟩ := h
  replace h := bs h
  obtain ⟨w28, hw28, h⟩ := h
  refine pf_an_70 hx hb hts hown hK hG hW (z_n c29) (z_f c29) (pbi hw28 rfl) d_an_assume_148 (fun H locs hW => ?_)
  refine lv_goto (tgt := 222) hx hb d_an_assume_151 (by decide) ?_
  exact j_an_assume_222 C w28 h _ _ _ hW (lv_sub hl [] rfl)
set_option maxHeartbeats 4000000 in
set_option maxRecDepth 100000 in
theorem j_an_assume_123 {p : Program} {l : Launch} {e : Env} {s : State} {m : MethodId} {args : Array Value} {below : List Frame} {meth : Method} {c : Code} {D : va_G} {cA : Nat → ClassId} {base : Nat} {w' : WW} (C : cx b_an_assume (none) 7 y_an_assume.cls "assume" p s m args meth c D cA base)   : ∀ (y0 : Nat) (y1 : Nat) (y2 : Nat) (y4 : Int32) (y5 : Nat) (y6 : Nat) (z0 : Nat) (z1 : Int32) (w : WW), f_an_assume_123 y0 y1 y2 y4 y5 y6 z0 z1 w = some w' → ∀ (H : Heap) (locs : List Loc) (ls : Array Slot), wo_S D cls cA base s w H locs → lv_has ls 7 [(0, .ref (base + y0)), (1, .ref (base + y1)), (2, .ref (base + y2)), (4, .int y4), (5, .ref (base + y5)), (6, .ref (base + y6))] → W p l e rm_an_assume s m args below meth c H locs 0 0 (MQ below (wo_Q D cls cA base none w') args s rm_an_assume.cells rm_an_assume.slots (wo_B base)) (F0 m 123 ls [.int z1, .ref (base + z0)]) := by
  obtain ⟨hx, hb, hr, hml, hown, hts, hlk, hnm, hK, hG⟩ := id C
  intro y0 y1 y2 y4 y5 y6 z0 z1 w h H locs ls hW hl
  unfold f_an_assume_123 at h
  refine lv_aload hx hb d_an_assume_123 (lv_at hl 4 rfl) ?_
  refine lv_aload hx hb d_an_assume_125 (lv_at hl 5 rfl) ?_
  replace h := bs h
  obtain ⟨w25, hw25, h⟩ := h
  refine cv_an_185 (As := [.int z1, .ref (base + y5), .ref (base + y6)]) (rest := []) hx hb hml hown hts hK hG hW (c_an_compare l D cA base hw25) (kb_an_compare hw25) ⟨Nat.le_of_ble_eq_true rfl, Nat.le_of_ble_eq_true rfl⟩ ⟨Nat.le_of_ble_eq_true rfl, Nat.le_of_ble_eq_true rfl⟩ rfl hl.1 rfl (Nat.le_of_ble_eq_true rfl) d_an_assume_127 (fun H locs hW => ?_)
  refine lv_aload hx hb d_an_assume_130 (lv_at hl 4 rfl) ?_
  replace h := bs h
  obtain ⟨x26, hx26, h⟩ := h
  refine gf_an_188 hx hb hts hown hK hG hW (gI_s hx26) d_an_assume_132 ?_
  refine lv_if_ne (tgt := 146) hx hb d_an_assume_135 (by decide) (fun c27 => ?_) (fun c27 => ?_)
  · rw [if_neg c27] at h
    exact j_an_assume_146 C y2 w25 h _ _ _ hW (lv_sub hl [2] rfl)
  · rw [if_pos c27] at h
    refine lv_aload hx hb d_an_assume_138 (lv_at hl 5 rfl) ?_
    replace h := bs h
    obtain ⟨x30, hx30, h⟩ := h
    refine gf_an_188 hx hb hts hown hK hG hW (gI_s hx30) d_an_assume_140 ?_
    refine lv_if_eq (tgt := 154) hx hb d_an_assume_143 (by decide) (fun c31 => ?_) (fun c31 => ?_)
    · rw [if_pos c31] at h
      refine lv_iload hx hb d_an_assume_154 (lv_at hl 3 rfl) ?_
      refine lv_if_eq (tgt := 192) hx hb d_an_assume_156 (by decide) (fun c32 => ?_) (fun c32 => ?_)
      · rw [if_pos c32] at h
        refine lv_aload_n hx hb d_an_assume_192 rfl (lv_at hl 0 rfl) ?_
        refine lv_aload_n hx hb d_an_assume_193 rfl (lv_at hl 1 rfl) ?_
        replace h := bs h
        obtain ⟨x33, hx33, h⟩ := h
        refine gf_an_113 hx hb hts hown hK hG hW (gI_s hx33) d_an_assume_194 ?_
        refine lv_aload_n hx hb d_an_assume_197 rfl (lv_at hl 1 rfl) ?_
        replace h := bs h
        obtain ⟨x34, hx34, h⟩ := h
        refine gf_an_126 hx hb hts hown hK hG hW (gI_s hx34) d_an_assume_198 ?_
        refine lv_aload hx hb d_an_assume_201 (lv_at hl 4 rfl) ?_
        refine lv_aload_n hx hb d_an_assume_203 rfl (lv_at hl 2 rfl) ?_
        replace h := bs h
        obtain ⟨w35, hw35, h⟩ := h
        refine cv_an_191 (As := [.int x33, .int x34, .ref (base + y5), .ref (base + y2)]) (rest := []) hx hb hml hown hts hK hG hW (c_an_learn l D cA base hw35) (kb_an_learn hw35) ⟨Nat.le_of_ble_eq_true rfl, Nat.le_of_ble_eq_true rfl⟩ ⟨Nat.le_of_ble_eq_true rfl, Nat.le_of_ble_eq_true rfl⟩ rfl hl.1 rfl (Nat.le_of_ble_eq_true rfl) d_an_assume_204 (fun H locs hW => ?_)
        refine lv_aload_n hx hb d_an_assume_207 rfl (lv_at hl 0 rfl) ?_
        refine lv_aload_n hx hb d_an_assume_208 rfl (lv_at hl 1 rfl) ?_
        replace h := bs h
        obtain ⟨x36, hx36, h⟩ := h
        refine gf_an_126 hx hb hts hown hK hG hW (gI_s hx36) d_an_assume_209 ?_
        refine lv_aload_n hx hb d_an_assume_212 rfl (lv_at hl 1 rfl) ?_
        replace h := bs h
        obtain ⟨x37, hx37, h⟩ := h
        refine gf_an_116 hx hb hts hown hK hG hW (gI_s hx37) d_an_assume_213 ?_
        refine lv_aload hx hb d_an_assume_216 (lv_at hl 5 rfl) ?_
        refine lv_aload_n hx hb d_an_assume_218 rfl (lv_at hl 2 rfl) ?_
        replace h := bs h
        obtain ⟨w38, hw38, h⟩ := h
        refine cv_an_191 (As := [.int x36, .int x37, .ref (base + y6), .ref (base + y2)]) (rest := []) hx hb hml hown hts hK hG hW (c_an_learn l D cA base hw38) (kb_an_learn hw38) ⟨Nat.le_of_ble_eq_true rfl, Nat.le_of_ble_eq_true rfl⟩ ⟨Nat.le_of_ble_eq_true rfl, Nat.le_of_ble_eq_true rfl⟩ rfl hl.1 rfl (Nat.le_of_ble_eq_true rfl) d_an_assume_219 (fun H locs hW => ?_)
        exact j_an_assume_222 C w38 h _ _ _ hW (lv_sub hl [] rfl)
      · rw [if_neg c32] at h
        refine lv_aload_n hx hb d_an_assume_159 rfl (lv_at hl 0 rfl) ?_
        refine lv_aload_n hx hb d_an_assume_160 rfl (lv_at hl 1 rfl) ?_
        replace h := bs h
        obtain ⟨x39, hx39, h⟩ := h
        refine gf_an_126 hx hb hts hown hK hG hW (gI_s hx39) d_an_assume_161 ?_
        refine lv_aload_n hx hb d_an_assume_164 rfl (lv_at hl 1 rfl) ?_
        replace h := bs h
        obtain ⟨x40, hx40, h⟩ := h
        refine gf_an_116 hx hb hts hown hK hG hW (gI_s hx40) d_an_assume_165 ?_
        refine lv_aload hx hb d_an_assume_168 (lv_at hl 4 rfl) ?_
        refine lv_aload_n hx hb d_an_assume_170 rfl (lv_at hl 2 rfl) ?_
        replace h := bs h
        obtain ⟨w41, hw41, h⟩ := h
        refine cv_an_191 (As := [.int x39, .int x40, .ref (base + y5), .ref (base + y2)]) (rest := []) hx hb hml hown hts hK hG hW (c_an_learn l D cA base hw41) (kb_an_learn hw41) ⟨Nat.le_of_ble_eq_true rfl, Nat.le_of_ble_eq_true rfl⟩ ⟨Nat.le_of_ble_eq_true rfl, Nat.le_of_ble_eq_true rfl⟩ rfl hl.1 rfl (Nat.le_of_ble_eq_true rfl) d_an_assume_171 (fun H locs hW => ?_)
        refine lv_aload_n hx hb d_an_assume_174 rfl (lv_at hl 0 rfl) ?_
        refine lv_aload_n hx hb d_an_assume_175 rfl (lv_at hl 1 rfl) ?_
        replace h := bs h
        obtain ⟨x42, hx42, h⟩ := h
        refine gf_an_113 hx hb hts hown hK hG hW (gI_s hx42) d_an_assume_176 ?_
        refine lv_aload_n hx hb d_an_assume_179 rfl (lv_at hl 1 rfl) ?_
        replace h := bs h
        obtain ⟨x43, hx43, h⟩ := h
        refine gf_an_126 hx hb hts hown hK hG hW (gI_s hx43) d_an_assume_180 ?_
        refine lv_aload hx hb d_an_assume_183 (lv_at hl 5 rfl) ?_
        refine lv_aload_n hx hb d_an_assume_185 rfl (lv_at hl 2 rfl) ?_
        replace h := bs h
        obtain ⟨w44, hw44, h⟩ := h
        refine cv_an_191 (As := [.int x42, .int x43, .ref (base + y6), .ref (base + y2)]) (rest := []) hx hb hml hown hts hK hG hW (c_an_learn l D cA base hw44) (kb_an_learn hw44) ⟨Nat.le_of_ble_eq_true rfl, Nat.le_of_ble_eq_true rfl⟩ ⟨Nat.le_of_ble_eq_true rfl, Nat.le_of_ble_eq_true rfl⟩ rfl hl.1 rfl (Nat.le_of_ble_eq_true rfl) d_an_assume_186 (fun H locs hW => ?_)
        refine lv_goto (tgt := 222) hx hb d_an_assume_189 (by decide) ?_
        exact j_an_assume_222 C w44 h _ _ _ hW (lv_sub hl [] rfl)
    · rw [if_neg c31] at h
      exact j_an_assume_146 C y2 w25 h _ _ _ hW (lv_sub hl [2] rfl)
set_option maxHeartbeats 4000000 in
set_option maxRecDepth 100000 in
theorem j_an_assume_101 {p : Program} {l : Launch} {e : Env} {s : State} {m : MethodId} {args : Array Value} {below : List Frame} {meth : Method} {c : Code} {D : va_G} {cA : Nat → ClassId} {base : Nat} {w' : WW} (C : cx b_an_assume (none) 7 y_an_assume.cls "assume" p s m args meth c D cA base)   : ∀ (y0 : Nat) (y1 : Nat) (y2 : Nat) (y3 : Int32) (y4 : Int32) (y5 : Nat) (z0 : Nat) (z1 : Int32) (w : WW), f_an_assume_101 y0 y1 y2 y3 y4 y5 z0 z1 w = some w' → ∀ (H : Heap) (locs : List Loc) (ls : Array Slot), wo_S D cls cA base s w H locs → lv_has ls 7 [(0, .ref (base + y0)), (1, .ref (base + y1)), (2, .ref (base + y2)), (3, .int y3), (4, .int y4), (5, .ref (base + y5))] → W p l e rm_an_assume s m args below meth c H locs 0 0 (MQ below (wo_Q D cls cA base none w') args s rm_an_assume.cells rm_an_assume.slots (wo_B base)) (F0 m 101 ls [.int z1, .ref (base + z0)]) := by
  obtain ⟨hx, hb, hr, hml, hown, hts, hlk, hnm, hK, hG⟩ := id C
  intro y0 y1 y2 y3 y4 y5 z0 z1 w h H locs ls hW hl
  unfold f_an_assume_101 at h
  replace h := bs h
  obtain ⟨x20, hx20, h⟩ := h
  refine wo_aald hx hb hK hW (t := 4) rfl (rN_s hx20) d_an_assume_101 ?_
  refine lv_astore (lv' := [(6, .ref (base + x20)), (0, .ref (base + y0)), (1, .ref (base + y1)), (2, .ref (base + y2)), (3, .int y3), (4, .int y4), (5, .ref (base + y5))]) hx hb d_an_assume_102 hl (by decide) rfl (fun ls hl => ?_)
  refine lv_aload_n hx hb d_an_assume_104 rfl (lv_at hl 1 rfl) ?_
  refine lv_iload_n hx hb d_an_assume_105 rfl (lv_at hl 4 rfl) ?_
  refine lv_if_eq (tgt := 116) hx hb d_an_assume_106 (by decide) (fun c21 => ?_) (fun c21 => ?_)
  · rw [if_pos c21] at h
    refine lv_aload_n hx hb d_an_assume_116 rfl (lv_at hl 2 rfl) ?_
    replace h := bs h
    obtain ⟨x22, hx22, h⟩ := h
    refine gf_an_178 hx hb hts hown hK hG hW (gI_s hx22) d_an_assume_117 ?_
    replace h := bs2 h
    obtain ⟨x24, w23, hw23, h⟩ := h
    refine cs_an_181 (As := [.int x22]) (rest := [.ref (base + y0)]) hx hb hml hown hts hK hG hW (c_an_contraryOf l D cA base hw23) ⟨Nat.le_of_ble_eq_true rfl, Nat.le_of_ble_eq_true rfl⟩ ⟨Nat.le_of_ble_eq_true rfl, Nat.le_of_ble_eq_true rfl⟩ rfl hl.1 rfl (Nat.le_of_ble_eq_true rfl) d_an_assume_120 (fun H locs hW => ?_)
    exact j_an_assume_123 C y0 y1 y2 y4 y5 x20 y0 x24 w23 h _ _ _ hW (lv_sub hl [1, 2, 3, 5, 6, 0] rfl)
  · rw [if_neg c21] at h
    refine lv_aload_n hx hb d_an_assume_109 rfl (lv_at hl 2 rfl) ?_
    replace h := bs h
    obtain ⟨x45, hx45, h⟩ := h
    refine gf_an_178 hx hb hts hown hK hG hW (gI_s hx45) d_an_assume_110 ?_
    refine lv_goto (tgt := 123) hx hb d_an_assume_113 (by decide) ?_
    exact j_an_assume_123 C y0 y1 y2 y4 y5 x20 y0 x45 w h _ _ _ hW (lv_sub hl [1, 2, 3, 5, 6, 0] rfl)
set_option maxHeartbeats 4000000 in
set_option maxRecDepth 100000 in
theorem j_an_assume_84 {p : Program} {l : Launch} {e : Env} {s : State} {m : MethodId} {args : Array Value} {below : List Frame} {meth : Method} {c : Code} {D : va_G} {cA : Nat → ClassId} {base : Nat} {w' : WW} (C : cx b_an_assume (none) 7 y_an_assume.cls "assume" p s m args meth c D cA base)   : ∀ (y0 : Nat) (y1 : Nat) (y2 : Nat) (y3 : Int32) (y4 : Int32) (z0 : Nat) (z1 : Int32) (w : WW), f_an_assume_84 y0 y1 y2 y3 y4 z0 z1 w = some w' → ∀ (H : Heap) (locs : List Loc) (ls : Array Slot), wo_S D cls cA base s w H locs → lv_has ls 7 [(0, .ref (base + y0)), (1, .ref (base + y1)), (2, .ref (base + y2)), (3, .int y3), (4, .int y4)] → W p l e rm_an_assume s m args below meth c H locs 0 0 (MQ below (wo_Q D cls cA base none w') args s rm_an_assume.cells rm_an_assume.slots (wo_B base)) (F0 m 84 ls [.int z1, .ref (base + z0)]) := by
  obtain ⟨hx, hb, hr, hml, hown, hts, hlk, hnm, hK, hG⟩ := id C
  intro y0 y1 y2 y3 y4 z0 z1 w h H locs ls hW hl
  unfold f_an_assume_84 at h
  replace h := bs h
  obtain ⟨x17, hx17, h⟩ := h
  refine wo_aald hx hb hK hW (t := 4) rfl (rN_s hx17) d_an_assume_84 ?_
  refine lv_astore (lv' := [(5, .ref (base + x17)), (0, .ref (base + y0)), (1, .ref (base + y1)), (2, .ref (base + y2)), (3, .int y3), (4, .int y4)]) hx hb d_an_assume_85 hl (by decide) rfl (fun ls hl => ?_)
  refine lv_aload_n hx hb d_an_assume_87 rfl (lv_at hl 1 rfl) ?_
  replace h := bs h
  obtain ⟨x18, hx18, h⟩ := h
  refine gf_an_24 hx hb hts hown hK hG hW (gN_s hx18) d_an_assume_88 ?_
  refine lv_iload hx hb d_an_assume_91 (lv_at hl 5 rfl) ?_
  refine lv_if_eq (tgt := 100) hx hb d_an_assume_93 (by decide) (fun c19 => ?_) (fun c19 => ?_)
  · rw [if_pos c19] at h
    refine lv_iconst (v := (1 : Int32)) hx hb d_an_assume_100 (by decide) ?_
    exact j_an_assume_101 C y0 y1 y2 y3 y4 x17 x18 (1 : Int32) w h _ _ _ hW (lv_sub hl [1, 2, 3, 4, 5, 0] rfl)
  · rw [if_neg c19] at h
    refine lv_iconst (v := (0 : Int32)) hx hb d_an_assume_96 (by decide) ?_
    refine lv_goto (tgt := 101) hx hb d_an_assume_97 (by decide) ?_
    exact j_an_assume_101 C y0 y1 y2 y3 y4 x17 x18 (0 : Int32) w h _ _ _ hW (lv_sub hl [1, 2, 3, 4, 5, 0] rfl)
set_option maxHeartbeats 4000000 in
set_option maxRecDepth 100000 in
theorem j_an_assume_68 {p : Program} {l : Launch} {e : Env} {s : State} {m : MethodId} {args : Array Value} {below : List Frame} {meth : Method} {c : Code} {D : va_G} {cA : Nat → ClassId} {base : Nat} {w' : WW} (C : cx b_an_assume (none) 7 y_an_assume.cls "assume" p s m args meth c D cA base)   : ∀ (y0 : Nat) (y1 : Nat) (y2 : Nat) (y3 : Int32) (z0 : Int32) (w : WW), f_an_assume_68 y0 y1 y2 y3 z0 w = some w' → ∀ (H : Heap) (locs : List Loc) (ls : Array Slot), wo_S D cls cA base s w H locs → lv_has ls 7 [(0, .ref (base + y0)), (1, .ref (base + y1)), (2, .ref (base + y2)), (3, .int y3)] → W p l e rm_an_assume s m args below meth c H locs 0 0 (MQ below (wo_Q D cls cA base none w') args s rm_an_assume.cells rm_an_assume.slots (wo_B base)) (F0 m 68 ls [.int z0]) := by
  obtain ⟨hx, hb, hr, hml, hown, hts, hlk, hnm, hK, hG⟩ := id C
  intro y0 y1 y2 y3 z0 w h H locs ls hW hl
  unfold f_an_assume_68 at h
  refine lv_istore (lv' := [(4, .int z0), (0, .ref (base + y0)), (1, .ref (base + y1)), (2, .ref (base + y2)), (3, .int y3)]) hx hb d_an_assume_68 hl (by decide) rfl (fun ls hl => ?_)
  refine lv_aload_n hx hb d_an_assume_70 rfl (lv_at hl 1 rfl) ?_
  replace h := bs h
  obtain ⟨x15, hx15, h⟩ := h
  refine gf_an_24 hx hb hts hown hK hG hW (gN_s hx15) d_an_assume_71 ?_
  refine lv_iload hx hb d_an_assume_74 (lv_at hl 0 rfl) ?_
  refine lv_if_eq (tgt := 83) hx hb d_an_assume_76 (by decide) (fun c16 => ?_) (fun c16 => ?_)
  · rw [if_pos c16] at h
    refine lv_iconst (v := (0 : Int32)) hx hb d_an_assume_83 (by decide) ?_
    exact j_an_assume_84 C y0 y1 y2 y3 z0 x15 (0 : Int32) w h _ _ _ hW (lv_sub hl [1, 2, 3, 4, 0] rfl)
  · rw [if_neg c16] at h
    refine lv_iconst (v := (1 : Int32)) hx hb d_an_assume_79 (by decide) ?_
    refine lv_goto (tgt := 84) hx hb d_an_assume_80 (by decide) ?_
    exact j_an_assume_84 C y0 y1 y2 y3 z0 x15 (1 : Int32) w h _ _ _ hW (lv_sub hl [1, 2, 3, 4, 0] rfl)
set_option maxHeartbeats 4000000 in
set_option maxRecDepth 100000 in
theorem j_an_assume_67 {p : Program} {l : Launch} {e : Env} {s : State} {m : MethodId} {args : Array Value} {below : List Frame} {meth : Method} {c : Code} {D : va_G} {cA : Nat → ClassId} {base : Nat} {w' : WW} (C : cx b_an_assume (none) 7 y_an_assume.cls "assume" p s m args meth c D cA base)   : ∀ (y0 : Nat) (y1 : Nat) (y2 : Nat) (y3 : Int32) (w : WW), f_an_assume_67 y0 y1 y2 y3 w = some w' → ∀ (H : Heap) (locs : List Loc) (ls : Array Slot), wo_S D cls cA base s w H locs → lv_has ls 7 [(0, .ref (base + y0)), (1, .ref (base + y1)), (2, .ref (base + y2)), (3, .int y3)] → W p l e rm_an_assume s m args below meth c H locs 0 0 (MQ below (wo_Q D cls cA base none w') args s rm_an_assume.cells rm_an_assume.slots (wo_B base)) (F0 m 67 ls []) := by
  obtain ⟨hx, hb, hr, hml, hown, hts, hlk, hnm, hK, hG⟩ := id C
  intro y0 y1 y2 y3 w h H locs ls hW hl
  unfold f_an_assume_67 at h
  refine lv_iconst (v := (0 : Int32)) hx hb d_an_assume_67 (by decide) ?_
  exact j_an_assume_68 C y0 y1 y2 y3 (0 : Int32) w h _ _ _ hW (lv_sub hl [0, 1, 2, 3] rfl)
set_option maxHeartbeats 4000000 in
set_option maxRecDepth 100000 in
theorem j_an_assume_63 {p : Program} {l : Launch} {e : Env} {s : State} {m : MethodId} {args : Array Value} {below : List Frame} {meth : Method} {c : Code} {D : va_G} {cA : Nat → ClassId} {base : Nat} {w' : WW} (C : cx b_an_assume (none) 7 y_an_assume.cls "assume" p s m args meth c D cA base)   : ∀ (y0 : Nat) (y1 : Nat) (y2 : Nat) (y3 : Int32) (w : WW), f_an_assume_63 y0 y1 y2 y3 w = some w' → ∀ (H : Heap) (locs : List Loc) (ls : Array Slot), wo_S D cls cA base s w H locs → lv_has ls 7 [(0, .ref (base + y0)), (1, .ref (base + y1)), (2, .ref (base + y2)), (3, .int y3)] → W p l e rm_an_assume s m args below meth c H locs 0 0 (MQ below (wo_Q D cls cA base none w') args s rm_an_assume.cells rm_an_assume.slots (wo_B base)) (F0 m 63 ls []) := by
  obtain ⟨hx, hb, hr, hml, hown, hts, hlk, hnm, hK, hG⟩ := id C
  intro y0 y1 y2 y3 w h H locs ls hW hl
  unfold f_an_assume_63 at h
  refine lv_iconst (v := (1 : Int32)) hx hb d_an_assume_63 (by decide) ?_
  refine lv_goto (tgt := 68) hx hb d_an_assume_64 (by decide) ?_
  exact j_an_assume_68 C y0 y1 y2 y3 (1 : Int32) w h _ _ _ hW (lv_sub hl [0, 1, 2, 3] rfl)
set_option maxHeartbeats 4000000 in
set_option maxRecDepth 100000 in
theorem c_an_assume (l : Launch) (D : va_G) (cA : Nat → ClassId) (base : Nat) {a0 : Nat} {a1 : Option Nat} {a2 : Nat} {a3 : Int32} {w w' : WW} (h : f_an_assume a0 a1 a2 a3 w = some w') : mt l D cls (wo_tys cA) cA base y_an_assume (Cond.code y_an_assume b_an_assume 7 (none) :: gt) rm_an_assume [.ref (base + a0), rb base a1, .ref (base + a2), .int a3] w none w' rm_an_assume.cells rm_an_assume.slots := by
  refine mt_start (by decide) (by simp only [lg_sl_0, lg_sl_1, lg_sl_2, lg_sl_3, lg_sl_rf]; decide) ?_
  intro p e s m below meth c ls hx hb hr hml hown hts hlk hnm hK hG hW hl
  have C : cx b_an_assume (none) 7 y_an_assume.cls "assume" p s m [.ref (base + a0), rb base a1, .ref (base + a2), .int a3].toArray meth c D cA base := ⟨hx, hb, hr, hml, hown, hts, hlk, hnm, hK, hG⟩
  have hl : lv_has ls 7 [(0, .ref (base + a0)), (1, rb base a1), (2, .ref (base + a2)), (3, .int a3)] := by simp only [lv_args_0, lv_args_1, lv_args_2, lv_args_3, lv_args_rf] at hl; exact hl
  unfold f_an_assume at h
  replace h := its h
  obtain ⟨-, h⟩ := h
  refine lv_aload_n hx hb d_an_assume_0 rfl (lv_at hl 0 rfl) ?_
  refine wo_aload_n hx hb d_an_assume_1 rfl (lv_at hl 1 rfl) ?_
  replace h := bs h
  obtain ⟨x1, ex1, h⟩ := h
  subst ex1
  replace h := bs h
  obtain ⟨x2, hx2, h⟩ := h
  refine gf_an_113 hx hb hts hown hK hG hW (gI_s hx2) d_an_assume_2 ?_
  have hl : lv_has ls 7 [(0, .ref (base + a0)), (1, .ref (base + x1)), (2, .ref (base + a2)), (3, .int a3)] := hl
  refine lv_aload_n hx hb d_an_assume_5 rfl (lv_at hl 1 rfl) ?_
  replace h := bs h
  obtain ⟨x3, hx3, h⟩ := h
  refine gf_an_126 hx hb hts hown hK hG hW (gI_s hx3) d_an_assume_6 ?_
  refine lv_iconst (v := (0 : Int32)) hx hb d_an_assume_9 (by decide) ?_
  refine lv_aload_n hx hb d_an_assume_10 rfl (lv_at hl 2 rfl) ?_
  replace h := bs2 h
  obtain ⟨x5, w4, hw4, h⟩ := h
  refine cv_an_118 (As := [.int x2, .int x3, .int (0 : Int32), .ref (base + a2)]) (rest := []) hx hb hml hown hts hK hG hW (c_an_workOut l D cA base hw4) (kb_an_workOut hw4) ⟨Nat.le_of_ble_eq_true rfl, Nat.le_of_ble_eq_true rfl⟩ ⟨Nat.le_of_ble_eq_true rfl, Nat.le_of_ble_eq_true rfl⟩ rfl hl.1 rfl (Nat.le_of_ble_eq_true rfl) d_an_assume_11 (fun H locs hW => ?_)
  refine lv_if_eq (tgt := 34) hx hb d_an_assume_14 (by decide) (fun c6 => ?_) (fun c6 => ?_)
  · rw [if_pos c6] at h
    exact j_an_assume_34 C a2 w4 h _ _ _ hW (lv_sub hl [2] rfl)
  · rw [if_neg c6] at h
    refine lv_aload_n hx hb d_an_assume_17 rfl (lv_at hl 0 rfl) ?_
    refine lv_aload_n hx hb d_an_assume_18 rfl (lv_at hl 1 rfl) ?_
    replace h := bs h
    obtain ⟨x9, hx9, h⟩ := h
    refine gf_an_126 hx hb hts hown hK hG hW (gI_s hx9) d_an_assume_19 ?_
    refine lv_aload_n hx hb d_an_assume_22 rfl (lv_at hl 1 rfl) ?_
    replace h := bs h
    obtain ⟨x10, hx10, h⟩ := h
    refine gf_an_116 hx hb hts hown hK hG hW (gI_s hx10) d_an_assume_23 ?_
    refine lv_iconst (v := (1 : Int32)) hx hb d_an_assume_26 (by decide) ?_
    refine lv_aload_n hx hb d_an_assume_27 rfl (lv_at hl 2 rfl) ?_
    replace h := bs2 h
    obtain ⟨x12, w11, hw11, h⟩ := h
    refine cv_an_118 (As := [.int x9, .int x10, .int (1 : Int32), .ref (base + a2)]) (rest := []) hx hb hml hown hts hK hG hW (c_an_workOut l D cA base hw11) (kb_an_workOut hw11) ⟨Nat.le_of_ble_eq_true rfl, Nat.le_of_ble_eq_true rfl⟩ ⟨Nat.le_of_ble_eq_true rfl, Nat.le_of_ble_eq_true rfl⟩ rfl hl.1 rfl (Nat.le_of_ble_eq_true rfl) d_an_assume_28 (fun H locs hW => ?_)
    refine lv_if_ne (tgt := 40) hx hb d_an_assume_31 (by decide) (fun c13 => ?_) (fun c13 => ?_)
    · rw [if_neg c13] at h
      refine lv_iload_n hx hb d_an_assume_40 rfl (lv_at hl 3 rfl) ?_
      refine lv_if_ne (tgt := 67) hx hb d_an_assume_41 (by decide) (fun c14 => ?_) (fun c14 => ?_)
      · rw [if_neg c14] at h
        exact j_an_assume_67 C a0 x1 a2 a3 w11 h _ _ _ hW (lv_sub hl [0, 1, 2, 3] rfl)
      · rw [if_pos c14] at h
        refine lv_aload_n hx hb d_an_assume_44 rfl (lv_at hl 1 rfl) ?_
        replace h := bs h
        obtain ⟨x46, hx46, h⟩ := h
        refine gf_an_178 hx hb hts hown hK hG hW (gI_s hx46) d_an_assume_45 ?_
        refine lv_bipush (v := (60 : Int32)) hx hb d_an_assume_48 (by decide) ?_
        refine lv_icmp_eq (tgt := 63) hx hb d_an_assume_50 (by decide) (fun c47 => ?_) (fun c47 => ?_)
        · rw [if_pos c47] at h
          exact j_an_assume_63 C a0 x1 a2 a3 w11 h _ _ _ hW (lv_sub hl [0, 1, 2, 3] rfl)
        · rw [if_neg c47] at h
          refine lv_aload_n hx hb d_an_assume_53 rfl (lv_at hl 1 rfl) ?_
          replace h := bs h
          obtain ⟨x48, hx48, h⟩ := h
          refine gf_an_178 hx hb hts hown hK hG hW (gI_s hx48) d_an_assume_54 ?_
          refine lv_sipush (v := (258 : Int32)) hx hb d_an_assume_57 (by decide) ?_
          refine lv_icmp_ne (tgt := 67) hx hb d_an_assume_60 (by decide) (fun c49 => ?_) (fun c49 => ?_)
          · rw [if_neg c49] at h
            exact j_an_assume_67 C a0 x1 a2 a3 w11 h _ _ _ hW (lv_sub hl [0, 1, 2, 3] rfl)
          · rw [if_pos c49] at h
            exact j_an_assume_63 C a0 x1 a2 a3 w11 h _ _ _ hW (lv_sub hl [0, 1, 2, 3] rfl)
    · rw [if_pos c13] at h
      exact j_an_assume_34 C a2 w11 h _ _ _ hW (lv_sub hl [2] rfl)
theorem cv_an_147 {p : Program} {l : Launch} {e : Env} {R : Room} {s : State} {m : MethodId} {args : Array Value} {below : List Frame} {meth : Method} {c : Code} {H : Heap} {locs : List Loc} {cells slots : Nat} {Q : State → Prop} {D : va_G} {cA : Nat → ClassId} {base : Nat} {w w' : WW} {cc : ByteArray} {pc nL : Nat} {ls : Array Slot} {rest st0 As : List Value} {ov : Option Value} {b : Nat} (hx : p.tables.exec = Jvm.exec) (hb : c.code = cc) (hml : c.maxLocals = nL) (hown : s.vm.findClass Rc_an = some m.cls) (hts : ∀ w ∈ gt, w.before args s = true) (hK : va_K D cls (wo_tys cA) s) (hG : wo_G cA base s) (hW : wo_S D cls cA base s w H locs) (hM : mt l D cls (wo_tys cA) cA base y_sa_copy (Cond.code y_sa_copy b_sa_copy 3 (none) :: gt) rm_sa_copy (.ref (base + b) :: As) w ov w' rm_sa_copy.cells rm_sa_copy.slots) (hkb : kb w b 7 = true) (hR : rm_sa_copy.frames + 1 ≤ R.frames ∧ 8 + (3 + 11) + rm_sa_copy.locals ≤ R.locals) (hf : cells + rm_sa_copy.cells ≤ R.cells ∧ slots + rm_sa_copy.slots ≤ R.slots) (hn : As.length = 1) (hsz : ls.size = nL) (hst : st0 = As.reverse ++ .ref (base + b) :: rest) (hcat : (rest.map fun v => v.category).sum ≤ 8) (hdg : decode cc pc = .ok (.invokevirtual 147, 3)) (kk : ∀ (H1 : Heap) (locs1 : List Loc), wo_S D cls cA base s w' H1 locs1 → W p l e R s m args below meth c H1 locs1 (cells + rm_sa_copy.cells) (slots + rm_sa_copy.slots) Q (F0 m (pc + 3) ls (ov.toList ++ rest))) : W p l e R s m args below meth c H locs cells slots Q (F0 m pc ls st0) :=
  wo_callV (C := Rc_sa) hx hb hml hown hts hK hG hW hM hkb rfl (gt_of (i := 1016) (by decide +kernel) (by decide +kernel)) (gt_of (i := 1017) (by decide +kernel) (by decide +kernel)) (gt_of (i := 1018) (by decide +kernel) (by decide +kernel)) (gt_of (i := 8) (by decide +kernel) (by decide +kernel)) (gt_of (i := 1019) (by decide +kernel) (by decide +kernel)) (by decide +kernel) hR hf hn hsz hst hcat hdg kk
theorem cv_an_150 {p : Program} {l : Launch} {e : Env} {R : Room} {s : State} {m : MethodId} {args : Array Value} {below : List Frame} {meth : Method} {c : Code} {H : Heap} {locs : List Loc} {cells slots : Nat} {Q : State → Prop} {D : va_G} {cA : Nat → ClassId} {base : Nat} {w w' : WW} {cc : ByteArray} {pc nL : Nat} {ls : Array Slot} {rest st0 As : List Value} {ov : Option Value} {b : Nat} (hx : p.tables.exec = Jvm.exec) (hb : c.code = cc) (hml : c.maxLocals = nL) (hown : s.vm.findClass Rc_an = some m.cls) (hts : ∀ w ∈ gt, w.before args s = true) (hK : va_K D cls (wo_tys cA) s) (hG : wo_G cA base s) (hW : wo_S D cls cA base s w H locs) (hM : mt l D cls (wo_tys cA) cA base y_an_assume (Cond.code y_an_assume b_an_assume 7 (none) :: gt) rm_an_assume (.ref (base + b) :: As) w ov w' rm_an_assume.cells rm_an_assume.slots) (hkb : kb w b 6 = true) (hR : rm_an_assume.frames + 1 ≤ R.frames ∧ 8 + (7 + 11) + rm_an_assume.locals ≤ R.locals) (hf : cells + rm_an_assume.cells ≤ R.cells ∧ slots + rm_an_assume.slots ≤ R.slots) (hn : As.length = 3) (hsz : ls.size = nL) (hst : st0 = As.reverse ++ .ref (base + b) :: rest) (hcat : (rest.map fun v => v.category).sum ≤ 8) (hdg : decode cc pc = .ok (.invokevirtual 150, 3)) (kk : ∀ (H1 : Heap) (locs1 : List Loc), wo_S D cls cA base s w' H1 locs1 → W p l e R s m args below meth c H1 locs1 (cells + rm_an_assume.cells) (slots + rm_an_assume.slots) Q (F0 m (pc + 3) ls (ov.toList ++ rest))) : W p l e R s m args below meth c H locs cells slots Q (F0 m pc ls st0) :=
  wo_callV (C := Rc_an) hx hb hml hown hts hK hG hW hM hkb rfl (gt_of (i := 1021) (by decide +kernel) (by decide +kernel)) (gt_of (i := 1023) (by decide +kernel) (by decide +kernel)) (gt_sel (i := 47) (by decide +kernel) (by decide +kernel)) (gt_of (i := 7) (by decide +kernel) (by decide +kernel)) (gt_of (i := 1024) (by decide +kernel) (by decide +kernel)) (by decide +kernel) hR hf hn hsz hst hcat hdg kk
abbrev b_an_goAssert : ByteArray := prog_2_method_10_code
def y_an_goAssert : MethodName := ⟨"AlarmForge$Analyser", "goAssert", "(LAlarmForge$Statement;LAlarmForge$State;I)V"⟩
def rm_an_goAssert : Room := { frames := 6, cells := 0, slots := 0, locals := 162 }
theorem d_an_goAssert_0 : decode b_an_goAssert 0 = .ok (.aload_n 0, 1) := by decide +kernel
theorem d_an_goAssert_1 : decode b_an_goAssert 1 = .ok (.getfield 18, 3) := by decide +kernel
theorem d_an_goAssert_4 : decode b_an_goAssert 4 = .ok (.iconst 3, 1) := by decide +kernel
theorem d_an_goAssert_5 : decode b_an_goAssert 5 = .ok (.iload_n 3, 1) := by decide +kernel
theorem d_an_goAssert_6 : decode b_an_goAssert 6 = .ok (.imul, 1) := by decide +kernel
theorem d_an_goAssert_7 : decode b_an_goAssert 7 = .ok (.aaload, 1) := by decide +kernel
theorem d_an_goAssert_8 : decode b_an_goAssert 8 = .ok (.astore 4, 2) := by decide +kernel
theorem d_an_goAssert_10 : decode b_an_goAssert 10 = .ok (.aload 4, 2) := by decide +kernel
theorem d_an_goAssert_12 : decode b_an_goAssert 12 = .ok (.aload_n 2, 1) := by decide +kernel
theorem d_an_goAssert_13 : decode b_an_goAssert 13 = .ok (.invokevirtual 147, 3) := by decide +kernel
theorem d_an_goAssert_16 : decode b_an_goAssert 16 = .ok (.aload_n 0, 1) := by decide +kernel
theorem d_an_goAssert_17 : decode b_an_goAssert 17 = .ok (.aload_n 1, 1) := by decide +kernel
theorem d_an_goAssert_18 : decode b_an_goAssert 18 = .ok (.aload 4, 2) := by decide +kernel
theorem d_an_goAssert_20 : decode b_an_goAssert 20 = .ok (.iconst 0, 1) := by decide +kernel
theorem d_an_goAssert_21 : decode b_an_goAssert 21 = .ok (.invokevirtual 150, 3) := by decide +kernel
theorem d_an_goAssert_24 : decode b_an_goAssert 24 = .ok (.aload_n 0, 1) := by decide +kernel
theorem d_an_goAssert_25 : decode b_an_goAssert 25 = .ok (.aload 4, 2) := by decide +kernel
theorem d_an_goAssert_27 : decode b_an_goAssert 27 = .ok (.getfield 70, 3) := by decide +kernel
theorem d_an_goAssert_30 : decode b_an_goAssert 30 = .ok (.ifCond .ne (7), 3) := by decide +kernel
theorem d_an_goAssert_33 : decode b_an_goAssert 33 = .ok (.iconst 1, 1) := by decide +kernel
theorem d_an_goAssert_34 : decode b_an_goAssert 34 = .ok (.goto (4), 3) := by decide +kernel
theorem d_an_goAssert_37 : decode b_an_goAssert 37 = .ok (.iconst 0, 1) := by decide +kernel
theorem d_an_goAssert_38 : decode b_an_goAssert 38 = .ok (.iconst 5, 1) := by decide +kernel
theorem d_an_goAssert_39 : decode b_an_goAssert 39 = .ok (.aload_n 1, 1) := by decide +kernel
theorem d_an_goAssert_40 : decode b_an_goAssert 40 = .ok (.getfield 133, 3) := by decide +kernel
theorem d_an_goAssert_43 : decode b_an_goAssert 43 = .ok (.invokevirtual 136, 3) := by decide +kernel
theorem d_an_goAssert_46 : decode b_an_goAssert 46 = .ok (.aload_n 0, 1) := by decide +kernel
theorem d_an_goAssert_47 : decode b_an_goAssert 47 = .ok (.aload_n 1, 1) := by decide +kernel
theorem d_an_goAssert_48 : decode b_an_goAssert 48 = .ok (.aload_n 2, 1) := by decide +kernel
theorem d_an_goAssert_49 : decode b_an_goAssert 49 = .ok (.iconst 1, 1) := by decide +kernel
theorem d_an_goAssert_50 : decode b_an_goAssert 50 = .ok (.invokevirtual 150, 3) := by decide +kernel
theorem d_an_goAssert_53 : decode b_an_goAssert 53 = .ok (.return_, 1) := by decide +kernel
theorem kb_an_goAssert {a0 a2 : Nat} {a1 : Option Nat} {a3 : Int32} {w : WW} {r : WW} (h : f_an_goAssert a0 a1 a2 a3 w = some r) : kb w a0 6 = true := (its h).1
set_option maxHeartbeats 4000000 in
set_option maxRecDepth 100000 in
theorem j_an_goAssert_38 {p : Program} {l : Launch} {e : Env} {s : State} {m : MethodId} {args : Array Value} {below : List Frame} {meth : Method} {c : Code} {D : va_G} {cA : Nat → ClassId} {base : Nat} {w' : WW} (C : cx b_an_goAssert (none) 5 y_an_goAssert.cls "goAssert" p s m args meth c D cA base)   : ∀ (y0 : Nat) (y1 : Option Nat) (y2 : Nat) (z0 : Nat) (z1 : Int32) (w : WW), f_an_goAssert_38 y0 y1 y2 z0 z1 w = some w' → ∀ (H : Heap) (locs : List Loc) (ls : Array Slot), wo_S D cls cA base s w H locs → lv_has ls 5 [(0, .ref (base + y0)), (1, rb base y1), (2, .ref (base + y2))] → W p l e rm_an_goAssert s m args below meth c H locs 0 0 (MQ below (wo_Q D cls cA base none w') args s rm_an_goAssert.cells rm_an_goAssert.slots (wo_B base)) (F0 m 38 ls [.int z1, .ref (base + z0)]) := by
  obtain ⟨hx, hb, hr, hml, hown, hts, hlk, hnm, hK, hG⟩ := id C
  intro y0 y1 y2 z0 z1 w h H locs ls hW hl
  unfold f_an_goAssert_38 at h
  refine lv_iconst (v := (5 : Int32)) hx hb d_an_goAssert_38 (by decide) ?_
  refine wo_aload_n hx hb d_an_goAssert_39 rfl (lv_at hl 1 rfl) ?_
  replace h := bs h
  obtain ⟨x7, ex7, h⟩ := h
  subst ex7
  replace h := bs h
  obtain ⟨x8, hx8, h⟩ := h
  refine gf_an_133 hx hb hts hown hK hG hW (gI_s hx8) d_an_goAssert_40 ?_
  have hl : lv_has ls 5 [(0, .ref (base + y0)), (1, .ref (base + x7)), (2, .ref (base + y2))] := hl
  replace h := bs h
  obtain ⟨w9, hw9, h⟩ := h
  refine cv_an_136 (As := [.int z1, .int (5 : Int32), .int x8]) (rest := []) hx hb hml hown hts hK hG hW (c_an_warnIf l D cA base hw9) (kb_an_warnIf hw9) ⟨Nat.le_of_ble_eq_true rfl, Nat.le_of_ble_eq_true rfl⟩ ⟨Nat.le_of_ble_eq_true rfl, Nat.le_of_ble_eq_true rfl⟩ rfl hl.1 rfl (Nat.le_of_ble_eq_true rfl) d_an_goAssert_43 (fun H locs hW => ?_)
  refine lv_aload_n hx hb d_an_goAssert_46 rfl (lv_at hl 0 rfl) ?_
  refine lv_aload_n hx hb d_an_goAssert_47 rfl (lv_at hl 1 rfl) ?_
  refine lv_aload_n hx hb d_an_goAssert_48 rfl (lv_at hl 2 rfl) ?_
  refine lv_iconst (v := (1 : Int32)) hx hb d_an_goAssert_49 (by decide) ?_
  replace h := bs h
  obtain ⟨w10, hw10, h⟩ := h
  refine cv_an_150 (As := [rb base (some x7), .ref (base + y2), .int (1 : Int32)]) (rest := []) hx hb hml hown hts hK hG hW (c_an_assume l D cA base hw10) (kb_an_assume hw10) ⟨Nat.le_of_ble_eq_true rfl, Nat.le_of_ble_eq_true rfl⟩ ⟨Nat.le_of_ble_eq_true rfl, Nat.le_of_ble_eq_true rfl⟩ rfl hl.1 rfl (Nat.le_of_ble_eq_true rfl) d_an_goAssert_50 (fun H locs hW => ?_)
  cases h
  exact wo_vret hx hb hr hlk hW d_an_goAssert_53
set_option maxHeartbeats 4000000 in
set_option maxRecDepth 100000 in
theorem c_an_goAssert (l : Launch) (D : va_G) (cA : Nat → ClassId) (base : Nat) {a0 : Nat} {a1 : Option Nat} {a2 : Nat} {a3 : Int32} {w w' : WW} (h : f_an_goAssert a0 a1 a2 a3 w = some w') : mt l D cls (wo_tys cA) cA base y_an_goAssert (Cond.code y_an_goAssert b_an_goAssert 5 (none) :: gt) rm_an_goAssert [.ref (base + a0), rb base a1, .ref (base + a2), .int a3] w none w' rm_an_goAssert.cells rm_an_goAssert.slots := by
  refine mt_start (by decide) (by simp only [lg_sl_0, lg_sl_1, lg_sl_2, lg_sl_3, lg_sl_rf]; decide) ?_
  intro p e s m below meth c ls hx hb hr hml hown hts hlk hnm hK hG hW hl
  have C : cx b_an_goAssert (none) 5 y_an_goAssert.cls "goAssert" p s m [.ref (base + a0), rb base a1, .ref (base + a2), .int a3].toArray meth c D cA base := ⟨hx, hb, hr, hml, hown, hts, hlk, hnm, hK, hG⟩
  have hl : lv_has ls 5 [(0, .ref (base + a0)), (1, rb base a1), (2, .ref (base + a2)), (3, .int a3)] := by simp only [lv_args_0, lv_args_1, lv_args_2, lv_args_3, lv_args_rf] at hl; exact hl
  unfold f_an_goAssert at h
  replace h := its h
  obtain ⟨-, h⟩ := h
  refine lv_aload_n hx hb d_an_goAssert_0 rfl (lv_at hl 0 rfl) ?_
  replace h := bs h
  obtain ⟨x1, hx1, h⟩ := h
  refine gf_an_18 hx hb hts hown hK hG hW (gN_s hx1) d_an_goAssert_1 ?_
  refine lv_iconst (v := (3 : Int32)) hx hb d_an_goAssert_4 (by decide) ?_
  refine lv_iload_n hx hb d_an_goAssert_5 rfl (lv_at hl 3 rfl) ?_
  refine lv_imul hx hb d_an_goAssert_6 ?_
  replace h := bs h
  obtain ⟨x2, hx2, h⟩ := h
  refine wo_aald hx hb hK hW (t := 5) rfl (rN_s hx2) d_an_goAssert_7 ?_
  refine lv_astore (lv' := [(4, .ref (base + x2)), (0, .ref (base + a0)), (1, rb base a1), (2, .ref (base + a2)), (3, .int a3)]) hx hb d_an_goAssert_8 hl (by decide) rfl (fun ls hl => ?_)
  refine lv_aload hx hb d_an_goAssert_10 (lv_at hl 0 rfl) ?_
  refine lv_aload_n hx hb d_an_goAssert_12 rfl (lv_at hl 3 rfl) ?_
  replace h := bs h
  obtain ⟨w3, hw3, h⟩ := h
  refine cv_an_147 (As := [.ref (base + a2)]) (rest := []) hx hb hml hown hts hK hG hW (c_sa_copy l D cA base hw3) (kb_sa_copy hw3) ⟨Nat.le_of_ble_eq_true rfl, Nat.le_of_ble_eq_true rfl⟩ ⟨Nat.le_of_ble_eq_true rfl, Nat.le_of_ble_eq_true rfl⟩ rfl hl.1 rfl (Nat.le_of_ble_eq_true rfl) d_an_goAssert_13 (fun H locs hW => ?_)
  refine lv_aload_n hx hb d_an_goAssert_16 rfl (lv_at hl 1 rfl) ?_
  refine wo_aload_n hx hb d_an_goAssert_17 rfl (lv_at hl 2 rfl) ?_
  refine lv_aload hx hb d_an_goAssert_18 (lv_at hl 0 rfl) ?_
  refine lv_iconst (v := (0 : Int32)) hx hb d_an_goAssert_20 (by decide) ?_
  replace h := bs h
  obtain ⟨w4, hw4, h⟩ := h
  refine cv_an_150 (As := [rb base a1, .ref (base + x2), .int (0 : Int32)]) (rest := []) hx hb hml hown hts hK hG hW (c_an_assume l D cA base hw4) (kb_an_assume hw4) ⟨Nat.le_of_ble_eq_true rfl, Nat.le_of_ble_eq_true rfl⟩ ⟨Nat.le_of_ble_eq_true rfl, Nat.le_of_ble_eq_true rfl⟩ rfl hl.1 rfl (Nat.le_of_ble_eq_true rfl) d_an_goAssert_21 (fun H locs hW => ?_)
  refine lv_aload_n hx hb d_an_goAssert_24 rfl (lv_at hl 1 rfl) ?_
  refine lv_aload hx hb d_an_goAssert_25 (lv_at hl 0 rfl) ?_
  replace h := bs h
  obtain ⟨x5, hx5, h⟩ := h
  refine gf_an_70 hx hb hts hown hK hG hW (gI_s hx5) d_an_goAssert_27 ?_
  refine lv_if_ne (tgt := 37) hx hb d_an_goAssert_30 (by decide) (fun c6 => ?_) (fun c6 => ?_)
  · rw [if_neg c6] at h
    refine lv_iconst (v := (0 : Int32)) hx hb d_an_goAssert_37 (by decide) ?_
    exact j_an_goAssert_38 C a0 a1 a2 a0 (0 : Int32) w4 h _ _ _ hW (lv_sub hl [1, 2, 3] rfl)
  · rw [if_pos c6] at h
    refine lv_iconst (v := (1 : Int32)) hx hb d_an_goAssert_33 (by decide) ?_
    refine lv_goto (tgt := 38) hx hb d_an_goAssert_34 (by decide) ?_
    exact j_an_goAssert_38 C a0 a1 a2 a0 (1 : Int32) w4 h _ _ _ hW (lv_sub hl [1, 2, 3] rfl)
