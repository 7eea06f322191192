/-! Methods as functions, and their contracts (by wip/gen/run.py). -/
abbrev b_ru_divide : ByteArray := prog_6_method_16_code
def y_ru_divide : MethodName := ⟨"AlarmForge$Runner", "divide", "(IJJI)J"⟩
def rm_ru_divide : Room := { frames := 7, cells := 0, slots := 0, locals := 122 }
def rx_ru_divide : Room := { frames := 7, cells := 1, slots := 6, locals := 122 }
theorem d_ru_divide_0 : decode b_ru_divide 0 = .ok (.lload 4, 2) := by decide +kernel
theorem d_ru_divide_2 : decode b_ru_divide 2 = .ok (.lconst 0, 1) := by decide +kernel
theorem d_ru_divide_3 : decode b_ru_divide 3 = .ok (.lcmp, 1) := by decide +kernel
theorem d_ru_divide_4 : decode b_ru_divide 4 = .ok (.ifCond .ne (12), 3) := by decide +kernel
theorem d_ru_divide_7 : decode b_ru_divide 7 = .ok (.aload_n 0, 1) := by decide +kernel
theorem d_ru_divide_8 : decode b_ru_divide 8 = .ok (.iconst 4, 1) := by decide +kernel
theorem d_ru_divide_9 : decode b_ru_divide 9 = .ok (.iload 6, 2) := by decide +kernel
theorem d_ru_divide_11 : decode b_ru_divide 11 = .ok (.invokevirtual 117, 3) := by decide +kernel
theorem d_ru_divide_14 : decode b_ru_divide 14 = .ok (.lconst 0, 1) := by decide +kernel
theorem d_ru_divide_15 : decode b_ru_divide 15 = .ok (.lreturn, 1) := by decide +kernel
theorem d_ru_divide_16 : decode b_ru_divide 16 = .ok (.iload_n 1, 1) := by decide +kernel
theorem d_ru_divide_17 : decode b_ru_divide 17 = .ok (.bipush (47), 2) := by decide +kernel
theorem d_ru_divide_19 : decode b_ru_divide 19 = .ok (.if_icmp .ne (10), 3) := by decide +kernel
theorem d_ru_divide_22 : decode b_ru_divide 22 = .ok (.lload_n 2, 1) := by decide +kernel
theorem d_ru_divide_23 : decode b_ru_divide 23 = .ok (.lload 4, 2) := by decide +kernel
theorem d_ru_divide_25 : decode b_ru_divide 25 = .ok (.ldiv, 1) := by decide +kernel
theorem d_ru_divide_26 : decode b_ru_divide 26 = .ok (.goto (7), 3) := by decide +kernel
theorem d_ru_divide_29 : decode b_ru_divide 29 = .ok (.lload_n 2, 1) := by decide +kernel
theorem d_ru_divide_30 : decode b_ru_divide 30 = .ok (.lload 4, 2) := by decide +kernel
theorem d_ru_divide_32 : decode b_ru_divide 32 = .ok (.lrem, 1) := by decide +kernel
theorem d_ru_divide_33 : decode b_ru_divide 33 = .ok (.lreturn, 1) := by decide +kernel
theorem kb_ru_divide {a0 : Nat} {a1 : Int32} {a2 : Int64} {a4 : Int64} {a6 : Int32} {w : WW} {r : ((Int64 ⊕ String) × WW)} (h : f_ru_divide a0 a1 a2 a4 a6 w = some r) : kb w a0 5 = true := (its h).1
set_option maxHeartbeats 4000000 in
set_option maxRecDepth 100000 in
theorem j_ru_divide_33 {p : Program} {l : Launch} {e : Env} {s : State} {m : MethodId} {args : Array Value} {below : List Frame} {meth : Method} {c : Code} {D : va_G} {cA : Nat → ClassId} {base : Nat} {r : Int64} {w' : WW} (C : cx b_ru_divide (some .long) 7 y_ru_divide.cls "divide" p s m args meth c D cA base)   : ∀ (z0 : Int64) (w : WW), f_ru_divide_33 z0 w = some (.inl r, w') → ∀ (H : Heap) (locs : List Loc) (ls : Array Slot), wo_S D cls cA base s w H locs → lv_has ls 7 [] → W p l e rm_ru_divide s m args below meth c H locs 0 0 (MQ below (wo_Q D cls cA base (some (.long r)) w') args s rm_ru_divide.cells rm_ru_divide.slots (wo_B base)) (F0 m 33 ls [.long z0]) := by
  obtain ⟨hx, hb, hr, hml, hown, hts, hlk, hnm, hK, hG⟩ := id C
  intro z0 w h H locs ls hW hl
  unfold f_ru_divide_33 at h
  cases h
  exact wo_lret hx hb hr hlk hW d_ru_divide_33
set_option maxHeartbeats 4000000 in
set_option maxRecDepth 100000 in
theorem c_ru_divide (l : Launch) (D : va_G) (cA : Nat → ClassId) (base : Nat) {a0 : Nat} {a1 : Int32} {a2 : Int64} {a4 : Int64} {a6 : Int32} {w w' : WW} {r : Int64} (h : f_ru_divide a0 a1 a2 a4 a6 w = some (.inl r, w')) : mt l D cls (wo_tys cA) cA base y_ru_divide (Cond.code y_ru_divide b_ru_divide 7 (some .long) :: gt) rm_ru_divide [.ref (base + a0), .int a1, .long a2, .long a4, .int a6] w (some (.long r)) w' rm_ru_divide.cells rm_ru_divide.slots := by
  refine mt_start (by decide) (Nat.le_of_ble_eq_true rfl) ?_
  intro p e s m below meth c ls hx hb hr hml hown hts hlk hnm hK hG hW hl
  have C : cx b_ru_divide (some .long) 7 y_ru_divide.cls "divide" p s m [.ref (base + a0), .int a1, .long a2, .long a4, .int a6].toArray meth c D cA base := ⟨hx, hb, hr, hml, hown, hts, hlk, hnm, hK, hG⟩
  have hl : lv_has ls 7 [(0, .ref (base + a0)), (1, .int a1), (2, .long a2), (4, .long a4), (6, .int a6)] := hl
  unfold f_ru_divide at h
  replace h := its h
  obtain ⟨-, h⟩ := h
  refine lv_lload hx hb d_ru_divide_0 (lv_at hl 3 rfl) ?_
  refine lv_lconst (v := (0 : Int64)) hx hb d_ru_divide_2 (by decide) ?_
  refine lc_ne (tgt := 16) hx hb d_ru_divide_3 d_ru_divide_4 (by decide) (fun c1 => ?_) (fun c1 => ?_)
  · rw [if_neg c1] at h
    refine lv_iload_n hx hb d_ru_divide_16 rfl (lv_at hl 1 rfl) ?_
    refine lv_bipush (v := (47 : Int32)) hx hb d_ru_divide_17 (by decide) ?_
    refine lv_icmp_ne (tgt := 29) hx hb d_ru_divide_19 (by decide) (fun c2 => ?_) (fun c2 => ?_)
    · rw [if_neg c2] at h
      refine lv_lload_n hx hb d_ru_divide_29 rfl (lv_at hl 2 rfl) ?_
      refine lv_lload hx hb d_ru_divide_30 (lv_at hl 3 rfl) ?_
      replace h := its h
      obtain ⟨c3, h⟩ := h
      refine lv_lrem hx hb d_ru_divide_32 c3 ?_
      exact j_ru_divide_33 C (a2 - a2 / a4 * a4) w h _ _ _ hW (lv_sub hl [] rfl)
    · rw [if_pos c2] at h
      refine lv_lload_n hx hb d_ru_divide_22 rfl (lv_at hl 2 rfl) ?_
      refine lv_lload hx hb d_ru_divide_23 (lv_at hl 3 rfl) ?_
      replace h := its h
      obtain ⟨c4, h⟩ := h
      refine lv_ldiv hx hb d_ru_divide_25 c4 ?_
      refine lv_goto (tgt := 33) hx hb d_ru_divide_26 (by decide) ?_
      exact j_ru_divide_33 C (a2 / a4) w h _ _ _ hW (lv_sub hl [] rfl)
  · rw [if_pos c1] at h
    refine lv_aload_n hx hb d_ru_divide_7 rfl (lv_at hl 0 rfl) ?_
    refine lv_iconst (v := (4 : Int32)) hx hb d_ru_divide_8 (by decide) ?_
    refine lv_iload hx hb d_ru_divide_9 (lv_at hl 4 rfl) ?_
    replace h := bsx h
    obtain ⟨x6, w5, hw5, h⟩ := h
    refine cv_ru_117 (As := [.int (4 : Int32), .int a6]) (rest := []) hx hb hml hown hts hK hG hW (c_ru_fail l D cA base hw5) (kb_ru_fail hw5) ⟨Nat.le_of_ble_eq_true rfl, Nat.le_of_ble_eq_true rfl⟩ ⟨Nat.le_of_ble_eq_true rfl, Nat.le_of_ble_eq_true rfl⟩ rfl hl.1 rfl (Nat.le_of_ble_eq_true rfl) d_ru_divide_11 (fun H locs hW => ?_)
    refine lv_lconst (v := (0 : Int64)) hx hb d_ru_divide_14 (by decide) ?_
    cases h
    exact wo_lret hx hb hr hlk hW d_ru_divide_15
set_option maxHeartbeats 4000000 in
set_option maxRecDepth 100000 in
theorem jx_ru_divide_33 {p : Program} {l : Launch} {e : Env} {s : State} {m : MethodId} {args : Array Value} {below : List Frame} {meth : Method} {c : Code} {D : va_G} {cA : Nat → ClassId} {base : Nat} {E : String} {w' : WW} (C : cx b_ru_divide (some .long) 7 y_ru_divide.cls "divide" p s m args meth c D cA base ∧ (∀ x ∈ c.exceptionTable.toList, ∀ k : Nat, covers x k = false) ∧ l.stackTraces = false)   : ∀ (z0 : Int64) (w : WW), f_ru_divide_33 z0 w = some (.inr E, w') → ∀ (H : Heap) (locs : List Loc) (ls : Array Slot), wo_S D cls cA base s w H locs → lv_has ls 7 [] → W p l e rx_ru_divide s m args below meth c H locs 0 0 (XQ below (wo_X D cls cA base E w' rx_ru_divide.cells rx_ru_divide.slots) args s) (F0 m 33 ls [.long z0]) := by
  obtain ⟨hx, hb, hr, hml, hown, hts, hlk, hnm, hK, hG⟩ := id C.1
  have hnt := C.2.1
  have hst := C.2.2
  intro z0 w h H locs ls hW hl
  unfold f_ru_divide_33 at h
  cases h
set_option maxHeartbeats 4000000 in
set_option maxRecDepth 100000 in
theorem x_ru_divide (l : Launch) (hst : l.stackTraces = false) (D : va_G) (cA : Nat → ClassId) (base : Nat) {a0 : Nat} {a1 : Int32} {a2 : Int64} {a4 : Int64} {a6 : Int32} {w w' : WW} {E : String} (h : f_ru_divide a0 a1 a2 a4 a6 w = some (.inr E, w')) : xt l D cls (wo_tys cA) cA base y_ru_divide (Cond.code y_ru_divide b_ru_divide 7 (some .long) :: gt) rx_ru_divide [.ref (base + a0), .int a1, .long a2, .long a4, .int a6] w E w' rx_ru_divide.cells rx_ru_divide.slots := by
  refine xt_start (by decide) (Nat.le_of_ble_eq_true rfl) ?_
  intro p e s m below meth c ls hx hb hr hml hown hts hlk hnm hK hG hW hl hnt
  have C : cx b_ru_divide (some .long) 7 y_ru_divide.cls "divide" p s m [.ref (base + a0), .int a1, .long a2, .long a4, .int a6].toArray meth c D cA base ∧ (∀ x ∈ c.exceptionTable.toList, ∀ k : Nat, covers x k = false) ∧ l.stackTraces = false := ⟨⟨hx, hb, hr, hml, hown, hts, hlk, hnm, hK, hG⟩, hnt, hst⟩
  have hl : lv_has ls 7 [(0, .ref (base + a0)), (1, .int a1), (2, .long a2), (4, .long a4), (6, .int a6)] := hl
  unfold f_ru_divide at h
  replace h := its h
  obtain ⟨-, h⟩ := h
  refine lv_lload hx hb d_ru_divide_0 (lv_at hl 3 rfl) ?_
  refine lv_lconst (v := (0 : Int64)) hx hb d_ru_divide_2 (by decide) ?_
  refine lc_ne (tgt := 16) hx hb d_ru_divide_3 d_ru_divide_4 (by decide) (fun c1 => ?_) (fun c1 => ?_)
  · rw [if_neg c1] at h
    refine lv_iload_n hx hb d_ru_divide_16 rfl (lv_at hl 1 rfl) ?_
    refine lv_bipush (v := (47 : Int32)) hx hb d_ru_divide_17 (by decide) ?_
    refine lv_icmp_ne (tgt := 29) hx hb d_ru_divide_19 (by decide) (fun c2 => ?_) (fun c2 => ?_)
    · rw [if_neg c2] at h
      refine lv_lload_n hx hb d_ru_divide_29 rfl (lv_at hl 2 rfl) ?_
      refine lv_lload hx hb d_ru_divide_30 (lv_at hl 3 rfl) ?_
      replace h := its h
      obtain ⟨c3, h⟩ := h
      refine lv_lrem hx hb d_ru_divide_32 c3 ?_
      exact jx_ru_divide_33 C (a2 - a2 / a4 * a4) w h _ _ _ hW (lv_sub hl [] rfl)
    · rw [if_pos c2] at h
      refine lv_lload_n hx hb d_ru_divide_22 rfl (lv_at hl 2 rfl) ?_
      refine lv_lload hx hb d_ru_divide_23 (lv_at hl 3 rfl) ?_
      replace h := its h
      obtain ⟨c4, h⟩ := h
      refine lv_ldiv hx hb d_ru_divide_25 c4 ?_
      refine lv_goto (tgt := 33) hx hb d_ru_divide_26 (by decide) ?_
      exact jx_ru_divide_33 C (a2 / a4) w h _ _ _ hW (lv_sub hl [] rfl)
  · rw [if_pos c1] at h
    refine lv_aload_n hx hb d_ru_divide_7 rfl (lv_at hl 0 rfl) ?_
    refine lv_iconst (v := (4 : Int32)) hx hb d_ru_divide_8 (by decide) ?_
    refine lv_iload hx hb d_ru_divide_9 (lv_at hl 4 rfl) ?_
    rcases bsy h with hw5 | ⟨x6, w5, hw5, hnw5⟩
    · exact xv_ru_117 (As := [.int (4 : Int32), .int a6]) (rest := []) hx hb hml hown hts hK hG hW (x_ru_fail l hst D cA base hw5) (kb_ru_fail hw5) ⟨Nat.le_of_ble_eq_true rfl, Nat.le_of_ble_eq_true rfl⟩ ⟨Nat.le_of_ble_eq_true rfl, Nat.le_of_ble_eq_true rfl⟩ rfl hl.1 rfl (Nat.le_of_ble_eq_true rfl) d_ru_divide_11 (fun H locs q ce hW h1 h2 h3 => wo_xout hnt hlk hW h1 h2 h3 (Nat.le_of_ble_eq_true rfl) (Nat.le_of_ble_eq_true rfl))
    clear h
    have h := hnw5
    clear hnw5
    refine cv_ru_117 (As := [.int (4 : Int32), .int a6]) (rest := []) hx hb hml hown hts hK hG hW (c_ru_fail l D cA base hw5) (kb_ru_fail hw5) ⟨Nat.le_of_ble_eq_true rfl, Nat.le_of_ble_eq_true rfl⟩ ⟨Nat.le_of_ble_eq_true rfl, Nat.le_of_ble_eq_true rfl⟩ rfl hl.1 rfl (Nat.le_of_ble_eq_true rfl) d_ru_divide_11 (fun H locs hW => ?_)
    refine lv_lconst (v := (0 : Int64)) hx hb d_ru_divide_14 (by decide) ?_
    cases h
abbrev b_ru_combine : ByteArray := prog_6_method_17_code
def y_ru_combine : MethodName := ⟨"AlarmForge$Runner", "combine", "(IJJ)J"⟩
def rm_ru_combine : Room := { frames := 0, cells := 0, slots := 0, locals := 0 }
theorem d_ru_combine_0 : decode b_ru_combine 0 = .ok (.iload_n 1, 1) := by decide +kernel
theorem d_ru_combine_1 : decode b_ru_combine 1 = .ok (.bipush (43), 2) := by decide +kernel
theorem d_ru_combine_3 : decode b_ru_combine 3 = .ok (.if_icmp .ne (8), 3) := by decide +kernel
theorem d_ru_combine_6 : decode b_ru_combine 6 = .ok (.lload_n 2, 1) := by decide +kernel
theorem d_ru_combine_7 : decode b_ru_combine 7 = .ok (.lload 4, 2) := by decide +kernel
theorem d_ru_combine_9 : decode b_ru_combine 9 = .ok (.ladd, 1) := by decide +kernel
theorem d_ru_combine_10 : decode b_ru_combine 10 = .ok (.lreturn, 1) := by decide +kernel
theorem d_ru_combine_11 : decode b_ru_combine 11 = .ok (.iload_n 1, 1) := by decide +kernel
theorem d_ru_combine_12 : decode b_ru_combine 12 = .ok (.bipush (45), 2) := by decide +kernel
theorem d_ru_combine_14 : decode b_ru_combine 14 = .ok (.if_icmp .ne (10), 3) := by decide +kernel
theorem d_ru_combine_17 : decode b_ru_combine 17 = .ok (.lload_n 2, 1) := by decide +kernel
theorem d_ru_combine_18 : decode b_ru_combine 18 = .ok (.lload 4, 2) := by decide +kernel
theorem d_ru_combine_20 : decode b_ru_combine 20 = .ok (.lsub, 1) := by decide +kernel
theorem d_ru_combine_21 : decode b_ru_combine 21 = .ok (.goto (7), 3) := by decide +kernel
theorem d_ru_combine_24 : decode b_ru_combine 24 = .ok (.lload_n 2, 1) := by decide +kernel
theorem d_ru_combine_25 : decode b_ru_combine 25 = .ok (.lload 4, 2) := by decide +kernel
theorem d_ru_combine_27 : decode b_ru_combine 27 = .ok (.lmul, 1) := by decide +kernel
theorem d_ru_combine_28 : decode b_ru_combine 28 = .ok (.lreturn, 1) := by decide +kernel
theorem kb_ru_combine {a0 : Nat} {a1 : Int32} {a2 : Int64} {a4 : Int64} {w : WW} {r : (Int64 × WW)} (h : f_ru_combine a0 a1 a2 a4 w = some r) : kb w a0 5 = true := (its h).1
set_option maxHeartbeats 4000000 in
set_option maxRecDepth 100000 in
theorem j_ru_combine_28 {p : Program} {l : Launch} {e : Env} {s : State} {m : MethodId} {args : Array Value} {below : List Frame} {meth : Method} {c : Code} {D : va_G} {cA : Nat → ClassId} {base : Nat} {r : Int64} {w' : WW} (C : cx b_ru_combine (some .long) 6 y_ru_combine.cls "combine" p s m args meth c D cA base)   : ∀ (z0 : Int64) (w : WW), f_ru_combine_28 z0 w = some (r, w') → ∀ (H : Heap) (locs : List Loc) (ls : Array Slot), wo_S D cls cA base s w H locs → lv_has ls 6 [] → W p l e rm_ru_combine s m args below meth c H locs 0 0 (MQ below (wo_Q D cls cA base (some (.long r)) w') args s rm_ru_combine.cells rm_ru_combine.slots (wo_B base)) (F0 m 28 ls [.long z0]) := by
  obtain ⟨hx, hb, hr, hml, hown, hts, hlk, hnm, hK, hG⟩ := id C
  intro z0 w h H locs ls hW hl
  unfold f_ru_combine_28 at h
  cases h
  exact wo_lret hx hb hr hlk hW d_ru_combine_28
set_option maxHeartbeats 4000000 in
set_option maxRecDepth 100000 in
theorem c_ru_combine (l : Launch) (D : va_G) (cA : Nat → ClassId) (base : Nat) {a0 : Nat} {a1 : Int32} {a2 : Int64} {a4 : Int64} {w w' : WW} {r : Int64} (h : f_ru_combine a0 a1 a2 a4 w = some (r, w')) : mt l D cls (wo_tys cA) cA base y_ru_combine (Cond.code y_ru_combine b_ru_combine 6 (some .long) :: gt) rm_ru_combine [.ref (base + a0), .int a1, .long a2, .long a4] w (some (.long r)) w' rm_ru_combine.cells rm_ru_combine.slots := by
  refine mt_start (by decide) (Nat.le_of_ble_eq_true rfl) ?_
  intro p e s m below meth c ls hx hb hr hml hown hts hlk hnm hK hG hW hl
  have C : cx b_ru_combine (some .long) 6 y_ru_combine.cls "combine" p s m [.ref (base + a0), .int a1, .long a2, .long a4].toArray meth c D cA base := ⟨hx, hb, hr, hml, hown, hts, hlk, hnm, hK, hG⟩
  have hl : lv_has ls 6 [(0, .ref (base + a0)), (1, .int a1), (2, .long a2), (4, .long a4)] := hl
  unfold f_ru_combine at h
  replace h := its h
  obtain ⟨-, h⟩ := h
  refine lv_iload_n hx hb d_ru_combine_0 rfl (lv_at hl 1 rfl) ?_
  refine lv_bipush (v := (43 : Int32)) hx hb d_ru_combine_1 (by decide) ?_
  refine lv_icmp_ne (tgt := 11) hx hb d_ru_combine_3 (by decide) (fun c1 => ?_) (fun c1 => ?_)
  · rw [if_neg c1] at h
    refine lv_iload_n hx hb d_ru_combine_11 rfl (lv_at hl 1 rfl) ?_
    refine lv_bipush (v := (45 : Int32)) hx hb d_ru_combine_12 (by decide) ?_
    refine lv_icmp_ne (tgt := 24) hx hb d_ru_combine_14 (by decide) (fun c2 => ?_) (fun c2 => ?_)
    · rw [if_neg c2] at h
      refine lv_lload_n hx hb d_ru_combine_24 rfl (lv_at hl 2 rfl) ?_
      refine lv_lload hx hb d_ru_combine_25 (lv_at hl 3 rfl) ?_
      refine lv_lmul hx hb d_ru_combine_27 ?_
      exact j_ru_combine_28 C (a2 * a4) w h _ _ _ hW (lv_sub hl [] rfl)
    · rw [if_pos c2] at h
      refine lv_lload_n hx hb d_ru_combine_17 rfl (lv_at hl 2 rfl) ?_
      refine lv_lload hx hb d_ru_combine_18 (lv_at hl 3 rfl) ?_
      refine lv_lsub hx hb d_ru_combine_20 ?_
      refine lv_goto (tgt := 28) hx hb d_ru_combine_21 (by decide) ?_
      exact j_ru_combine_28 C (a2 - a4) w h _ _ _ hW (lv_sub hl [] rfl)
  · rw [if_pos c1] at h
    refine lv_lload_n hx hb d_ru_combine_6 rfl (lv_at hl 2 rfl) ?_
    refine lv_lload hx hb d_ru_combine_7 (lv_at hl 3 rfl) ?_
    refine lv_ladd hx hb d_ru_combine_9 ?_
    cases h
    exact wo_lret hx hb hr hlk hW d_ru_combine_10
theorem xv_ru_123 {p : Program} {l : Launch} {e : Env} {R : Room} {s : State} {m : MethodId} {args : Array Value} {below : List Frame} {meth : Method} {c : Code} {H : Heap} {locs : List Loc} {cells slots : Nat} {Q : State → Prop} {D : va_G} {cA : Nat → ClassId} {base : Nat} {w w' : WW} {cc : ByteArray} {pc nL : Nat} {ls : Array Slot} {rest st0 As : List Value} {E : String} {b : Nat} (hx : p.tables.exec = Jvm.exec) (hb : c.code = cc) (hml : c.maxLocals = nL) (hown : s.vm.findClass Rc_ru = some m.cls) (hts : ∀ w ∈ gt, w.before args s = true) (hK : va_K D cls (wo_tys cA) s) (hG : wo_G cA base s) (hW : wo_S D cls cA base s w H locs) (hM : xt l D cls (wo_tys cA) cA base y_ru_cellOf (Cond.code y_ru_cellOf b_ru_cellOf 4 (some .int) :: gt) rx_ru_cellOf (.ref (base + b) :: As) w E w' rx_ru_cellOf.cells rx_ru_cellOf.slots) (hkb : kb w b 5 = true) (hR : rx_ru_cellOf.frames + 1 ≤ R.frames ∧ 8 + (4 + 11) + rx_ru_cellOf.locals ≤ R.locals) (hf : cells + rx_ru_cellOf.cells ≤ R.cells ∧ slots + rx_ru_cellOf.slots ≤ R.slots) (hn : As.length = 3) (hsz : ls.size = nL) (hst : st0 = As.reverse ++ .ref (base + b) :: rest) (hcat : (rest.map fun v => v.category).sum ≤ 8) (hdg : decode cc pc = .ok (.invokevirtual 123, 3)) (kk : ∀ (H1 : Heap) (locs1 : List Loc) (q : Addr) (ce : Cell), wo_S D cls cA base s w' H1 locs1 → H1[q]? = some ce → ce.vm = .none → s.vm.findClass E = some ce.cls → XW p l e R s m args below meth c H1 locs1 (cells + rx_ru_cellOf.cells) (slots + rx_ru_cellOf.slots) Q (F0 m pc ls rest) q) : W p l e R s m args below meth c H locs cells slots Q (F0 m pc ls st0) :=
  wo_xcallV (C := Rc_ru) hx hb hml hown hts hK hG hW hM hkb rfl (gt_of (i := 837) (by decide +kernel) (by decide +kernel)) (gt_of (i := 839) (by decide +kernel) (by decide +kernel)) (gt_sel (i := 28) (by decide +kernel) (by decide +kernel)) (gt_of (i := 6) (by decide +kernel) (by decide +kernel)) (gt_of (i := 840) (by decide +kernel) (by decide +kernel)) (by decide +kernel) hR hf hn hsz hst hcat hdg kk
theorem cv_ru_123 {p : Program} {l : Launch} {e : Env} {R : Room} {s : State} {m : MethodId} {args : Array Value} {below : List Frame} {meth : Method} {c : Code} {H : Heap} {locs : List Loc} {cells slots : Nat} {Q : State → Prop} {D : va_G} {cA : Nat → ClassId} {base : Nat} {w w' : WW} {cc : ByteArray} {pc nL : Nat} {ls : Array Slot} {rest st0 As : List Value} {ov : Option Value} {b : Nat} (hx : p.tables.exec = Jvm.exec) (hb : c.code = cc) (hml : c.maxLocals = nL) (hown : s.vm.findClass Rc_ru = some m.cls) (hts : ∀ w ∈ gt, w.before args s = true) (hK : va_K D cls (wo_tys cA) s) (hG : wo_G cA base s) (hW : wo_S D cls cA base s w H locs) (hM : mt l D cls (wo_tys cA) cA base y_ru_cellOf (Cond.code y_ru_cellOf b_ru_cellOf 4 (some .int) :: gt) rm_ru_cellOf (.ref (base + b) :: As) w ov w' rm_ru_cellOf.cells rm_ru_cellOf.slots) (hkb : kb w b 5 = true) (hR : rm_ru_cellOf.frames + 1 ≤ R.frames ∧ 8 + (4 + 11) + rm_ru_cellOf.locals ≤ R.locals) (hf : cells + rm_ru_cellOf.cells ≤ R.cells ∧ slots + rm_ru_cellOf.slots ≤ R.slots) (hn : As.length = 3) (hsz : ls.size = nL) (hst : st0 = As.reverse ++ .ref (base + b) :: rest) (hcat : (rest.map fun v => v.category).sum ≤ 8) (hdg : decode cc pc = .ok (.invokevirtual 123, 3)) (kk : ∀ (H1 : Heap) (locs1 : List Loc), wo_S D cls cA base s w' H1 locs1 → W p l e R s m args below meth c H1 locs1 (cells + rm_ru_cellOf.cells) (slots + rm_ru_cellOf.slots) Q (F0 m (pc + 3) ls (ov.toList ++ rest))) : W p l e R s m args below meth c H locs cells slots Q (F0 m pc ls st0) :=
  wo_callV (C := Rc_ru) hx hb hml hown hts hK hG hW hM hkb rfl (gt_of (i := 837) (by decide +kernel) (by decide +kernel)) (gt_of (i := 839) (by decide +kernel) (by decide +kernel)) (gt_sel (i := 28) (by decide +kernel) (by decide +kernel)) (gt_of (i := 6) (by decide +kernel) (by decide +kernel)) (gt_of (i := 840) (by decide +kernel) (by decide +kernel)) (by decide +kernel) hR hf hn hsz hst hcat hdg kk
theorem xv_ru_145 {p : Program} {l : Launch} {e : Env} {R : Room} {s : State} {m : MethodId} {args : Array Value} {below : List Frame} {meth : Method} {c : Code} {H : Heap} {locs : List Loc} {cells slots : Nat} {Q : State → Prop} {D : va_G} {cA : Nat → ClassId} {base : Nat} {w w' : WW} {cc : ByteArray} {pc nL : Nat} {ls : Array Slot} {rest st0 As : List Value} {E : String} {b : Nat} (hx : p.tables.exec = Jvm.exec) (hb : c.code = cc) (hml : c.maxLocals = nL) (hown : s.vm.findClass Rc_ru = some m.cls) (hts : ∀ w ∈ gt, w.before args s = true) (hK : va_K D cls (wo_tys cA) s) (hG : wo_G cA base s) (hW : wo_S D cls cA base s w H locs) (hM : xt l D cls (wo_tys cA) cA base y_ru_intOf (Cond.code y_ru_intOf b_ru_intOf 4 (some .int) :: gt) rx_ru_intOf (.ref (base + b) :: As) w E w' rx_ru_intOf.cells rx_ru_intOf.slots) (hkb : kb w b 5 = true) (hR : rx_ru_intOf.frames + 1 ≤ R.frames ∧ 8 + (4 + 11) + rx_ru_intOf.locals ≤ R.locals) (hf : cells + rx_ru_intOf.cells ≤ R.cells ∧ slots + rx_ru_intOf.slots ≤ R.slots) (hn : As.length = 2) (hsz : ls.size = nL) (hst : st0 = As.reverse ++ .ref (base + b) :: rest) (hcat : (rest.map fun v => v.category).sum ≤ 8) (hdg : decode cc pc = .ok (.invokevirtual 145, 3)) (kk : ∀ (H1 : Heap) (locs1 : List Loc) (q : Addr) (ce : Cell), wo_S D cls cA base s w' H1 locs1 → H1[q]? = some ce → ce.vm = .none → s.vm.findClass E = some ce.cls → XW p l e R s m args below meth c H1 locs1 (cells + rx_ru_intOf.cells) (slots + rx_ru_intOf.slots) Q (F0 m pc ls rest) q) : W p l e R s m args below meth c H locs cells slots Q (F0 m pc ls st0) :=
  wo_xcallV (C := Rc_ru) hx hb hml hown hts hK hG hW hM hkb rfl (gt_of (i := 841) (by decide +kernel) (by decide +kernel)) (gt_of (i := 843) (by decide +kernel) (by decide +kernel)) (gt_sel (i := 29) (by decide +kernel) (by decide +kernel)) (gt_of (i := 6) (by decide +kernel) (by decide +kernel)) (gt_of (i := 844) (by decide +kernel) (by decide +kernel)) (by decide +kernel) hR hf hn hsz hst hcat hdg kk
theorem cv_ru_145 {p : Program} {l : Launch} {e : Env} {R : Room} {s : State} {m : MethodId} {args : Array Value} {below : List Frame} {meth : Method} {c : Code} {H : Heap} {locs : List Loc} {cells slots : Nat} {Q : State → Prop} {D : va_G} {cA : Nat → ClassId} {base : Nat} {w w' : WW} {cc : ByteArray} {pc nL : Nat} {ls : Array Slot} {rest st0 As : List Value} {ov : Option Value} {b : Nat} (hx : p.tables.exec = Jvm.exec) (hb : c.code = cc) (hml : c.maxLocals = nL) (hown : s.vm.findClass Rc_ru = some m.cls) (hts : ∀ w ∈ gt, w.before args s = true) (hK : va_K D cls (wo_tys cA) s) (hG : wo_G cA base s) (hW : wo_S D cls cA base s w H locs) (hM : mt l D cls (wo_tys cA) cA base y_ru_intOf (Cond.code y_ru_intOf b_ru_intOf 4 (some .int) :: gt) rm_ru_intOf (.ref (base + b) :: As) w ov w' rm_ru_intOf.cells rm_ru_intOf.slots) (hkb : kb w b 5 = true) (hR : rm_ru_intOf.frames + 1 ≤ R.frames ∧ 8 + (4 + 11) + rm_ru_intOf.locals ≤ R.locals) (hf : cells + rm_ru_intOf.cells ≤ R.cells ∧ slots + rm_ru_intOf.slots ≤ R.slots) (hn : As.length = 2) (hsz : ls.size = nL) (hst : st0 = As.reverse ++ .ref (base + b) :: rest) (hcat : (rest.map fun v => v.category).sum ≤ 8) (hdg : decode cc pc = .ok (.invokevirtual 145, 3)) (kk : ∀ (H1 : Heap) (locs1 : List Loc), wo_S D cls cA base s w' H1 locs1 → W p l e R s m args below meth c H1 locs1 (cells + rm_ru_intOf.cells) (slots + rm_ru_intOf.slots) Q (F0 m (pc + 3) ls (ov.toList ++ rest))) : W p l e R s m args below meth c H locs cells slots Q (F0 m pc ls st0) :=
  wo_callV (C := Rc_ru) hx hb hml hown hts hK hG hW hM hkb rfl (gt_of (i := 841) (by decide +kernel) (by decide +kernel)) (gt_of (i := 843) (by decide +kernel) (by decide +kernel)) (gt_sel (i := 29) (by decide +kernel) (by decide +kernel)) (gt_of (i := 6) (by decide +kernel) (by decide +kernel)) (gt_of (i := 844) (by decide +kernel) (by decide +kernel)) (by decide +kernel) hR hf hn hsz hst hcat hdg kk
theorem xv_ru_149 {p : Program} {l : Launch} {e : Env} {R : Room} {s : State} {m : MethodId} {args : Array Value} {below : List Frame} {meth : Method} {c : Code} {H : Heap} {locs : List Loc} {cells slots : Nat} {Q : State → Prop} {D : va_G} {cA : Nat → ClassId} {base : Nat} {w w' : WW} {cc : ByteArray} {pc nL : Nat} {ls : Array Slot} {rest st0 As : List Value} {E : String} {b : Nat} (hx : p.tables.exec = Jvm.exec) (hb : c.code = cc) (hml : c.maxLocals = nL) (hown : s.vm.findClass Rc_ru = some m.cls) (hts : ∀ w ∈ gt, w.before args s = true) (hK : va_K D cls (wo_tys cA) s) (hG : wo_G cA base s) (hW : wo_S D cls cA base s w H locs) (hM : xt l D cls (wo_tys cA) cA base y_ru_divide (Cond.code y_ru_divide b_ru_divide 7 (some .long) :: gt) rx_ru_divide (.ref (base + b) :: As) w E w' rx_ru_divide.cells rx_ru_divide.slots) (hkb : kb w b 5 = true) (hR : rx_ru_divide.frames + 1 ≤ R.frames ∧ 8 + (7 + 11) + rx_ru_divide.locals ≤ R.locals) (hf : cells + rx_ru_divide.cells ≤ R.cells ∧ slots + rx_ru_divide.slots ≤ R.slots) (hn : As.length = 4) (hsz : ls.size = nL) (hst : st0 = As.reverse ++ .ref (base + b) :: rest) (hcat : (rest.map fun v => v.category).sum ≤ 8) (hdg : decode cc pc = .ok (.invokevirtual 149, 3)) (kk : ∀ (H1 : Heap) (locs1 : List Loc) (q : Addr) (ce : Cell), wo_S D cls cA base s w' H1 locs1 → H1[q]? = some ce → ce.vm = .none → s.vm.findClass E = some ce.cls → XW p l e R s m args below meth c H1 locs1 (cells + rx_ru_divide.cells) (slots + rx_ru_divide.slots) Q (F0 m pc ls rest) q) : W p l e R s m args below meth c H locs cells slots Q (F0 m pc ls st0) :=
  wo_xcallV (C := Rc_ru) hx hb hml hown hts hK hG hW hM hkb rfl (gt_of (i := 847) (by decide +kernel) (by decide +kernel)) (gt_of (i := 849) (by decide +kernel) (by decide +kernel)) (gt_sel (i := 30) (by decide +kernel) (by decide +kernel)) (gt_of (i := 6) (by decide +kernel) (by decide +kernel)) (gt_of (i := 850) (by decide +kernel) (by decide +kernel)) (by decide +kernel) hR hf hn hsz hst hcat hdg kk
theorem cv_ru_149 {p : Program} {l : Launch} {e : Env} {R : Room} {s : State} {m : MethodId} {args : Array Value} {below : List Frame} {meth : Method} {c : Code} {H : Heap} {locs : List Loc} {cells slots : Nat} {Q : State → Prop} {D : va_G} {cA : Nat → ClassId} {base : Nat} {w w' : WW} {cc : ByteArray} {pc nL : Nat} {ls : Array Slot} {rest st0 As : List Value} {ov : Option Value} {b : Nat} (hx : p.tables.exec = Jvm.exec) (hb : c.code = cc) (hml : c.maxLocals = nL) (hown : s.vm.findClass Rc_ru = some m.cls) (hts : ∀ w ∈ gt, w.before args s = true) (hK : va_K D cls (wo_tys cA) s) (hG : wo_G cA base s) (hW : wo_S D cls cA base s w H locs) (hM : mt l D cls (wo_tys cA) cA base y_ru_divide (Cond.code y_ru_divide b_ru_divide 7 (some .long) :: gt) rm_ru_divide (.ref (base + b) :: As) w ov w' rm_ru_divide.cells rm_ru_divide.slots) (hkb : kb w b 5 = true) (hR : rm_ru_divide.frames + 1 ≤ R.frames ∧ 8 + (7 + 11) + rm_ru_divide.locals ≤ R.locals) (hf : cells + rm_ru_divide.cells ≤ R.cells ∧ slots + rm_ru_divide.slots ≤ R.slots) (hn : As.length = 4) (hsz : ls.size = nL) (hst : st0 = As.reverse ++ .ref (base + b) :: rest) (hcat : (rest.map fun v => v.category).sum ≤ 8) (hdg : decode cc pc = .ok (.invokevirtual 149, 3)) (kk : ∀ (H1 : Heap) (locs1 : List Loc), wo_S D cls cA base s w' H1 locs1 → W p l e R s m args below meth c H1 locs1 (cells + rm_ru_divide.cells) (slots + rm_ru_divide.slots) Q (F0 m (pc + 3) ls (ov.toList ++ rest))) : W p l e R s m args below meth c H locs cells slots Q (F0 m pc ls st0) :=
  wo_callV (C := Rc_ru) hx hb hml hown hts hK hG hW hM hkb rfl (gt_of (i := 847) (by decide +kernel) (by decide +kernel)) (gt_of (i := 849) (by decide +kernel) (by decide +kernel)) (gt_sel (i := 30) (by decide +kernel) (by decide +kernel)) (gt_of (i := 6) (by decide +kernel) (by decide +kernel)) (gt_of (i := 850) (by decide +kernel) (by decide +kernel)) (by decide +kernel) hR hf hn hsz hst hcat hdg kk
theorem cv_ru_153 {p : Program} {l : Launch} {e : Env} {R : Room} {s : State} {m : MethodId} {args : Array Value} {below : List Frame} {meth : Method} {c : Code} {H : Heap} {locs : List Loc} {cells slots : Nat} {Q : State → Prop} {D : va_G} {cA : Nat → ClassId} {base : Nat} {w w' : WW} {cc : ByteArray} {pc nL : Nat} {ls : Array Slot} {rest st0 As : List Value} {ov : Option Value} {b : Nat} (hx : p.tables.exec = Jvm.exec) (hb : c.code = cc) (hml : c.maxLocals = nL) (hown : s.vm.findClass Rc_ru = some m.cls) (hts : ∀ w ∈ gt, w.before args s = true) (hK : va_K D cls (wo_tys cA) s) (hG : wo_G cA base s) (hW : wo_S D cls cA base s w H locs) (hM : mt l D cls (wo_tys cA) cA base y_ru_combine (Cond.code y_ru_combine b_ru_combine 6 (some .long) :: gt) rm_ru_combine (.ref (base + b) :: As) w ov w' rm_ru_combine.cells rm_ru_combine.slots) (hkb : kb w b 5 = true) (hR : rm_ru_combine.frames + 1 ≤ R.frames ∧ 8 + (6 + 11) + rm_ru_combine.locals ≤ R.locals) (hf : cells + rm_ru_combine.cells ≤ R.cells ∧ slots + rm_ru_combine.slots ≤ R.slots) (hn : As.length = 3) (hsz : ls.size = nL) (hst : st0 = As.reverse ++ .ref (base + b) :: rest) (hcat : (rest.map fun v => v.category).sum ≤ 8) (hdg : decode cc pc = .ok (.invokevirtual 153, 3)) (kk : ∀ (H1 : Heap) (locs1 : List Loc), wo_S D cls cA base s w' H1 locs1 → W p l e R s m args below meth c H1 locs1 (cells + rm_ru_combine.cells) (slots + rm_ru_combine.slots) Q (F0 m (pc + 3) ls (ov.toList ++ rest))) : W p l e R s m args below meth c H locs cells slots Q (F0 m pc ls st0) :=
  wo_callV (C := Rc_ru) hx hb hml hown hts hK hG hW hM hkb rfl (gt_of (i := 851) (by decide +kernel) (by decide +kernel)) (gt_of (i := 853) (by decide +kernel) (by decide +kernel)) (gt_sel (i := 31) (by decide +kernel) (by decide +kernel)) (gt_of (i := 6) (by decide +kernel) (by decide +kernel)) (gt_of (i := 854) (by decide +kernel) (by decide +kernel)) (by decide +kernel) hR hf hn hsz hst hcat hdg kk
abbrev b_ru_doStep : ByteArray := prog_6_method_15_code
def y_ru_doStep : MethodName := ⟨"AlarmForge$Runner", "doStep", "(III)I"⟩
def rm_ru_doStep : Room := { frames := 8, cells := 0, slots := 0, locals := 148 }
def rx_ru_doStep : Room := { frames := 8, cells := 1, slots := 6, locals := 148 }
theorem d_ru_doStep_0 : decode b_ru_doStep 0 = .ok (.aload_n 0, 1) := by decide +kernel
theorem d_ru_doStep_1 : decode b_ru_doStep 1 = .ok (.getfield 32, 3) := by decide +kernel
theorem d_ru_doStep_4 : decode b_ru_doStep 4 = .ok (.getfield 136, 3) := by decide +kernel
theorem d_ru_doStep_7 : decode b_ru_doStep 7 = .ok (.iload_n 1, 1) := by decide +kernel
theorem d_ru_doStep_8 : decode b_ru_doStep 8 = .ok (.iaload, 1) := by decide +kernel
theorem d_ru_doStep_9 : decode b_ru_doStep 9 = .ok (.istore 4, 2) := by decide +kernel
theorem d_ru_doStep_11 : decode b_ru_doStep 11 = .ok (.aload_n 0, 1) := by decide +kernel
theorem d_ru_doStep_12 : decode b_ru_doStep 12 = .ok (.getfield 32, 3) := by decide +kernel
theorem d_ru_doStep_15 : decode b_ru_doStep 15 = .ok (.getfield 139, 3) := by decide +kernel
theorem d_ru_doStep_18 : decode b_ru_doStep 18 = .ok (.iload_n 1, 1) := by decide +kernel
theorem d_ru_doStep_19 : decode b_ru_doStep 19 = .ok (.iaload, 1) := by decide +kernel
theorem d_ru_doStep_20 : decode b_ru_doStep 20 = .ok (.istore 5, 2) := by decide +kernel
theorem d_ru_doStep_22 : decode b_ru_doStep 22 = .ok (.aload_n 0, 1) := by decide +kernel
theorem d_ru_doStep_23 : decode b_ru_doStep 23 = .ok (.getfield 32, 3) := by decide +kernel
theorem d_ru_doStep_26 : decode b_ru_doStep 26 = .ok (.getfield 142, 3) := by decide +kernel
theorem d_ru_doStep_29 : decode b_ru_doStep 29 = .ok (.iload_n 1, 1) := by decide +kernel
theorem d_ru_doStep_30 : decode b_ru_doStep 30 = .ok (.iaload, 1) := by decide +kernel
theorem d_ru_doStep_31 : decode b_ru_doStep 31 = .ok (.istore 6, 2) := by decide +kernel
theorem d_ru_doStep_33 : decode b_ru_doStep 33 = .ok (.iload 6, 2) := by decide +kernel
theorem d_ru_doStep_35 : decode b_ru_doStep 35 = .ok (.lookupswitch (129) #[(1, 57), (2, 60), (3, 85), (37, 110), (47, 110), (259, 100)], 57) := by decide +kernel
theorem d_ru_doStep_92 : decode b_ru_doStep 92 = .ok (.iload 4, 2) := by decide +kernel
theorem d_ru_doStep_94 : decode b_ru_doStep 94 = .ok (.ireturn, 1) := by decide +kernel
theorem d_ru_doStep_95 : decode b_ru_doStep 95 = .ok (.aload_n 0, 1) := by decide +kernel
theorem d_ru_doStep_96 : decode b_ru_doStep 96 = .ok (.getfield 15, 3) := by decide +kernel
theorem d_ru_doStep_99 : decode b_ru_doStep 99 = .ok (.iload 4, 2) := by decide +kernel
theorem d_ru_doStep_101 : decode b_ru_doStep 101 = .ok (.baload, 1) := by decide +kernel
theorem d_ru_doStep_102 : decode b_ru_doStep 102 = .ok (.ifCond .eq (10), 3) := by decide +kernel
theorem d_ru_doStep_105 : decode b_ru_doStep 105 = .ok (.aload_n 0, 1) := by decide +kernel
theorem d_ru_doStep_106 : decode b_ru_doStep 106 = .ok (.iconst 1, 1) := by decide +kernel
theorem d_ru_doStep_107 : decode b_ru_doStep 107 = .ok (.iload 5, 2) := by decide +kernel
theorem d_ru_doStep_109 : decode b_ru_doStep 109 = .ok (.invokevirtual 117, 3) := by decide +kernel
theorem d_ru_doStep_112 : decode b_ru_doStep 112 = .ok (.aload_n 0, 1) := by decide +kernel
theorem d_ru_doStep_113 : decode b_ru_doStep 113 = .ok (.getfield 9, 3) := by decide +kernel
theorem d_ru_doStep_116 : decode b_ru_doStep 116 = .ok (.iload 4, 2) := by decide +kernel
theorem d_ru_doStep_118 : decode b_ru_doStep 118 = .ok (.iaload, 1) := by decide +kernel
theorem d_ru_doStep_119 : decode b_ru_doStep 119 = .ok (.ireturn, 1) := by decide +kernel
theorem d_ru_doStep_120 : decode b_ru_doStep 120 = .ok (.aload_n 0, 1) := by decide +kernel
theorem d_ru_doStep_121 : decode b_ru_doStep 121 = .ok (.getfield 19, 3) := by decide +kernel
theorem d_ru_doStep_124 : decode b_ru_doStep 124 = .ok (.aload_n 0, 1) := by decide +kernel
theorem d_ru_doStep_125 : decode b_ru_doStep 125 = .ok (.iload 4, 2) := by decide +kernel
theorem d_ru_doStep_127 : decode b_ru_doStep 127 = .ok (.iload_n 2, 1) := by decide +kernel
theorem d_ru_doStep_128 : decode b_ru_doStep 128 = .ok (.iload 5, 2) := by decide +kernel
theorem d_ru_doStep_130 : decode b_ru_doStep 130 = .ok (.invokevirtual 123, 3) := by decide +kernel
theorem d_ru_doStep_133 : decode b_ru_doStep 133 = .ok (.iaload, 1) := by decide +kernel
theorem d_ru_doStep_134 : decode b_ru_doStep 134 = .ok (.ireturn, 1) := by decide +kernel
theorem d_ru_doStep_135 : decode b_ru_doStep 135 = .ok (.aload_n 0, 1) := by decide +kernel
theorem d_ru_doStep_136 : decode b_ru_doStep 136 = .ok (.iload_n 2, 1) := by decide +kernel
theorem d_ru_doStep_137 : decode b_ru_doStep 137 = .ok (.i2l, 1) := by decide +kernel
theorem d_ru_doStep_138 : decode b_ru_doStep 138 = .ok (.lneg, 1) := by decide +kernel
theorem d_ru_doStep_139 : decode b_ru_doStep 139 = .ok (.iload 5, 2) := by decide +kernel
theorem d_ru_doStep_141 : decode b_ru_doStep 141 = .ok (.invokevirtual 145, 3) := by decide +kernel
theorem d_ru_doStep_144 : decode b_ru_doStep 144 = .ok (.ireturn, 1) := by decide +kernel
theorem d_ru_doStep_145 : decode b_ru_doStep 145 = .ok (.aload_n 0, 1) := by decide +kernel
theorem d_ru_doStep_146 : decode b_ru_doStep 146 = .ok (.aload_n 0, 1) := by decide +kernel
theorem d_ru_doStep_147 : decode b_ru_doStep 147 = .ok (.iload 6, 2) := by decide +kernel
theorem d_ru_doStep_149 : decode b_ru_doStep 149 = .ok (.iload_n 2, 1) := by decide +kernel
theorem d_ru_doStep_150 : decode b_ru_doStep 150 = .ok (.i2l, 1) := by decide +kernel
theorem d_ru_doStep_151 : decode b_ru_doStep 151 = .ok (.iload_n 3, 1) := by decide +kernel
theorem d_ru_doStep_152 : decode b_ru_doStep 152 = .ok (.i2l, 1) := by decide +kernel
theorem d_ru_doStep_153 : decode b_ru_doStep 153 = .ok (.iload 5, 2) := by decide +kernel
theorem d_ru_doStep_155 : decode b_ru_doStep 155 = .ok (.invokevirtual 149, 3) := by decide +kernel
theorem d_ru_doStep_158 : decode b_ru_doStep 158 = .ok (.iload 5, 2) := by decide +kernel
theorem d_ru_doStep_160 : decode b_ru_doStep 160 = .ok (.invokevirtual 145, 3) := by decide +kernel
theorem d_ru_doStep_163 : decode b_ru_doStep 163 = .ok (.ireturn, 1) := by decide +kernel
theorem d_ru_doStep_164 : decode b_ru_doStep 164 = .ok (.aload_n 0, 1) := by decide +kernel
theorem d_ru_doStep_165 : decode b_ru_doStep 165 = .ok (.aload_n 0, 1) := by decide +kernel
theorem d_ru_doStep_166 : decode b_ru_doStep 166 = .ok (.iload 6, 2) := by decide +kernel
theorem d_ru_doStep_168 : decode b_ru_doStep 168 = .ok (.iload_n 2, 1) := by decide +kernel
theorem d_ru_doStep_169 : decode b_ru_doStep 169 = .ok (.i2l, 1) := by decide +kernel
theorem d_ru_doStep_170 : decode b_ru_doStep 170 = .ok (.iload_n 3, 1) := by decide +kernel
theorem d_ru_doStep_171 : decode b_ru_doStep 171 = .ok (.i2l, 1) := by decide +kernel
theorem d_ru_doStep_172 : decode b_ru_doStep 172 = .ok (.invokevirtual 153, 3) := by decide +kernel
theorem d_ru_doStep_175 : decode b_ru_doStep 175 = .ok (.iload 5, 2) := by decide +kernel
theorem d_ru_doStep_177 : decode b_ru_doStep 177 = .ok (.invokevirtual 145, 3) := by decide +kernel
theorem d_ru_doStep_180 : decode b_ru_doStep 180 = .ok (.ireturn, 1) := by decide +kernel
theorem kb_ru_doStep {a0 : Nat} {a1 : Int32} {a2 : Int32} {a3 : Int32} {w : WW} {r : ((Int32 ⊕ String) × WW)} (h : f_ru_doStep a0 a1 a2 a3 w = some r) : kb w a0 5 = true := (its h).1
set_option maxHeartbeats 4000000 in
set_option maxRecDepth 100000 in
theorem j_ru_doStep_112 {p : Program} {l : Launch} {e : Env} {s : State} {m : MethodId} {args : Array Value} {below : List Frame} {meth : Method} {c : Code} {D : va_G} {cA : Nat → ClassId} {base : Nat} {r : Int32} {w' : WW} (C : cx b_ru_doStep (some .int) 7 y_ru_doStep.cls "doStep" p s m args meth c D cA base)   : ∀ (y0 : Nat) (y4 : Int32) (w : WW), f_ru_doStep_112 y0 y4 w = some (.inl r, w') → ∀ (H : Heap) (locs : List Loc) (ls : Array Slot), wo_S D cls cA base s w H locs → lv_has ls 7 [(0, .ref (base + y0)), (4, .int y4)] → W p l e rm_ru_doStep s m args below meth c H locs 0 0 (MQ below (wo_Q D cls cA base (some (.int r)) w') args s rm_ru_doStep.cells rm_ru_doStep.slots (wo_B base)) (F0 m 112 ls []) := by
  obtain ⟨hx, hb, hr, hml, hown, hts, hlk, hnm, hK, hG⟩ := id C
  intro y0 y4 w h H locs ls hW hl
  unfold f_ru_doStep_112 at h
  refine lv_aload_n hx hb d_ru_doStep_112 rfl (lv_at hl 0 rfl) ?_
  replace h := bs h
  obtain ⟨x18, hx18, h⟩ := h
  refine gf_ru_9 hx hb hts hown hK hG hW (gN_s hx18) d_ru_doStep_113 ?_
  refine lv_iload hx hb d_ru_doStep_116 (lv_at hl 1 rfl) ?_
  replace h := bs h
  obtain ⟨x19, hx19, h⟩ := h
  refine wo_iald hx hb hK hW (t := 0) rfl hx19 d_ru_doStep_118 ?_
  cases h
  exact wo_iret hx hb hr hlk hW d_ru_doStep_119
set_option maxHeartbeats 4000000 in
set_option maxRecDepth 100000 in
theorem c_ru_doStep (l : Launch) (D : va_G) (cA : Nat → ClassId) (base : Nat) {a0 : Nat} {a1 : Int32} {a2 : Int32} {a3 : Int32} {w w' : WW} {r : Int32} (h : f_ru_doStep a0 a1 a2 a3 w = some (.inl r, w')) : mt l D cls (wo_tys cA) cA base y_ru_doStep (Cond.code y_ru_doStep b_ru_doStep 7 (some .int) :: gt) rm_ru_doStep [.ref (base + a0), .int a1, .int a2, .int a3] w (some (.int r)) w' rm_ru_doStep.cells rm_ru_doStep.slots := by
  refine mt_start (by decide) (Nat.le_of_ble_eq_true rfl) ?_
  intro p e s m below meth c ls hx hb hr hml hown hts hlk hnm hK hG hW hl
  have C : cx b_ru_doStep (some .int) 7 y_ru_doStep.cls "doStep" p s m [.ref (base + a0), .int a1, .int a2, .int a3].toArray meth c D cA base := ⟨hx, hb, hr, hml, hown, hts, hlk, hnm, hK, hG⟩
  have hl : lv_has ls 7 [(0, .ref (base + a0)), (1, .int a1), (2, .int a2), (3, .int a3)] := hl
  unfold f_ru_doStep at h
  replace h := its h
  obtain ⟨-, h⟩ := h
  refine lv_aload_n hx hb d_ru_doStep_0 rfl (lv_at hl 0 rfl) ?_
  replace h := bs h
  obtain ⟨x1, hx1, h⟩ := h
  refine gf_ru_32 hx hb hts hown hK hG hW (gR_s hx1) d_ru_doStep_1 ?_
  replace h := bs h
  obtain ⟨x2, ex2, h⟩ := h
  subst ex2
  replace h := bs h
  obtain ⟨x3, hx3, h⟩ := h
  refine gf_ru_136 hx hb hts hown hK hG hW (gN_s hx3) d_ru_doStep_4 ?_
  refine lv_iload_n hx hb d_ru_doStep_7 rfl (lv_at hl 1 rfl) ?_
  replace h := bs h
  obtain ⟨x4, hx4, h⟩ := h
  refine wo_iald hx hb hK hW (t := 0) rfl hx4 d_ru_doStep_8 ?_
  refine lv_istore (lv' := [(4, .int x4), (0, .ref (base + a0)), (1, .int a1), (2, .int a2), (3, .int a3)]) hx hb d_ru_doStep_9 hl (by decide) rfl (fun ls hl => ?_)
  refine lv_aload_n hx hb d_ru_doStep_11 rfl (lv_at hl 1 rfl) ?_
  replace h := bs h
  obtain ⟨x5, hx5, h⟩ := h
  refine gf_ru_32 hx hb hts hown hK hG hW (gR_s hx5) d_ru_doStep_12 ?_
  replace h := bs h
  obtain ⟨x6, ex6, h⟩ := h
  subst ex6
  replace h := bs h
  obtain ⟨x7, hx7, h⟩ := h
  refine gf_ru_139 hx hb hts hown hK hG hW (gN_s hx7) d_ru_doStep_15 ?_
  refine lv_iload_n hx hb d_ru_doStep_18 rfl (lv_at hl 2 rfl) ?_
  replace h := bs h
  obtain ⟨x8, hx8, h⟩ := h
  refine wo_iald hx hb hK hW (t := 0) rfl hx8 d_ru_doStep_19 ?_
  refine lv_istore (lv' := [(5, .int x8), (4, .int x4), (0, .ref (base + a0)), (1, .int a1), (2, .int a2), (3, .int a3)]) hx hb d_ru_doStep_20 hl (by decide) rfl (fun ls hl => ?_)
  refine lv_aload_n hx hb d_ru_doStep_22 rfl (lv_at hl 2 rfl) ?_
  replace h := bs h
  obtain ⟨x9, hx9, h⟩ := h
  refine gf_ru_32 hx hb hts hown hK hG hW (gR_s hx9) d_ru_doStep_23 ?_
  replace h := bs h
  obtain ⟨x10, ex10, h⟩ := h
  subst ex10
  replace h := bs h
  obtain ⟨x11, hx11, h⟩ := h
  refine gf_ru_142 hx hb hts hown hK hG hW (gN_s hx11) d_ru_doStep_26 ?_
  refine lv_iload_n hx hb d_ru_doStep_29 rfl (lv_at hl 3 rfl) ?_
  replace h := bs h
  obtain ⟨x12, hx12, h⟩ := h
  refine wo_iald hx hb hK hW (t := 0) rfl hx12 d_ru_doStep_30 ?_
  refine lv_istore (lv' := [(6, .int x12), (5, .int x8), (4, .int x4), (0, .ref (base + a0)), (1, .int a1), (2, .int a2), (3, .int a3)]) hx hb d_ru_doStep_31 hl (by decide) rfl (fun ls hl => ?_)
  refine lv_iload hx hb d_ru_doStep_33 (lv_at hl 0 rfl) ?_
  by_cases c13 : x12 = (1 : Int32)
  · rw [if_pos c13] at h
    refine lv_lookup (off := 57) (tgt := 92) hx hb d_ru_doStep_35 (by decide) (by rw [c13]; rfl) (by decide) ?_
    refine lv_iload hx hb d_ru_doStep_92 (lv_at hl 2 rfl) ?_
    cases h
    exact wo_iret hx hb hr hlk hW d_ru_doStep_94
  · rw [if_neg c13] at h
    by_cases c14 : x12 = (2 : Int32)
    · rw [if_pos c14] at h
      refine lv_lookup (off := 60) (tgt := 95) hx hb d_ru_doStep_35 (by decide) (by rw [c14]; rfl) (by decide) ?_
      refine lv_aload_n hx hb d_ru_doStep_95 rfl (lv_at hl 3 rfl) ?_
      replace h := bs h
      obtain ⟨x15, hx15, h⟩ := h
      refine gf_ru_15 hx hb hts hown hK hG hW (gN_s hx15) d_ru_doStep_96 ?_
      refine lv_iload hx hb d_ru_doStep_99 (lv_at hl 2 rfl) ?_
      replace h := bs h
      obtain ⟨x16, hx16, h⟩ := h
      refine wo_zald hx hb hK hW (t := 2) rfl hx16 d_ru_doStep_101 ?_
      refine lv_if_eq (tgt := 112) hx hb d_ru_doStep_102 (by decide) (fun c17 => ?_) (fun c17 => ?_)
      · rw [if_pos c17] at h
        exact j_ru_doStep_112 C a0 x4 w h _ _ _ hW (lv_sub hl [3, 2] rfl)
      · rw [if_neg c17] at h
        refine lv_aload_n hx hb d_ru_doStep_105 rfl (lv_at hl 3 rfl) ?_
        refine lv_iconst (v := (1 : Int32)) hx hb d_ru_doStep_106 (by decide) ?_
        refine lv_iload hx hb d_ru_doStep_107 (lv_at hl 1 rfl) ?_
        replace h := bsx h
        obtain ⟨x21, w20, hw20, h⟩ := h
        refine cv_ru_117 (As := [.int (1 : Int32), .int x8]) (rest := []) hx hb hml hown hts hK hG hW (c_ru_fail l D cA base hw20) (kb_ru_fail hw20) ⟨Nat.le_of_ble_eq_true rfl, Nat.le_of_ble_eq_true rfl⟩ ⟨Nat.le_of_ble_eq_true rfl, Nat.le_of_ble_eq_true rfl⟩ rfl hl.1 rfl (Nat.le_of_ble_eq_true rfl) d_ru_doStep_109 (fun H locs hW => ?_)
        exact j_ru_doStep_112 C a0 x4 w20 h _ _ _ hW (lv_sub hl [3, 2] rfl)
    · rw [if_neg c14] at h
      by_cases c22 : x12 = (3 : Int32)
      · rw [if_pos c22] at h
        refine lv_lookup (off := 85) (tgt := 120) hx hb d_ru_doStep_35 (by decide) (by rw [c22]; rfl) (by decide) ?_
        refine lv_aload_n hx hb d_ru_doStep_120 rfl (lv_at hl 3 rfl) ?_
        replace h := bs h
        obtain ⟨x23, hx23, h⟩ := h
        refine gf_ru_19 hx hb hts hown hK hG hW (gN_s hx23) d_ru_doStep_121 ?_
        refine lv_aload_n hx hb d_ru_doStep_124 rfl (lv_at hl 3 rfl) ?_
        refine lv_iload hx hb d_ru_doStep_125 (lv_at hl 2 rfl) ?_
        refine lv_iload_n hx hb d_ru_doStep_127 rfl (lv_at hl 5 rfl) ?_
        refine lv_iload hx hb d_ru_doStep_128 (lv_at hl 1 rfl) ?_
        replace h := bsx h
        obtain ⟨x25, w24, hw24, h⟩ := h
        refine cv_ru_123 (As := [.int x4, .int a2, .int x8]) (rest := [.ref (base + x23)]) hx hb hml hown hts hK hG hW (c_ru_cellOf l D cA base hw24) (kb_ru_cellOf hw24) ⟨Nat.le_of_ble_eq_true rfl, Nat.le_of_ble_eq_true rfl⟩ ⟨Nat.le_of_ble_eq_true rfl, Nat.le_of_ble_eq_true rfl⟩ rfl hl.1 rfl (Nat.le_of_ble_eq_true rfl) d_ru_doStep_130 (fun H locs hW => ?_)
        replace h := bs h
        obtain ⟨x26, hx26, h⟩ := h
        refine wo_iald hx hb hK hW (t := 0) rfl hx26 d_ru_doStep_133 ?_
        cases h
        exact wo_iret hx hb hr hlk hW d_ru_doStep_134
      · rw [if_neg c22] at h
        by_cases c27 : x12 = (37 : Int32)
        · rw [if_pos c27] at h
          refine lv_lookup (off := 110) (tgt := 145) hx hb d_ru_doStep_35 (by decide) (by rw [c27]; rfl) (by decide) ?_
          refine lv_aload_n hx hb d_ru_doStep_145 rfl (lv_at hl 3 rfl) ?_
          refine lv_aload_n hx hb d_ru_doStep_146 rfl (lv_at hl 3 rfl) ?_
          refine lv_iload hx hb d_ru_doStep_147 (lv_at hl 0 rfl) ?_
          refine lv_iload_n hx hb d_ru_doStep_149 rfl (lv_at hl 5 rfl) ?_
          refine lv_i2l hx hb d_ru_doStep_150 rfl ?_
          refine lv_iload_n hx hb d_ru_doStep_151 rfl (lv_at hl 6 rfl) ?_
          refine lv_i2l hx hb d_ru_doStep_152 rfl ?_
          refine lv_iload hx hb d_ru_doStep_153 (lv_at hl 1 rfl) ?_
          replace h := bsx h
          obtain ⟨x29, w28, hw28, h⟩ := h
          refine cv_ru_149 (As := [.int x12, .long (Int32.toInt64 a2), .long (Int32.toInt64 a3), .int x8]) (rest := [.ref (base + a0)]) hx hb hml hown hts hK hG hW (c_ru_divide l D cA base hw28) (kb_ru_divide hw28) ⟨Nat.le_of_ble_eq_true rfl, Nat.le_of_ble_eq_true rfl⟩ ⟨Nat.le_of_ble_eq_true rfl, Nat.le_of_ble_eq_true rfl⟩ rfl hl.1 rfl (Nat.le_of_ble_eq_true rfl) d_ru_doStep_155 (fun H locs hW => ?_)
          refine lv_iload hx hb d_ru_doStep_158 (lv_at hl 1 rfl) ?_
          replace h := bsx h
          obtain ⟨x31, w30, hw30, h⟩ := h
          refine cv_ru_145 (As := [.long x29, .int x8]) (rest := []) hx hb hml hown hts hK hG hW (c_ru_intOf l D cA base hw30) (kb_ru_intOf hw30) ⟨Nat.le_of_ble_eq_true rfl, Nat.le_of_ble_eq_true rfl⟩ ⟨Nat.le_of_ble_eq_true rfl, Nat.le_of_ble_eq_true rfl⟩ rfl hl.1 rfl (Nat.le_of_ble_eq_true rfl) d_ru_doStep_160 (fun H locs hW => ?_)
          cases h
          exact wo_iret hx hb hr hlk hW d_ru_doStep_163
        · rw [if_neg c27] at h
          by_cases c32 : x12 = (47 : Int32)
          · rw [if_pos c32] at h
            refine lv_lookup (off := 110) (tgt := 145) hx hb d_ru_doStep_35 (by decide) (by rw [c32]; rfl) (by decide) ?_
            refine lv_aload_n hx hb d_ru_doStep_145 rfl (lv_at hl 3 rfl) ?_
            refine lv_aload_n hx hb d_ru_doStep_146 rfl (lv_at hl 3 rfl) ?_
            refine lv_iload hx hb d_ru_doStep_147 (lv_at hl 0 rfl) ?_
            refine lv_iload_n hx hb d_ru_doStep_149 rfl (lv_at hl 5 rfl) ?_
            refine lv_i2l hx hb d_ru_doStep_150 rfl ?_
            refine lv_iload_n hx hb d_ru_doStep_151 rfl (lv_at hl 6 rfl) ?_
            refine lv_i2l hx hb d_ru_doStep_152 rfl ?_
            refine lv_iload hx hb d_ru_doStep_153 (lv_at hl 1 rfl) ?_
            replace h := bsx h
            obtain ⟨x34, w33, hw33, h⟩ := h
            refine cv_ru_149 (As := [.int x12, .long (Int32.toInt64 a2), .long (Int32.toInt64 a3), .int x8]) (rest := [.ref (base + a0)]) hx hb hml hown hts hK hG hW (c_ru_divide l D cA base hw33) (kb_ru_divide hw33) ⟨Nat.le_of_ble_eq_true rfl, Nat.le_of_ble_eq_true rfl⟩ ⟨Nat.le_of_ble_eq_true rfl, Nat.le_of_ble_eq_true rfl⟩ rfl hl.1 rfl (Nat.le_of_ble_eq_true rfl) d_ru_doStep_155 (fun H locs hW => ?_)
            refine lv_iload hx hb d_ru_doStep_158 (lv_at hl 1 rfl) ?_
            replace h := bsx h
            obtain ⟨x36, w35, hw35, h⟩ := h
            refine cv_ru_145 (As := [.long x34, .int x8]) (rest := []) hx hb hml hown hts hK hG hW (c_ru_intOf l D cA base hw35) (kb_ru_intOf hw35) ⟨Nat.le_of_ble_eq_true rfl, Nat.le_of_ble_eq_true rfl⟩ ⟨Nat.le_of_ble_eq_true rfl, Nat.le_of_ble_eq_true rfl⟩ rfl hl.1 rfl (Nat.le_of_ble_eq_true rfl) d_ru_doStep_160 (fun H locs hW => ?_)
            cases h
            exact wo_iret hx hb hr hlk hW d_ru_doStep_163
          · rw [if_neg c32] at h
            by_cases c37 : x12 = (259 : Int32)
            · rw [if_pos c37] at h
              refine lv_lookup (off := 100) (tgt := 135) hx hb d_ru_doStep_35 (by decide) (by rw [c37]; rfl) (by decide) ?_
              refine lv_aload_n hx hb d_ru_doStep_135 rfl (lv_at hl 3 rfl) ?_
              refine lv_iload_n hx hb d_ru_doStep_136 rfl (lv_at hl 5 rfl) ?_
              refine lv_i2l hx hb d_ru_doStep_137 rfl ?_
              refine lv_lneg hx hb d_ru_doStep_138 ?_
              refine lv_iload hx hb d_ru_doStep_139 (lv_at hl 1 rfl) ?_
              replace h := bsx h
              obtain ⟨x39, w38, hw38, h⟩ := h
              refine cv_ru_145 (As := [.long (-(Int32.toInt64 a2)), .int x8]) (rest := []) hx hb hml hown hts hK hG hW (c_ru_intOf l D cA base hw38) (kb_ru_intOf hw38) ⟨Nat.le_of_ble_eq_true rfl, Nat.le_of_ble_eq_true rfl⟩ ⟨Nat.le_of_ble_eq_true rfl, Nat.le_of_ble_eq_true rfl⟩ rfl hl.1 rfl (Nat.le_of_ble_eq_true rfl) d_ru_doStep_141 (fun H locs hW => ?_)
              cases h
              exact wo_iret hx hb hr hlk hW d_ru_doStep_144
            · rw [if_neg c37] at h
              refine lv_lookup (off := 129) (tgt := 164) hx hb d_ru_doStep_35 (by decide) (by rw [lv_osw c13 (show (1 : Int32).toInt = 1 from rfl)]; rw [lv_osw c14 (show (2 : Int32).toInt = 2 from rfl)]; rw [lv_osw c22 (show (3 : Int32).toInt = 3 from rfl)]; rw [lv_osw c27 (show (37 : Int32).toInt = 37 from rfl)]; rw [lv_osw c32 (show (47 : Int32).toInt = 47 from rfl)]; rw [lv_osw c37 (show (259 : Int32).toInt = 259 from rfl)]; rfl) (by decide) ?_
              refine lv_aload_n hx hb d_ru_doStep_164 rfl (lv_at hl 3 rfl) ?_
              refine lv_aload_n hx hb d_ru_doStep_165 rfl (lv_at hl 3 rfl) ?_
              refine lv_iload hx hb d_ru_doStep_166 (lv_at hl 0 rfl) ?_
              refine lv_iload_n hx hb d_ru_doStep_168 rfl (lv_at hl 5 rfl) ?_
              refine lv_i2l hx hb d_ru_doStep_169 rfl ?_
              refine lv_iload_n hx hb d_ru_doStep_170 rfl (lv_at hl 6 rfl) ?_
              refine lv_i2l hx hb d_ru_doStep_171 rfl ?_
              replace h := bs2 h
              obtain ⟨x41, w40, hw40, h⟩ := h
              refine cv_ru_153 (As := [.int x12, .long (Int32.toInt64 a2), .long (Int32.toInt64 a3)]) (rest := [.ref (base + a0)]) hx hb hml hown hts hK hG hW (c_ru_combine l D cA base hw40) (kb_ru_combine hw40) ⟨Nat.le_of_ble_eq_true rfl, Nat.le_of_ble_eq_true rfl⟩ ⟨Nat.le_of_ble_eq_true rfl, Nat.le_of_ble_eq_true rfl⟩ rfl hl.1 rfl (Nat.le_of_ble_eq_true rfl) d_ru_doStep_172 (fun H locs hW => ?_)
              refine lv_iload hx hb d_ru_doStep_175 (lv_at hl 1 rfl) ?_
              replace h := bsx h
              obtain ⟨x43, w42, hw42, h⟩ := h
              refine cv_ru_145 (As := [.long x41, .int x8]) (rest := []) hx hb hml hown hts hK hG hW (c_ru_intOf l D cA base hw42) (kb_ru_intOf hw42) ⟨Nat.le_of_ble_eq_true rfl, Nat.le_of_ble_eq_true rfl⟩ ⟨Nat.le_of_ble_eq_true rfl, Nat.le_of_ble_eq_true rfl⟩ rfl hl.1 rfl (Nat.le_of_ble_eq_true rfl) d_ru_doStep_177 (fun H locs hW => ?_)
              cases h
              exact wo_iret hx hb hr hlk hW d_ru_doStep_180
set_option maxHeartbeats 4000000 in
set_option maxRecDepth 100000 in
theorem jx_ru_doStep_112 {p : Program} {l : Launch} {e : Env} {s : State} {m : MethodId} {args : Array Value} {below : List Frame} {meth : Method} {c : Code} {D : va_G} {cA : Nat → ClassId} {base : Nat} {E : String} {w' : WW} (C : cx b_ru_doStep (some .int) 7 y_ru_doStep.cls "doStep" p s m args meth c D cA base ∧ (∀ x ∈ c.exceptionTable.toList, ∀ k : Nat, covers x k = false) ∧ l.stackTraces = false)   : ∀ (y0 : Nat) (y4 : Int32) (w : WW), f_ru_doStep_112 y0 y4 w = some (.inr E, w') → ∀ (H : Heap) (locs : List Loc) (ls : Array Slot), wo_S D cls cA base s w H locs → lv_has ls 7 [(0, .ref (base + y0)), (4, .int y4)] → W p l e rx_ru_doStep s m args below meth c H locs 0 0 (XQ below (wo_X D cls cA base E w' rx_ru_doStep.cells rx_ru_doStep.slots) args s) (F0 m 112 ls []) := by
  obtain ⟨hx, hb, hr, hml, hown, hts, hlk, hnm, hK, hG⟩ := id C.1
  have hnt := C.2.1
  have hst := C.2.2
  intro y0 y4 w h H locs ls hW hl
  unfold f_ru_doStep_112 at h
  refine lv_aload_n hx hb d_ru_doStep_112 rfl (lv_at hl 0 rfl) ?_
  replace h := bs h
  obtain ⟨x18, hx18, h⟩ := h
  refine gf_ru_9 hx hb hts hown hK hG hW (gN_s hx18) d_ru_doStep_113 ?_
  refine lv_iload hx hb d_ru_doStep_116 (lv_at hl 1 rfl) ?_
  replace h := bs h
  obtain ⟨x19, hx19, h⟩ := h
  refine wo_iald hx hb hK hW (t := 0) rfl hx19 d_ru_doStep_118 ?_
  cases h
set_option maxHeartbeats 4000000 in
set_option maxRecDepth 100000 in
theorem x_ru_doStep (l : Launch) (hst : l.stackTraces = false) (D : va_G) (cA : Nat → ClassId) (base : Nat) {a0 : Nat} {a1 : Int32} {a2 : Int32} {a3 : Int32} {w w' : WW} {E : String} (h : f_ru_doStep a0 a1 a2 a3 w = some (.inr E, w')) : xt l D cls (wo_tys cA) cA base y_ru_doStep (Cond.code y_ru_doStep b_ru_doStep 7 (some .int) :: gt) rx_ru_doStep [.ref (base + a0), .int a1, .int a2, .int a3] w E w' rx_ru_doStep.cells rx_ru_doStep.slots := by
  refine xt_start (by decide) (Nat.le_of_ble_eq_true rfl) ?_
  intro p e s m below meth c ls hx hb hr hml hown hts hlk hnm hK hG hW hl hnt
  have C : cx b_ru_doStep (some .int) 7 y_ru_doStep.cls "doStep" p s m [.ref (base + a0), .int a1, .int a2, .int a3].toArray meth c D cA base ∧ (∀ x ∈ c.exceptionTable.toList, ∀ k : Nat, covers x k = false) ∧ l.stackTraces = false := ⟨⟨hx, hb, hr, hml, hown, hts, hlk, hnm, hK, hG⟩, hnt, hst⟩
  have hl : lv_has ls 7 [(0, .ref (base + a0)), (1, .int a1), (2, .int a2), (3, .int a3)] := hl
  unfold f_ru_doStep at h
  replace h := its h
  obtain ⟨-, h⟩ := h
  refine lv_aload_n hx hb d_ru_doStep_0 rfl (lv_at hl 0 rfl) ?_
  replace h := bs h
  obtain ⟨x1, hx1, h⟩ := h
  refine gf_ru_32 hx hb hts hown hK hG hW (gR_s hx1) d_ru_doStep_1 ?_
  replace h := bs h
  obtain ⟨x2, ex2, h⟩ := h
  subst ex2
  replace h := bs h
  obtain ⟨x3, hx3, h⟩ := h
  refine gf_ru_136 hx hb hts hown hK hG hW (gN_s hx3) d_ru_doStep_4 ?_
  refine lv_iload_n hx hb d_ru_doStep_7 rfl (lv_at hl 1 rfl) ?_
  replace h := bs h
  obtain ⟨x4, hx4, h⟩ := h
  refine wo_iald hx hb hK hW (t := 0) rfl hx4 d_ru_doStep_8 ?_
  refine lv_istore (lv' := [(4, .int x4), (0, .ref (base + a0)), (1, .int a1), (2, .int a2), (3, .int a3)]) hx hb d_ru_doStep_9 hl (by decide) rfl (fun ls hl => ?_)
  refine lv_aload_n hx hb d_ru_doStep_11 rfl (lv_at hl 1 rfl) ?_
  replace h := bs h
  obtain ⟨x5, hx5, h⟩ := h
  refine gf_ru_32 hx hb hts hown hK hG hW (gR_s hx5) d_ru_doStep_12 ?_
  replace h := bs h
  obtain ⟨x6, ex6, h⟩ := h
  subst ex6
  replace h := bs h
  obtain ⟨x7, hx7, h⟩ := h
  refine gf_ru_139 hx hb hts hown hK hG hW (gN_s hx7) d_ru_doStep_15 ?_
  refine lv_iload_n hx hb d_ru_doStep_18 rfl (lv_at hl 2 rfl) ?_
  replace h := bs h
  obtain ⟨x8, hx8, h⟩ := h
  refine wo_iald hx hb hK hW (t := 0) rfl hx8 d_ru_doStep_19 ?_
  refine lv_istore (lv' := [(5, .int x8), (4, .int x4), (0, .ref (base + a0)), (1, .int a1), (2, .int a2), (3, .int a3)]) hx hb d_ru_doStep_20 hl (by decide) rfl (fun ls hl => ?_)
  refine lv_aload_n hx hb d_ru_doStep_22 rfl (lv_at hl 2 rfl) ?_
  replace h := bs h
  obtain ⟨x9, hx9, h⟩ := h
  refine gf_ru_32 hx hb hts hown hK hG hW (gR_s hx9) d_ru_doStep_23 ?_
  replace h := bs h
  obtain ⟨x10, ex10, h⟩ := h
  subst ex10
  replace h := bs h
  obtain ⟨x11, hx11, h⟩ := h
  refine gf_ru_142 hx hb hts hown hK hG hW (gN_s hx11) d_ru_doStep_26 ?_
  refine lv_iload_n hx hb d_ru_doStep_29 rfl (lv_at hl 3 rfl) ?_
  replace h := bs h
  obtain ⟨x12, hx12, h⟩ := h
  refine wo_iald hx hb hK hW (t := 0) rfl hx12 d_ru_doStep_30 ?_
  refine lv_istore (lv' := [(6, .int x12), (5, .int x8), (4, .int x4), (0, .ref (base + a0)), (1, .int a1), (2, .int a2), (3, .int a3)]) hx hb d_ru_doStep_31 hl (by decide) rfl (fun ls hl => ?_)
  refine lv_iload hx hb d_ru_doStep_33 (lv_at hl 0 rfl) ?_
  by_cases c13 : x12 = (1 : Int32)
  · rw [if_pos c13] at h
    refine lv_lookup (off := 57) (tgt := 92) hx hb d_ru_doStep_35 (by decide) (by rw [c13]; rfl) (by decide) ?_
    refine lv_iload hx hb d_ru_doStep_92 (lv_at hl 2 rfl) ?_
    cases h
  · rw [if_neg c13] at h
    by_cases c14 : x12 = (2 : Int32)
    · rw [if_pos c14] at h
      refine lv_lookup (off := 60) (tgt := 95) hx hb d_ru_doStep_35 (by decide) (by rw [c14]; rfl) (by decide) ?_
      refine lv_aload_n hx hb d_ru_doStep_95 rfl (lv_at hl 3 rfl) ?_
      replace h := bs h
      obtain ⟨x15, hx15, h⟩ := h
      refine gf_ru_15 hx hb hts hown hK hG hW (gN_s hx15) d_ru_doStep_96 ?_
      refine lv_iload hx hb d_ru_doStep_99 (lv_at hl 2 rfl) ?_
      replace h := bs h
      obtain ⟨x16, hx16, h⟩ := h
      refine wo_zald hx hb hK hW (t := 2) rfl hx16 d_ru_doStep_101 ?_
      refine lv_if_eq (tgt := 112) hx hb d_ru_doStep_102 (by decide) (fun c17 => ?_) (fun c17 => ?_)
      · rw [if_pos c17] at h
        exact jx_ru_doStep_112 C a0 x4 w h _ _ _ hW (lv_sub hl [3, 2] rfl)
      · rw [if_neg c17] at h
        refine lv_aload_n hx hb d_ru_doStep_105 rfl (lv_at hl 3 rfl) ?_
        refine lv_iconst (v := (1 : Int32)) hx hb d_ru_doStep_106 (by decide) ?_
        refine lv_iload hx hb d_ru_doStep_107 (lv_at hl 1 rfl) ?_
        rcases bsy h with hw20 | ⟨x21, w20, hw20, hnw20⟩
        · exact xv_ru_117 (As := [.int (1 : Int32), .int x8]) (rest := []) hx hb hml hown hts hK hG hW (x_ru_fail l hst D cA base hw20) (kb_ru_fail hw20) ⟨Nat.le_of_ble_eq_true rfl, Nat.le_of_ble_eq_true rfl⟩ ⟨Nat.le_of_ble_eq_true rfl, Nat.le_of_ble_eq_true rfl⟩ rfl hl.1 rfl (Nat.le_of_ble_eq_true rfl) d_ru_doStep_109 (fun H locs q ce hW h1 h2 h3 => wo_xout hnt hlk hW h1 h2 h3 (Nat.le_of_ble_eq_true rfl) (Nat.le_of_ble_eq_true rfl))
        clear h
        have h := hnw20
        clear hnw20
        refine cv_ru_117 (As := [.int (1 : Int32), .int x8]) (rest := []) hx hb hml hown hts hK hG hW (c_ru_fail l D cA base hw20) (kb_ru_fail hw20) ⟨Nat.le_of_ble_eq_true rfl, Nat.le_of_ble_eq_true rfl⟩ ⟨Nat.le_of_ble_eq_true rfl, Nat.le_of_ble_eq_true rfl⟩ rfl hl.1 rfl (Nat.le_of_ble_eq_true rfl) d_ru_doStep_109 (fun H locs hW => ?_)
        exact jx_ru_doStep_112 C a0 x4 w20 h _ _ _ hW (lv_sub hl [3, 2] rfl)
    · rw [if_neg c14] at h
      by_cases c22 : x12 = (3 : Int32)
      · rw [if_pos c22] at h
        refine lv_lookup (off := 85) (tgt := 120) hx hb d_ru_doStep_35 (by decide) (by rw [c22]; rfl) (by decide) ?_
        refine lv_aload_n hx hb d_ru_doStep_120 rfl (lv_at hl 3 rfl) ?_
        replace h := bs h
        obtain ⟨x23, hx23, h⟩ := h
        refine gf_ru_19 hx hb hts hown hK hG hW (gN_s hx23) d_ru_doStep_121 ?_
        refine lv_aload_n hx hb d_ru_doStep_124 rfl (lv_at hl 3 rfl) ?_
        refine lv_iload hx hb d_ru_doStep_125 (lv_at hl 2 rfl) ?_
        refine lv_iload_n hx hb d_ru_doStep_127 rfl (lv_at hl 5 rfl) ?_
        refine lv_iload hx hb d_ru_doStep_128 (lv_at hl 1 rfl) ?_
        rcases bsy h with hw24 | ⟨x25, w24, hw24, hnw24⟩
        · exact xv_ru_123 (As := [.int x4, .int a2, .int x8]) (rest := [.ref (base + x23)]) hx hb hml hown hts hK hG hW (x_ru_cellOf l hst D cA base hw24) (kb_ru_cellOf hw24) ⟨Nat.le_of_ble_eq_true rfl, Nat.le_of_ble_eq_true rfl⟩ ⟨Nat.le_of_ble_eq_true rfl, Nat.le_of_ble_eq_true rfl⟩ rfl hl.1 rfl (Nat.le_of_ble_eq_true rfl) d_ru_doStep_130 (fun H locs q ce hW h1 h2 h3 => wo_xout hnt hlk hW h1 h2 h3 (Nat.le_of_ble_eq_true rfl) (Nat.le_of_ble_eq_true rfl))
        clear h
        have h := hnw24
        clear hnw24
        refine cv_ru_123 (As := [.int x4, .int a2, .int x8]) (rest := [.ref (base + x23)]) hx hb hml hown hts hK hG hW (c_ru_cellOf l D cA base hw24) (kb_ru_cellOf hw24) ⟨Nat.le_of_ble_eq_true rfl, Nat.le_of_ble_eq_true rfl⟩ ⟨Nat.le_of_ble_eq_true rfl, Nat.le_of_ble_eq_true rfl⟩ rfl hl.1 rfl (Nat.le_of_ble_eq_true rfl) d_ru_doStep_130 (fun H locs hW => ?_)
        replace h := bs h
        obtain ⟨x26, hx26, h⟩ := h
        refine wo_iald hx hb hK hW (t := 0) rfl hx26 d_ru_doStep_133 ?_
        cases h
      · rw [if_neg c22] at h
        by_cases c27 : x12 = (37 : Int32)
        · rw [if_pos c27] at h
          refine lv_lookup (off := 110) (tgt := 145) hx hb d_ru_doStep_35 (by decide) (by rw [c27]; rfl) (by decide) ?_
          refine lv_aload_n hx hb d_ru_doStep_145 rfl (lv_at hl 3 rfl) ?_
          refine lv_aload_n hx hb d_ru_doStep_146 rfl (lv_at hl 3 rfl) ?_
          refine lv_iload hx hb d_ru_doStep_147 (lv_at hl 0 rfl) ?_
          refine lv_iload_n hx hb d_ru_doStep_149 rfl (lv_at hl 5 rfl) ?_
          refine lv_i2l hx hb d_ru_doStep_150 rfl ?_
          refine lv_iload_n hx hb d_ru_doStep_151 rfl (lv_at hl 6 rfl) ?_
          refine lv_i2l hx hb d_ru_doStep_152 rfl ?_
          refine lv_iload hx hb d_ru_doStep_153 (lv_at hl 1 rfl) ?_
          rcases bsy h with hw28 | ⟨x29, w28, hw28, hnw28⟩
          · exact xv_ru_149 (As := [.int x12, .long (Int32.toInt64 a2), .long (Int32.toInt64 a3), .int x8]) (rest := [.ref (base + a0)]) hx hb hml hown hts hK hG hW (x_ru_divide l hst D cA base hw28) (kb_ru_divide hw28) ⟨Nat.le_of_ble_eq_true rfl, Nat.le_of_ble_eq_true rfl⟩ ⟨Nat.le_of_ble_eq_true rfl, Nat.le_of_ble_eq_true rfl⟩ rfl hl.1 rfl (Nat.le_of_ble_eq_true rfl) d_ru_doStep_155 (fun H locs q ce hW h1 h2 h3 => wo_xout hnt hlk hW h1 h2 h3 (Nat.le_of_ble_eq_true rfl) (Nat.le_of_ble_eq_true rfl))
          clear h
          have h := hnw28
          clear hnw28
          refine cv_ru_149 (As := [.int x12, .long (Int32.toInt64 a2), .long (Int32.toInt64 a3), .int x8]) (rest := [.ref (base + a0)]) hx hb hml hown hts hK hG hW (c_ru_divide l D cA base hw28) (kb_ru_divide hw28) ⟨Nat.le_of_ble_eq_true rfl, Nat.le_of_ble_eq_true rfl⟩ ⟨Nat.le_of_ble_eq_true rfl, Nat.le_of_ble_eq_true rfl⟩ rfl hl.1 rfl (Nat.le_of_ble_eq_true rfl) d_ru_doStep_155 (fun H locs hW => ?_)
          refine lv_iload hx hb d_ru_doStep_158 (lv_at hl 1 rfl) ?_
          rcases bsy h with hw30 | ⟨x31, w30, hw30, hnw30⟩
          · exact xv_ru_145 (As := [.long x29, .int x8]) (rest := []) hx hb hml hown hts hK hG hW (x_ru_intOf l hst D cA base hw30) (kb_ru_intOf hw30) ⟨Nat.le_of_ble_eq_true rfl, Nat.le_of_ble_eq_true rfl⟩ ⟨Nat.le_of_ble_eq_true rfl, Nat.le_of_ble_eq_true rfl⟩ rfl hl.1 rfl (Nat.le_of_ble_eq_true rfl) d_ru_doStep_160 (fun H locs q ce hW h1 h2 h3 => wo_xout hnt hlk hW h1 h2 h3 (Nat.le_of_ble_eq_true rfl) (Nat.le_of_ble_eq_true rfl))
          clear h
          have h := hnw30
          clear hnw30
          refine cv_ru_145 (As := [.long x29, .int x8]) (rest := []) hx hb hml hown hts hK hG hW (c_ru_intOf l D cA base hw30) (kb_ru_intOf hw30) ⟨Nat.le_of_ble_eq_true rfl, Nat.le_of_ble_eq_true rfl⟩ ⟨Nat.le_of_ble_eq_true rfl, Nat.le_of_ble_eq_true rfl⟩ rfl hl.1 rfl (Nat.le_of_ble_eq_true rfl) d_ru_doStep_160 (fun H locs hW => ?_)
          cases h
        · rw [if_neg c27] at h
          by_cases c32 : x12 = (47 : Int32)
          · rw [if_pos c32] at h
            refine lv_lookup (off := 110) (tgt := 145) hx hb d_ru_doStep_35 (by decide) (by rw [c32]; rfl) (by decide) ?_
            refine lv_aload_n hx hb d_ru_doStep_145 rfl (lv_at hl 3 rfl) ?_
            refine lv_aload_n hx hb d_ru_doStep_146 rfl (lv_at hl 3 rfl) ?_
            refine lv_iload hx hb d_ru_doStep_147 (lv_at hl 0 rfl) ?_
            refine lv_iload_n hx hb d_ru_doStep_149 rfl (lv_at hl 5 rfl) ?_
            refine lv_i2l hx hb d_ru_doStep_150 rfl ?_
            refine lv_iload_n hx hb d_ru_doStep_151 rfl (lv_at hl 6 rfl) ?_
            refine lv_i2l hx hb d_ru_doStep_152 rfl ?_
            refine lv_iload hx hb d_ru_doStep_153 (lv_at hl 1 rfl) ?_
            rcases bsy h with hw33 | ⟨x34, w33, hw33, hnw33⟩
            · exact xv_ru_149 (As := [.int x12, .long (Int32.toInt64 a2), .long (Int32.toInt64 a3), .int x8]) (rest := [.ref (base + a0)]) hx hb hml hown hts hK hG hW (x_ru_divide l hst D cA base hw33) (kb_ru_divide hw33) ⟨Nat.le_of_ble_eq_true rfl, Nat.le_of_ble_eq_true rfl⟩ ⟨Nat.le_of_ble_eq_true rfl, Nat.le_of_ble_eq_true rfl⟩ rfl hl.1 rfl (Nat.le_of_ble_eq_true rfl) d_ru_doStep_155 (fun H locs q ce hW h1 h2 h3 => wo_xout hnt hlk hW h1 h2 h3 (Nat.le_of_ble_eq_true rfl) (Nat.le_of_ble_eq_true rfl))
            clear h
            have h := hnw33
            clear hnw33
            refine cv_ru_149 (As := [.int x12, .long (Int32.toInt64 a2), .long (Int32.toInt64 a3), .int x8]) (rest := [.ref (base + a0)]) hx hb hml hown hts hK hG hW (c_ru_divide l D cA base hw33) (kb_ru_divide hw33) ⟨Nat.le_of_ble_eq_true rfl, Nat.le_of_ble_eq_true rfl⟩ ⟨Nat.le_of_ble_eq_true rfl, Nat.le_of_ble_eq_true rfl⟩ rfl hl.1 rfl (Nat.le_of_ble_eq_true rfl) d_ru_doStep_155 (fun H locs hW => ?_)
            refine lv_iload hx hb d_ru_doStep_158 (lv_at hl 1 rfl) ?_
            rcases bsy h with hw35 | ⟨x36, w35, hw35, hnw35⟩
            · exact xv_ru_145 (As := [.long x34, .int x8]) (rest := []) hx hb hml hown hts hK hG hW (x_ru_intOf l hst D cA base hw35) (kb_ru_intOf hw35) ⟨Nat.le_of_ble_eq_true rfl, Nat.le_of_ble_eq_true rfl⟩ ⟨Nat.le_of_ble_eq_true rfl, Nat.le_of_ble_eq_true rfl⟩ rfl hl.1 rfl (Nat.le_of_ble_eq_true rfl) d_ru_doStep_160 (fun H locs q ce hW h1 h2 h3 => wo_xout hnt hlk hW h1 h2 h3 (Nat.le_of_ble_eq_true rfl) (Nat.le_of_ble_eq_true rfl))
            clear h
            have h := hnw35
            clear hnw35
            refine cv_ru_145 (As := [.long x34, .int x8]) (rest := []) hx hb hml hown hts hK hG hW (c_ru_intOf l D cA base hw35) (kb_ru_intOf hw35) ⟨Nat.le_of_ble_eq_true rfl, Nat.le_of_ble_eq_true rfl⟩ ⟨Nat.le_of_ble_eq_true rfl, Nat.le_of_ble_eq_true rfl⟩ rfl hl.1 rfl (Nat.le_of_ble_eq_true rfl) d_ru_doStep_160 (fun H locs hW => ?_)
            cases h
          · rw [if_neg c32] at h
            by_cases c37 : x12 = (259 : Int32)
            · rw [if_pos c37] at h
              refine lv_lookup (off := 100) (tgt := 135) hx hb d_ru_doStep_35 (by decide) (by rw [c37]; rfl) (by decide) ?_
              refine lv_aload_n hx hb d_ru_doStep_135 rfl (lv_at hl 3 rfl) ?_
              refine lv_iload_n hx hb d_ru_doStep_136 rfl (lv_at hl 5 rfl) ?_
              refine lv_i2l hx hb d_ru_doStep_137 rfl ?_
              refine lv_lneg hx hb d_ru_doStep_138 ?_
              refine lv_iload hx hb d_ru_doStep_139 (lv_at hl 1 rfl) ?_
              rcases bsy h with hw38 | ⟨x39, w38, hw38, hnw38⟩
              · exact xv_ru_145 (As := [.long (-(Int32.toInt64 a2)), .int x8]) (rest := []) hx hb hml hown hts hK hG hW (x_ru_intOf l hst D cA base hw38) (kb_ru_intOf hw38) ⟨Nat.le_of_ble_eq_true rfl, Nat.le_of_ble_eq_true rfl⟩ ⟨Nat.le_of_ble_eq_true rfl, Nat.le_of_ble_eq_true rfl⟩ rfl hl.1 rfl (Nat.le_of_ble_eq_true rfl) d_ru_doStep_141 (fun H locs q ce hW h1 h2 h3 => wo_xout hnt hlk hW h1 h2 h3 (Nat.le_of_ble_eq_true rfl) (Nat.le_of_ble_eq_true rfl))
              clear h
              have h := hnw38
              clear hnw38
              refine cv_ru_145 (As := [.long (-(Int32.toInt64 a2)), .int x8]) (rest := []) hx hb hml hown hts hK hG hW (c_ru_intOf l D cA base hw38) (kb_ru_intOf hw38) ⟨Nat.le_of_ble_eq_true rfl, Nat.le_of_ble_eq_true rfl⟩ ⟨Nat.le_of_ble_eq_true rfl, Nat.le_of_ble_eq_true rfl⟩ rfl hl.1 rfl (Nat.le_of_ble_eq_true rfl) d_ru_doStep_141 (fun H locs hW => ?_)
              cases h
            · rw [if_neg c37] at h
              refine lv_lookup (off := 129) (tgt := 164) hx hb d_ru_doStep_35 (by decide) (by rw [lv_osw c13 (show (1 : Int32).toInt = 1 from rfl)]; rw [lv_osw c14 (show (2 : Int32).toInt = 2 from rfl)]; rw [lv_osw c22 (show (3 : Int32).toInt = 3 from rfl)]; rw [lv_osw c27 (show (37 : Int32).toInt = 37 from rfl)]; rw [lv_osw c32 (show (47 : Int32).toInt = 47 from rfl)]; rw [lv_osw c37 (show (259 : Int32).toInt = 259 from rfl)]; rfl) (by decide) ?_
              refine lv_aload_n hx hb d_ru_doStep_164 rfl (lv_at hl 3 rfl) ?_
              refine lv_aload_n hx hb d_ru_doStep_165 rfl (lv_at hl 3 rfl) ?_
              refine lv_iload hx hb d_ru_doStep_166 (lv_at hl 0 rfl) ?_
              refine lv_iload_n hx hb d_ru_doStep_168 rfl (lv_at hl 5 rfl) ?_
              refine lv_i2l hx hb d_ru_doStep_169 rfl ?_
              refine lv_iload_n hx hb d_ru_doStep_170 rfl (lv_at hl 6 rfl) ?_
              refine lv_i2l hx hb d_ru_doStep_171 rfl ?_
              replace h := bs2 h
              obtain ⟨x41, w40, hw40, h⟩ := h
              refine cv_ru_153 (As := [.int x12, .long (Int32.toInt64 a2), .long (Int32.toInt64 a3)]) (rest := [.ref (base + a0)]) hx hb hml hown hts hK hG hW (c_ru_combine l D cA base hw40) (kb_ru_combine hw40) ⟨Nat.le_of_ble_eq_true rfl, Nat.le_of_ble_eq_true rfl⟩ ⟨Nat.le_of_ble_eq_true rfl, Nat.le_of_ble_eq_true rfl⟩ rfl hl.1 rfl (Nat.le_of_ble_eq_true rfl) d_ru_doStep_172 (fun H locs hW => ?_)
              refine lv_iload hx hb d_ru_doStep_175 (lv_at hl 1 rfl) ?_
              rcases bsy h with hw42 | ⟨x43, w42, hw42, hnw42⟩
              · exact xv_ru_145 (As := [.long x41, .int x8]) (rest := []) hx hb hml hown hts hK hG hW (x_ru_intOf l hst D cA base hw42) (kb_ru_intOf hw42) ⟨Nat.le_of_ble_eq_true rfl, Nat.le_of_ble_eq_true rfl⟩ ⟨Nat.le_of_ble_eq_true rfl, Nat.le_of_ble_eq_true rfl⟩ rfl hl.1 rfl (Nat.le_of_ble_eq_true rfl) d_ru_doStep_177 (fun H locs q ce hW h1 h2 h3 => wo_xout hnt hlk hW h1 h2 h3 (Nat.le_of_ble_eq_true rfl) (Nat.le_of_ble_eq_true rfl))
              clear h
              have h := hnw42
              clear hnw42
              refine cv_ru_145 (As := [.long x41, .int x8]) (rest := []) hx hb hml hown hts hK hG hW (c_ru_intOf l D cA base hw42) (kb_ru_intOf hw42) ⟨Nat.le_of_ble_eq_true rfl, Nat.le_of_ble_eq_true rfl⟩ ⟨Nat.le_of_ble_eq_true rfl, Nat.le_of_ble_eq_true rfl⟩ rfl hl.1 rfl (Nat.le_of_ble_eq_true rfl) d_ru_doStep_177 (fun H locs hW => ?_)
              cases h
theorem cv_ru_129 {p : Program} {l : Launch} {e : Env} {R : Room} {s : State} {m : MethodId} {args : Array Value} {below : List Frame} {meth : Method} {c : Code} {H : Heap} {locs : List Loc} {cells slots : Nat} {Q : State → Prop} {D : va_G} {cA : Nat → ClassId} {base : Nat} {w w' : WW} {cc : ByteArray} {pc nL : Nat} {ls : Array Slot} {rest st0 As : List Value} {ov : Option Value} {b : Nat} (hx : p.tables.exec = Jvm.exec) (hb : c.code = cc) (hml : c.maxLocals = nL) (hown : s.vm.findClass Rc_ru = some m.cls) (hts : ∀ w ∈ gt, w.before args s = true) (hK : va_K D cls (wo_tys cA) s) (hG : wo_G cA base s) (hW : wo_S D cls cA base s w H locs) (hM : mt l D cls (wo_tys cA) cA base y_pg_growthOf (Cond.code y_pg_growthOf b_pg_growthOf 3 (some .int) :: gt) rm_pg_growthOf (.ref (base + b) :: As) w ov w' rm_pg_growthOf.cells rm_pg_growthOf.slots) (hkb : kb w b 3 = true) (hR : rm_pg_growthOf.frames + 1 ≤ R.frames ∧ 8 + (3 + 11) + rm_pg_growthOf.locals ≤ R.locals) (hf : cells + rm_pg_growthOf.cells ≤ R.cells ∧ slots + rm_pg_growthOf.slots ≤ R.slots) (hn : As.length = 1) (hsz : ls.size = nL) (hst : st0 = As.reverse ++ .ref (base + b) :: rest) (hcat : (rest.map fun v => v.category).sum ≤ 8) (hdg : decode cc pc = .ok (.invokevirtual 129, 3)) (kk : ∀ (H1 : Heap) (locs1 : List Loc), wo_S D cls cA base s w' H1 locs1 → W p l e R s m args below meth c H1 locs1 (cells + rm_pg_growthOf.cells) (slots + rm_pg_growthOf.slots) Q (F0 m (pc + 3) ls (ov.toList ++ rest))) : W p l e R s m args below meth c H locs cells slots Q (F0 m pc ls st0) :=
  wo_callV (C := Rc_pg) hx hb hml hown hts hK hG hW hM hkb rfl (gt_of (i := 778) (by decide +kernel) (by decide +kernel)) (gt_of (i := 779) (by decide +kernel) (by decide +kernel)) (gt_of (i := 780) (by decide +kernel) (by decide +kernel)) (gt_of (i := 4) (by decide +kernel) (by decide +kernel)) (gt_of (i := 781) (by decide +kernel) (by decide +kernel)) (by decide +kernel) hR hf hn hsz hst hcat hdg kk
theorem xv_ru_133 {p : Program} {l : Launch} {e : Env} {R : Room} {s : State} {m : MethodId} {args : Array Value} {below : List Frame} {meth : Method} {c : Code} {H : Heap} {locs : List Loc} {cells slots : Nat} {Q : State → Prop} {D : va_G} {cA : Nat → ClassId} {base : Nat} {w w' : WW} {cc : ByteArray} {pc nL : Nat} {ls : Array Slot} {rest st0 As : List Value} {E : String} {b : Nat} (hx : p.tables.exec = Jvm.exec) (hb : c.code = cc) (hml : c.maxLocals = nL) (hown : s.vm.findClass Rc_ru = some m.cls) (hts : ∀ w ∈ gt, w.before args s = true) (hK : va_K D cls (wo_tys cA) s) (hG : wo_G cA base s) (hW : wo_S D cls cA base s w H locs) (hM : xt l D cls (wo_tys cA) cA base y_ru_doStep (Cond.code y_ru_doStep b_ru_doStep 7 (some .int) :: gt) rx_ru_doStep (.ref (base + b) :: As) w E w' rx_ru_doStep.cells rx_ru_doStep.slots) (hkb : kb w b 5 = true) (hR : rx_ru_doStep.frames + 1 ≤ R.frames ∧ 8 + (7 + 11) + rx_ru_doStep.locals ≤ R.locals) (hf : cells + rx_ru_doStep.cells ≤ R.cells ∧ slots + rx_ru_doStep.slots ≤ R.slots) (hn : As.length = 3) (hsz : ls.size = nL) (hst : st0 = As.reverse ++ .ref (base + b) :: rest) (hcat : (rest.map fun v => v.category).sum ≤ 8) (hdg : decode cc pc = .ok (.invokevirtual 133, 3)) (kk : ∀ (H1 : Heap) (locs1 : List Loc) (q : Addr) (ce : Cell), wo_S D cls cA base s w' H1 locs1 → H1[q]? = some ce → ce.vm = .none → s.vm.findClass E = some ce.cls → XW p l e R s m args below meth c H1 locs1 (cells + rx_ru_doStep.cells) (slots + rx_ru_doStep.slots) Q (F0 m pc ls rest) q) : W p l e R s m args below meth c H locs cells slots Q (F0 m pc ls st0) :=
  wo_xcallV (C := Rc_ru) hx hb hml hown hts hK hG hW hM hkb rfl (gt_of (i := 782) (by decide +kernel) (by decide +kernel)) (gt_of (i := 784) (by decide +kernel) (by decide +kernel)) (gt_sel (i := 26) (by decide +kernel) (by decide +kernel)) (gt_of (i := 6) (by decide +kernel) (by decide +kernel)) (gt_of (i := 785) (by decide +kernel) (by decide +kernel)) (by decide +kernel) hR hf hn hsz hst hcat hdg kk
theorem cv_ru_133 {p : Program} {l : Launch} {e : Env} {R : Room} {s : State} {m : MethodId} {args : Array Value} {below : List Frame} {meth : Method} {c : Code} {H : Heap} {locs : List Loc} {cells slots : Nat} {Q : State → Prop} {D : va_G} {cA : Nat → ClassId} {base : Nat} {w w' : WW} {cc : ByteArray} {pc nL : Nat} {ls : Array Slot} {rest st0 As : List Value} {ov : Option Value} {b : Nat} (hx : p.tables.exec = Jvm.exec) (hb : c.code = cc) (hml : c.maxLocals = nL) (hown : s.vm.findClass Rc_ru = some m.cls) (hts : ∀ w ∈ gt, w.before args s = true) (hK : va_K D cls (wo_tys cA) s) (hG : wo_G cA base s) (hW : wo_S D cls cA base s w H locs) (hM : mt l D cls (wo_tys cA) cA base y_ru_doStep (Cond.code y_ru_doStep b_ru_doStep 7 (some .int) :: gt) rm_ru_doStep (.ref (base + b) :: As) w ov w' rm_ru_doStep.cells rm_ru_doStep.slots) (hkb : kb w b 5 = true) (hR : rm_ru_doStep.frames + 1 ≤ R.frames ∧ 8 + (7 + 11) + rm_ru_doStep.locals ≤ R.locals) (hf : cells + rm_ru_doStep.cells ≤ R.cells ∧ slots + rm_ru_doStep.slots ≤ R.slots) (hn : As.length = 3) (hsz : ls.size = nL) (hst : st0 = As.reverse ++ .ref (base + b) :: rest) (hcat : (rest.map fun v => v.category).sum ≤ 8) (hdg : decode cc pc = .ok (.invokevirtual 133, 3)) (kk : ∀ (H1 : Heap) (locs1 : List Loc), wo_S D cls cA base s w' H1 locs1 → W p l e R s m args below meth c H1 locs1 (cells + rm_ru_doStep.cells) (slots + rm_ru_doStep.slots) Q (F0 m (pc + 3) ls (ov.toList ++ rest))) : W p l e R s m args below meth c H locs cells slots Q (F0 m pc ls st0) :=
  wo_callV (C := Rc_ru) hx hb hml hown hts hK hG hW hM hkb rfl (gt_of (i := 782) (by decide +kernel) (by decide +kernel)) (gt_of (i := 784) (by decide +kernel) (by decide +kernel)) (gt_sel (i := 26) (by decide +kernel) (by decide +kernel)) (gt_of (i := 6) (by decide +kernel) (by decide +kernel)) (gt_of (i := 785) (by decide +kernel) (by decide +kernel)) (by decide +kernel) hR hf hn hsz hst hcat hdg kk
abbrev b_ru_workOut : ByteArray := prog_6_method_14_code
def y_ru_workOut : MethodName := ⟨"AlarmForge$Runner", "workOut", "(III)I"⟩
def rm_ru_workOut : Room := { frames := 9, cells := 0, slots := 0, locals := 174 }
def rx_ru_workOut : Room := { frames := 9, cells := 1, slots := 6, locals := 174 }
theorem d_ru_workOut_0 : decode b_ru_workOut 0 = .ok (.iload_n 3, 1) := by decide +kernel
theorem d_ru_workOut_1 : decode b_ru_workOut 1 = .ok (.istore 4, 2) := by decide +kernel
theorem d_ru_workOut_3 : decode b_ru_workOut 3 = .ok (.iload_n 1, 1) := by decide +kernel
theorem d_ru_workOut_4 : decode b_ru_workOut 4 = .ok (.istore 5, 2) := by decide +kernel
theorem d_ru_workOut_6 : decode b_ru_workOut 6 = .ok (.iload 5, 2) := by decide +kernel
theorem d_ru_workOut_8 : decode b_ru_workOut 8 = .ok (.iload_n 2, 1) := by decide +kernel
theorem d_ru_workOut_9 : decode b_ru_workOut 9 = .ok (.if_icmp .ge (69), 3) := by decide +kernel
theorem d_ru_workOut_12 : decode b_ru_workOut 12 = .ok (.iload 4, 2) := by decide +kernel
theorem d_ru_workOut_14 : decode b_ru_workOut 14 = .ok (.aload_n 0, 1) := by decide +kernel
theorem d_ru_workOut_15 : decode b_ru_workOut 15 = .ok (.getfield 32, 3) := by decide +kernel
theorem d_ru_workOut_18 : decode b_ru_workOut 18 = .ok (.iload 5, 2) := by decide +kernel
theorem d_ru_workOut_20 : decode b_ru_workOut 20 = .ok (.invokevirtual 129, 3) := by decide +kernel
theorem d_ru_workOut_23 : decode b_ru_workOut 23 = .ok (.iadd, 1) := by decide +kernel
theorem d_ru_workOut_24 : decode b_ru_workOut 24 = .ok (.istore 4, 2) := by decide +kernel
theorem d_ru_workOut_26 : decode b_ru_workOut 26 = .ok (.iload 4, 2) := by decide +kernel
theorem d_ru_workOut_28 : decode b_ru_workOut 28 = .ok (.iconst 1, 1) := by decide +kernel
theorem d_ru_workOut_29 : decode b_ru_workOut 29 = .ok (.if_icmp .lt (10), 3) := by decide +kernel
theorem d_ru_workOut_32 : decode b_ru_workOut 32 = .ok (.iload 4, 2) := by decide +kernel
theorem d_ru_workOut_34 : decode b_ru_workOut 34 = .ok (.bipush (25), 2) := by decide +kernel
theorem d_ru_workOut_36 : decode b_ru_workOut 36 = .ok (.if_icmp .lt (5), 3) := by decide +kernel
theorem d_ru_workOut_39 : decode b_ru_workOut 39 = .ok (.iconst 0, 1) := by decide +kernel
theorem d_ru_workOut_40 : decode b_ru_workOut 40 = .ok (.ireturn, 1) := by decide +kernel
theorem d_ru_workOut_41 : decode b_ru_workOut 41 = .ok (.aload_n 0, 1) := by decide +kernel
theorem d_ru_workOut_42 : decode b_ru_workOut 42 = .ok (.getfield 22, 3) := by decide +kernel
theorem d_ru_workOut_45 : decode b_ru_workOut 45 = .ok (.iload 4, 2) := by decide +kernel
theorem d_ru_workOut_47 : decode b_ru_workOut 47 = .ok (.iconst 1, 1) := by decide +kernel
theorem d_ru_workOut_48 : decode b_ru_workOut 48 = .ok (.isub, 1) := by decide +kernel
theorem d_ru_workOut_49 : decode b_ru_workOut 49 = .ok (.aload_n 0, 1) := by decide +kernel
theorem d_ru_workOut_50 : decode b_ru_workOut 50 = .ok (.iload 5, 2) := by decide +kernel
theorem d_ru_workOut_52 : decode b_ru_workOut 52 = .ok (.aload_n 0, 1) := by decide +kernel
theorem d_ru_workOut_53 : decode b_ru_workOut 53 = .ok (.getfield 22, 3) := by decide +kernel
theorem d_ru_workOut_56 : decode b_ru_workOut 56 = .ok (.iload 4, 2) := by decide +kernel
theorem d_ru_workOut_58 : decode b_ru_workOut 58 = .ok (.iconst 1, 1) := by decide +kernel
theorem d_ru_workOut_59 : decode b_ru_workOut 59 = .ok (.isub, 1) := by decide +kernel
theorem d_ru_workOut_60 : decode b_ru_workOut 60 = .ok (.iaload, 1) := by decide +kernel
theorem d_ru_workOut_61 : decode b_ru_workOut 61 = .ok (.aload_n 0, 1) := by decide +kernel
theorem d_ru_workOut_62 : decode b_ru_workOut 62 = .ok (.getfield 22, 3) := by decide +kernel
theorem d_ru_workOut_65 : decode b_ru_workOut 65 = .ok (.iload 4, 2) := by decide +kernel
theorem d_ru_workOut_67 : decode b_ru_workOut 67 = .ok (.iaload, 1) := by decide +kernel
theorem d_ru_workOut_68 : decode b_ru_workOut 68 = .ok (.invokevirtual 133, 3) := by decide +kernel
theorem d_ru_workOut_71 : decode b_ru_workOut 71 = .ok (.iastore, 1) := by decide +kernel
theorem d_ru_workOut_72 : decode b_ru_workOut 72 = .ok (.iinc 5 (1), 3) := by decide +kernel
theorem d_ru_workOut_75 : decode b_ru_workOut 75 = .ok (.goto (-69), 3) := by decide +kernel
theorem d_ru_workOut_78 : decode b_ru_workOut 78 = .ok (.aload_n 0, 1) := by decide +kernel
theorem d_ru_workOut_79 : decode b_ru_workOut 79 = .ok (.getfield 22, 3) := by decide +kernel
theorem d_ru_workOut_82 : decode b_ru_workOut 82 = .ok (.iload_n 3, 1) := by decide +kernel
theorem d_ru_workOut_83 : decode b_ru_workOut 83 = .ok (.iaload, 1) := by decide +kernel
theorem d_ru_workOut_84 : decode b_ru_workOut 84 = .ok (.ireturn, 1) := by decide +kernel
theorem kb_ru_workOut {a0 : Nat} {a1 : Int32} {a2 : Int32} {a3 : Int32} {w : WW} {r : ((Int32 ⊕ String) × WW)} (h : f_ru_workOut a0 a1 a2 a3 w = some r) : kb w a0 5 = true := (its h).1
set_option maxHeartbeats 4000000 in
set_option maxRecDepth 100000 in
theorem j_ru_workOut_39 {p : Program} {l : Launch} {e : Env} {s : State} {m : MethodId} {args : Array Value} {below : List Frame} {meth : Method} {c : Code} {D : va_G} {cA : Nat → ClassId} {base : Nat} {r : Int32} {w' : WW} (C : cx b_ru_workOut (some .int) 6 y_ru_workOut.cls "workOut" p s m args meth c D cA base)   : ∀  (w : WW), f_ru_workOut_39  w = some (.inl r, w') → ∀ (H : Heap) (locs : List Loc) (ls : Array Slot), wo_S D cls cA base s w H locs → lv_has ls 6 [] → W p l e rm_ru_workOut s m args below meth c H locs 0 0 (MQ below (wo_Q D cls cA base (some (.int r)) w') args s rm_ru_workOut.cells rm_ru_workOut.slots (wo_B base)) (F0 m 39 ls []) := by
  obtain ⟨hx, hb, hr, hml, hown, hts, hlk, hnm, hK, hG⟩ := id C
  intro  w h H locs ls hW hl
  unfold f_ru_workOut_39 at h
  refine lv_iconst (v := (0 : Int32)) hx hb d_ru_workOut_39 (by decide) ?_
  cases h
  exact wo_iret hx hb hr hlk hW d_ru_workOut_40
set_option maxHeartbeats 4000000 in
set_option maxRecDepth 100000 in
theorem j_ru_workOut_6 {p : Program} {l : Launch} {e : Env} {s : State} {m : MethodId} {args : Array Value} {below : List Frame} {meth : Method} {c : Code} {D : va_G} {cA : Nat → ClassId} {base : Nat} {r : Int32} {w' : WW} (C : cx b_ru_workOut (some .int) 6 y_ru_workOut.cls "workOut" p s m args meth c D cA base)   : ∀ n : Nat, ∀ (y0 : Nat) (y2 : Int32) (y3 : Int32) (y4 : Int32) (y5 : Int32) (w : WW), f_ru_workOut_6 n y0 y2 y3 y4 y5 w = some (.inl r, w') → ∀ (H : Heap) (locs : List Loc) (ls : Array Slot), wo_S D cls cA base s w H locs → lv_has ls 6 [(0, .ref (base + y0)), (2, .int y2), (3, .int y3), (4, .int y4), (5, .int y5)] → W p l e rm_ru_workOut s m args below meth c H locs 0 0 (MQ below (wo_Q D cls cA base (some (.int r)) w') args s rm_ru_workOut.cells rm_ru_workOut.slots (wo_B base)) (F0 m 6 ls []) := by
  obtain ⟨hx, hb, hr, hml, hown, hts, hlk, hnm, hK, hG⟩ := id C
  intro n
  induction n with
  | zero => intro y0 y2 y3 y4 y5 w h; cases h
  | succ n ih =>
    intro y0 y2 y3 y4 y5 w h H locs ls hW hl
    rw [f_ru_workOut_6] at h
    refine lv_iload hx hb d_ru_workOut_6 (lv_at hl 4 rfl) ?_
    refine lv_iload_n hx hb d_ru_workOut_8 rfl (lv_at hl 1 rfl) ?_
    refine lv_icmp_ge (tgt := 78) hx hb d_ru_workOut_9 (by decide) (fun c1 => ?_) (fun c1 => ?_)
    · rw [if_pos c1] at h
      refine lv_aload_n hx hb d_ru_workOut_78 rfl (lv_at hl 0 rfl) ?_
      replace h := bs h
      obtain ⟨x2, hx2, h⟩ := h
      refine gf_ru_22 hx hb hts hown hK hG hW (gN_s hx2) d_ru_workOut_79 ?_
      refine lv_iload_n hx hb d_ru_workOut_82 rfl (lv_at hl 2 rfl) ?_
      replace h := bs h
      obtain ⟨x3, hx3, h⟩ := h
      refine wo_iald hx hb hK hW (t := 0) rfl hx3 d_ru_workOut_83 ?_
      cases h
      exact wo_iret hx hb hr hlk hW d_ru_workOut_84
    · rw [if_neg c1] at h
      refine lv_iload hx hb d_ru_workOut_12 (lv_at hl 3 rfl) ?_
      refine lv_aload_n hx hb d_ru_workOut_14 rfl (lv_at hl 0 rfl) ?_
      replace h := bs h
      obtain ⟨x4, hx4, h⟩ := h
      refine gf_ru_32 hx hb hts hown hK hG hW (gR_s hx4) d_ru_workOut_15 ?_
      refine lv_iload hx hb d_ru_workOut_18 (lv_at hl 4 rfl) ?_
      replace h := bs h
      obtain ⟨x5, ex5, h⟩ := h
      subst ex5
      replace h := bs2 h
      obtain ⟨x7, w6, hw6, h⟩ := h
      refine cv_ru_129 (As := [.int y5]) (rest := [.int y4]) hx hb hml hown hts hK hG hW (c_pg_growthOf l D cA base hw6) (kb_pg_growthOf hw6) ⟨Nat.le_of_ble_eq_true rfl, Nat.le_of_ble_eq_true rfl⟩ ⟨Nat.le_of_ble_eq_true rfl, Nat.le_of_ble_eq_true rfl⟩ rfl hl.1 rfl (Nat.le_of_ble_eq_true rfl) d_ru_workOut_20 (fun H locs hW => ?_)
      refine lv_iadd hx hb d_ru_workOut_23 ?_
      refine lv_istore (lv' := [(4, .int (y4 + x7)), (0, .ref (base + y0)), (2, .int y2), (3, .int y3), (5, .int y5)]) hx hb d_ru_workOut_24 hl (by decide) rfl (fun ls hl => ?_)
      refine lv_iload hx hb d_ru_workOut_26 (lv_at hl 0 rfl) ?_
      refine lv_iconst (v := (1 : Int32)) hx hb d_ru_workOut_28 (by decide) ?_
      refine lv_icmp_lt (tgt := 39) hx hb d_ru_workOut_29 (by decide) (fun c8 => ?_) (fun c8 => ?_)
      · rw [if_pos c8] at h
        exact j_ru_workOut_39 C w6 h _ _ _ hW (lv_sub hl [] rfl)
      · rw [if_neg c8] at h
        refine lv_iload hx hb d_ru_workOut_32 (lv_at hl 0 rfl) ?_
        refine lv_bipush (v := (25 : Int32)) hx hb d_ru_workOut_34 (by decide) ?_
        refine lv_icmp_lt (tgt := 41) hx hb d_ru_workOut_36 (by decide) (fun c9 => ?_) (fun c9 => ?_)
        · rw [if_pos c9] at h
          refine lv_aload_n hx hb d_ru_workOut_41 rfl (lv_at hl 1 rfl) ?_
          replace h := bs h
          obtain ⟨x10, hx10, h⟩ := h
          refine gf_ru_22 hx hb hts hown hK hG hW (gN_s hx10) d_ru_workOut_42 ?_
          refine lv_iload hx hb d_ru_workOut_45 (lv_at hl 0 rfl) ?_
          refine lv_iconst (v := (1 : Int32)) hx hb d_ru_workOut_47 (by decide) ?_
          refine lv_isub hx hb d_ru_workOut_48 ?_
          refine lv_aload_n hx hb d_ru_workOut_49 rfl (lv_at hl 1 rfl) ?_
          refine lv_iload hx hb d_ru_workOut_50 (lv_at hl 4 rfl) ?_
          refine lv_aload_n hx hb d_ru_workOut_52 rfl (lv_at hl 1 rfl) ?_
          replace h := bs h
          obtain ⟨x11, hx11, h⟩ := h
          refine gf_ru_22 hx hb hts hown hK hG hW (gN_s hx11) d_ru_workOut_53 ?_
          refine lv_iload hx hb d_ru_workOut_56 (lv_at hl 0 rfl) ?_
          refine lv_iconst (v := (1 : Int32)) hx hb d_ru_workOut_58 (by decide) ?_
          refine lv_isub hx hb d_ru_workOut_59 ?_
          replace h := bs h
          obtain ⟨x12, hx12, h⟩ := h
          refine wo_iald hx hb hK hW (t := 0) rfl hx12 d_ru_workOut_60 ?_
          refine lv_aload_n hx hb d_ru_workOut_61 rfl (lv_at hl 1 rfl) ?_
          replace h := bs h
          obtain ⟨x13, hx13, h⟩ := h
          refine gf_ru_22 hx hb hts hown hK hG hW (gN_s hx13) d_ru_workOut_62 ?_
          refine lv_iload hx hb d_ru_workOut_65 (lv_at hl 0 rfl) ?_
          replace h := bs h
          obtain ⟨x14, hx14, h⟩ := h
          refine wo_iald hx hb hK hW (t := 0) rfl hx14 d_ru_workOut_67 ?_
          replace h := bsx h
          obtain ⟨x16, w15, hw15, h⟩ := h
          refine cv_ru_133 (As := [.int y5, .int x12, .int x14]) (rest := [.int ((y4 + x7) - (1 : Int32)), .ref (base + x10)]) hx hb hml hown hts hK hG hW (c_ru_doStep l D cA base hw15) (kb_ru_doStep hw15) ⟨Nat.le_of_ble_eq_true rfl, Nat.le_of_ble_eq_true rfl⟩ ⟨Nat.le_of_ble_eq_true rfl, Nat.le_of_ble_eq_true rfl⟩ rfl hl.1 rfl (Nat.le_of_ble_eq_true rfl) d_ru_workOut_68 (fun H locs hW => ?_)
          replace h := bs h
          obtain ⟨w17, hw17, h⟩ := h
          refine wo_iast hx hb hK hW (t := 0) rfl hw17 d_ru_workOut_71 (fun H locs hW => ?_)
          refine lv_iinc (v := (y5 + (1 : Int32))) (lv' := [(5, .int (y5 + (1 : Int32))), (4, .int (y4 + x7)), (0, .ref (base + y0)), (2, .int y2), (3, .int y3)]) hx hb d_ru_workOut_72 hl (k := 4) rfl rfl (by decide) rfl (fun ls hl => ?_)
          refine lv_goto (tgt := 6) hx hb d_ru_workOut_75 (by decide) ?_
          exact ih y0 y2 y3 (y4 + x7) (y5 + (1 : Int32)) w17 h _ _ _ hW (lv_sub hl [2, 3, 4, 1, 0] rfl)
        · rw [if_neg c9] at h
          exact j_ru_workOut_39 C w6 h _ _ _ hW (lv_sub hl [] rfl)
set_option maxHeartbeats 4000000 in
set_option maxRecDepth 100000 in
theorem c_ru_workOut (l : Launch) (D : va_G) (cA : Nat → ClassId) (base : Nat) {a0 : Nat} {a1 : Int32} {a2 : Int32} {a3 : Int32} {w w' : WW} {r : Int32} (h : f_ru_workOut a0 a1 a2 a3 w = some (.inl r, w')) : mt l D cls (wo_tys cA) cA base y_ru_workOut (Cond.code y_ru_workOut b_ru_workOut 6 (some .int) :: gt) rm_ru_workOut [.ref (base + a0), .int a1, .int a2, .int a3] w (some (.int r)) w' rm_ru_workOut.cells rm_ru_workOut.slots := by
  refine mt_start (by decide) (Nat.le_of_ble_eq_true rfl) ?_
  intro p e s m below meth c ls hx hb hr hml hown hts hlk hnm hK hG hW hl
  have C : cx b_ru_workOut (some .int) 6 y_ru_workOut.cls "workOut" p s m [.ref (base + a0), .int a1, .int a2, .int a3].toArray meth c D cA base := ⟨hx, hb, hr, hml, hown, hts, hlk, hnm, hK, hG⟩
  have hl : lv_has ls 6 [(0, .ref (base + a0)), (1, .int a1), (2, .int a2), (3, .int a3)] := hl
  unfold f_ru_workOut at h
  replace h := its h
  obtain ⟨-, h⟩ := h
  refine lv_iload_n hx hb d_ru_workOut_0 rfl (lv_at hl 3 rfl) ?_
  refine lv_istore (lv' := [(4, .int a3), (0, .ref (base + a0)), (1, .int a1), (2, .int a2), (3, .int a3)]) hx hb d_ru_workOut_1 hl (by decide) rfl (fun ls hl => ?_)
  refine lv_iload_n hx hb d_ru_workOut_3 rfl (lv_at hl 2 rfl) ?_
  refine lv_istore (lv' := [(5, .int a1), (4, .int a3), (0, .ref (base + a0)), (1, .int a1), (2, .int a2), (3, .int a3)]) hx hb d_ru_workOut_4 hl (by decide) rfl (fun ls hl => ?_)
  exact j_ru_workOut_6 C KK a0 a2 a3 a3 a1 w h _ _ _ hW (lv_sub hl [2, 4, 5, 1, 0] rfl)
set_option maxHeartbeats 4000000 in
set_option maxRecDepth 100000 in
theorem jx_ru_workOut_39 {p : Program} {l : Launch} {e : Env} {s : State} {m : MethodId} {args : Array Value} {below : List Frame} {meth : Method} {c : Code} {D : va_G} {cA : Nat → ClassId} {base : Nat} {E : String} {w' : WW} (C : cx b_ru_workOut (some .int) 6 y_ru_workOut.cls "workOut" p s m args meth c D cA base ∧ (∀ x ∈ c.exceptionTable.toList, ∀ k : Nat, covers x k = false) ∧ l.stackTraces = false)   : ∀  (w : WW), f_ru_workOut_39  w = some (.inr E, w') → ∀ (H : Heap) (locs : List Loc) (ls : Array Slot), wo_S D cls cA base s w H locs → lv_has ls 6 [] → W p l e rx_ru_workOut s m args below meth c H locs 0 0 (XQ below (wo_X D cls cA base E w' rx_ru_workOut.cells rx_ru_workOut.slots) args s) (F0 m 39 ls []) := by
  obtain ⟨hx, hb, hr, hml, hown, hts, hlk, hnm, hK, hG⟩ := id C.1
  have hnt := C.2.1
  have hst := C.2.2
  intro  w h H locs ls hW hl
  unfold f_ru_workOut_39 at h
  refine lv_iconst (v := (0 : Int32)) hx hb d_ru_workOut_39 (by decide) ?_
  cases h
set_option maxHeartbeats 4000000 in
set_option maxRecDepth 100000 in
theorem jx_ru_workOut_6 {p : Program} {l : Launch} {e : Env} {s : State} {m : MethodId} {args : Array Value} {below : List Frame} {meth : Method} {c : Code} {D : va_G} {cA : Nat → ClassId} {base : Nat} {E : String} {w' : WW} (C : cx b_ru_workOut (some .int) 6 y_ru_workOut.cls "workOut" p s m args meth c D cA base ∧ (∀ x ∈ c.exceptionTable.toList, ∀ k : Nat, covers x k = false) ∧ l.stackTraces = false)   : ∀ n : Nat, ∀ (y0 : Nat) (y2 : Int32) (y3 : Int32) (y4 : Int32) (y5 : Int32) (w : WW), f_ru_workOut_6 n y0 y2 y3 y4 y5 w = some (.inr E, w') → ∀ (H : Heap) (locs : List Loc) (ls : Array Slot), wo_S D cls cA base s w H locs → lv_has ls 6 [(0, .ref (base + y0)), (2, .int y2), (3, .int y3), (4, .int y4), (5, .int y5)] → W p l e rx_ru_workOut s m args below meth c H locs 0 0 (XQ below (wo_X D cls cA base E w' rx_ru_workOut.cells rx_ru_workOut.slots) args s) (F0 m 6 ls []) := by
  obtain ⟨hx, hb, hr, hml, hown, hts, hlk, hnm, hK, hG⟩ := id C.1
  have hnt := C.2.1
  have hst := C.2.2
  intro n
  induction n with
  | zero => intro y0 y2 y3 y4 y5 w h; cases h
  | succ n ih =>
    intro y0 y2 y3 y4 y5 w h H locs ls hW hl
    rw [f_ru_workOut_6] at h
    refine lv_iload hx hb d_ru_workOut_6 (lv_at hl 4 rfl) ?_
    refine lv_iload_n hx hb d_ru_workOut_8 rfl (lv_at hl 1 rfl) ?_
    refine lv_icmp_ge (tgt := 78) hx hb d_ru_workOut_9 (by decide) (fun c1 => ?_) (fun c1 => ?_)
    · rw [if_pos c1] at h
      refine lv_aload_n hx hb d_ru_workOut_78 rfl (lv_at hl 0 rfl) ?_
      replace h := bs h
      obtain ⟨x2, hx2, h⟩ := h
      refine gf_ru_22 hx hb hts hown hK hG hW (gN_s hx2) d_ru_workOut_79 ?_
      refine lv_iload_n hx hb d_ru_workOut_82 rfl (lv_at hl 2 rfl) ?_
      replace h := bs h
      obtain ⟨x3, hx3, h⟩ := h
      refine wo_iald hx hb hK hW (t := 0) rfl hx3 d_ru_workOut_83 ?_
      cases h
    · rw [if_neg c1] at h
      refine lv_iload hx hb d_ru_workOut_12 (lv_at hl 3 rfl) ?_
      refine lv_aload_n hx hb d_ru_workOut_14 rfl (lv_at hl 0 rfl) ?_
      replace h := bs h
      obtain ⟨x4, hx4, h⟩ := h
      refine gf_ru_32 hx hb hts hown hK hG hW (gR_s hx4) d_ru_workOut_15 ?_
      refine lv_iload hx hb d_ru_workOut_18 (lv_at hl 4 rfl) ?_
      replace h := bs h
      obtain ⟨x5, ex5, h⟩ := h
      subst ex5
      replace h := bs2 h
      obtain ⟨x7, w6, hw6, h⟩ := h
      refine cv_ru_129 (As := [.int y5]) (rest := [.int y4]) hx hb hml hown hts hK hG hW (c_pg_growthOf l D cA base hw6) (kb_pg_growthOf hw6) ⟨Nat.le_of_ble_eq_true rfl, Nat.le_of_ble_eq_true rfl⟩ ⟨Nat.le_of_ble_eq_true rfl, Nat.le_of_ble_eq_true rfl⟩ rfl hl.1 rfl (Nat.le_of_ble_eq_true rfl) d_ru_workOut_20 (fun H locs hW => ?_)
      refine lv_iadd hx hb d_ru_workOut_23 ?_
      refine lv_istore (lv' := [(4, .int (y4 + x7)), (0, .ref (base + y0)), (2, .int y2), (3, .int y3), (5, .int y5)]) hx hb d_ru_workOut_24 hl (by decide) rfl (fun ls hl => ?_)
      refine lv_iload hx hb d_ru_workOut_26 (lv_at hl 0 rfl) ?_
      refine lv_iconst (v := (1 : Int32)) hx hb d_ru_workOut_28 (by decide) ?_
      refine lv_icmp_lt (tgt := 39) hx hb d_ru_workOut_29 (by decide) (fun c8 => ?_) (fun c8 => ?_)
      · rw [if_pos c8] at h
        exact jx_ru_workOut_39 C w6 h _ _ _ hW (lv_sub hl [] rfl)
      · rw [if_neg c8] at h
        refine lv_iload hx hb d_ru_workOut_32 (lv_at hl 0 rfl) ?_
        refine lv_bipush (v := (25 : Int32)) hx hb d_ru_workOut_34 (by decide) ?_
        refine lv_icmp_lt (tgt := 41) hx hb d_ru_workOut_36 (by decide) (fun c9 => ?_) (fun c9 => ?_)
        · rw [if_pos c9] at h
          refine lv_aload_n hx hb d_ru_workOut_41 rfl (lv_at hl 1 rfl) ?_
          replace h := bs h
          obtain ⟨x10, hx10, h⟩ := h
          refine gf_ru_22 hx hb hts hown hK hG hW (gN_s hx10) d_ru_workOut_42 ?_
          refine lv_iload hx hb d_ru_workOut_45 (lv_at hl 0 rfl) ?_
          refine lv_iconst (v := (1 : Int32)) hx hb d_ru_workOut_47 (by decide) ?_
          refine lv_isub hx hb d_ru_workOut_48 ?_
          refine lv_aload_n hx hb d_ru_workOut_49 rfl (lv_at hl 1 rfl) ?_
          refine lv_iload hx hb d_ru_workOut_50 (lv_at hl 4 rfl) ?_
          refine lv_aload_n hx hb d_ru_workOut_52 rfl (lv_at hl 1 rfl) ?_
          replace h := bs h
          obtain ⟨x11, hx11, h⟩ := h
          refine gf_ru_22 hx hb hts hown hK hG hW (gN_s hx11) d_ru_workOut_53 ?_
          refine lv_iload hx hb d_ru_workOut_56 (lv_at hl 0 rfl) ?_
          refine lv_iconst (v := (1 : Int32)) hx hb d_ru_workOut_58 (by decide) ?_
          refine lv_isub hx hb d_ru_workOut_59 ?_
          replace h := bs h
          obtain ⟨x12, hx12, h⟩ := h
          refine wo_iald hx hb hK hW (t := 0) rfl hx12 d_ru_workOut_60 ?_
          refine lv_aload_n hx hb d_ru_workOut_61 rfl (lv_at hl 1 rfl) ?_
          replace h := bs h
          obtain ⟨x13, hx13, h⟩ := h
          refine gf_ru_22 hx hb hts hown hK hG hW (gN_s hx13) d_ru_workOut_62 ?_
          refine lv_iload hx hb d_ru_workOut_65 (lv_at hl 0 rfl) ?_
          replace h := bs h
          obtain ⟨x14, hx14, h⟩ := h
          refine wo_iald hx hb hK hW (t := 0) rfl hx14 d_ru_workOut_67 ?_
          rcases bsy h with hw15 | ⟨x16, w15, hw15, hnw15⟩
          · exact xv_ru_133 (As := [.int y5, .int x12, .int x14]) (rest := [.int ((y4 + x7) - (1 : Int32)), .ref (base + x10)]) hx hb hml hown hts hK hG hW (x_ru_doStep l hst D cA base hw15) (kb_ru_doStep hw15) ⟨Nat.le_of_ble_eq_true rfl, Nat.le_of_ble_eq_true rfl⟩ ⟨Nat.le_of_ble_eq_true rfl, Nat.le_of_ble_eq_true rfl⟩ rfl hl.1 rfl (Nat.le_of_ble_eq_true rfl) d_ru_workOut_68 (fun H locs q ce hW h1 h2 h3 => wo_xout hnt hlk hW h1 h2 h3 (Nat.le_of_ble_eq_true rfl) (Nat.le_of_ble_eq_true rfl))
          clear h
          have h := hnw15
          clear hnw15
          refine cv_ru_133 (As := [.int y5, .int x12, .int x14]) (rest := [.int ((y4 + x7) - (1 : Int32)), .ref (base + x10)]) hx hb hml hown hts hK hG hW (c_ru_doStep l D cA base hw15) (kb_ru_doStep hw15) ⟨Nat.le_of_ble_eq_true rfl, Nat.le_of_ble_eq_true rfl⟩ ⟨Nat.le_of_ble_eq_true rfl, Nat.le_of_ble_eq_true rfl⟩ rfl hl.1 rfl (Nat.le_of_ble_eq_true rfl) d_ru_workOut_68 (fun H locs hW => ?_)
          replace h := bs h
          obtain ⟨w17, hw17, h⟩ := h
          refine wo_iast hx hb hK hW (t := 0) rfl hw17 d_ru_workOut_71 (fun H locs hW => ?_)
          refine lv_iinc (v := (y5 + (1 : Int32))) (lv' := [(5, .int (y5 + (1 : Int32))), (4, .int (y4 + x7)), (0, .ref (base + y0)), (2, .int y2), (3, .int y3)]) hx hb d_ru_workOut_72 hl (k := 4) rfl rfl (by decide) rfl (fun ls hl => ?_)
          refine lv_goto (tgt := 6) hx hb d_ru_workOut_75 (by decide) ?_
          exact ih y0 y2 y3 (y4 + x7) (y5 + (1 : Int32)) w17 h _ _ _ hW (lv_sub hl [2, 3, 4, 1, 0] rfl)
        · rw [if_neg c9] at h
          exact jx_ru_workOut_39 C w6 h _ _ _ hW (lv_sub hl [] rfl)
set_option maxHeartbeats 4000000 in
set_option maxRecDepth 100000 in
theorem x_ru_workOut (l : Launch) (hst : l.stackTraces = false) (D : va_G) (cA : Nat → ClassId) (base : Nat) {a0 : Nat} {a1 : Int32} {a2 : Int32} {a3 : Int32} {w w' : WW} {E : String} (h : f_ru_workOut a0 a1 a2 a3 w = some (.inr E, w')) : xt l D cls (wo_tys cA) cA base y_ru_workOut (Cond.code y_ru_workOut b_ru_workOut 6 (some .int) :: gt) rx_ru_workOut [.ref (base + a0), .int a1, .int a2, .int a3] w E w' rx_ru_workOut.cells rx_ru_workOut.slots := by
  refine xt_start (by decide) (Nat.le_of_ble_eq_true rfl) ?_
  intro p e s m below meth c ls hx hb hr hml hown hts hlk hnm hK hG hW hl hnt
  have C : cx b_ru_workOut (some .int) 6 y_ru_workOut.cls "workOut" p s m [.ref (base + a0), .int a1, .int a2, .int a3].toArray meth c D cA base ∧ (∀ x ∈ c.exceptionTable.toList, ∀ k : Nat, covers x k = false) ∧ l.stackTraces = false := ⟨⟨hx, hb, hr, hml, hown, hts, hlk, hnm, hK, hG⟩, hnt, hst⟩
  have hl : lv_has ls 6 [(0, .ref (base + a0)), (1, .int a1), (2, .int a2), (3, .int a3)] := hl
  unfold f_ru_workOut at h
  replace h := its h
  obtain ⟨-, h⟩ := h
  refine lv_iload_n hx hb d_ru_workOut_0 rfl (lv_at hl 3 rfl) ?_
  refine lv_istore (lv' := [(4, .int a3), (0, .ref (base + a0)), (1, .int a1), (2, .int a2), (3, .int a3)]) hx hb d_ru_workOut_1 hl (by decide) rfl (fun ls hl => ?_)
  refine lv_iload_n hx hb d_ru_workOut_3 rfl (lv_at hl 2 rfl) ?_
  refine lv_istore (lv' := [(5, .int a1), (4, .int a3), (0, .ref (base + a0)), (1, .int a1), (2, .int a2), (3, .int a3)]) hx hb d_ru_workOut_4 hl (by decide) rfl (fun ls hl => ?_)
  exact jx_ru_workOut_6 C KK a0 a2 a3 a3 a1 w h _ _ _ hW (lv_sub hl [2, 4, 5, 1, 0] rfl)
abbrev b_ru_assign : ByteArray := prog_6_method_9_code
def y_ru_assign : MethodName := ⟨"AlarmForge$Runner", "assign", "(II)V"⟩
def rm_ru_assign : Room := { frames := 0, cells := 0, slots := 0, locals := 0 }
theorem d_ru_assign_0 : decode b_ru_assign 0 = .ok (.aload_n 0, 1) := by decide +kernel
theorem d_ru_assign_1 : decode b_ru_assign 1 = .ok (.getfield 9, 3) := by decide +kernel
theorem d_ru_assign_4 : decode b_ru_assign 4 = .ok (.iload_n 1, 1) := by decide +kernel
theorem d_ru_assign_5 : decode b_ru_assign 5 = .ok (.iload_n 2, 1) := by decide +kernel
theorem d_ru_assign_6 : decode b_ru_assign 6 = .ok (.iastore, 1) := by decide +kernel
theorem d_ru_assign_7 : decode b_ru_assign 7 = .ok (.aload_n 0, 1) := by decide +kernel
theorem d_ru_assign_8 : decode b_ru_assign 8 = .ok (.getfield 15, 3) := by decide +kernel
theorem d_ru_assign_11 : decode b_ru_assign 11 = .ok (.iload_n 1, 1) := by decide +kernel
theorem d_ru_assign_12 : decode b_ru_assign 12 = .ok (.iconst 0, 1) := by decide +kernel
theorem d_ru_assign_13 : decode b_ru_assign 13 = .ok (.bastore, 1) := by decide +kernel
theorem d_ru_assign_14 : decode b_ru_assign 14 = .ok (.return_, 1) := by decide +kernel
theorem kb_ru_assign {a0 : Nat} {a1 : Int32} {a2 : Int32} {w : WW} {r : WW} (h : f_ru_assign a0 a1 a2 w = some r) : kb w a0 5 = true := (its h).1
set_option maxHeartbeats 4000000 in
set_option maxRecDepth 100000 in
theorem c_ru_assign (l : Launch) (D : va_G) (cA : Nat → ClassId) (base : Nat) {a0 : Nat} {a1 : Int32} {a2 : Int32} {w w' : WW} (h : f_ru_assign a0 a1 a2 w = some w') : mt l D cls (wo_tys cA) cA base y_ru_assign (Cond.code y_ru_assign b_ru_assign 3 (none) :: gt) rm_ru_assign [.ref (base + a0), .int a1, .int a2] w none w' rm_ru_assign.cells rm_ru_assign.slots := by
  refine mt_start (by decide) (Nat.le_of_ble_eq_true rfl) ?_
  intro p e s m below meth c ls hx hb hr hml hown hts hlk hnm hK hG hW hl
  have C : cx b_ru_assign (none) 3 y_ru_assign.cls "assign" p s m [.ref (base + a0), .int a1, .int a2].toArray meth c D cA base := ⟨hx, hb, hr, hml, hown, hts, hlk, hnm, hK, hG⟩
  have hl : lv_has ls 3 [(0, .ref (base + a0)), (1, .int a1), (2, .int a2)] := hl
  unfold f_ru_assign at h
  replace h := its h
  obtain ⟨-, h⟩ := h
  refine lv_aload_n hx hb d_ru_assign_0 rfl (lv_at hl 0 rfl) ?_
  replace h := bs h
  obtain ⟨x1, hx1, h⟩ := h
  refine gf_ru_9 hx hb hts hown hK hG hW (gN_s hx1) d_ru_assign_1 ?_
  refine lv_iload_n hx hb d_ru_assign_4 rfl (lv_at hl 1 rfl) ?_
  refine lv_iload_n hx hb d_ru_assign_5 rfl (lv_at hl 2 rfl) ?_
  replace h := bs h
  obtain ⟨w2, hw2, h⟩ := h
  refine wo_iast hx hb hK hW (t := 0) rfl hw2 d_ru_assign_6 (fun H locs hW => ?_)
  refine lv_aload_n hx hb d_ru_assign_7 rfl (lv_at hl 0 rfl) ?_
  replace h := bs h
  obtain ⟨x3, hx3, h⟩ := h
  refine gf_ru_15 hx hb hts hown hK hG hW (gN_s hx3) d_ru_assign_8 ?_
  refine lv_iload_n hx hb d_ru_assign_11 rfl (lv_at hl 1 rfl) ?_
  refine lv_iconst (v := (0 : Int32)) hx hb d_ru_assign_12 (by decide) ?_
  replace h := bs h
  obtain ⟨w4, hw4, h⟩ := h
  refine wo_zast hx hb hK hW (t := 2) rfl hw4 d_ru_assign_13 (fun H locs hW => ?_)
  cases h
  exact wo_vret hx hb hr hlk hW d_ru_assign_14
abbrev b_ru_nextInput : ByteArray := prog_6_method_10_code
def y_ru_nextInput : MethodName := ⟨"AlarmForge$Runner", "nextInput", "()I"⟩
def rm_ru_nextInput : Room := { frames := 0, cells := 0, slots := 0, locals := 0 }
theorem d_ru_nextInput_0 : decode b_ru_nextInput 0 = .ok (.aload_n 0, 1) := by decide +kernel
theorem d_ru_nextInput_1 : decode b_ru_nextInput 1 = .ok (.getfield 55, 3) := by decide +kernel
theorem d_ru_nextInput_4 : decode b_ru_nextInput 4 = .ok (.aload_n 0, 1) := by decide +kernel
theorem d_ru_nextInput_5 : decode b_ru_nextInput 5 = .ok (.getfield 28, 3) := by decide +kernel
theorem d_ru_nextInput_8 : decode b_ru_nextInput 8 = .ok (.if_icmp .lt (5), 3) := by decide +kernel
theorem d_ru_nextInput_11 : decode b_ru_nextInput 11 = .ok (.iconst 0, 1) := by decide +kernel
theorem d_ru_nextInput_12 : decode b_ru_nextInput 12 = .ok (.ireturn, 1) := by decide +kernel
theorem d_ru_nextInput_13 : decode b_ru_nextInput 13 = .ok (.aload_n 0, 1) := by decide +kernel
theorem d_ru_nextInput_14 : decode b_ru_nextInput 14 = .ok (.dup, 1) := by decide +kernel
theorem d_ru_nextInput_15 : decode b_ru_nextInput 15 = .ok (.getfield 55, 3) := by decide +kernel
theorem d_ru_nextInput_18 : decode b_ru_nextInput 18 = .ok (.iconst 1, 1) := by decide +kernel
theorem d_ru_nextInput_19 : decode b_ru_nextInput 19 = .ok (.iadd, 1) := by decide +kernel
theorem d_ru_nextInput_20 : decode b_ru_nextInput 20 = .ok (.putfield 55, 3) := by decide +kernel
theorem d_ru_nextInput_23 : decode b_ru_nextInput 23 = .ok (.aload_n 0, 1) := by decide +kernel
theorem d_ru_nextInput_24 : decode b_ru_nextInput 24 = .ok (.getfield 25, 3) := by decide +kernel
theorem d_ru_nextInput_27 : decode b_ru_nextInput 27 = .ok (.aload_n 0, 1) := by decide +kernel
theorem d_ru_nextInput_28 : decode b_ru_nextInput 28 = .ok (.getfield 55, 3) := by decide +kernel
theorem d_ru_nextInput_31 : decode b_ru_nextInput 31 = .ok (.iconst 1, 1) := by decide +kernel
theorem d_ru_nextInput_32 : decode b_ru_nextInput 32 = .ok (.isub, 1) := by decide +kernel
theorem d_ru_nextInput_33 : decode b_ru_nextInput 33 = .ok (.iaload, 1) := by decide +kernel
theorem d_ru_nextInput_34 : decode b_ru_nextInput 34 = .ok (.ireturn, 1) := by decide +kernel
theorem kb_ru_nextInput {a0 : Nat}  {w : WW} {r : (Int32 × WW)} (h : f_ru_nextInput a0 w = some r) : kb w a0 5 = true := (its h).1
set_option maxHeartbeats 4000000 in
set_option maxRecDepth 100000 in
theorem c_ru_nextInput (l : Launch) (D : va_G) (cA : Nat → ClassId) (base : Nat) {a0 : Nat} {w w' : WW} {r : Int32} (h : f_ru_nextInput a0 w = some (r, w')) : mt l D cls (wo_tys cA) cA base y_ru_nextInput (Cond.code y_ru_nextInput b_ru_nextInput 1 (some .int) :: gt) rm_ru_nextInput [.ref (base + a0)] w (some (.int r)) w' rm_ru_nextInput.cells rm_ru_nextInput.slots := by
  refine mt_start (by decide) (Nat.le_of_ble_eq_true rfl) ?_
  intro p e s m below meth c ls hx hb hr hml hown hts hlk hnm hK hG hW hl
  have C : cx b_ru_nextInput (some .int) 1 y_ru_nextInput.cls "nextInput" p s m [.ref (base + a0)].toArray meth c D cA base := ⟨hx, hb, hr, hml, hown, hts, hlk, hnm, hK, hG⟩
  have hl : lv_has ls 1 [(0, .ref (base + a0))] := hl
  unfold f_ru_nextInput at h
  replace h := its h
  obtain ⟨-, h⟩ := h
  refine lv_aload_n hx hb d_ru_nextInput_0 rfl (lv_at hl 0 rfl) ?_
  replace h := bs h
  obtain ⟨x1, hx1, h⟩ := h
  refine gf_ru_55 hx hb hts hown hK hG hW (gI_s hx1) d_ru_nextInput_1 ?_
  refine lv_aload_n hx hb d_ru_nextInput_4 rfl (lv_at hl 0 rfl) ?_
  replace h := bs h
  obtain ⟨x2, hx2, h⟩ := h
  refine gf_ru_28 hx hb hts hown hK hG hW (gI_s hx2) d_ru_nextInput_5 ?_
  refine lv_icmp_lt (tgt := 13) hx hb d_ru_nextInput_8 (by decide) (fun c3 => ?_) (fun c3 => ?_)
  · rw [if_pos c3] at h
    refine lv_aload_n hx hb d_ru_nextInput_13 rfl (lv_at hl 0 rfl) ?_
    refine lv_dup hx hb d_ru_nextInput_14 rfl ?_
    replace h := bs h
    obtain ⟨x4, hx4, h⟩ := h
    refine gf_ru_55 hx hb hts hown hK hG hW (gI_s hx4) d_ru_nextInput_15 ?_
    refine lv_iconst (v := (1 : Int32)) hx hb d_ru_nextInput_18 (by decide) ?_
    refine lv_iadd hx hb d_ru_nextInput_19 ?_
    replace h := bs h
    obtain ⟨w5, hw5, h⟩ := h
    refine pf_ru_55 hx hb hts hown hK hG hW rfl rfl (pbi hw5 rfl) d_ru_nextInput_20 (fun H locs hW => ?_)
    refine lv_aload_n hx hb d_ru_nextInput_23 rfl (lv_at hl 0 rfl) ?_
    replace h := bs h
    obtain ⟨x6, hx6, h⟩ := h
    refine gf_ru_25 hx hb hts hown hK hG hW (gN_s hx6) d_ru_nextInput_24 ?_
    refine lv_aload_n hx hb d_ru_nextInput_27 rfl (lv_at hl 0 rfl) ?_
    replace h := bs h
    obtain ⟨x7, hx7, h⟩ := h
    refine gf_ru_55 hx hb hts hown hK hG hW (gI_s hx7) d_ru_nextInput_28 ?_
    refine lv_iconst (v := (1 : Int32)) hx hb d_ru_nextInput_31 (by decide) ?_
    refine lv_isub hx hb d_ru_nextInput_32 ?_
    replace h := bs h
    obtain ⟨x8, hx8, h⟩ := h
    refine wo_iald hx hb hK hW (t := 0) rfl hx8 d_ru_nextInput_33 ?_
    cases h
    exact wo_iret hx hb hr hlk hW d_ru_nextInput_34
  · rw [if_neg c3] at h
    refine lv_iconst (v := (0 : Int32)) hx hb d_ru_nextInput_11 (by decide) ?_
    cases h
    exact wo_iret hx hb hr hlk hW d_ru_nextInput_12
theorem xv_ru_85 {p : Program} {l : Launch} {e : Env} {R : Room} {s : State} {m : MethodId} {args : Array Value} {below : List Frame} {meth : Method} {c : Code} {H : Heap} {locs : List Loc} {cells slots : Nat} {Q : State → Prop} {D : va_G} {cA : Nat → ClassId} {base : Nat} {w w' : WW} {cc : ByteArray} {pc nL : Nat} {ls : Array Slot} {rest st0 As : List Value} {E : String} {b : Nat} (hx : p.tables.exec = Jvm.exec) (hb : c.code = cc) (hml : c.maxLocals = nL) (hown : s.vm.findClass Rc_ru = some m.cls) (hts : ∀ w ∈ gt, w.before args s = true) (hK : va_K D cls (wo_tys cA) s) (hG : wo_G cA base s) (hW : wo_S D cls cA base s w H locs) (hM : xt l D cls (wo_tys cA) cA base y_ru_workOut (Cond.code y_ru_workOut b_ru_workOut 6 (some .int) :: gt) rx_ru_workOut (.ref (base + b) :: As) w E w' rx_ru_workOut.cells rx_ru_workOut.slots) (hkb : kb w b 5 = true) (hR : rx_ru_workOut.frames + 1 ≤ R.frames ∧ 8 + (6 + 11) + rx_ru_workOut.locals ≤ R.locals) (hf : cells + rx_ru_workOut.cells ≤ R.cells ∧ slots + rx_ru_workOut.slots ≤ R.slots) (hn : As.length = 3) (hsz : ls.size = nL) (hst : st0 = As.reverse ++ .ref (base + b) :: rest) (hcat : (rest.map fun v => v.category).sum ≤ 8) (hdg : decode cc pc = .ok (.invokevirtual 85, 3)) (kk : ∀ (H1 : Heap) (locs1 : List Loc) (q : Addr) (ce : Cell), wo_S D cls cA base s w' H1 locs1 → H1[q]? = some ce → ce.vm = .none → s.vm.findClass E = some ce.cls → XW p l e R s m args below meth c H1 locs1 (cells + rx_ru_workOut.cells) (slots + rx_ru_workOut.slots) Q (F0 m pc ls rest) q) : W p l e R s m args below meth c H locs cells slots Q (F0 m pc ls st0) :=
  wo_xcallV (C := Rc_ru) hx hb hml hown hts hK hG hW hM hkb rfl (gt_of (i := 774) (by decide +kernel) (by decide +kernel)) (gt_of (i := 776) (by decide +kernel) (by decide +kernel)) (gt_sel (i := 25) (by decide +kernel) (by decide +kernel)) (gt_of (i := 6) (by decide +kernel) (by decide +kernel)) (gt_of (i := 777) (by decide +kernel) (by decide +kernel)) (by decide +kernel) hR hf hn hsz hst hcat hdg kk
theorem cv_ru_85 {p : Program} {l : Launch} {e : Env} {R : Room} {s : State} {m : MethodId} {args : Array Value} {below : List Frame} {meth : Method} {c : Code} {H : Heap} {locs : List Loc} {cells slots : Nat} {Q : State → Prop} {D : va_G} {cA : Nat → ClassId} {base : Nat} {w w' : WW} {cc : ByteArray} {pc nL : Nat} {ls : Array Slot} {rest st0 As : List Value} {ov : Option Value} {b : Nat} (hx : p.tables.exec = Jvm.exec) (hb : c.code = cc) (hml : c.maxLocals = nL) (hown : s.vm.findClass Rc_ru = some m.cls) (hts : ∀ w ∈ gt, w.before args s = true) (hK : va_K D cls (wo_tys cA) s) (hG : wo_G cA base s) (hW : wo_S D cls cA base s w H locs) (hM : mt l D cls (wo_tys cA) cA base y_ru_workOut (Cond.code y_ru_workOut b_ru_workOut 6 (some .int) :: gt) rm_ru_workOut (.ref (base + b) :: As) w ov w' rm_ru_workOut.cells rm_ru_workOut.slots) (hkb : kb w b 5 = true) (hR : rm_ru_workOut.frames + 1 ≤ R.frames ∧ 8 + (6 + 11) + rm_ru_workOut.locals ≤ R.locals) (hf : cells + rm_ru_workOut.cells ≤ R.cells ∧ slots + rm_ru_workOut.slots ≤ R.slots) (hn : As.length = 3) (hsz : ls.size = nL) (hst : st0 = As.reverse ++ .ref (base + b) :: rest) (hcat : (rest.map fun v => v.category).sum ≤ 8) (hdg : decode cc pc = .ok (.invokevirtual 85, 3)) (kk : ∀ (H1 : Heap) (locs1 : List Loc), wo_S D cls cA base s w' H1 locs1 → W p l e R s m args below meth c H1 locs1 (cells + rm_ru_workOut.cells) (slots + rm_ru_workOut.slots) Q (F0 m (pc + 3) ls (ov.toList ++ rest))) : W p l e R s m args below meth c H locs cells slots Q (F0 m pc ls st0) :=
  wo_callV (C := Rc_ru) hx hb hml hown hts hK hG hW hM hkb rfl (gt_of (i := 774) (by decide +kernel) (by decide +kernel)) (gt_of (i := 776) (by decide +kernel) (by decide +kernel)) (gt_sel (i := 25) (by decide +kernel) (by decide +kernel)) (gt_of (i := 6) (by decide +kernel) (by decide +kernel)) (gt_of (i := 777) (by decide +kernel) (by decide +kernel)) (by decide +kernel) hR hf hn hsz hst hcat hdg kk
abbrev b_ru_store : ByteArray := prog_6_method_11_code
def y_ru_store : MethodName := ⟨"AlarmForge$Runner", "store", "(LAlarmForge$Statement;)V"⟩
def rm_ru_store : Room := { frames := 10, cells := 0, slots := 0, locals := 199 }
def rx_ru_store : Room := { frames := 10, cells := 1, slots := 6, locals := 199 }
theorem d_ru_store_0 : decode b_ru_store 0 = .ok (.aload_n 0, 1) := by decide +kernel
theorem d_ru_store_1 : decode b_ru_store 1 = .ok (.aload_n 1, 1) := by decide +kernel
theorem d_ru_store_2 : decode b_ru_store 2 = .ok (.getfield 76, 3) := by decide +kernel
theorem d_ru_store_5 : decode b_ru_store 5 = .ok (.aload_n 0, 1) := by decide +kernel
theorem d_ru_store_6 : decode b_ru_store 6 = .ok (.aload_n 1, 1) := by decide +kernel
theorem d_ru_store_7 : decode b_ru_store 7 = .ok (.getfield 79, 3) := by decide +kernel
theorem d_ru_store_10 : decode b_ru_store 10 = .ok (.aload_n 1, 1) := by decide +kernel
theorem d_ru_store_11 : decode b_ru_store 11 = .ok (.getfield 120, 3) := by decide +kernel
theorem d_ru_store_14 : decode b_ru_store 14 = .ok (.iconst 0, 1) := by decide +kernel
theorem d_ru_store_15 : decode b_ru_store 15 = .ok (.invokevirtual 85, 3) := by decide +kernel
theorem d_ru_store_18 : decode b_ru_store 18 = .ok (.aload_n 1, 1) := by decide +kernel
theorem d_ru_store_19 : decode b_ru_store 19 = .ok (.getfield 114, 3) := by decide +kernel
theorem d_ru_store_22 : decode b_ru_store 22 = .ok (.invokevirtual 123, 3) := by decide +kernel
theorem d_ru_store_25 : decode b_ru_store 25 = .ok (.istore_n 2, 1) := by decide +kernel
theorem d_ru_store_26 : decode b_ru_store 26 = .ok (.aload_n 0, 1) := by decide +kernel
theorem d_ru_store_27 : decode b_ru_store 27 = .ok (.getfield 19, 3) := by decide +kernel
theorem d_ru_store_30 : decode b_ru_store 30 = .ok (.iload_n 2, 1) := by decide +kernel
theorem d_ru_store_31 : decode b_ru_store 31 = .ok (.aload_n 0, 1) := by decide +kernel
theorem d_ru_store_32 : decode b_ru_store 32 = .ok (.aload_n 1, 1) := by decide +kernel
theorem d_ru_store_33 : decode b_ru_store 33 = .ok (.getfield 120, 3) := by decide +kernel
theorem d_ru_store_36 : decode b_ru_store 36 = .ok (.aload_n 1, 1) := by decide +kernel
theorem d_ru_store_37 : decode b_ru_store 37 = .ok (.getfield 82, 3) := by decide +kernel
theorem d_ru_store_40 : decode b_ru_store 40 = .ok (.iconst 0, 1) := by decide +kernel
theorem d_ru_store_41 : decode b_ru_store 41 = .ok (.invokevirtual 85, 3) := by decide +kernel
theorem d_ru_store_44 : decode b_ru_store 44 = .ok (.iastore, 1) := by decide +kernel
theorem d_ru_store_45 : decode b_ru_store 45 = .ok (.return_, 1) := by decide +kernel
theorem kb_ru_store {a0 : Nat} {a1 : Option Nat} {w : WW} {r : ((Unit ⊕ String) × WW)} (h : f_ru_store a0 a1 w = some r) : kb w a0 5 = true := (its h).1
set_option maxHeartbeats 4000000 in
set_option maxRecDepth 100000 in
theorem c_ru_store (l : Launch) (D : va_G) (cA : Nat → ClassId) (base : Nat) {a0 : Nat} {a1 : Option Nat} {w w' : WW} (h : f_ru_store a0 a1 w = some (.inl (), w')) : mt l D cls (wo_tys cA) cA base y_ru_store (Cond.code y_ru_store b_ru_store 3 (none) :: gt) rm_ru_store [.ref (base + a0), rb base a1] w none w' rm_ru_store.cells rm_ru_store.slots := by
  refine mt_start (by decide) (by simp only [lg_sl_0, lg_sl_1, lg_sl_2, lg_sl_3, lg_sl_rf]; decide) ?_
  intro p e s m below meth c ls hx hb hr hml hown hts hlk hnm hK hG hW hl
  have C : cx b_ru_store (none) 3 y_ru_store.cls "store" p s m [.ref (base + a0), rb base a1].toArray meth c D cA base := ⟨hx, hb, hr, hml, hown, hts, hlk, hnm, hK, hG⟩
  have hl : lv_has ls 3 [(0, .ref (base + a0)), (1, rb base a1)] := by simp only [lv_args_0, lv_args_1, lv_args_2, lv_args_3, lv_args_rf] at hl; exact hl
  unfold f_ru_store at h
  replace h := its h
  obtain ⟨-, h⟩ := h
  refine lv_aload_n hx hb d_ru_store_0 rfl (lv_at hl 0 rfl) ?_
  refine wo_aload_n hx hb d_ru_store_1 rfl (lv_at hl 1 rfl) ?_
  replace h := bs h
  obtain ⟨x1, ex1, h⟩ := h
  subst ex1
  replace h := bs h
  obtain ⟨x2, hx2, h⟩ := h
  refine gf_ru_76 hx hb hts hown hK hG hW (gI_s hx2) d_ru_store_2 ?_
  have hl : lv_has ls 3 [(0, .ref (base + a0)), (1, .ref (base + x1))] := hl
  refine lv_aload_n hx hb d_ru_store_5 rfl (lv_at hl 0 rfl) ?_
  refine lv_aload_n hx hb d_ru_store_6 rfl (lv_at hl 1 rfl) ?_
  replace h := bs h
  obtain ⟨x3, hx3, h⟩ := h
  refine gf_ru_79 hx hb hts hown hK hG hW (gI_s hx3) d_ru_store_7 ?_
  refine lv_aload_n hx hb d_ru_store_10 rfl (lv_at hl 1 rfl) ?_
  replace h := bs h
  obtain ⟨x4, hx4, h⟩ := h
  refine gf_ru_120 hx hb hts hown hK hG hW (gI_s hx4) d_ru_store_11 ?_
  refine lv_iconst (v := (0 : Int32)) hx hb d_ru_store_14 (by decide) ?_
  replace h := bsx h
  obtain ⟨x6, w5, hw5, h⟩ := h
  refine cv_ru_85 (As := [.int x3, .int x4, .int (0 : Int32)]) (rest := [.int x2, .ref (base + a0)]) hx hb hml hown hts hK hG hW (c_ru_workOut l D cA base hw5) (kb_ru_workOut hw5) ⟨Nat.le_of_ble_eq_true rfl, Nat.le_of_ble_eq_true rfl⟩ ⟨Nat.le_of_ble_eq_true rfl, Nat.le_of_ble_eq_true rfl⟩ rfl hl.1 rfl (Nat.le_of_ble_eq_true rfl) d_ru_store_15 (fun H locs hW => ?_)
  refine lv_aload_n hx hb d_ru_store_18 rfl (lv_at hl 1 rfl) ?_
  replace h := bs h
  obtain ⟨x7, hx7, h⟩ := h
  refine gf_ru_114 hx hb hts hown hK hG hW (gI_s hx7) d_ru_store_19 ?_
  replace h := bsx h
  obtain ⟨x9, w8, hw8, h⟩ := h
  refine cv_ru_123 (As := [.int x2, .int x6, .int x7]) (rest := []) hx hb hml hown hts hK hG hW (c_ru_cellOf l D cA base hw8) (kb_ru_cellOf hw8) ⟨Nat.le_of_ble_eq_true rfl, Nat.le_of_ble_eq_true rfl⟩ ⟨Nat.le_of_ble_eq_true rfl, Nat.le_of_ble_eq_true rfl⟩ rfl hl.1 rfl (Nat.le_of_ble_eq_true rfl) d_ru_store_22 (fun H locs hW => ?_)
  refine lv_istore_n (lv' := [(2, .int x9), (0, .ref (base + a0)), (1, .ref (base + x1))]) hx hb d_ru_store_25 rfl hl (by decide) rfl (fun ls hl => ?_)
  refine lv_aload_n hx hb d_ru_store_26 rfl (lv_at hl 1 rfl) ?_
  replace h := bs h
  obtain ⟨x10, hx10, h⟩ := h
  refine gf_ru_19 hx hb hts hown hK hG hW (gN_s hx10) d_ru_store_27 ?_
  refine lv_iload_n hx hb d_ru_store_30 rfl (lv_at hl 0 rfl) ?_
  refine lv_aload_n hx hb d_ru_store_31 rfl (lv_at hl 1 rfl) ?_
  refine lv_aload_n hx hb d_ru_store_32 rfl (lv_at hl 2 rfl) ?_
  replace h := bs h
  obtain ⟨x11, hx11, h⟩ := h
  refine gf_ru_120 hx hb hts hown hK hG hW (gI_s hx11) d_ru_store_33 ?_
  refine lv_aload_n hx hb d_ru_store_36 rfl (lv_at hl 2 rfl) ?_
  replace h := bs h
  obtain ⟨x12, hx12, h⟩ := h
  refine gf_ru_82 hx hb hts hown hK hG hW (gI_s hx12) d_ru_store_37 ?_
  refine lv_iconst (v := (0 : Int32)) hx hb d_ru_store_40 (by decide) ?_
  replace h := bsx h
  obtain ⟨x14, w13, hw13, h⟩ := h
  refine cv_ru_85 (As := [.int x11, .int x12, .int (0 : Int32)]) (rest := [.int x9, .ref (base + x10)]) hx hb hml hown hts hK hG hW (c_ru_workOut l D cA base hw13) (kb_ru_workOut hw13) ⟨Nat.le_of_ble_eq_true rfl, Nat.le_of_ble_eq_true rfl⟩ ⟨Nat.le_of_ble_eq_true rfl, Nat.le_of_ble_eq_true rfl⟩ rfl hl.1 rfl (Nat.le_of_ble_eq_true rfl) d_ru_store_41 (fun H locs hW => ?_)
  replace h := bs h
  obtain ⟨w15, hw15, h⟩ := h
  refine wo_iast hx hb hK hW (t := 0) rfl hw15 d_ru_store_44 (fun H locs hW => ?_)
  cases h
  exact wo_vret hx hb hr hlk hW d_ru_store_45
set_option maxHeartbeats 4000000 in
set_option maxRecDepth 100000 in
theorem x_ru_store (l : Launch) (hst : l.stackTraces = false) (D : va_G) (cA : Nat → ClassId) (base : Nat) {a0 : Nat} {a1 : Option Nat} {w w' : WW} {E : String} (h : f_ru_store a0 a1 w = some (.inr E, w')) : xt l D cls (wo_tys cA) cA base y_ru_store (Cond.code y_ru_store b_ru_store 3 (none) :: gt) rx_ru_store [.ref (base + a0), rb base a1] w E w' rx_ru_store.cells rx_ru_store.slots := by
  refine xt_start (by decide) (by simp only [lg_sl_0, lg_sl_1, lg_sl_2, lg_sl_3, lg_sl_rf]; decide) ?_
  intro p e s m below meth c ls hx hb hr hml hown hts hlk hnm hK hG hW hl hnt
  have C : cx b_ru_store (none) 3 y_ru_store.cls "store" p s m [.ref (base + a0), rb base a1].toArray meth c D cA base ∧ (∀ x ∈ c.exceptionTable.toList, ∀ k : Nat, covers x k = false) ∧ l.stackTraces = false := ⟨⟨hx, hb, hr, hml, hown, hts, hlk, hnm, hK, hG⟩, hnt, hst⟩
  have hl : lv_has ls 3 [(0, .ref (base + a0)), (1, rb base a1)] := by simp only [lv_args_0, lv_args_1, lv_args_2, lv_args_3, lv_args_rf] at hl; exact hl
  unfold f_ru_store at h
  replace h := its h
  obtain ⟨-, h⟩ := h
  refine lv_aload_n hx hb d_ru_store_0 rfl (lv_at hl 0 rfl) ?_
  refine wo_aload_n hx hb d_ru_store_1 rfl (lv_at hl 1 rfl) ?_
  replace h := bs h
  obtain ⟨x1, ex1, h⟩ := h
  subst ex1
  replace h := bs h
  obtain ⟨x2, hx2, h⟩ := h
  refine gf_ru_76 hx hb hts hown hK hG hW (gI_s hx2) d_ru_store_2 ?_
  have hl : lv_has ls 3 [(0, .ref (base + a0)), (1, .ref (base + x1))] := hl
  refine lv_aload_n hx hb d_ru_store_5 rfl (lv_at hl 0 rfl) ?_
  refine lv_aload_n hx hb d_ru_store_6 rfl (lv_at hl 1 rfl) ?_
  replace h := bs h
  obtain ⟨x3, hx3, h⟩ := h
  refine gf_ru_79 hx hb hts hown hK hG hW (gI_s hx3) d_ru_store_7 ?_
  refine lv_aload_n hx hb d_ru_store_10 rfl (lv_at hl 1 rfl) ?_
  replace h := bs h
  obtain ⟨x4, hx4, h⟩ := h
  refine gf_ru_120 hx hb hts hown hK hG hW (gI_s hx4) d_ru_store_11 ?_
  refine lv_iconst (v := (0 : Int32)) hx hb d_ru_store_14 (by decide) ?_
  rcases bsy h with hw5 | ⟨x6, w5, hw5, hnw5⟩
  · exact xv_ru_85 (As := [.int x3, .int x4, .int (0 : Int32)]) (rest := [.int x2, .ref (base + a0)]) hx hb hml hown hts hK hG hW (x_ru_workOut l hst D cA base hw5) (kb_ru_workOut hw5) ⟨Nat.le_of_ble_eq_true rfl, Nat.le_of_ble_eq_true rfl⟩ ⟨Nat.le_of_ble_eq_true rfl, Nat.le_of_ble_eq_true rfl⟩ rfl hl.1 rfl (Nat.le_of_ble_eq_true rfl) d_ru_store_15 (fun H locs q ce hW h1 h2 h3 => wo_xout hnt hlk hW h1 h2 h3 (Nat.le_of_ble_eq_true rfl) (Nat.le_of_ble_eq_true rfl))
  clear h
  have h := hnw5
  clear hnw5
  refine cv_ru_85 (As := [.int x3, .int x4, .int (0 : Int32)]) (rest := [.int x2, .ref (base + a0)]) hx hb hml hown hts hK hG hW (c_ru_workOut l D cA base hw5) (kb_ru_workOut hw5) ⟨Nat.le_of_ble_eq_true rfl, Nat.le_of_ble_eq_true rfl⟩ ⟨Nat.le_of_ble_eq_true rfl, Nat.le_of_ble_eq_true rfl⟩ rfl hl.1 rfl (Nat.le_of_ble_eq_true rfl) d_ru_store_15 (fun H locs hW => ?_)
  refine lv_aload_n hx hb d_ru_store_18 rfl (lv_at hl 1 rfl) ?_
  replace h := bs h
  obtain ⟨x7, hx7, h⟩ := h
  refine gf_ru_114 hx hb hts hown hK hG hW (gI_s hx7) d_ru_store_19 ?_
  rcases bsy h with hw8 | ⟨x9, w8, hw8, hnw8⟩
  · exact xv_ru_123 (As := [.int x2, .int x6, .int x7]) (rest := []) hx hb hml hown hts hK hG hW (x_ru_cellOf l hst D cA base hw8) (kb_ru_cellOf hw8) ⟨Nat.le_of_ble_eq_true rfl, Nat.le_of_ble_eq_true rfl⟩ ⟨Nat.le_of_ble_eq_true rfl, Nat.le_of_ble_eq_true rfl⟩ rfl hl.1 rfl (Nat.le_of_ble_eq_true rfl) d_ru_store_22 (fun H locs q ce hW h1 h2 h3 => wo_xout hnt hlk hW h1 h2 h3 (Nat.le_of_ble_eq_true rfl) (Nat.le_of_ble_eq_true rfl))
  clear h
  have h := hnw8
  clear hnw8
  refine cv_ru_123 (As := [.int x2, .int x6, .int x7]) (rest := []) hx hb hml hown hts hK hG hW (c_ru_cellOf l D cA base hw8) (kb_ru_cellOf hw8) ⟨Nat.le_of_ble_eq_true rfl, Nat.le_of_ble_eq_true rfl⟩ ⟨Nat.le_of_ble_eq_true rfl, Nat.le_of_ble_eq_true rfl⟩ rfl hl.1 rfl (Nat.le_of_ble_eq_true rfl) d_ru_store_22 (fun H locs hW => ?_)
  refine lv_istore_n (lv' := [(2, .int x9), (0, .ref (base + a0)), (1, .ref (base + x1))]) hx hb d_ru_store_25 rfl hl (by decide) rfl (fun ls hl => ?_)
  refine lv_aload_n hx hb d_ru_store_26 rfl (lv_at hl 1 rfl) ?_
  replace h := bs h
  obtain ⟨x10, hx10, h⟩ := h
  refine gf_ru_19 hx hb hts hown hK hG hW (gN_s hx10) d_ru_store_27 ?_
  refine lv_iload_n hx hb d_ru_store_30 rfl (lv_at hl 0 rfl) ?_
  refine lv_aload_n hx hb d_ru_store_31 rfl (lv_at hl 1 rfl) ?_
  refine lv_aload_n hx hb d_ru_store_32 rfl (lv_at hl 2 rfl) ?_
  replace h := bs h
  obtain ⟨x11, hx11, h⟩ := h
  refine gf_ru_120 hx hb hts hown hK hG hW (gI_s hx11) d_ru_store_33 ?_
  refine lv_aload_n hx hb d_ru_store_36 rfl (lv_at hl 2 rfl) ?_
  replace h := bs h
  obtain ⟨x12, hx12, h⟩ := h
  refine gf_ru_82 hx hb hts hown hK hG hW (gI_s hx12) d_ru_store_37 ?_
  refine lv_iconst (v := (0 : Int32)) hx hb d_ru_store_40 (by decide) ?_
  rcases bsy h with hw13 | ⟨x14, w13, hw13, hnw13⟩
  · exact xv_ru_85 (As := [.int x11, .int x12, .int (0 : Int32)]) (rest := [.int x9, .ref (base + x10)]) hx hb hml hown hts hK hG hW (x_ru_workOut l hst D cA base hw13) (kb_ru_workOut hw13) ⟨Nat.le_of_ble_eq_true rfl, Nat.le_of_ble_eq_true rfl⟩ ⟨Nat.le_of_ble_eq_true rfl, Nat.le_of_ble_eq_true rfl⟩ rfl hl.1 rfl (Nat.le_of_ble_eq_true rfl) d_ru_store_41 (fun H locs q ce hW h1 h2 h3 => wo_xout hnt hlk hW h1 h2 h3 (Nat.le_of_ble_eq_true rfl) (Nat.le_of_ble_eq_true rfl))
  clear h
  have h := hnw13
  clear hnw13
  refine cv_ru_85 (As := [.int x11, .int x12, .int (0 : Int32)]) (rest := [.int x9, .ref (base + x10)]) hx hb hml hown hts hK hG hW (c_ru_workOut l D cA base hw13) (kb_ru_workOut hw13) ⟨Nat.le_of_ble_eq_true rfl, Nat.le_of_ble_eq_true rfl⟩ ⟨Nat.le_of_ble_eq_true rfl, Nat.le_of_ble_eq_true rfl⟩ rfl hl.1 rfl (Nat.le_of_ble_eq_true rfl) d_ru_store_41 (fun H locs hW => ?_)
  replace h := bs h
  obtain ⟨w15, hw15, h⟩ := h
  refine wo_iast hx hb hK hW (t := 0) rfl hw15 d_ru_store_44 (fun H locs hW => ?_)
  cases h
