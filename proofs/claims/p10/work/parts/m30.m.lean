/-! Methods as functions, and their contracts (by wip/gen/run.py). -/
abbrev b_a_clear : ByteArray := prog_1_method_5_code
def y_a_clear : MethodName := ⟨"AlarmForge", "clear", "()I"⟩
def rm_a_clear : Room := { frames := 0, cells := 0, slots := 0, locals := 0 }
theorem d_a_clear_0 : decode b_a_clear 0 = .ok (.aload_n 0, 1) := by decide +kernel
theorem d_a_clear_1 : decode b_a_clear 1 = .ok (.getfield 29, 3) := by decide +kernel
theorem d_a_clear_4 : decode b_a_clear 4 = .ok (.getfield 65, 3) := by decide +kernel
theorem d_a_clear_7 : decode b_a_clear 7 = .ok (.istore_n 1, 1) := by decide +kernel
theorem d_a_clear_8 : decode b_a_clear 8 = .ok (.aload_n 0, 1) := by decide +kernel
theorem d_a_clear_9 : decode b_a_clear 9 = .ok (.getfield 29, 3) := by decide +kernel
theorem d_a_clear_12 : decode b_a_clear 12 = .ok (.iconst 0, 1) := by decide +kernel
theorem d_a_clear_13 : decode b_a_clear 13 = .ok (.putfield 65, 3) := by decide +kernel
theorem d_a_clear_16 : decode b_a_clear 16 = .ok (.iload_n 1, 1) := by decide +kernel
theorem d_a_clear_17 : decode b_a_clear 17 = .ok (.ireturn, 1) := by decide +kernel
theorem kb_a_clear {a0 : Nat}  {w : WW} {r : (Int32 × WW)} (h : f_a_clear a0 w = some r) : kb w a0 0 = true := (its h).1
set_option maxHeartbeats 4000000 in
set_option maxRecDepth 100000 in
theorem c_a_clear (l : Launch) (D : va_G) (cA : Nat → ClassId) (base : Nat) {a0 : Nat} {w w' : WW} {r : Int32} (h : f_a_clear a0 w = some (r, w')) : mt l D cls (wo_tys cA) cA base y_a_clear (Cond.code y_a_clear b_a_clear 2 (some .int) :: gt) rm_a_clear [.ref (base + a0)] w (some (.int r)) w' rm_a_clear.cells rm_a_clear.slots := by
  refine mt_start (by decide) (Nat.le_of_ble_eq_true rfl) ?_
  intro p e s m below meth c ls hx hb hr hml hown hts hlk hnm hK hG hW hl
  have C : cx b_a_clear (some .int) 2 y_a_clear.cls "clear" p s m [.ref (base + a0)].toArray meth c D cA base := ⟨hx, hb, hr, hml, hown, hts, hlk, hnm, hK, hG⟩
  have hl : lv_has ls 2 [(0, .ref (base + a0))] := hl
  unfold f_a_clear at h
  replace h := its h
  obtain ⟨-, h⟩ := h
  refine lv_aload_n hx hb d_a_clear_0 rfl (lv_at hl 0 rfl) ?_
  replace h := bs h
  obtain ⟨x1, hx1, h⟩ := h
  refine gf_a_29 hx hb hts hown hK hG hW (gN_s hx1) d_a_clear_1 ?_
  replace h := bs h
  obtain ⟨x2, hx2, h⟩ := h
  refine gf_a_65 hx hb hts hown hK hG hW (gI_s hx2) d_a_clear_4 ?_
  refine lv_istore_n (lv' := [(1, .int x2), (0, .ref (base + a0))]) hx hb d_a_clear_7 rfl hl (by decide) rfl (fun ls hl => ?_)
  refine lv_aload_n hx hb d_a_clear_8 rfl (lv_at hl 1 rfl) ?_
  replace h := bs h
  obtain ⟨x3, hx3, h⟩ := h
  refine gf_a_29 hx hb hts hown hK hG hW (gN_s hx3) d_a_clear_9 ?_
  refine lv_iconst (v := (0 : Int32)) hx hb d_a_clear_12 (by decide) ?_
  replace h := bs h
  obtain ⟨w4, hw4, h⟩ := h
  refine pf_a_65 hx hb hts hown hK hG hW rfl rfl (pbi hw4 rfl) d_a_clear_13 (fun H locs hW => ?_)
  refine lv_iload_n hx hb d_a_clear_16 rfl (lv_at hl 0 rfl) ?_
  cases h
  exact wo_iret hx hb hr hlk hW d_a_clear_17
abbrev b_a_where : ByteArray := prog_1_method_7_code
def y_a_where : MethodName := ⟨"AlarmForge", "where", "()I"⟩
def rm_a_where : Room := { frames := 0, cells := 0, slots := 0, locals := 0 }
theorem d_a_where_0 : decode b_a_where 0 = .ok (.aload_n 0, 1) := by decide +kernel
theorem d_a_where_1 : decode b_a_where 1 = .ok (.getfield 21, 3) := by decide +kernel
theorem d_a_where_4 : decode b_a_where 4 = .ok (.getfield 88, 3) := by decide +kernel
theorem d_a_where_7 : decode b_a_where 7 = .ok (.ireturn, 1) := by decide +kernel
theorem kb_a_where {a0 : Nat}  {w : WW} {r : (Int32 × WW)} (h : f_a_where a0 w = some r) : kb w a0 0 = true := (its h).1
set_option maxHeartbeats 4000000 in
set_option maxRecDepth 100000 in
theorem c_a_where (l : Launch) (D : va_G) (cA : Nat → ClassId) (base : Nat) {a0 : Nat} {w w' : WW} {r : Int32} (h : f_a_where a0 w = some (r, w')) : mt l D cls (wo_tys cA) cA base y_a_where (Cond.code y_a_where b_a_where 1 (some .int) :: gt) rm_a_where [.ref (base + a0)] w (some (.int r)) w' rm_a_where.cells rm_a_where.slots := by
  refine mt_start (by decide) (Nat.le_of_ble_eq_true rfl) ?_
  intro p e s m below meth c ls hx hb hr hml hown hts hlk hnm hK hG hW hl
  have C : cx b_a_where (some .int) 1 y_a_where.cls "where" p s m [.ref (base + a0)].toArray meth c D cA base := ⟨hx, hb, hr, hml, hown, hts, hlk, hnm, hK, hG⟩
  have hl : lv_has ls 1 [(0, .ref (base + a0))] := hl
  unfold f_a_where at h
  replace h := its h
  obtain ⟨-, h⟩ := h
  refine lv_aload_n hx hb d_a_where_0 rfl (lv_at hl 0 rfl) ?_
  replace h := bs h
  obtain ⟨x1, hx1, h⟩ := h
  refine gf_a_21 hx hb hts hown hK hG hW (gN_s hx1) d_a_where_1 ?_
  replace h := bs h
  obtain ⟨x2, hx2, h⟩ := h
  refine gf_a_88 hx hb hts hown hK hG hW (gI_s hx2) d_a_where_4 ?_
  cases h
  exact wo_iret hx hb hr hlk hW d_a_where_7
abbrev b_a_forget : ByteArray := prog_1_method_10_code
def y_a_forget : MethodName := ⟨"AlarmForge", "forget", "()I"⟩
def rm_a_forget : Room := { frames := 0, cells := 0, slots := 0, locals := 0 }
theorem d_a_forget_0 : decode b_a_forget 0 = .ok (.aload_n 0, 1) := by decide +kernel
theorem d_a_forget_1 : decode b_a_forget 1 = .ok (.getfield 43, 3) := by decide +kernel
theorem d_a_forget_4 : decode b_a_forget 4 = .ok (.getfield 91, 3) := by decide +kernel
theorem d_a_forget_7 : decode b_a_forget 7 = .ok (.istore_n 1, 1) := by decide +kernel
theorem d_a_forget_8 : decode b_a_forget 8 = .ok (.aload_n 0, 1) := by decide +kernel
theorem d_a_forget_9 : decode b_a_forget 9 = .ok (.getfield 43, 3) := by decide +kernel
theorem d_a_forget_12 : decode b_a_forget 12 = .ok (.iconst 0, 1) := by decide +kernel
theorem d_a_forget_13 : decode b_a_forget 13 = .ok (.putfield 91, 3) := by decide +kernel
theorem d_a_forget_16 : decode b_a_forget 16 = .ok (.iload_n 1, 1) := by decide +kernel
theorem d_a_forget_17 : decode b_a_forget 17 = .ok (.ireturn, 1) := by decide +kernel
theorem kb_a_forget {a0 : Nat}  {w : WW} {r : (Int32 × WW)} (h : f_a_forget a0 w = some r) : kb w a0 0 = true := (its h).1
set_option maxHeartbeats 4000000 in
set_option maxRecDepth 100000 in
theorem c_a_forget (l : Launch) (D : va_G) (cA : Nat → ClassId) (base : Nat) {a0 : Nat} {w w' : WW} {r : Int32} (h : f_a_forget a0 w = some (r, w')) : mt l D cls (wo_tys cA) cA base y_a_forget (Cond.code y_a_forget b_a_forget 2 (some .int) :: gt) rm_a_forget [.ref (base + a0)] w (some (.int r)) w' rm_a_forget.cells rm_a_forget.slots := by
  refine mt_start (by decide) (Nat.le_of_ble_eq_true rfl) ?_
  intro p e s m below meth c ls hx hb hr hml hown hts hlk hnm hK hG hW hl
  have C : cx b_a_forget (some .int) 2 y_a_forget.cls "forget" p s m [.ref (base + a0)].toArray meth c D cA base := ⟨hx, hb, hr, hml, hown, hts, hlk, hnm, hK, hG⟩
  have hl : lv_has ls 2 [(0, .ref (base + a0))] := hl
  unfold f_a_forget at h
  replace h := its h
  obtain ⟨-, h⟩ := h
  refine lv_aload_n hx hb d_a_forget_0 rfl (lv_at hl 0 rfl) ?_
  replace h := bs h
  obtain ⟨x1, hx1, h⟩ := h
  refine gf_a_43 hx hb hts hown hK hG hW (gN_s hx1) d_a_forget_1 ?_
  replace h := bs h
  obtain ⟨x2, hx2, h⟩ := h
  refine gf_a_91 hx hb hts hown hK hG hW (gI_s hx2) d_a_forget_4 ?_
  refine lv_istore_n (lv' := [(1, .int x2), (0, .ref (base + a0))]) hx hb d_a_forget_7 rfl hl (by decide) rfl (fun ls hl => ?_)
  refine lv_aload_n hx hb d_a_forget_8 rfl (lv_at hl 1 rfl) ?_
  replace h := bs h
  obtain ⟨x3, hx3, h⟩ := h
  refine gf_a_43 hx hb hts hown hK hG hW (gN_s hx3) d_a_forget_9 ?_
  refine lv_iconst (v := (0 : Int32)) hx hb d_a_forget_12 (by decide) ?_
  replace h := bs h
  obtain ⟨w4, hw4, h⟩ := h
  refine pf_a_91 hx hb hts hown hK hG hW rfl rfl (pbi hw4 rfl) d_a_forget_13 (fun H locs hW => ?_)
  refine lv_iload_n hx hb d_a_forget_16 rfl (lv_at hl 0 rfl) ?_
  cases h
  exact wo_iret hx hb hr hlk hW d_a_forget_17
abbrev b_a_byteAt : ByteArray := prog_1_method_3_code
def y_a_byteAt : MethodName := ⟨"AlarmForge", "byteAt", "(JI)I"⟩
def rm_a_byteAt : Room := { frames := 0, cells := 0, slots := 0, locals := 0 }
theorem d_a_byteAt_0 : decode b_a_byteAt 0 = .ok (.lload_n 0, 1) := by decide +kernel
theorem d_a_byteAt_1 : decode b_a_byteAt 1 = .ok (.iload_n 2, 1) := by decide +kernel
theorem d_a_byteAt_2 : decode b_a_byteAt 2 = .ok (.lushr, 1) := by decide +kernel
theorem d_a_byteAt_3 : decode b_a_byteAt 3 = .ok (.l2i, 1) := by decide +kernel
theorem d_a_byteAt_4 : decode b_a_byteAt 4 = .ok (.sipush (255), 3) := by decide +kernel
theorem d_a_byteAt_7 : decode b_a_byteAt 7 = .ok (.iand, 1) := by decide +kernel
theorem d_a_byteAt_8 : decode b_a_byteAt 8 = .ok (.ireturn, 1) := by decide +kernel
set_option maxHeartbeats 4000000 in
set_option maxRecDepth 100000 in
theorem c_a_byteAt (l : Launch) (D : va_G) (cA : Nat → ClassId) (base : Nat) {a0 : Int64} {a2 : Int32} {w w' : WW} {r : Int32} (h : f_a_byteAt a0 a2 w = some (r, w')) : mt l D cls (wo_tys cA) cA base y_a_byteAt (Cond.code y_a_byteAt b_a_byteAt 3 (some .int) :: gt) rm_a_byteAt [.long a0, .int a2] w (some (.int r)) w' rm_a_byteAt.cells rm_a_byteAt.slots := by
  refine mt_start (by decide) (Nat.le_of_ble_eq_true rfl) ?_
  intro p e s m below meth c ls hx hb hr hml hown hts hlk hnm hK hG hW hl
  have C : cx b_a_byteAt (some .int) 3 y_a_byteAt.cls "byteAt" p s m [.long a0, .int a2].toArray meth c D cA base := ⟨hx, hb, hr, hml, hown, hts, hlk, hnm, hK, hG⟩
  have hl : lv_has ls 3 [(0, .long a0), (2, .int a2)] := hl
  unfold f_a_byteAt at h
  refine lv_lload_n hx hb d_a_byteAt_0 rfl (lv_at hl 0 rfl) ?_
  refine lv_iload_n hx hb d_a_byteAt_1 rfl (lv_at hl 1 rfl) ?_
  refine lv_lushr hx hb d_a_byteAt_2 rfl ?_
  refine lv_l2i hx hb d_a_byteAt_3 rfl ?_
  refine lv_sipush (v := (255 : Int32)) hx hb d_a_byteAt_4 (by decide) ?_
  refine lv_iand hx hb d_a_byteAt_7 ?_
  cases h
  exact wo_iret hx hb hr hlk hW d_a_byteAt_8
abbrev b_a_isCharacter : ByteArray := prog_1_method_4_code
def y_a_isCharacter : MethodName := ⟨"AlarmForge", "isCharacter", "(I)Z"⟩
def rm_a_isCharacter : Room := { frames := 0, cells := 0, slots := 0, locals := 0 }
theorem d_a_isCharacter_0 : decode b_a_isCharacter 0 = .ok (.iload_n 0, 1) := by decide +kernel
theorem d_a_isCharacter_1 : decode b_a_isCharacter 1 = .ok (.bipush (10), 2) := by decide +kernel
theorem d_a_isCharacter_3 : decode b_a_isCharacter 3 = .ok (.if_icmp .eq (15), 3) := by decide +kernel
theorem d_a_isCharacter_6 : decode b_a_isCharacter 6 = .ok (.iload_n 0, 1) := by decide +kernel
theorem d_a_isCharacter_7 : decode b_a_isCharacter 7 = .ok (.bipush (32), 2) := by decide +kernel
theorem d_a_isCharacter_9 : decode b_a_isCharacter 9 = .ok (.if_icmp .lt (13), 3) := by decide +kernel
theorem d_a_isCharacter_12 : decode b_a_isCharacter 12 = .ok (.iload_n 0, 1) := by decide +kernel
theorem d_a_isCharacter_13 : decode b_a_isCharacter 13 = .ok (.bipush (126), 2) := by decide +kernel
theorem d_a_isCharacter_15 : decode b_a_isCharacter 15 = .ok (.if_icmp .gt (7), 3) := by decide +kernel
theorem d_a_isCharacter_18 : decode b_a_isCharacter 18 = .ok (.iconst 1, 1) := by decide +kernel
theorem d_a_isCharacter_19 : decode b_a_isCharacter 19 = .ok (.goto (4), 3) := by decide +kernel
theorem d_a_isCharacter_22 : decode b_a_isCharacter 22 = .ok (.iconst 0, 1) := by decide +kernel
theorem d_a_isCharacter_23 : decode b_a_isCharacter 23 = .ok (.ireturn, 1) := by decide +kernel
set_option maxHeartbeats 4000000 in
set_option maxRecDepth 100000 in
theorem j_a_isCharacter_23 {p : Program} {l : Launch} {e : Env} {s : State} {m : MethodId} {args : Array Value} {below : List Frame} {meth : Method} {c : Code} {D : va_G} {cA : Nat → ClassId} {base : Nat} {r : Int32} {w' : WW} (C : cx b_a_isCharacter (some .boolean) 1 y_a_isCharacter.cls "isCharacter" p s m args meth c D cA base)   : ∀ (z0 : Int32) (w : WW), f_a_isCharacter_23 z0 w = some (r, w') → ∀ (H : Heap) (locs : List Loc) (ls : Array Slot), wo_S D cls cA base s w H locs → lv_has ls 1 [] → W p l e rm_a_isCharacter s m args below meth c H locs 0 0 (MQ below (wo_Q D cls cA base (some (.int r)) w') args s rm_a_isCharacter.cells rm_a_isCharacter.slots (wo_B base)) (F0 m 23 ls [.int z0]) := by
  obtain ⟨hx, hb, hr, hml, hown, hts, hlk, hnm, hK, hG⟩ := id C
  intro z0 w h H locs ls hW hl
  unfold f_a_isCharacter_23 at h
  replace h := its h
  obtain ⟨c2, h⟩ := h
  cases h
  exact wo_zret hx hb hr hlk hW c2 d_a_isCharacter_23
set_option maxHeartbeats 4000000 in
set_option maxRecDepth 100000 in
theorem j_a_isCharacter_18 {p : Program} {l : Launch} {e : Env} {s : State} {m : MethodId} {args : Array Value} {below : List Frame} {meth : Method} {c : Code} {D : va_G} {cA : Nat → ClassId} {base : Nat} {r : Int32} {w' : WW} (C : cx b_a_isCharacter (some .boolean) 1 y_a_isCharacter.cls "isCharacter" p s m args meth c D cA base)   : ∀  (w : WW), f_a_isCharacter_18  w = some (r, w') → ∀ (H : Heap) (locs : List Loc) (ls : Array Slot), wo_S D cls cA base s w H locs → lv_has ls 1 [] → W p l e rm_a_isCharacter s m args below meth c H locs 0 0 (MQ below (wo_Q D cls cA base (some (.int r)) w') args s rm_a_isCharacter.cells rm_a_isCharacter.slots (wo_B base)) (F0 m 18 ls []) := by
  obtain ⟨hx, hb, hr, hml, hown, hts, hlk, hnm, hK, hG⟩ := id C
  intro  w h H locs ls hW hl
  unfold f_a_isCharacter_18 at h
  refine lv_iconst (v := (1 : Int32)) hx hb d_a_isCharacter_18 (by decide) ?_
  refine lv_goto (tgt := 23) hx hb d_a_isCharacter_19 (by decide) ?_
  exact j_a_isCharacter_23 C (1 : Int32) w h _ _ _ hW (lv_sub hl [] rfl)
set_option maxHeartbeats 4000000 in
set_option maxRecDepth 100000 in
theorem j_a_isCharacter_22 {p : Program} {l : Launch} {e : Env} {s : State} {m : MethodId} {args : Array Value} {below : List Frame} {meth : Method} {c : Code} {D : va_G} {cA : Nat → ClassId} {base : Nat} {r : Int32} {w' : WW} (C : cx b_a_isCharacter (some .boolean) 1 y_a_isCharacter.cls "isCharacter" p s m args meth c D cA base)   : ∀  (w : WW), f_a_isCharacter_22  w = some (r, w') → ∀ (H : Heap) (locs : List Loc) (ls : Array Slot), wo_S D cls cA base s w H locs → lv_has ls 1 [] → W p l e rm_a_isCharacter s m args below meth c H locs 0 0 (MQ below (wo_Q D cls cA base (some (.int r)) w') args s rm_a_isCharacter.cells rm_a_isCharacter.slots (wo_B base)) (F0 m 22 ls []) := by
  obtain ⟨hx, hb, hr, hml, hown, hts, hlk, hnm, hK, hG⟩ := id C
  intro  w h H locs ls hW hl
  unfold f_a_isCharacter_22 at h
  refine lv_iconst (v := (0 : Int32)) hx hb d_a_isCharacter_22 (by decide) ?_
  exact j_a_isCharacter_23 C (0 : Int32) w h _ _ _ hW (lv_sub hl [] rfl)
set_option maxHeartbeats 4000000 in
set_option maxRecDepth 100000 in
theorem c_a_isCharacter (l : Launch) (D : va_G) (cA : Nat → ClassId) (base : Nat) {a0 : Int32} {w w' : WW} {r : Int32} (h : f_a_isCharacter a0 w = some (r, w')) : mt l D cls (wo_tys cA) cA base y_a_isCharacter (Cond.code y_a_isCharacter b_a_isCharacter 1 (some .boolean) :: gt) rm_a_isCharacter [.int a0] w (some (.int r)) w' rm_a_isCharacter.cells rm_a_isCharacter.slots := by
  refine mt_start (by decide) (Nat.le_of_ble_eq_true rfl) ?_
  intro p e s m below meth c ls hx hb hr hml hown hts hlk hnm hK hG hW hl
  have C : cx b_a_isCharacter (some .boolean) 1 y_a_isCharacter.cls "isCharacter" p s m [.int a0].toArray meth c D cA base := ⟨hx, hb, hr, hml, hown, hts, hlk, hnm, hK, hG⟩
  have hl : lv_has ls 1 [(0, .int a0)] := hl
  unfold f_a_isCharacter at h
  refine lv_iload_n hx hb d_a_isCharacter_0 rfl (lv_at hl 0 rfl) ?_
  refine lv_bipush (v := (10 : Int32)) hx hb d_a_isCharacter_1 (by decide) ?_
  refine lv_icmp_eq (tgt := 18) hx hb d_a_isCharacter_3 (by decide) (fun c1 => ?_) (fun c1 => ?_)
  · rw [if_pos c1] at h
    exact j_a_isCharacter_18 C w h _ _ _ hW (lv_sub hl [] rfl)
  · rw [if_neg c1] at h
    refine lv_iload_n hx hb d_a_isCharacter_6 rfl (lv_at hl 0 rfl) ?_
    refine lv_bipush (v := (32 : Int32)) hx hb d_a_isCharacter_7 (by decide) ?_
    refine lv_icmp_lt (tgt := 22) hx hb d_a_isCharacter_9 (by decide) (fun c3 => ?_) (fun c3 => ?_)
    · rw [if_pos c3] at h
      exact j_a_isCharacter_22 C w h _ _ _ hW (lv_sub hl [] rfl)
    · rw [if_neg c3] at h
      refine lv_iload_n hx hb d_a_isCharacter_12 rfl (lv_at hl 0 rfl) ?_
      refine lv_bipush (v := (126 : Int32)) hx hb d_a_isCharacter_13 (by decide) ?_
      refine lv_icmp_gt (tgt := 22) hx hb d_a_isCharacter_15 (by decide) (fun c4 => ?_) (fun c4 => ?_)
      · rw [if_pos c4] at h
        exact j_a_isCharacter_22 C w h _ _ _ hW (lv_sub hl [] rfl)
      · rw [if_neg c4] at h
        exact j_a_isCharacter_18 C w h _ _ _ hW (lv_sub hl [] rfl)
abbrev b_rd_append : ByteArray := prog_5_method_2_code
def y_rd_append : MethodName := ⟨"AlarmForge$Reader", "append", "(C)V"⟩
def rm_rd_append : Room := { frames := 0, cells := 0, slots := 0, locals := 0 }
theorem d_rd_append_0 : decode b_rd_append 0 = .ok (.aload_n 0, 1) := by decide +kernel
theorem d_rd_append_1 : decode b_rd_append 1 = .ok (.getfield 25, 3) := by decide +kernel
theorem d_rd_append_4 : decode b_rd_append 4 = .ok (.sipush (200), 3) := by decide +kernel
theorem d_rd_append_7 : decode b_rd_append 7 = .ok (.if_icmp .ge (23), 3) := by decide +kernel
theorem d_rd_append_10 : decode b_rd_append 10 = .ok (.aload_n 0, 1) := by decide +kernel
theorem d_rd_append_11 : decode b_rd_append 11 = .ok (.getfield 9, 3) := by decide +kernel
theorem d_rd_append_14 : decode b_rd_append 14 = .ok (.aload_n 0, 1) := by decide +kernel
theorem d_rd_append_15 : decode b_rd_append 15 = .ok (.getfield 25, 3) := by decide +kernel
theorem d_rd_append_18 : decode b_rd_append 18 = .ok (.iload_n 1, 1) := by decide +kernel
theorem d_rd_append_19 : decode b_rd_append 19 = .ok (.castore, 1) := by decide +kernel
theorem d_rd_append_20 : decode b_rd_append 20 = .ok (.aload_n 0, 1) := by decide +kernel
theorem d_rd_append_21 : decode b_rd_append 21 = .ok (.dup, 1) := by decide +kernel
theorem d_rd_append_22 : decode b_rd_append 22 = .ok (.getfield 25, 3) := by decide +kernel
theorem d_rd_append_25 : decode b_rd_append 25 = .ok (.iconst 1, 1) := by decide +kernel
theorem d_rd_append_26 : decode b_rd_append 26 = .ok (.iadd, 1) := by decide +kernel
theorem d_rd_append_27 : decode b_rd_append 27 = .ok (.putfield 25, 3) := by decide +kernel
theorem d_rd_append_30 : decode b_rd_append 30 = .ok (.return_, 1) := by decide +kernel
theorem kb_rd_append {a0 : Nat} {a1 : Int32} {w : WW} {r : WW} (h : f_rd_append a0 a1 w = some r) : kb w a0 1 = true := (its h).1
set_option maxHeartbeats 4000000 in
set_option maxRecDepth 100000 in
theorem j_rd_append_30 {p : Program} {l : Launch} {e : Env} {s : State} {m : MethodId} {args : Array Value} {below : List Frame} {meth : Method} {c : Code} {D : va_G} {cA : Nat → ClassId} {base : Nat} {w' : WW} (C : cx b_rd_append (none) 2 y_rd_append.cls "append" p s m args meth c D cA base)   : ∀  (w : WW), f_rd_append_30  w = some w' → ∀ (H : Heap) (locs : List Loc) (ls : Array Slot), wo_S D cls cA base s w H locs → lv_has ls 2 [] → W p l e rm_rd_append s m args below meth c H locs 0 0 (MQ below (wo_Q D cls cA base none w') args s rm_rd_append.cells rm_rd_append.slots (wo_B base)) (F0 m 30 ls []) := by
  obtain ⟨hx, hb, hr, hml, hown, hts, hlk, hnm, hK, hG⟩ := id C
  intro  w h H locs ls hW hl
  unfold f_rd_append_30 at h
  cases h
  exact wo_vret hx hb hr hlk hW d_rd_append_30
set_option maxHeartbeats 4000000 in
set_option maxRecDepth 100000 in
theorem c_rd_append (l : Launch) (D : va_G) (cA : Nat → ClassId) (base : Nat) {a0 : Nat} {a1 : Int32} {w w' : WW} (h : f_rd_append a0 a1 w = some w') : mt l D cls (wo_tys cA) cA base y_rd_append (Cond.code y_rd_append b_rd_append 2 (none) :: gt) rm_rd_append [.ref (base + a0), .int a1] w none w' rm_rd_append.cells rm_rd_append.slots := by
  refine mt_start (by decide) (Nat.le_of_ble_eq_true rfl) ?_
  intro p e s m below meth c ls hx hb hr hml hown hts hlk hnm hK hG hW hl
  have C : cx b_rd_append (none) 2 y_rd_append.cls "append" p s m [.ref (base + a0), .int a1].toArray meth c D cA base := ⟨hx, hb, hr, hml, hown, hts, hlk, hnm, hK, hG⟩
  have hl : lv_has ls 2 [(0, .ref (base + a0)), (1, .int a1)] := hl
  unfold f_rd_append at h
  replace h := its h
  obtain ⟨-, h⟩ := h
  refine lv_aload_n hx hb d_rd_append_0 rfl (lv_at hl 0 rfl) ?_
  replace h := bs h
  obtain ⟨x1, hx1, h⟩ := h
  refine gf_rd_25 hx hb hts hown hK hG hW (gI_s hx1) d_rd_append_1 ?_
  refine lv_sipush (v := (200 : Int32)) hx hb d_rd_append_4 (by decide) ?_
  refine lv_icmp_ge (tgt := 30) hx hb d_rd_append_7 (by decide) (fun c2 => ?_) (fun c2 => ?_)
  · rw [if_pos c2] at h
    exact j_rd_append_30 C w h _ _ _ hW (lv_sub hl [] rfl)
  · rw [if_neg c2] at h
    refine lv_aload_n hx hb d_rd_append_10 rfl (lv_at hl 0 rfl) ?_
    replace h := bs h
    obtain ⟨x3, hx3, h⟩ := h
    refine gf_rd_9 hx hb hts hown hK hG hW (gN_s hx3) d_rd_append_11 ?_
    refine lv_aload_n hx hb d_rd_append_14 rfl (lv_at hl 0 rfl) ?_
    replace h := bs h
    obtain ⟨x4, hx4, h⟩ := h
    refine gf_rd_25 hx hb hts hown hK hG hW (gI_s hx4) d_rd_append_15 ?_
    refine lv_iload_n hx hb d_rd_append_18 rfl (lv_at hl 1 rfl) ?_
    replace h := bs h
    obtain ⟨w5, hw5, h⟩ := h
    refine wo_cast hx hb hK hW (t := 3) rfl hw5 d_rd_append_19 (fun H locs hW => ?_)
    refine lv_aload_n hx hb d_rd_append_20 rfl (lv_at hl 0 rfl) ?_
    refine lv_dup hx hb d_rd_append_21 rfl ?_
    replace h := bs h
    obtain ⟨x6, hx6, h⟩ := h
    refine gf_rd_25 hx hb hts hown hK hG hW (gI_s hx6) d_rd_append_22 ?_
    refine lv_iconst (v := (1 : Int32)) hx hb d_rd_append_25 (by decide) ?_
    refine lv_iadd hx hb d_rd_append_26 ?_
    replace h := bs h
    obtain ⟨w7, hw7, h⟩ := h
    refine pf_rd_25 hx hb hts hown hK hG hW rfl rfl (pbi hw7 rfl) d_rd_append_27 (fun H locs hW => ?_)
    exact j_rd_append_30 C w7 h _ _ _ hW (lv_sub hl [] rfl)
theorem cs_a_54 {p : Program} {l : Launch} {e : Env} {R : Room} {s : State} {m : MethodId} {args : Array Value} {below : List Frame} {meth : Method} {c : Code} {H : Heap} {locs : List Loc} {cells slots : Nat} {Q : State → Prop} {D : va_G} {cA : Nat → ClassId} {base : Nat} {w w' : WW} {cc : ByteArray} {pc nL : Nat} {ls : Array Slot} {rest st0 As : List Value} {ov : Option Value} (hx : p.tables.exec = Jvm.exec) (hb : c.code = cc) (hml : c.maxLocals = nL) (hown : s.vm.findClass Rc_a = some m.cls) (hts : ∀ w ∈ gt, w.before args s = true) (hK : va_K D cls (wo_tys cA) s) (hG : wo_G cA base s) (hW : wo_S D cls cA base s w H locs) (hM : mt l D cls (wo_tys cA) cA base y_a_byteAt (Cond.code y_a_byteAt b_a_byteAt 3 (some .int) :: gt) rm_a_byteAt (As) w ov w' rm_a_byteAt.cells rm_a_byteAt.slots) (hR : rm_a_byteAt.frames + 1 ≤ R.frames ∧ 8 + (3 + 11) + rm_a_byteAt.locals ≤ R.locals) (hf : cells + rm_a_byteAt.cells ≤ R.cells ∧ slots + rm_a_byteAt.slots ≤ R.slots) (hn : As.length = 2) (hsz : ls.size = nL) (hst : st0 = As.reverse ++ rest) (hcat : (rest.map fun v => v.category).sum ≤ 8) (hdg : decode cc pc = .ok (.invokestatic 54, 3)) (kk : ∀ (H1 : Heap) (locs1 : List Loc), wo_S D cls cA base s w' H1 locs1 → W p l e R s m args below meth c H1 locs1 (cells + rm_a_byteAt.cells) (slots + rm_a_byteAt.slots) Q (F0 m (pc + 3) ls (ov.toList ++ rest))) : W p l e R s m args below meth c H locs cells slots Q (F0 m pc ls st0) :=
  wo_callS hx hb hml hown hts hK hG hW hM (gt_of (i := 389) (by decide +kernel) (by decide +kernel)) (gt_of (i := 390) (by decide +kernel) (by decide +kernel)) (gt_of (i := 1) (by decide +kernel) (by decide +kernel)) (gt_of (i := 391) (by decide +kernel) (by decide +kernel)) (by decide +kernel) hR hf hn hsz hst hcat hdg kk
theorem cs_a_58 {p : Program} {l : Launch} {e : Env} {R : Room} {s : State} {m : MethodId} {args : Array Value} {below : List Frame} {meth : Method} {c : Code} {H : Heap} {locs : List Loc} {cells slots : Nat} {Q : State → Prop} {D : va_G} {cA : Nat → ClassId} {base : Nat} {w w' : WW} {cc : ByteArray} {pc nL : Nat} {ls : Array Slot} {rest st0 As : List Value} {ov : Option Value} (hx : p.tables.exec = Jvm.exec) (hb : c.code = cc) (hml : c.maxLocals = nL) (hown : s.vm.findClass Rc_a = some m.cls) (hts : ∀ w ∈ gt, w.before args s = true) (hK : va_K D cls (wo_tys cA) s) (hG : wo_G cA base s) (hW : wo_S D cls cA base s w H locs) (hM : mt l D cls (wo_tys cA) cA base y_a_isCharacter (Cond.code y_a_isCharacter b_a_isCharacter 1 (some .boolean) :: gt) rm_a_isCharacter (As) w ov w' rm_a_isCharacter.cells rm_a_isCharacter.slots) (hR : rm_a_isCharacter.frames + 1 ≤ R.frames ∧ 8 + (1 + 11) + rm_a_isCharacter.locals ≤ R.locals) (hf : cells + rm_a_isCharacter.cells ≤ R.cells ∧ slots + rm_a_isCharacter.slots ≤ R.slots) (hn : As.length = 1) (hsz : ls.size = nL) (hst : st0 = As.reverse ++ rest) (hcat : (rest.map fun v => v.category).sum ≤ 8) (hdg : decode cc pc = .ok (.invokestatic 58, 3)) (kk : ∀ (H1 : Heap) (locs1 : List Loc), wo_S D cls cA base s w' H1 locs1 → W p l e R s m args below meth c H1 locs1 (cells + rm_a_isCharacter.cells) (slots + rm_a_isCharacter.slots) Q (F0 m (pc + 3) ls (ov.toList ++ rest))) : W p l e R s m args below meth c H locs cells slots Q (F0 m pc ls st0) :=
  wo_callS hx hb hml hown hts hK hG hW hM (gt_of (i := 392) (by decide +kernel) (by decide +kernel)) (gt_of (i := 393) (by decide +kernel) (by decide +kernel)) (gt_of (i := 1) (by decide +kernel) (by decide +kernel)) (gt_of (i := 394) (by decide +kernel) (by decide +kernel)) (by decide +kernel) hR hf hn hsz hst hcat hdg kk
theorem cv_a_73 {p : Program} {l : Launch} {e : Env} {R : Room} {s : State} {m : MethodId} {args : Array Value} {below : List Frame} {meth : Method} {c : Code} {H : Heap} {locs : List Loc} {cells slots : Nat} {Q : State → Prop} {D : va_G} {cA : Nat → ClassId} {base : Nat} {w w' : WW} {cc : ByteArray} {pc nL : Nat} {ls : Array Slot} {rest st0 As : List Value} {ov : Option Value} {b : Nat} (hx : p.tables.exec = Jvm.exec) (hb : c.code = cc) (hml : c.maxLocals = nL) (hown : s.vm.findClass Rc_a = some m.cls) (hts : ∀ w ∈ gt, w.before args s = true) (hK : va_K D cls (wo_tys cA) s) (hG : wo_G cA base s) (hW : wo_S D cls cA base s w H locs) (hM : mt l D cls (wo_tys cA) cA base y_rd_append (Cond.code y_rd_append b_rd_append 2 (none) :: gt) rm_rd_append (.ref (base + b) :: As) w ov w' rm_rd_append.cells rm_rd_append.slots) (hkb : kb w b 1 = true) (hR : rm_rd_append.frames + 1 ≤ R.frames ∧ 8 + (2 + 11) + rm_rd_append.locals ≤ R.locals) (hf : cells + rm_rd_append.cells ≤ R.cells ∧ slots + rm_rd_append.slots ≤ R.slots) (hn : As.length = 1) (hsz : ls.size = nL) (hst : st0 = As.reverse ++ .ref (base + b) :: rest) (hcat : (rest.map fun v => v.category).sum ≤ 8) (hdg : decode cc pc = .ok (.invokevirtual 73, 3)) (kk : ∀ (H1 : Heap) (locs1 : List Loc), wo_S D cls cA base s w' H1 locs1 → W p l e R s m args below meth c H1 locs1 (cells + rm_rd_append.cells) (slots + rm_rd_append.slots) Q (F0 m (pc + 3) ls (ov.toList ++ rest))) : W p l e R s m args below meth c H locs cells slots Q (F0 m pc ls st0) :=
  wo_callV (C := Rc_rd) hx hb hml hown hts hK hG hW hM hkb rfl (gt_of (i := 475) (by decide +kernel) (by decide +kernel)) (gt_of (i := 476) (by decide +kernel) (by decide +kernel)) (gt_of (i := 477) (by decide +kernel) (by decide +kernel)) (gt_of (i := 3) (by decide +kernel) (by decide +kernel)) (gt_of (i := 478) (by decide +kernel) (by decide +kernel)) (by decide +kernel) hR hf hn hsz hst hcat hdg kk
abbrev b_a_text : ByteArray := prog_1_method_2_code
def y_a_text : MethodName := ⟨"AlarmForge", "text", "(J)I"⟩
def rm_a_text : Room := { frames := 6, cells := 0, slots := 0, locals := 100 }
def rx_a_text : Room := { frames := 6, cells := 1, slots := 6, locals := 100 }
theorem ow_a_64 : (Bundle.ownAtoms0 "AlarmForge" 64 "java/lang/IllegalArgumentException" ["java/lang/RuntimeException", "java/lang/Exception"]).all ow_ok = true := by decide +kernel
theorem ow_a_72 : (Bundle.ownAtoms0 "AlarmForge" 72 "java/lang/IllegalStateException" ["java/lang/RuntimeException", "java/lang/Exception"]).all ow_ok = true := by decide +kernel
theorem d_a_text_0 : decode b_a_text 0 = .ok (.iconst 0, 1) := by decide +kernel
theorem d_a_text_1 : decode b_a_text 1 = .ok (.istore_n 3, 1) := by decide +kernel
theorem d_a_text_2 : decode b_a_text 2 = .ok (.bipush (56), 2) := by decide +kernel
theorem d_a_text_4 : decode b_a_text 4 = .ok (.istore 4, 2) := by decide +kernel
theorem d_a_text_6 : decode b_a_text 6 = .ok (.iload 4, 2) := by decide +kernel
theorem d_a_text_8 : decode b_a_text 8 = .ok (.ifCond .lt (51), 3) := by decide +kernel
theorem d_a_text_11 : decode b_a_text 11 = .ok (.lload_n 1, 1) := by decide +kernel
theorem d_a_text_12 : decode b_a_text 12 = .ok (.iload 4, 2) := by decide +kernel
theorem d_a_text_14 : decode b_a_text 14 = .ok (.invokestatic 54, 3) := by decide +kernel
theorem d_a_text_17 : decode b_a_text 17 = .ok (.istore 5, 2) := by decide +kernel
theorem d_a_text_19 : decode b_a_text 19 = .ok (.iload 5, 2) := by decide +kernel
theorem d_a_text_21 : decode b_a_text 21 = .ok (.ifCond .eq (19), 3) := by decide +kernel
theorem d_a_text_24 : decode b_a_text 24 = .ok (.iload 5, 2) := by decide +kernel
theorem d_a_text_26 : decode b_a_text 26 = .ok (.invokestatic 58, 3) := by decide +kernel
theorem d_a_text_29 : decode b_a_text 29 = .ok (.ifCond .ne (11), 3) := by decide +kernel
theorem d_a_text_32 : decode b_a_text 32 = .ok (.new 62, 3) := by decide +kernel
theorem d_a_text_35 : decode b_a_text 35 = .ok (.dup, 1) := by decide +kernel
theorem d_a_text_36 : decode b_a_text 36 = .ok (.invokespecial 64, 3) := by decide +kernel
theorem d_a_text_39 : decode b_a_text 39 = .ok (.athrow, 1) := by decide +kernel
theorem d_a_text_40 : decode b_a_text 40 = .ok (.iload_n 3, 1) := by decide +kernel
theorem d_a_text_41 : decode b_a_text 41 = .ok (.iload 5, 2) := by decide +kernel
theorem d_a_text_43 : decode b_a_text 43 = .ok (.ifCond .ne (7), 3) := by decide +kernel
theorem d_a_text_46 : decode b_a_text 46 = .ok (.iconst 0, 1) := by decide +kernel
theorem d_a_text_47 : decode b_a_text 47 = .ok (.goto (4), 3) := by decide +kernel
theorem d_a_text_50 : decode b_a_text 50 = .ok (.iconst 1, 1) := by decide +kernel
theorem d_a_text_51 : decode b_a_text 51 = .ok (.iadd, 1) := by decide +kernel
theorem d_a_text_52 : decode b_a_text 52 = .ok (.istore_n 3, 1) := by decide +kernel
theorem d_a_text_53 : decode b_a_text 53 = .ok (.iinc 4 (-8), 3) := by decide +kernel
theorem d_a_text_56 : decode b_a_text 56 = .ok (.goto (-50), 3) := by decide +kernel
theorem d_a_text_59 : decode b_a_text 59 = .ok (.aload_n 0, 1) := by decide +kernel
theorem d_a_text_60 : decode b_a_text 60 = .ok (.getfield 29, 3) := by decide +kernel
theorem d_a_text_63 : decode b_a_text 63 = .ok (.getfield 65, 3) := by decide +kernel
theorem d_a_text_66 : decode b_a_text 66 = .ok (.iload_n 3, 1) := by decide +kernel
theorem d_a_text_67 : decode b_a_text 67 = .ok (.iadd, 1) := by decide +kernel
theorem d_a_text_68 : decode b_a_text 68 = .ok (.sipush (200), 3) := by decide +kernel
theorem d_a_text_71 : decode b_a_text 71 = .ok (.if_icmp .le (11), 3) := by decide +kernel
theorem d_a_text_74 : decode b_a_text 74 = .ok (.new 70, 3) := by decide +kernel
theorem d_a_text_77 : decode b_a_text 77 = .ok (.dup, 1) := by decide +kernel
theorem d_a_text_78 : decode b_a_text 78 = .ok (.invokespecial 72, 3) := by decide +kernel
theorem d_a_text_81 : decode b_a_text 81 = .ok (.athrow, 1) := by decide +kernel
theorem d_a_text_82 : decode b_a_text 82 = .ok (.bipush (56), 2) := by decide +kernel
theorem d_a_text_84 : decode b_a_text 84 = .ok (.istore 4, 2) := by decide +kernel
theorem d_a_text_86 : decode b_a_text 86 = .ok (.iload 4, 2) := by decide +kernel
theorem d_a_text_88 : decode b_a_text 88 = .ok (.ifCond .lt (32), 3) := by decide +kernel
theorem d_a_text_91 : decode b_a_text 91 = .ok (.lload_n 1, 1) := by decide +kernel
theorem d_a_text_92 : decode b_a_text 92 = .ok (.iload 4, 2) := by decide +kernel
theorem d_a_text_94 : decode b_a_text 94 = .ok (.invokestatic 54, 3) := by decide +kernel
theorem d_a_text_97 : decode b_a_text 97 = .ok (.istore 5, 2) := by decide +kernel
theorem d_a_text_99 : decode b_a_text 99 = .ok (.iload 5, 2) := by decide +kernel
theorem d_a_text_101 : decode b_a_text 101 = .ok (.ifCond .eq (13), 3) := by decide +kernel
theorem d_a_text_104 : decode b_a_text 104 = .ok (.aload_n 0, 1) := by decide +kernel
theorem d_a_text_105 : decode b_a_text 105 = .ok (.getfield 29, 3) := by decide +kernel
theorem d_a_text_108 : decode b_a_text 108 = .ok (.iload 5, 2) := by decide +kernel
theorem d_a_text_110 : decode b_a_text 110 = .ok (.i2c, 1) := by decide +kernel
theorem d_a_text_111 : decode b_a_text 111 = .ok (.invokevirtual 73, 3) := by decide +kernel
theorem d_a_text_114 : decode b_a_text 114 = .ok (.iinc 4 (-8), 3) := by decide +kernel
theorem d_a_text_117 : decode b_a_text 117 = .ok (.goto (-31), 3) := by decide +kernel
theorem d_a_text_120 : decode b_a_text 120 = .ok (.aload_n 0, 1) := by decide +kernel
theorem d_a_text_121 : decode b_a_text 121 = .ok (.getfield 29, 3) := by decide +kernel
theorem d_a_text_124 : decode b_a_text 124 = .ok (.getfield 65, 3) := by decide +kernel
theorem d_a_text_127 : decode b_a_text 127 = .ok (.ireturn, 1) := by decide +kernel
theorem kb_a_text {a0 : Nat} {a1 : Int64} {w : WW} {r : ((Int32 ⊕ String) × WW)} (h : f_a_text a0 a1 w = some r) : kb w a0 0 = true := (its h).1
set_option maxHeartbeats 4000000 in
set_option maxRecDepth 100000 in
theorem j_a_text_114 {p : Program} {l : Launch} {e : Env} {s : State} {m : MethodId} {args : Array Value} {below : List Frame} {meth : Method} {c : Code} {D : va_G} {cA : Nat → ClassId} {base : Nat} {r : Int32} {w' : WW} (C : cx b_a_text (some .int) 6 y_a_text.cls "text" p s m args meth c D cA base) {k_86 : Nat → Int64 → Int32 → WW → Option ((Int32 ⊕ String) × WW)} (hk_86 : ∀ (y0 : Nat) (y1 : Int64) (y4 : Int32) (w : WW), k_86 y0 y1 y4 w = some (.inl r, w') → ∀ (H : Heap) (locs : List Loc) (ls : Array Slot), wo_S D cls cA base s w H locs → lv_has ls 6 [(0, .ref (base + y0)), (1, .long y1), (4, .int y4)] → W p l e rm_a_text s m args below meth c H locs 0 0 (MQ below (wo_Q D cls cA base (some (.int r)) w') args s rm_a_text.cells rm_a_text.slots (wo_B base)) (F0 m 86 ls [])) : ∀ (y0 : Nat) (y1 : Int64) (y4 : Int32) (w : WW), f_a_text_114 k_86 y0 y1 y4 w = some (.inl r, w') → ∀ (H : Heap) (locs : List Loc) (ls : Array Slot), wo_S D cls cA base s w H locs → lv_has ls 6 [(0, .ref (base + y0)), (1, .long y1), (4, .int y4)] → W p l e rm_a_text s m args below meth c H locs 0 0 (MQ below (wo_Q D cls cA base (some (.int r)) w') args s rm_a_text.cells rm_a_text.slots (wo_B base)) (F0 m 114 ls []) := by
  obtain ⟨hx, hb, hr, hml, hown, hts, hlk, hnm, hK, hG⟩ := id C
  intro y0 y1 y4 w h H locs ls hW hl
  unfold f_a_text_114 at h
  refine lv_iinc (v := (y4 + (-8 : Int32))) (lv' := [(4, .int (y4 + (-8 : Int32))), (0, .ref (base + y0)), (1, .long y1)]) hx hb d_a_text_114 hl (k := 2) rfl rfl (by decide) rfl (fun ls hl => ?_)
  refine lv_goto (tgt := 86) hx hb d_a_text_117 (by decide) ?_
  exact hk_86 y0 y1 (y4 + (-8 : Int32)) w h _ _ _ hW (lv_sub hl [1, 2, 0] rfl)
set_option maxHeartbeats 4000000 in
set_option maxRecDepth 100000 in
theorem j_a_text_86 {p : Program} {l : Launch} {e : Env} {s : State} {m : MethodId} {args : Array Value} {below : List Frame} {meth : Method} {c : Code} {D : va_G} {cA : Nat → ClassId} {base : Nat} {r : Int32} {w' : WW} (C : cx b_a_text (some .int) 6 y_a_text.cls "text" p s m args meth c D cA base)   : ∀ n : Nat, ∀ (y0 : Nat) (y1 : Int64) (y4 : Int32) (w : WW), f_a_text_86 n y0 y1 y4 w = some (.inl r, w') → ∀ (H : Heap) (locs : List Loc) (ls : Array Slot), wo_S D cls cA base s w H locs → lv_has ls 6 [(0, .ref (base + y0)), (1, .long y1), (4, .int y4)] → W p l e rm_a_text s m args below meth c H locs 0 0 (MQ below (wo_Q D cls cA base (some (.int r)) w') args s rm_a_text.cells rm_a_text.slots (wo_B base)) (F0 m 86 ls []) := by
  obtain ⟨hx, hb, hr, hml, hown, hts, hlk, hnm, hK, hG⟩ := id C
  intro n
  induction n with
  | zero => intro y0 y1 y4 w h; cases h
  | succ n ih =>
    intro y0 y1 y4 w h H locs ls hW hl
    rw [f_a_text_86] at h
    refine lv_iload hx hb d_a_text_86 (lv_at hl 2 rfl) ?_
    refine lv_if_lt (tgt := 120) hx hb d_a_text_88 (by decide) (fun c5 => ?_) (fun c5 => ?_)
    · rw [if_pos c5] at h
      refine lv_aload_n hx hb d_a_text_120 rfl (lv_at hl 0 rfl) ?_
      replace h := bs h
      obtain ⟨x6, hx6, h⟩ := h
      refine gf_a_29 hx hb hts hown hK hG hW (gN_s hx6) d_a_text_121 ?_
      replace h := bs h
      obtain ⟨x7, hx7, h⟩ := h
      refine gf_a_65 hx hb hts hown hK hG hW (gI_s hx7) d_a_text_124 ?_
      cases h
      exact wo_iret hx hb hr hlk hW d_a_text_127
    · rw [if_neg c5] at h
      refine lv_lload_n hx hb d_a_text_91 rfl (lv_at hl 1 rfl) ?_
      refine lv_iload hx hb d_a_text_92 (lv_at hl 2 rfl) ?_
      replace h := bs2 h
      obtain ⟨x9, w8, hw8, h⟩ := h
      refine cs_a_54 (As := [.long y1, .int y4]) (rest := []) hx hb hml hown hts hK hG hW (c_a_byteAt l D cA base hw8) ⟨Nat.le_of_ble_eq_true rfl, Nat.le_of_ble_eq_true rfl⟩ ⟨Nat.le_of_ble_eq_true rfl, Nat.le_of_ble_eq_true rfl⟩ rfl hl.1 rfl (Nat.le_of_ble_eq_true rfl) d_a_text_94 (fun H locs hW => ?_)
      refine lv_istore (lv' := [(5, .int x9), (0, .ref (base + y0)), (1, .long y1), (4, .int y4)]) hx hb d_a_text_97 hl (by decide) rfl (fun ls hl => ?_)
      refine lv_iload hx hb d_a_text_99 (lv_at hl 0 rfl) ?_
      refine lv_if_eq (tgt := 114) hx hb d_a_text_101 (by decide) (fun c10 => ?_) (fun c10 => ?_)
      · rw [if_pos c10] at h
        exact j_a_text_114 C ih y0 y1 y4 w8 h _ _ _ hW (lv_sub hl [1, 2, 3] rfl)
      · rw [if_neg c10] at h
        refine lv_aload_n hx hb d_a_text_104 rfl (lv_at hl 1 rfl) ?_
        replace h := bs h
        obtain ⟨x11, hx11, h⟩ := h
        refine gf_a_29 hx hb hts hown hK hG hW (gN_s hx11) d_a_text_105 ?_
        refine lv_iload hx hb d_a_text_108 (lv_at hl 0 rfl) ?_
        refine lv_i2c hx hb d_a_text_110 rfl ?_
        replace h := bs h
        obtain ⟨w12, hw12, h⟩ := h
        refine cv_a_73 (As := [.int ((Int32.toUInt32 x9 % 65536).toInt32)]) (rest := []) hx hb hml hown hts hK hG hW (c_rd_append l D cA base hw12) (kb_rd_append hw12) ⟨Nat.le_of_ble_eq_true rfl, Nat.le_of_ble_eq_true rfl⟩ ⟨Nat.le_of_ble_eq_true rfl, Nat.le_of_ble_eq_true rfl⟩ rfl hl.1 rfl (Nat.le_of_ble_eq_true rfl) d_a_text_111 (fun H locs hW => ?_)
        exact j_a_text_114 C ih y0 y1 y4 w12 h _ _ _ hW (lv_sub hl [1, 2, 3] rfl)
set_option maxHeartbeats 4000000 in
set_option maxRecDepth 100000 in
theorem j_a_text_51 {p : Program} {l : Launch} {e : Env} {s : State} {m : MethodId} {args : Array Value} {below : List Frame} {meth : Method} {c : Code} {D : va_G} {cA : Nat → ClassId} {base : Nat} {r : Int32} {w' : WW} (C : cx b_a_text (some .int) 6 y_a_text.cls "text" p s m args meth c D cA base) {k_6 : Nat → Int64 → Int32 → Int32 → WW → Option ((Int32 ⊕ String) × WW)} (hk_6 : ∀ (y0 : Nat) (y1 : Int64) (y3 : Int32) (y4 : Int32) (w : WW), k_6 y0 y1 y3 y4 w = some (.inl r, w') → ∀ (H : Heap) (locs : List Loc) (ls : Array Slot), wo_S D cls cA base s w H locs → lv_has ls 6 [(0, .ref (base + y0)), (1, .long y1), (3, .int y3), (4, .int y4)] → W p l e rm_a_text s m args below meth c H locs 0 0 (MQ below (wo_Q D cls cA base (some (.int r)) w') args s rm_a_text.cells rm_a_text.slots (wo_B base)) (F0 m 6 ls [])) : ∀ (y0 : Nat) (y1 : Int64) (y4 : Int32) (z0 : Int32) (z1 : Int32) (w : WW), f_a_text_51 k_6 y0 y1 y4 z0 z1 w = some (.inl r, w') → ∀ (H : Heap) (locs : List Loc) (ls : Array Slot), wo_S D cls cA base s w H locs → lv_has ls 6 [(0, .ref (base + y0)), (1, .long y1), (4, .int y4)] → W p l e rm_a_text s m args below meth c H locs 0 0 (MQ below (wo_Q D cls cA base (some (.int r)) w') args s rm_a_text.cells rm_a_text.slots (wo_B base)) (F0 m 51 ls [.int z1, .int z0]) := by
  obtain ⟨hx, hb, hr, hml, hown, hts, hlk, hnm, hK, hG⟩ := id C
  intro y0 y1 y4 z0 z1 w h H locs ls hW hl
  unfold f_a_text_51 at h
  refine lv_iadd hx hb d_a_text_51 ?_
  refine lv_istore_n (lv' := [(3, .int (z0 + z1)), (0, .ref (base + y0)), (1, .long y1), (4, .int y4)]) hx hb d_a_text_52 rfl hl (by decide) rfl (fun ls hl => ?_)
  refine lv_iinc (v := (y4 + (-8 : Int32))) (lv' := [(4, .int (y4 + (-8 : Int32))), (3, .int (z0 + z1)), (0, .ref (base + y0)), (1, .long y1)]) hx hb d_a_text_53 hl (k := 3) rfl rfl (by decide) rfl (fun ls hl => ?_)
  refine lv_goto (tgt := 6) hx hb d_a_text_56 (by decide) ?_
  exact hk_6 y0 y1 (z0 + z1) (y4 + (-8 : Int32)) w h _ _ _ hW (lv_sub hl [2, 3, 1, 0] rfl)
set_option maxHeartbeats 4000000 in
set_option maxRecDepth 100000 in
theorem j_a_text_40 {p : Program} {l : Launch} {e : Env} {s : State} {m : MethodId} {args : Array Value} {below : List Frame} {meth : Method} {c : Code} {D : va_G} {cA : Nat → ClassId} {base : Nat} {r : Int32} {w' : WW} (C : cx b_a_text (some .int) 6 y_a_text.cls "text" p s m args meth c D cA base) {k_6 : Nat → Int64 → Int32 → Int32 → WW → Option ((Int32 ⊕ String) × WW)} (hk_6 : ∀ (y0 : Nat) (y1 : Int64) (y3 : Int32) (y4 : Int32) (w : WW), k_6 y0 y1 y3 y4 w = some (.inl r, w') → ∀ (H : Heap) (locs : List Loc) (ls : Array Slot), wo_S D cls cA base s w H locs → lv_has ls 6 [(0, .ref (base + y0)), (1, .long y1), (3, .int y3), (4, .int y4)] → W p l e rm_a_text s m args below meth c H locs 0 0 (MQ below (wo_Q D cls cA base (some (.int r)) w') args s rm_a_text.cells rm_a_text.slots (wo_B base)) (F0 m 6 ls [])) : ∀ (y0 : Nat) (y1 : Int64) (y3 : Int32) (y4 : Int32) (y5 : Int32) (w : WW), f_a_text_40 k_6 y0 y1 y3 y4 y5 w = some (.inl r, w') → ∀ (H : Heap) (locs : List Loc) (ls : Array Slot), wo_S D cls cA base s w H locs → lv_has ls 6 [(0, .ref (base + y0)), (1, .long y1), (3, .int y3), (4, .int y4), (5, .int y5)] → W p l e rm_a_text s m args below meth c H locs 0 0 (MQ below (wo_Q D cls cA base (some (.int r)) w') args s rm_a_text.cells rm_a_text.slots (wo_B base)) (F0 m 40 ls []) := by
  obtain ⟨hx, hb, hr, hml, hown, hts, hlk, hnm, hK, hG⟩ := id C
  intro y0 y1 y3 y4 y5 w h H locs ls hW hl
  unfold f_a_text_40 at h
  refine lv_iload_n hx hb d_a_text_40 rfl (lv_at hl 2 rfl) ?_
  refine lv_iload hx hb d_a_text_41 (lv_at hl 4 rfl) ?_
  refine lv_if_ne (tgt := 50) hx hb d_a_text_43 (by decide) (fun c16 => ?_) (fun c16 => ?_)
  · rw [if_neg c16] at h
    refine lv_iconst (v := (1 : Int32)) hx hb d_a_text_50 (by decide) ?_
    exact j_a_text_51 C hk_6 y0 y1 y4 y3 (1 : Int32) w h _ _ _ hW (lv_sub hl [0, 1, 3] rfl)
  · rw [if_pos c16] at h
    refine lv_iconst (v := (0 : Int32)) hx hb d_a_text_46 (by decide) ?_
    refine lv_goto (tgt := 51) hx hb d_a_text_47 (by decide) ?_
    exact j_a_text_51 C hk_6 y0 y1 y4 y3 (0 : Int32) w h _ _ _ hW (lv_sub hl [0, 1, 3] rfl)
set_option maxHeartbeats 4000000 in
set_option maxRecDepth 100000 in
theorem j_a_text_6 {p : Program} {l : Launch} {e : Env} {s : State} {m : MethodId} {args : Array Value} {below : List Frame} {meth : Method} {c : Code} {D : va_G} {cA : Nat → ClassId} {base : Nat} {r : Int32} {w' : WW} (C : cx b_a_text (some .int) 6 y_a_text.cls "text" p s m args meth c D cA base)   : ∀ n : Nat, ∀ (y0 : Nat) (y1 : Int64) (y3 : Int32) (y4 : Int32) (w : WW), f_a_text_6 n y0 y1 y3 y4 w = some (.inl r, w') → ∀ (H : Heap) (locs : List Loc) (ls : Array Slot), wo_S D cls cA base s w H locs → lv_has ls 6 [(0, .ref (base + y0)), (1, .long y1), (3, .int y3), (4, .int y4)] → W p l e rm_a_text s m args below meth c H locs 0 0 (MQ below (wo_Q D cls cA base (some (.int r)) w') args s rm_a_text.cells rm_a_text.slots (wo_B base)) (F0 m 6 ls []) := by
  obtain ⟨hx, hb, hr, hml, hown, hts, hlk, hnm, hK, hG⟩ := id C
  intro n
  induction n with
  | zero => intro y0 y1 y3 y4 w h; cases h
  | succ n ih =>
    intro y0 y1 y3 y4 w h H locs ls hW hl
    rw [f_a_text_6] at h
    refine lv_iload hx hb d_a_text_6 (lv_at hl 3 rfl) ?_
    refine lv_if_lt (tgt := 59) hx hb d_a_text_8 (by decide) (fun c1 => ?_) (fun c1 => ?_)
    · rw [if_pos c1] at h
      refine lv_aload_n hx hb d_a_text_59 rfl (lv_at hl 0 rfl) ?_
      replace h := bs h
      obtain ⟨x2, hx2, h⟩ := h
      refine gf_a_29 hx hb hts hown hK hG hW (gN_s hx2) d_a_text_60 ?_
      replace h := bs h
      obtain ⟨x3, hx3, h⟩ := h
      refine gf_a_65 hx hb hts hown hK hG hW (gI_s hx3) d_a_text_63 ?_
      refine lv_iload_n hx hb d_a_text_66 rfl (lv_at hl 2 rfl) ?_
      refine lv_iadd hx hb d_a_text_67 ?_
      refine lv_sipush (v := (200 : Int32)) hx hb d_a_text_68 (by decide) ?_
      refine lv_icmp_le (tgt := 82) hx hb d_a_text_71 (by decide) (fun c4 => ?_) (fun c4 => ?_)
      · rw [if_pos c4] at h
        refine lv_bipush (v := (56 : Int32)) hx hb d_a_text_82 (by decide) ?_
        refine lv_istore (lv' := [(4, .int (56 : Int32)), (0, .ref (base + y0)), (1, .long y1), (3, .int y3)]) hx hb d_a_text_84 hl (by decide) rfl (fun ls hl => ?_)
        exact j_a_text_86 C KK y0 y1 (56 : Int32) w h _ _ _ hW (lv_sub hl [1, 2, 0] rfl)
      · rw [if_neg c4] at h
        cases h
    · rw [if_neg c1] at h
      refine lv_lload_n hx hb d_a_text_11 rfl (lv_at hl 1 rfl) ?_
      refine lv_iload hx hb d_a_text_12 (lv_at hl 3 rfl) ?_
      replace h := bs2 h
      obtain ⟨x14, w13, hw13, h⟩ := h
      refine cs_a_54 (As := [.long y1, .int y4]) (rest := []) hx hb hml hown hts hK hG hW (c_a_byteAt l D cA base hw13) ⟨Nat.le_of_ble_eq_true rfl, Nat.le_of_ble_eq_true rfl⟩ ⟨Nat.le_of_ble_eq_true rfl, Nat.le_of_ble_eq_true rfl⟩ rfl hl.1 rfl (Nat.le_of_ble_eq_true rfl) d_a_text_14 (fun H locs hW => ?_)
      refine lv_istore (lv' := [(5, .int x14), (0, .ref (base + y0)), (1, .long y1), (3, .int y3), (4, .int y4)]) hx hb d_a_text_17 hl (by decide) rfl (fun ls hl => ?_)
      refine lv_iload hx hb d_a_text_19 (lv_at hl 0 rfl) ?_
      refine lv_if_eq (tgt := 40) hx hb d_a_text_21 (by decide) (fun c15 => ?_) (fun c15 => ?_)
      · rw [if_pos c15] at h
        exact j_a_text_40 C ih y0 y1 y3 y4 x14 w13 h _ _ _ hW (lv_sub hl [1, 2, 3, 4, 0] rfl)
      · rw [if_neg c15] at h
        refine lv_iload hx hb d_a_text_24 (lv_at hl 0 rfl) ?_
        replace h := bs2 h
        obtain ⟨x18, w17, hw17, h⟩ := h
        refine cs_a_58 (As := [.int x14]) (rest := []) hx hb hml hown hts hK hG hW (c_a_isCharacter l D cA base hw17) ⟨Nat.le_of_ble_eq_true rfl, Nat.le_of_ble_eq_true rfl⟩ ⟨Nat.le_of_ble_eq_true rfl, Nat.le_of_ble_eq_true rfl⟩ rfl hl.1 rfl (Nat.le_of_ble_eq_true rfl) d_a_text_26 (fun H locs hW => ?_)
        refine lv_if_ne (tgt := 40) hx hb d_a_text_29 (by decide) (fun c19 => ?_) (fun c19 => ?_)
        · rw [if_neg c19] at h
          exact j_a_text_40 C ih y0 y1 y3 y4 x14 w17 h _ _ _ hW (lv_sub hl [1, 2, 3, 4, 0] rfl)
        · rw [if_pos c19] at h
          cases h
set_option maxHeartbeats 4000000 in
set_option maxRecDepth 100000 in
theorem c_a_text (l : Launch) (D : va_G) (cA : Nat → ClassId) (base : Nat) {a0 : Nat} {a1 : Int64} {w w' : WW} {r : Int32} (h : f_a_text a0 a1 w = some (.inl r, w')) : mt l D cls (wo_tys cA) cA base y_a_text (Cond.code y_a_text b_a_text 6 (some .int) :: gt) rm_a_text [.ref (base + a0), .long a1] w (some (.int r)) w' rm_a_text.cells rm_a_text.slots := by
  refine mt_start (by decide) (Nat.le_of_ble_eq_true rfl) ?_
  intro p e s m below meth c ls hx hb hr hml hown hts hlk hnm hK hG hW hl
  have C : cx b_a_text (some .int) 6 y_a_text.cls "text" p s m [.ref (base + a0), .long a1].toArray meth c D cA base := ⟨hx, hb, hr, hml, hown, hts, hlk, hnm, hK, hG⟩
  have hl : lv_has ls 6 [(0, .ref (base + a0)), (1, .long a1)] := hl
  unfold f_a_text at h
  replace h := its h
  obtain ⟨-, h⟩ := h
  refine lv_iconst (v := (0 : Int32)) hx hb d_a_text_0 (by decide) ?_
  refine lv_istore_n (lv' := [(3, .int (0 : Int32)), (0, .ref (base + a0)), (1, .long a1)]) hx hb d_a_text_1 rfl hl (by decide) rfl (fun ls hl => ?_)
  refine lv_bipush (v := (56 : Int32)) hx hb d_a_text_2 (by decide) ?_
  refine lv_istore (lv' := [(4, .int (56 : Int32)), (3, .int (0 : Int32)), (0, .ref (base + a0)), (1, .long a1)]) hx hb d_a_text_4 hl (by decide) rfl (fun ls hl => ?_)
  exact j_a_text_6 C KK a0 a1 (0 : Int32) (56 : Int32) w h _ _ _ hW (lv_sub hl [2, 3, 1, 0] rfl)
set_option maxHeartbeats 4000000 in
set_option maxRecDepth 100000 in
theorem jx_a_text_114 {p : Program} {l : Launch} {e : Env} {s : State} {m : MethodId} {args : Array Value} {below : List Frame} {meth : Method} {c : Code} {D : va_G} {cA : Nat → ClassId} {base : Nat} {E : String} {w' : WW} (C : cx b_a_text (some .int) 6 y_a_text.cls "text" p s m args meth c D cA base ∧ (∀ x ∈ c.exceptionTable.toList, ∀ k : Nat, covers x k = false) ∧ l.stackTraces = false) {k_86 : Nat → Int64 → Int32 → WW → Option ((Int32 ⊕ String) × WW)} (hk_86 : ∀ (y0 : Nat) (y1 : Int64) (y4 : Int32) (w : WW), k_86 y0 y1 y4 w = some (.inr E, w') → ∀ (H : Heap) (locs : List Loc) (ls : Array Slot), wo_S D cls cA base s w H locs → lv_has ls 6 [(0, .ref (base + y0)), (1, .long y1), (4, .int y4)] → W p l e rx_a_text s m args below meth c H locs 0 0 (XQ below (wo_X D cls cA base E w' rx_a_text.cells rx_a_text.slots) args s) (F0 m 86 ls [])) : ∀ (y0 : Nat) (y1 : Int64) (y4 : Int32) (w : WW), f_a_text_114 k_86 y0 y1 y4 w = some (.inr E, w') → ∀ (H : Heap) (locs : List Loc) (ls : Array Slot), wo_S D cls cA base s w H locs → lv_has ls 6 [(0, .ref (base + y0)), (1, .long y1), (4, .int y4)] → W p l e rx_a_text s m args below meth c H locs 0 0 (XQ below (wo_X D cls cA base E w' rx_a_text.cells rx_a_text.slots) args s) (F0 m 114 ls []) := by
  obtain ⟨hx, hb, hr, hml, hown, hts, hlk, hnm, hK, hG⟩ := id C.1
  have hnt := C.2.1
  have hst := C.2.2
  intro y0 y1 y4 w h H locs ls hW hl
  unfold f_a_text_114 at h
  refine lv_iinc (v := (y4 + (-8 : Int32))) (lv' := [(4, .int (y4 + (-8 : Int32))), (0, .ref (base + y0)), (1, .long y1)]) hx hb d_a_text_114 hl (k := 2) rfl rfl (by decide) rfl (fun ls hl => ?_)
  refine lv_goto (tgt := 86) hx hb d_a_text_117 (by decide) ?_
  exact hk_86 y0 y1 (y4 + (-8 : Int32)) w h _ _ _ hW (lv_sub hl [1, 2, 0] rfl)
set_option maxHeartbeats 4000000 in
set_option maxRecDepth 100000 in
theorem jx_a_text_86 {p : Program} {l : Launch} {e : Env} {s : State} {m : MethodId} {args : Array Value} {below : List Frame} {meth : Method} {c : Code} {D : va_G} {cA : Nat → ClassId} {base : Nat} {E : String} {w' : WW} (C : cx b_a_text (some .int) 6 y_a_text.cls "text" p s m args meth c D cA base ∧ (∀ x ∈ c.exceptionTable.toList, ∀ k : Nat, covers x k = false) ∧ l.stackTraces = false)   : ∀ n : Nat, ∀ (y0 : Nat) (y1 : Int64) (y4 : Int32) (w : WW), f_a_text_86 n y0 y1 y4 w = some (.inr E, w') → ∀ (H : Heap) (locs : List Loc) (ls : Array Slot), wo_S D cls cA base s w H locs → lv_has ls 6 [(0, .ref (base + y0)), (1, .long y1), (4, .int y4)] → W p l e rx_a_text s m args below meth c H locs 0 0 (XQ below (wo_X D cls cA base E w' rx_a_text.cells rx_a_text.slots) args s) (F0 m 86 ls []) := by
  obtain ⟨hx, hb, hr, hml, hown, hts, hlk, hnm, hK, hG⟩ := id C.1
  have hnt := C.2.1
  have hst := C.2.2
  intro n
  induction n with
  | zero => intro y0 y1 y4 w h; cases h
  | succ n ih =>
    intro y0 y1 y4 w h H locs ls hW hl
    rw [f_a_text_86] at h
    refine lv_iload hx hb d_a_text_86 (lv_at hl 2 rfl) ?_
    refine lv_if_lt (tgt := 120) hx hb d_a_text_88 (by decide) (fun c5 => ?_) (fun c5 => ?_)
    · rw [if_pos c5] at h
      refine lv_aload_n hx hb d_a_text_120 rfl (lv_at hl 0 rfl) ?_
      replace h := bs h
      obtain ⟨x6, hx6, h⟩ := h
      refine gf_a_29 hx hb hts hown hK hG hW (gN_s hx6) d_a_text_121 ?_
      replace h := bs h
      obtain ⟨x7, hx7, h⟩ := h
      refine gf_a_65 hx hb hts hown hK hG hW (gI_s hx7) d_a_text_124 ?_
      cases h
    · rw [if_neg c5] at h
      refine lv_lload_n hx hb d_a_text_91 rfl (lv_at hl 1 rfl) ?_
      refine lv_iload hx hb d_a_text_92 (lv_at hl 2 rfl) ?_
      replace h := bs2 h
      obtain ⟨x9, w8, hw8, h⟩ := h
      refine cs_a_54 (As := [.long y1, .int y4]) (rest := []) hx hb hml hown hts hK hG hW (c_a_byteAt l D cA base hw8) ⟨Nat.le_of_ble_eq_true rfl, Nat.le_of_ble_eq_true rfl⟩ ⟨Nat.le_of_ble_eq_true rfl, Nat.le_of_ble_eq_true rfl⟩ rfl hl.1 rfl (Nat.le_of_ble_eq_true rfl) d_a_text_94 (fun H locs hW => ?_)
      refine lv_istore (lv' := [(5, .int x9), (0, .ref (base + y0)), (1, .long y1), (4, .int y4)]) hx hb d_a_text_97 hl (by decide) rfl (fun ls hl => ?_)
      refine lv_iload hx hb d_a_text_99 (lv_at hl 0 rfl) ?_
      refine lv_if_eq (tgt := 114) hx hb d_a_text_101 (by decide) (fun c10 => ?_) (fun c10 => ?_)
      · rw [if_pos c10] at h
        exact jx_a_text_114 C ih y0 y1 y4 w8 h _ _ _ hW (lv_sub hl [1, 2, 3] rfl)
      · rw [if_neg c10] at h
        refine lv_aload_n hx hb d_a_text_104 rfl (lv_at hl 1 rfl) ?_
        replace h := bs h
        obtain ⟨x11, hx11, h⟩ := h
        refine gf_a_29 hx hb hts hown hK hG hW (gN_s hx11) d_a_text_105 ?_
        refine lv_iload hx hb d_a_text_108 (lv_at hl 0 rfl) ?_
        refine lv_i2c hx hb d_a_text_110 rfl ?_
        replace h := bs h
        obtain ⟨w12, hw12, h⟩ := h
        refine cv_a_73 (As := [.int ((Int32.toUInt32 x9 % 65536).toInt32)]) (rest := []) hx hb hml hown hts hK hG hW (c_rd_append l D cA base hw12) (kb_rd_append hw12) ⟨Nat.le_of_ble_eq_true rfl, Nat.le_of_ble_eq_true rfl⟩ ⟨Nat.le_of_ble_eq_true rfl, Nat.le_of_ble_eq_true rfl⟩ rfl hl.1 rfl (Nat.le_of_ble_eq_true rfl) d_a_text_111 (fun H locs hW => ?_)
        exact jx_a_text_114 C ih y0 y1 y4 w12 h _ _ _ hW (lv_sub hl [1, 2, 3] rfl)
set_option maxHeartbeats 4000000 in
set_option maxRecDepth 100000 in
theorem jx_a_text_51 {p : Program} {l : Launch} {e : Env} {s : State} {m : MethodId} {args : Array Value} {below : List Frame} {meth : Method} {c : Code} {D : va_G} {cA : Nat → ClassId} {base : Nat} {E : String} {w' : WW} (C : cx b_a_text (some .int) 6 y_a_text.cls "text" p s m args meth c D cA base ∧ (∀ x ∈ c.exceptionTable.toList, ∀ k : Nat, covers x k = false) ∧ l.stackTraces = false) {k_6 : Nat → Int64 → Int32 → Int32 → WW → Option ((Int32 ⊕ String) × WW)} (hk_6 : ∀ (y0 : Nat) (y1 : Int64) (y3 : Int32) (y4 : Int32) (w : WW), k_6 y0 y1 y3 y4 w = some (.inr E, w') → ∀ (H : Heap) (locs : List Loc) (ls : Array Slot), wo_S D cls cA base s w H locs → lv_has ls 6 [(0, .ref (base + y0)), (1, .long y1), (3, .int y3), (4, .int y4)] → W p l e rx_a_text s m args below meth c H locs 0 0 (XQ below (wo_X D cls cA base E w' rx_a_text.cells rx_a_text.slots) args s) (F0 m 6 ls [])) : ∀ (y0 : Nat) (y1 : Int64) (y4 : Int32) (z0 : Int32) (z1 : Int32) (w : WW), f_a_text_51 k_6 y0 y1 y4 z0 z1 w = some (.inr E, w') → ∀ (H : Heap) (locs : List Loc) (ls : Array Slot), wo_S D cls cA base s w H locs → lv_has ls 6 [(0, .ref (base + y0)), (1, .long y1), (4, .int y4)] → W p l e rx_a_text s m args below meth c H locs 0 0 (XQ below (wo_X D cls cA base E w' rx_a_text.cells rx_a_text.slots) args s) (F0 m 51 ls [.int z1, .int z0]) := by
  obtain ⟨hx, hb, hr, hml, hown, hts, hlk, hnm, hK, hG⟩ := id C.1
  have hnt := C.2.1
  have hst := C.2.2
  intro y0 y1 y4 z0 z1 w h H locs ls hW hl
  unfold f_a_text_51 at h
  refine lv_iadd hx hb d_a_text_51 ?_
  refine lv_istore_n (lv' := [(3, .int (z0 + z1)), (0, .ref (base + y0)), (1, .long y1), (4, .int y4)]) hx hb d_a_text_52 rfl hl (by decide) rfl (fun ls hl => ?_)
  refine lv_iinc (v := (y4 + (-8 : Int32))) (lv' := [(4, .int (y4 + (-8 : Int32))), (3, .int (z0 + z1)), (0, .ref (base + y0)), (1, .long y1)]) hx hb d_a_text_53 hl (k := 3) rfl rfl (by decide) rfl (fun ls hl => ?_)
  refine lv_goto (tgt := 6) hx hb d_a_text_56 (by decide) ?_
  exact hk_6 y0 y1 (z0 + z1) (y4 + (-8 : Int32)) w h _ _ _ hW (lv_sub hl [2, 3, 1, 0] rfl)
set_option maxHeartbeats 4000000 in
set_option maxRecDepth 100000 in
theorem jx_a_text_40 {p : Program} {l : Launch} {e : Env} {s : State} {m : MethodId} {args : Array Value} {below : List Frame} {meth : Method} {c : Code} {D : va_G} {cA : Nat → ClassId} {base : Nat} {E : String} {w' : WW} (C : cx b_a_text (some .int) 6 y_a_text.cls "text" p s m args meth c D cA base ∧ (∀ x ∈ c.exceptionTable.toList, ∀ k : Nat, covers x k = false) ∧ l.stackTraces = false) {k_6 : Nat → Int64 → Int32 → Int32 → WW → Option ((Int32 ⊕ String) × WW)} (hk_6 : ∀ (y0 : Nat) (y1 : Int64) (y3 : Int32) (y4 : Int32) (w : WW), k_6 y0 y1 y3 y4 w = some (.inr E, w') → ∀ (H : Heap) (locs : List Loc) (ls : Array Slot), wo_S D cls cA base s w H locs → lv_has ls 6 [(0, .ref (base + y0)), (1, .long y1), (3, .int y3), (4, .int y4)] → W p l e rx_a_text s m args below meth c H locs 0 0 (XQ below (wo_X D cls cA base E w' rx_a_text.cells rx_a_text.slots) args s) (F0 m 6 ls [])) : ∀ (y0 : Nat) (y1 : Int64) (y3 : Int32) (y4 : Int32) (y5 : Int32) (w : WW), f_a_text_40 k_6 y0 y1 y3 y4 y5 w = some (.inr E, w') → ∀ (H : Heap) (locs : List Loc) (ls : Array Slot), wo_S D cls cA base s w H locs → lv_has ls 6 [(0, .ref (base + y0)), (1, .long y1), (3, .int y3), (4, .int y4), (5, .int y5)] → W p l e rx_a_text s m args below meth c H locs 0 0 (XQ below (wo_X D cls cA base E w' rx_a_text.cells rx_a_text.slots) args s) (F0 m 40 ls []) := by
  obtain ⟨hx, hb, hr, hml, hown, hts, hlk, hnm, hK, hG⟩ := id C.1
  have hnt := C.2.1
  have hst := C.2.2
  intro y0 y1 y3 y4 y5 w h H locs ls hW hl
  unfold f_a_text_40 at h
  refine lv_iload_n hx hb d_a_text_40 rfl (lv_at hl 2 rfl) ?_
  refine lv_iload hx hb d_a_text_41 (lv_at hl 4 rfl) ?_
  refine lv_if_ne (tgt := 50) hx hb d_a_text_43 (by decide) (fun c16 => ?_) (fun c16 => ?_)
  · rw [if_neg c16] at h
    refine lv_iconst (v := (1 : Int32)) hx hb d_a_text_50 (by decide) ?_
    exact jx_a_text_51 C hk_6 y0 y1 y4 y3 (1 : Int32) w h _ _ _ hW (lv_sub hl [0, 1, 3] rfl)
  · rw [if_pos c16] at h
    refine lv_iconst (v := (0 : Int32)) hx hb d_a_text_46 (by decide) ?_
    refine lv_goto (tgt := 51) hx hb d_a_text_47 (by decide) ?_
    exact jx_a_text_51 C hk_6 y0 y1 y4 y3 (0 : Int32) w h _ _ _ hW (lv_sub hl [0, 1, 3] rfl)
set_option maxHeartbeats 4000000 in
set_option maxRecDepth 100000 in
theorem jx_a_text_6 {p : Program} {l : Launch} {e : Env} {s : State} {m : MethodId} {args : Array Value} {below : List Frame} {meth : Method} {c : Code} {D : va_G} {cA : Nat → ClassId} {base : Nat} {E : String} {w' : WW} (C : cx b_a_text (some .int) 6 y_a_text.cls "text" p s m args meth c D cA base ∧ (∀ x ∈ c.exceptionTable.toList, ∀ k : Nat, covers x k = false) ∧ l.stackTraces = false)   : ∀ n : Nat, ∀ (y0 : Nat) (y1 : Int64) (y3 : Int32) (y4 : Int32) (w : WW), f_a_text_6 n y0 y1 y3 y4 w = some (.inr E, w') → ∀ (H : Heap) (locs : List Loc) (ls : Array Slot), wo_S D cls cA base s w H locs → lv_has ls 6 [(0, .ref (base + y0)), (1, .long y1), (3, .int y3), (4, .int y4)] → W p l e rx_a_text s m args below meth c H locs 0 0 (XQ below (wo_X D cls cA base E w' rx_a_text.cells rx_a_text.slots) args s) (F0 m 6 ls []) := by
  obtain ⟨hx, hb, hr, hml, hown, hts, hlk, hnm, hK, hG⟩ := id C.1
  have hnt := C.2.1
  have hst := C.2.2
  intro n
  induction n with
  | zero => intro y0 y1 y3 y4 w h; cases h
  | succ n ih =>
    intro y0 y1 y3 y4 w h H locs ls hW hl
    rw [f_a_text_6] at h
    refine lv_iload hx hb d_a_text_6 (lv_at hl 3 rfl) ?_
    refine lv_if_lt (tgt := 59) hx hb d_a_text_8 (by decide) (fun c1 => ?_) (fun c1 => ?_)
    · rw [if_pos c1] at h
      refine lv_aload_n hx hb d_a_text_59 rfl (lv_at hl 0 rfl) ?_
      replace h := bs h
      obtain ⟨x2, hx2, h⟩ := h
      refine gf_a_29 hx hb hts hown hK hG hW (gN_s hx2) d_a_text_60 ?_
      replace h := bs h
      obtain ⟨x3, hx3, h⟩ := h
      refine gf_a_65 hx hb hts hown hK hG hW (gI_s hx3) d_a_text_63 ?_
      refine lv_iload_n hx hb d_a_text_66 rfl (lv_at hl 2 rfl) ?_
      refine lv_iadd hx hb d_a_text_67 ?_
      refine lv_sipush (v := (200 : Int32)) hx hb d_a_text_68 (by decide) ?_
      refine lv_icmp_le (tgt := 82) hx hb d_a_text_71 (by decide) (fun c4 => ?_) (fun c4 => ?_)
      · rw [if_pos c4] at h
        refine lv_bipush (v := (56 : Int32)) hx hb d_a_text_82 (by decide) ?_
        refine lv_istore (lv' := [(4, .int (56 : Int32)), (0, .ref (base + y0)), (1, .long y1), (3, .int y3)]) hx hb d_a_text_84 hl (by decide) rfl (fun ls hl => ?_)
        exact jx_a_text_86 C KK y0 y1 (56 : Int32) w h _ _ _ hW (lv_sub hl [1, 2, 0] rfl)
      · rw [if_neg c4] at h
        cases h
        exact wo_throw (names := ["java/lang/RuntimeException", "java/lang/Exception"]) hx hb hst hown hts hG hW hnt hlk (by decide) (by decide) (gt_of (i := 460) (by decide +kernel) (by decide +kernel)) (gt_of (i := 15) (by decide +kernel) (by decide +kernel)) ow_a_72 (hl.1.trans hml.symm) d_a_text_74 d_a_text_77 d_a_text_78 d_a_text_81 (Nat.le_of_ble_eq_true rfl) (Nat.le_of_ble_eq_true rfl) (Nat.le_of_ble_eq_true rfl) (Nat.le_of_ble_eq_true rfl) (Nat.le_of_ble_eq_true rfl) (Nat.le_of_ble_eq_true rfl)
    · rw [if_neg c1] at h
      refine lv_lload_n hx hb d_a_text_11 rfl (lv_at hl 1 rfl) ?_
      refine lv_iload hx hb d_a_text_12 (lv_at hl 3 rfl) ?_
      replace h := bs2 h
      obtain ⟨x14, w13, hw13, h⟩ := h
      refine cs_a_54 (As := [.long y1, .int y4]) (rest := []) hx hb hml hown hts hK hG hW (c_a_byteAt l D cA base hw13) ⟨Nat.le_of_ble_eq_true rfl, Nat.le_of_ble_eq_true rfl⟩ ⟨Nat.le_of_ble_eq_true rfl, Nat.le_of_ble_eq_true rfl⟩ rfl hl.1 rfl (Nat.le_of_ble_eq_true rfl) d_a_text_14 (fun H locs hW => ?_)
      refine lv_istore (lv' := [(5, .int x14), (0, .ref (base + y0)), (1, .long y1), (3, .int y3), (4, .int y4)]) hx hb d_a_text_17 hl (by decide) rfl (fun ls hl => ?_)
      refine lv_iload hx hb d_a_text_19 (lv_at hl 0 rfl) ?_
      refine lv_if_eq (tgt := 40) hx hb d_a_text_21 (by decide) (fun c15 => ?_) (fun c15 => ?_)
      · rw [if_pos c15] at h
        exact jx_a_text_40 C ih y0 y1 y3 y4 x14 w13 h _ _ _ hW (lv_sub hl [1, 2, 3, 4, 0] rfl)
      · rw [if_neg c15] at h
        refine lv_iload hx hb d_a_text_24 (lv_at hl 0 rfl) ?_
        replace h := bs2 h
        obtain ⟨x18, w17, hw17, h⟩ := h
        refine cs_a_58 (As := [.int x14]) (rest := []) hx hb hml hown hts hK hG hW (c_a_isCharacter l D cA base hw17) ⟨Nat.le_of_ble_eq_true rfl, Nat.le_of_ble_eq_true rfl⟩ ⟨Nat.le_of_ble_eq_true rfl, Nat.le_of_ble_eq_true rfl⟩ rfl hl.1 rfl (Nat.le_of_ble_eq_true rfl) d_a_text_26 (fun H locs hW => ?_)
        refine lv_if_ne (tgt := 40) hx hb d_a_text_29 (by decide) (fun c19 => ?_) (fun c19 => ?_)
        · rw [if_neg c19] at h
          exact jx_a_text_40 C ih y0 y1 y3 y4 x14 w17 h _ _ _ hW (lv_sub hl [1, 2, 3, 4, 0] rfl)
        · rw [if_pos c19] at h
          cases h
          exact wo_throw (names := ["java/lang/RuntimeException", "java/lang/Exception"]) hx hb hst hown hts hG hW hnt hlk (by decide) (by decide) (gt_of (i := 395) (by decide +kernel) (by decide +kernel)) (gt_of (i := 14) (by decide +kernel) (by decide +kernel)) ow_a_64 (hl.1.trans hml.symm) d_a_text_32 d_a_text_35 d_a_text_36 d_a_text_39 (Nat.le_of_ble_eq_true rfl) (Nat.le_of_ble_eq_true rfl) (Nat.le_of_ble_eq_true rfl) (Nat.le_of_ble_eq_true rfl) (Nat.le_of_ble_eq_true rfl) (Nat.le_of_ble_eq_true rfl)
set_option maxHeartbeats 4000000 in
set_option maxRecDepth 100000 in
theorem x_a_text (l : Launch) (hst : l.stackTraces = false) (D : va_G) (cA : Nat → ClassId) (base : Nat) {a0 : Nat} {a1 : Int64} {w w' : WW} {E : String} (h : f_a_text a0 a1 w = some (.inr E, w')) : xt l D cls (wo_tys cA) cA base y_a_text (Cond.code y_a_text b_a_text 6 (some .int) :: gt) rx_a_text [.ref (base + a0), .long a1] w E w' rx_a_text.cells rx_a_text.slots := by
  refine xt_start (by decide) (Nat.le_of_ble_eq_true rfl) ?_
  intro p e s m below meth c ls hx hb hr hml hown hts hlk hnm hK hG hW hl hnt
  have C : cx b_a_text (some .int) 6 y_a_text.cls "text" p s m [.ref (base + a0), .long a1].toArray meth c D cA base ∧ (∀ x ∈ c.exceptionTable.toList, ∀ k : Nat, covers x k = false) ∧ l.stackTraces = false := ⟨⟨hx, hb, hr, hml, hown, hts, hlk, hnm, hK, hG⟩, hnt, hst⟩
  have hl : lv_has ls 6 [(0, .ref (base + a0)), (1, .long a1)] := hl
  unfold f_a_text at h
  replace h := its h
  obtain ⟨-, h⟩ := h
  refine lv_iconst (v := (0 : Int32)) hx hb d_a_text_0 (by decide) ?_
  refine lv_istore_n (lv' := [(3, .int (0 : Int32)), (0, .ref (base + a0)), (1, .long a1)]) hx hb d_a_text_1 rfl hl (by decide) rfl (fun ls hl => ?_)
  refine lv_bipush (v := (56 : Int32)) hx hb d_a_text_2 (by decide) ?_
  refine lv_istore (lv' := [(4, .int (56 : Int32)), (3, .int (0 : Int32)), (0, .ref (base + a0)), (1, .long a1)]) hx hb d_a_text_4 hl (by decide) rfl (fun ls hl => ?_)
  exact jx_a_text_6 C KK a0 a1 (0 : Int32) (56 : Int32) w h _ _ _ hW (lv_sub hl [2, 3, 1, 0] rfl)
abbrev b_pg_empty : ByteArray := prog_4_method_2_code
def y_pg_empty : MethodName := ⟨"AlarmForge$Program", "empty", "()V"⟩
def rm_pg_empty : Room := { frames := 0, cells := 0, slots := 0, locals := 0 }
theorem d_pg_empty_0 : decode b_pg_empty 0 = .ok (.aload_n 0, 1) := by decide +kernel
theorem d_pg_empty_1 : decode b_pg_empty 1 = .ok (.iconst 0, 1) := by decide +kernel
theorem d_pg_empty_2 : decode b_pg_empty 2 = .ok (.putfield 28, 3) := by decide +kernel
theorem d_pg_empty_5 : decode b_pg_empty 5 = .ok (.aload_n 0, 1) := by decide +kernel
theorem d_pg_empty_6 : decode b_pg_empty 6 = .ok (.iconst 0, 1) := by decide +kernel
theorem d_pg_empty_7 : decode b_pg_empty 7 = .ok (.putfield 32, 3) := by decide +kernel
theorem d_pg_empty_10 : decode b_pg_empty 10 = .ok (.return_, 1) := by decide +kernel
theorem kb_pg_empty {a0 : Nat}  {w : WW} {r : WW} (h : f_pg_empty a0 w = some r) : kb w a0 3 = true := (its h).1
set_option maxHeartbeats 4000000 in
set_option maxRecDepth 100000 in
theorem c_pg_empty (l : Launch) (D : va_G) (cA : Nat → ClassId) (base : Nat) {a0 : Nat} {w w' : WW} (h : f_pg_empty a0 w = some w') : mt l D cls (wo_tys cA) cA base y_pg_empty (Cond.code y_pg_empty b_pg_empty 1 (none) :: gt) rm_pg_empty [.ref (base + a0)] w none w' rm_pg_empty.cells rm_pg_empty.slots := by
  refine mt_start (by decide) (Nat.le_of_ble_eq_true rfl) ?_
  intro p e s m below meth c ls hx hb hr hml hown hts hlk hnm hK hG hW hl
  have C : cx b_pg_empty (none) 1 y_pg_empty.cls "empty" p s m [.ref (base + a0)].toArray meth c D cA base := ⟨hx, hb, hr, hml, hown, hts, hlk, hnm, hK, hG⟩
  have hl : lv_has ls 1 [(0, .ref (base + a0))] := hl
  unfold f_pg_empty at h
  replace h := its h
  obtain ⟨-, h⟩ := h
  refine lv_aload_n hx hb d_pg_empty_0 rfl (lv_at hl 0 rfl) ?_
  refine lv_iconst (v := (0 : Int32)) hx hb d_pg_empty_1 (by decide) ?_
  replace h := bs h
  obtain ⟨w1, hw1, h⟩ := h
  refine pf_pg_28 hx hb hts hown hK hG hW rfl rfl (pbi hw1 rfl) d_pg_empty_2 (fun H locs hW => ?_)
  refine lv_aload_n hx hb d_pg_empty_5 rfl (lv_at hl 0 rfl) ?_
  refine lv_iconst (v := (0 : Int32)) hx hb d_pg_empty_6 (by decide) ?_
  replace h := bs h
  obtain ⟨w2, hw2, h⟩ := h
  refine pf_pg_32 hx hb hts hown hK hG hW rfl rfl (pbi hw2 rfl) d_pg_empty_7 (fun H locs hW => ?_)
  cases h
  exact wo_vret hx hb hr hlk hW d_pg_empty_10
abbrev b_rd_isDigit : ByteArray := prog_5_method_10_code
def y_rd_isDigit : MethodName := ⟨"AlarmForge$Reader", "isDigit", "(C)Z"⟩
def rm_rd_isDigit : Room := { frames := 0, cells := 0, slots := 0, locals := 0 }
theorem d_rd_isDigit_0 : decode b_rd_isDigit 0 = .ok (.iload_n 0, 1) := by decide +kernel
theorem d_rd_isDigit_1 : decode b_rd_isDigit 1 = .ok (.bipush (48), 2) := by decide +kernel
theorem d_rd_isDigit_3 : decode b_rd_isDigit 3 = .ok (.if_icmp .lt (13), 3) := by decide +kernel
theorem d_rd_isDigit_6 : decode b_rd_isDigit 6 = .ok (.iload_n 0, 1) := by decide +kernel
theorem d_rd_isDigit_7 : decode b_rd_isDigit 7 = .ok (.bipush (57), 2) := by decide +kernel
theorem d_rd_isDigit_9 : decode b_rd_isDigit 9 = .ok (.if_icmp .gt (7), 3) := by decide +kernel
theorem d_rd_isDigit_12 : decode b_rd_isDigit 12 = .ok (.iconst 1, 1) := by decide +kernel
theorem d_rd_isDigit_13 : decode b_rd_isDigit 13 = .ok (.goto (4), 3) := by decide +kernel
theorem d_rd_isDigit_16 : decode b_rd_isDigit 16 = .ok (.iconst 0, 1) := by decide +kernel
theorem d_rd_isDigit_17 : decode b_rd_isDigit 17 = .ok (.ireturn, 1) := by decide +kernel
set_option maxHeartbeats 4000000 in
set_option maxRecDepth 100000 in
theorem j_rd_isDigit_17 {p : Program} {l : Launch} {e : Env} {s : State} {m : MethodId} {args : Array Value} {below : List Frame} {meth : Method} {c : Code} {D : va_G} {cA : Nat → ClassId} {base : Nat} {r : Int32} {w' : WW} (C : cx b_rd_isDigit (some .boolean) 1 y_rd_isDigit.cls "isDigit" p s m args meth c D cA base)   : ∀ (z0 : Int32) (w : WW), f_rd_isDigit_17 z0 w = some (r, w') → ∀ (H : Heap) (locs : List Loc) (ls : Array Slot), wo_S D cls cA base s w H locs → lv_has ls 1 [] → W p l e rm_rd_isDigit s m args below meth c H locs 0 0 (MQ below (wo_Q D cls cA base (some (.int r)) w') args s rm_rd_isDigit.cells rm_rd_isDigit.slots (wo_B base)) (F0 m 17 ls [.int z0]) := by
  obtain ⟨hx, hb, hr, hml, hown, hts, hlk, hnm, hK, hG⟩ := id C
  intro z0 w h H locs ls hW hl
  unfold f_rd_isDigit_17 at h
  replace h := its h
  obtain ⟨c2, h⟩ := h
  cases h
  exact wo_zret hx hb hr hlk hW c2 d_rd_isDigit_17
set_option maxHeartbeats 4000000 in
set_option maxRecDepth 100000 in
theorem j_rd_isDigit_16 {p : Program} {l : Launch} {e : Env} {s : State} {m : MethodId} {args : Array Value} {below : List Frame} {meth : Method} {c : Code} {D : va_G} {cA : Nat → ClassId} {base : Nat} {r : Int32} {w' : WW} (C : cx b_rd_isDigit (some .boolean) 1 y_rd_isDigit.cls "isDigit" p s m args meth c D cA base)   : ∀  (w : WW), f_rd_isDigit_16  w = some (r, w') → ∀ (H : Heap) (locs : List Loc) (ls : Array Slot), wo_S D cls cA base s w H locs → lv_has ls 1 [] → W p l e rm_rd_isDigit s m args below meth c H locs 0 0 (MQ below (wo_Q D cls cA base (some (.int r)) w') args s rm_rd_isDigit.cells rm_rd_isDigit.slots (wo_B base)) (F0 m 16 ls []) := by
  obtain ⟨hx, hb, hr, hml, hown, hts, hlk, hnm, hK, hG⟩ := id C
  intro  w h H locs ls hW hl
  unfold f_rd_isDigit_16 at h
  refine lv_iconst (v := (0 : Int32)) hx hb d_rd_isDigit_16 (by decide) ?_
  exact j_rd_isDigit_17 C (0 : Int32) w h _ _ _ hW (lv_sub hl [] rfl)
set_option maxHeartbeats 4000000 in
set_option maxRecDepth 100000 in
theorem c_rd_isDigit (l : Launch) (D : va_G) (cA : Nat → ClassId) (base : Nat) {a0 : Int32} {w w' : WW} {r : Int32} (h : f_rd_isDigit a0 w = some (r, w')) : mt l D cls (wo_tys cA) cA base y_rd_isDigit (Cond.code y_rd_isDigit b_rd_isDigit 1 (some .boolean) :: gt) rm_rd_isDigit [.int a0] w (some (.int r)) w' rm_rd_isDigit.cells rm_rd_isDigit.slots := by
  refine mt_start (by decide) (Nat.le_of_ble_eq_true rfl) ?_
  intro p e s m below meth c ls hx hb hr hml hown hts hlk hnm hK hG hW hl
  have C : cx b_rd_isDigit (some .boolean) 1 y_rd_isDigit.cls "isDigit" p s m [.int a0].toArray meth c D cA base := ⟨hx, hb, hr, hml, hown, hts, hlk, hnm, hK, hG⟩
  have hl : lv_has ls 1 [(0, .int a0)] := hl
  unfold f_rd_isDigit at h
  refine lv_iload_n hx hb d_rd_isDigit_0 rfl (lv_at hl 0 rfl) ?_
  refine lv_bipush (v := (48 : Int32)) hx hb d_rd_isDigit_1 (by decide) ?_
  refine lv_icmp_lt (tgt := 16) hx hb d_rd_isDigit_3 (by decide) (fun c1 => ?_) (fun c1 => ?_)
  · rw [if_pos c1] at h
    exact j_rd_isDigit_16 C w h _ _ _ hW (lv_sub hl [] rfl)
  · rw [if_neg c1] at h
    refine lv_iload_n hx hb d_rd_isDigit_6 rfl (lv_at hl 0 rfl) ?_
    refine lv_bipush (v := (57 : Int32)) hx hb d_rd_isDigit_7 (by decide) ?_
    refine lv_icmp_gt (tgt := 16) hx hb d_rd_isDigit_9 (by decide) (fun c3 => ?_) (fun c3 => ?_)
    · rw [if_pos c3] at h
      exact j_rd_isDigit_16 C w h _ _ _ hW (lv_sub hl [] rfl)
    · rw [if_neg c3] at h
      refine lv_iconst (v := (1 : Int32)) hx hb d_rd_isDigit_12 (by decide) ?_
      refine lv_goto (tgt := 17) hx hb d_rd_isDigit_13 (by decide) ?_
      exact j_rd_isDigit_17 C (1 : Int32) w h _ _ _ hW (lv_sub hl [] rfl)
theorem cs_rd_44 {p : Program} {l : Launch} {e : Env} {R : Room} {s : State} {m : MethodId} {args : Array Value} {below : List Frame} {meth : Method} {c : Code} {H : Heap} {locs : List Loc} {cells slots : Nat} {Q : State → Prop} {D : va_G} {cA : Nat → ClassId} {base : Nat} {w w' : WW} {cc : ByteArray} {pc nL : Nat} {ls : Array Slot} {rest st0 As : List Value} {ov : Option Value} (hx : p.tables.exec = Jvm.exec) (hb : c.code = cc) (hml : c.maxLocals = nL) (hown : s.vm.findClass Rc_rd = some m.cls) (hts : ∀ w ∈ gt, w.before args s = true) (hK : va_K D cls (wo_tys cA) s) (hG : wo_G cA base s) (hW : wo_S D cls cA base s w H locs) (hM : mt l D cls (wo_tys cA) cA base y_rd_isDigit (Cond.code y_rd_isDigit b_rd_isDigit 1 (some .boolean) :: gt) rm_rd_isDigit (As) w ov w' rm_rd_isDigit.cells rm_rd_isDigit.slots) (hR : rm_rd_isDigit.frames + 1 ≤ R.frames ∧ 8 + (1 + 11) + rm_rd_isDigit.locals ≤ R.locals) (hf : cells + rm_rd_isDigit.cells ≤ R.cells ∧ slots + rm_rd_isDigit.slots ≤ R.slots) (hn : As.length = 1) (hsz : ls.size = nL) (hst : st0 = As.reverse ++ rest) (hcat : (rest.map fun v => v.category).sum ≤ 8) (hdg : decode cc pc = .ok (.invokestatic 44, 3)) (kk : ∀ (H1 : Heap) (locs1 : List Loc), wo_S D cls cA base s w' H1 locs1 → W p l e R s m args below meth c H1 locs1 (cells + rm_rd_isDigit.cells) (slots + rm_rd_isDigit.slots) Q (F0 m (pc + 3) ls (ov.toList ++ rest))) : W p l e R s m args below meth c H locs cells slots Q (F0 m pc ls st0) :=
  wo_callS hx hb hml hown hts hK hG hW hM (gt_of (i := 502) (by decide +kernel) (by decide +kernel)) (gt_of (i := 503) (by decide +kernel) (by decide +kernel)) (gt_of (i := 3) (by decide +kernel) (by decide +kernel)) (gt_of (i := 504) (by decide +kernel) (by decide +kernel)) (by decide +kernel) hR hf hn hsz hst hcat hdg kk
abbrev b_rd_readNumeral : ByteArray := prog_5_method_5_code
def y_rd_readNumeral : MethodName := ⟨"AlarmForge$Reader", "readNumeral", "()V"⟩
def rm_rd_readNumeral : Room := { frames := 1, cells := 0, slots := 0, locals := 20 }
theorem d_rd_readNumeral_0 : decode b_rd_readNumeral 0 = .ok (.aload_n 0, 1) := by decide +kernel
theorem d_rd_readNumeral_1 : decode b_rd_readNumeral 1 = .ok (.iconst 1, 1) := by decide +kernel
theorem d_rd_readNumeral_2 : decode b_rd_readNumeral 2 = .ok (.putfield 32, 3) := by decide +kernel
theorem d_rd_readNumeral_5 : decode b_rd_readNumeral 5 = .ok (.aload_n 0, 1) := by decide +kernel
theorem d_rd_readNumeral_6 : decode b_rd_readNumeral 6 = .ok (.getfield 29, 3) := by decide +kernel
theorem d_rd_readNumeral_9 : decode b_rd_readNumeral 9 = .ok (.aload_n 0, 1) := by decide +kernel
theorem d_rd_readNumeral_10 : decode b_rd_readNumeral 10 = .ok (.getfield 25, 3) := by decide +kernel
theorem d_rd_readNumeral_13 : decode b_rd_readNumeral 13 = .ok (.if_icmp .ge (69), 3) := by decide +kernel
theorem d_rd_readNumeral_16 : decode b_rd_readNumeral 16 = .ok (.aload_n 0, 1) := by decide +kernel
theorem d_rd_readNumeral_17 : decode b_rd_readNumeral 17 = .ok (.getfield 29, 3) := by decide +kernel
theorem d_rd_readNumeral_20 : decode b_rd_readNumeral 20 = .ok (.aload_n 0, 1) := by decide +kernel
theorem d_rd_readNumeral_21 : decode b_rd_readNumeral 21 = .ok (.getfield 38, 3) := by decide +kernel
theorem d_rd_readNumeral_24 : decode b_rd_readNumeral 24 = .ok (.bipush (9), 2) := by decide +kernel
theorem d_rd_readNumeral_26 : decode b_rd_readNumeral 26 = .ok (.iadd, 1) := by decide +kernel
theorem d_rd_readNumeral_27 : decode b_rd_readNumeral 27 = .ok (.if_icmp .ge (55), 3) := by decide +kernel
theorem d_rd_readNumeral_30 : decode b_rd_readNumeral 30 = .ok (.aload_n 0, 1) := by decide +kernel
theorem d_rd_readNumeral_31 : decode b_rd_readNumeral 31 = .ok (.getfield 9, 3) := by decide +kernel
theorem d_rd_readNumeral_34 : decode b_rd_readNumeral 34 = .ok (.aload_n 0, 1) := by decide +kernel
theorem d_rd_readNumeral_35 : decode b_rd_readNumeral 35 = .ok (.getfield 29, 3) := by decide +kernel
theorem d_rd_readNumeral_38 : decode b_rd_readNumeral 38 = .ok (.caload, 1) := by decide +kernel
theorem d_rd_readNumeral_39 : decode b_rd_readNumeral 39 = .ok (.invokestatic 44, 3) := by decide +kernel
theorem d_rd_readNumeral_42 : decode b_rd_readNumeral 42 = .ok (.ifCond .eq (40), 3) := by decide +kernel
theorem d_rd_readNumeral_45 : decode b_rd_readNumeral 45 = .ok (.aload_n 0, 1) := by decide +kernel
theorem d_rd_readNumeral_46 : decode b_rd_readNumeral 46 = .ok (.aload_n 0, 1) := by decide +kernel
theorem d_rd_readNumeral_47 : decode b_rd_readNumeral 47 = .ok (.getfield 41, 3) := by decide +kernel
theorem d_rd_readNumeral_50 : decode b_rd_readNumeral 50 = .ok (.bipush (10), 2) := by decide +kernel
theorem d_rd_readNumeral_52 : decode b_rd_readNumeral 52 = .ok (.imul, 1) := by decide +kernel
theorem d_rd_readNumeral_53 : decode b_rd_readNumeral 53 = .ok (.aload_n 0, 1) := by decide +kernel
theorem d_rd_readNumeral_54 : decode b_rd_readNumeral 54 = .ok (.getfield 9, 3) := by decide +kernel
theorem d_rd_readNumeral_57 : decode b_rd_readNumeral 57 = .ok (.aload_n 0, 1) := by decide +kernel
theorem d_rd_readNumeral_58 : decode b_rd_readNumeral 58 = .ok (.getfield 29, 3) := by decide +kernel
theorem d_rd_readNumeral_61 : decode b_rd_readNumeral 61 = .ok (.caload, 1) := by decide +kernel
theorem d_rd_readNumeral_62 : decode b_rd_readNumeral 62 = .ok (.bipush (48), 2) := by decide +kernel
theorem d_rd_readNumeral_64 : decode b_rd_readNumeral 64 = .ok (.isub, 1) := by decide +kernel
theorem d_rd_readNumeral_65 : decode b_rd_readNumeral 65 = .ok (.iadd, 1) := by decide +kernel
theorem d_rd_readNumeral_66 : decode b_rd_readNumeral 66 = .ok (.putfield 41, 3) := by decide +kernel
theorem d_rd_readNumeral_69 : decode b_rd_readNumeral 69 = .ok (.aload_n 0, 1) := by decide +kernel
theorem d_rd_readNumeral_70 : decode b_rd_readNumeral 70 = .ok (.dup, 1) := by decide +kernel
theorem d_rd_readNumeral_71 : decode b_rd_readNumeral 71 = .ok (.getfield 29, 3) := by decide +kernel
theorem d_rd_readNumeral_74 : decode b_rd_readNumeral 74 = .ok (.iconst 1, 1) := by decide +kernel
theorem d_rd_readNumeral_75 : decode b_rd_readNumeral 75 = .ok (.iadd, 1) := by decide +kernel
theorem d_rd_readNumeral_76 : decode b_rd_readNumeral 76 = .ok (.putfield 29, 3) := by decide +kernel
theorem d_rd_readNumeral_79 : decode b_rd_readNumeral 79 = .ok (.goto (-74), 3) := by decide +kernel
theorem d_rd_readNumeral_82 : decode b_rd_readNumeral 82 = .ok (.return_, 1) := by decide +kernel
theorem kb_rd_readNumeral {a0 : Nat}  {w : WW} {r : WW} (h : f_rd_readNumeral a0 w = some r) : kb w a0 1 = true := (its h).1
set_option maxHeartbeats 4000000 in
set_option maxRecDepth 100000 in
theorem j_rd_readNumeral_82 {p : Program} {l : Launch} {e : Env} {s : State} {m : MethodId} {args : Array Value} {below : List Frame} {meth : Method} {c : Code} {D : va_G} {cA : Nat → ClassId} {base : Nat} {w' : WW} (C : cx b_rd_readNumeral (none) 1 y_rd_readNumeral.cls "readNumeral" p s m args meth c D cA base)   : ∀  (w : WW), f_rd_readNumeral_82  w = some w' → ∀ (H : Heap) (locs : List Loc) (ls : Array Slot), wo_S D cls cA base s w H locs → lv_has ls 1 [] → W p l e rm_rd_readNumeral s m args below meth c H locs 0 0 (MQ below (wo_Q D cls cA base none w') args s rm_rd_readNumeral.cells rm_rd_readNumeral.slots (wo_B base)) (F0 m 82 ls []) := by
  obtain ⟨hx, hb, hr, hml, hown, hts, hlk, hnm, hK, hG⟩ := id C
  intro  w h H locs ls hW hl
  unfold f_rd_readNumeral_82 at h
  cases h
  exact wo_vret hx hb hr hlk hW d_rd_readNumeral_82
set_option maxHeartbeats 4000000 in
set_option maxRecDepth 100000 in
theorem j_rd_readNumeral_5 {p : Program} {l : Launch} {e : Env} {s : State} {m : MethodId} {args : Array Value} {below : List Frame} {meth : Method} {c : Code} {D : va_G} {cA : Nat → ClassId} {base : Nat} {w' : WW} (C : cx b_rd_readNumeral (none) 1 y_rd_readNumeral.cls "readNumeral" p s m args meth c D cA base)   : ∀ n : Nat, ∀ (y0 : Nat) (w : WW), f_rd_readNumeral_5 n y0 w = some w' → ∀ (H : Heap) (locs : List Loc) (ls : Array Slot), wo_S D cls cA base s w H locs → lv_has ls 1 [(0, .ref (base + y0))] → W p l e rm_rd_readNumeral s m args below meth c H locs 0 0 (MQ below (wo_Q D cls cA base none w') args s rm_rd_readNumeral.cells rm_rd_readNumeral.slots (wo_B base)) (F0 m 5 ls []) := by
  obtain ⟨hx, hb, hr, hml, hown, hts, hlk, hnm, hK, hG⟩ := id C
  intro n
  induction n with
  | zero => intro y0 w h; cases h
  | succ n ih =>
    intro y0 w h H locs ls hW hl
    rw [f_rd_readNumeral_5] at h
    refine lv_aload_n hx hb d_rd_readNumeral_5 rfl (lv_at hl 0 rfl) ?_
    replace h := bs h
    obtain ⟨x2, hx2, h⟩ := h
    refine gf_rd_29 hx hb hts hown hK hG hW (gI_s hx2) d_rd_readNumeral_6 ?_
    refine lv_aload_n hx hb d_rd_readNumeral_9 rfl (lv_at hl 0 rfl) ?_
    replace h := bs h
    obtain ⟨x3, hx3, h⟩ := h
    refine gf_rd_25 hx hb hts hown hK hG hW (gI_s hx3) d_rd_readNumeral_10 ?_
    refine lv_icmp_ge (tgt := 82) hx hb d_rd_readNumeral_13 (by decide) (fun c4 => ?_) (fun c4 => ?_)
    · rw [if_pos c4] at h
      exact j_rd_readNumeral_82 C w h _ _ _ hW (lv_sub hl [] rfl)
    · rw [if_neg c4] at h
      refine lv_aload_n hx hb d_rd_readNumeral_16 rfl (lv_at hl 0 rfl) ?_
      replace h := bs h
      obtain ⟨x5, hx5, h⟩ := h
      refine gf_rd_29 hx hb hts hown hK hG hW (gI_s hx5) d_rd_readNumeral_17 ?_
      refine lv_aload_n hx hb d_rd_readNumeral_20 rfl (lv_at hl 0 rfl) ?_
      replace h := bs h
      obtain ⟨x6, hx6, h⟩ := h
      refine gf_rd_38 hx hb hts hown hK hG hW (gI_s hx6) d_rd_readNumeral_21 ?_
      refine lv_bipush (v := (9 : Int32)) hx hb d_rd_readNumeral_24 (by decide) ?_
      refine lv_iadd hx hb d_rd_readNumeral_26 ?_
      refine lv_icmp_ge (tgt := 82) hx hb d_rd_readNumeral_27 (by decide) (fun c7 => ?_) (fun c7 => ?_)
      · rw [if_pos c7] at h
        exact j_rd_readNumeral_82 C w h _ _ _ hW (lv_sub hl [] rfl)
      · rw [if_neg c7] at h
        refine lv_aload_n hx hb d_rd_readNumeral_30 rfl (lv_at hl 0 rfl) ?_
        replace h := bs h
        obtain ⟨x8, hx8, h⟩ := h
        refine gf_rd_9 hx hb hts hown hK hG hW (gN_s hx8) d_rd_readNumeral_31 ?_
        refine lv_aload_n hx hb d_rd_readNumeral_34 rfl (lv_at hl 0 rfl) ?_
        replace h := bs h
        obtain ⟨x9, hx9, h⟩ := h
        refine gf_rd_29 hx hb hts hown hK hG hW (gI_s hx9) d_rd_readNumeral_35 ?_
        replace h := bs h
        obtain ⟨x10, hx10, h⟩ := h
        refine wo_cald hx hb hK hW (t := 3) rfl hx10 d_rd_readNumeral_38 ?_
        replace h := bs2 h
        obtain ⟨x12, w11, hw11, h⟩ := h
        refine cs_rd_44 (As := [.int x10]) (rest := []) hx hb hml hown hts hK hG hW (c_rd_isDigit l D cA base hw11) ⟨Nat.le_of_ble_eq_true rfl, Nat.le_of_ble_eq_true rfl⟩ ⟨Nat.le_of_ble_eq_true rfl, Nat.le_of_ble_eq_true rfl⟩ rfl hl.1 rfl (Nat.le_of_ble_eq_true rfl) d_rd_readNumeral_39 (fun H locs hW => ?_)
        refine lv_if_eq (tgt := 82) hx hb d_rd_readNumeral_42 (by decide) (fun c13 => ?_) (fun c13 => ?_)
        · rw [if_pos c13] at h
          exact j_rd_readNumeral_82 C w11 h _ _ _ hW (lv_sub hl [] rfl)
        · rw [if_neg c13] at h
          refine lv_aload_n hx hb d_rd_readNumeral_45 rfl (lv_at hl 0 rfl) ?_
          refine lv_aload_n hx hb d_rd_readNumeral_46 rfl (lv_at hl 0 rfl) ?_
          replace h := bs h
          obtain ⟨x14, hx14, h⟩ := h
          refine gf_rd_41 hx hb hts hown hK hG hW (gI_s hx14) d_rd_readNumeral_47 ?_
          refine lv_bipush (v := (10 : Int32)) hx hb d_rd_readNumeral_50 (by decide) ?_
          refine lv_imul hx hb d_rd_readNumeral_52 ?_
          refine lv_aload_n hx hb d_rd_readNumeral_53 rfl (lv_at hl 0 rfl) ?_
          replace h := bs h
          obtain ⟨x15, hx15, h⟩ := h
          refine gf_rd_9 hx hb hts hown hK hG hW (gN_s hx15) d_rd_readNumeral_54 ?_
          refine lv_aload_n hx hb d_rd_readNumeral_57 rfl (lv_at hl 0 rfl) ?_
          replace h := bs h
          obtain ⟨x16, hx16, h⟩ := h
          refine gf_rd_29 hx hb hts hown hK hG hW (gI_s hx16) d_rd_readNumeral_58 ?_
          replace h := bs h
          obtain ⟨x17, hx17, h⟩ := h
          refine wo_cald hx hb hK hW (t := 3) rfl hx17 d_rd_readNumeral_61 ?_
          refine lv_bipush (v := (48 : Int32)) hx hb d_rd_readNumeral_62 (by decide) ?_
          refine lv_isub hx hb d_rd_readNumeral_64 ?_
          refine lv_iadd hx hb d_rd_readNumeral_65 ?_
          replace h := bs h
          obtain ⟨w18, hw18, h⟩ := h
          refine pf_rd_41 hx hb hts hown hK hG hW rfl rfl (pbi hw18 rfl) d_rd_readNumeral_66 (fun H locs hW => ?_)
          refine lv_aload_n hx hb d_rd_readNumeral_69 rfl (lv_at hl 0 rfl) ?_
          refine lv_dup hx hb d_rd_readNumeral_70 rfl ?_
          replace h := bs h
          obtain ⟨x19, hx19, h⟩ := h
          refine gf_rd_29 hx hb hts hown hK hG hW (gI_s hx19) d_rd_readNumeral_71 ?_
          refine lv_iconst (v := (1 : Int32)) hx hb d_rd_readNumeral_74 (by decide) ?_
          refine lv_iadd hx hb d_rd_readNumeral_75 ?_
          replace h := bs h
          obtain ⟨w20, hw20, h⟩ := h
          refine pf_rd_29 hx hb hts hown hK hG hW rfl rfl (pbi hw20 rfl) d_rd_readNumeral_76 (fun H locs hW => ?_)
          refine lv_goto (tgt := 5) hx hb d_rd_readNumeral_79 (by decide) ?_
          exact ih y0 w20 h _ _ _ hW (lv_sub hl [0] rfl)
set_option maxHeartbeats 4000000 in
set_option maxRecDepth 100000 in
theorem c_rd_readNumeral (l : Launch) (D : va_G) (cA : Nat → ClassId) (base : Nat) {a0 : Nat} {w w' : WW} (h : f_rd_readNumeral a0 w = some w') : mt l D cls (wo_tys cA) cA base y_rd_readNumeral (Cond.code y_rd_readNumeral b_rd_readNumeral 1 (none) :: gt) rm_rd_readNumeral [.ref (base + a0)] w none w' rm_rd_readNumeral.cells rm_rd_readNumeral.slots := by
  refine mt_start (by decide) (Nat.le_of_ble_eq_true rfl) ?_
  intro p e s m below meth c ls hx hb hr hml hown hts hlk hnm hK hG hW hl
  have C : cx b_rd_readNumeral (none) 1 y_rd_readNumeral.cls "readNumeral" p s m [.ref (base + a0)].toArray meth c D cA base := ⟨hx, hb, hr, hml, hown, hts, hlk, hnm, hK, hG⟩
  have hl : lv_has ls 1 [(0, .ref (base + a0))] := hl
  unfold f_rd_readNumeral at h
  replace h := its h
  obtain ⟨-, h⟩ := h
  refine lv_aload_n hx hb d_rd_readNumeral_0 rfl (lv_at hl 0 rfl) ?_
  refine lv_iconst (v := (1 : Int32)) hx hb d_rd_readNumeral_1 (by decide) ?_
  replace h := bs h
  obtain ⟨w1, hw1, h⟩ := h
  refine pf_rd_32 hx hb hts hown hK hG hW rfl rfl (pbi hw1 rfl) d_rd_readNumeral_2 (fun H locs hW => ?_)
  exact j_rd_readNumeral_5 C KK a0 w1 h _ _ _ hW (lv_sub hl [0] rfl)
abbrev b_rd_isLetter : ByteArray := prog_5_method_11_code
def y_rd_isLetter : MethodName := ⟨"AlarmForge$Reader", "isLetter", "(C)Z"⟩
def rm_rd_isLetter : Room := { frames := 0, cells := 0, slots := 0, locals := 0 }
theorem d_rd_isLetter_0 : decode b_rd_isLetter 0 = .ok (.iload_n 0, 1) := by decide +kernel
theorem d_rd_isLetter_1 : decode b_rd_isLetter 1 = .ok (.bipush (97), 2) := by decide +kernel
theorem d_rd_isLetter_3 : decode b_rd_isLetter 3 = .ok (.if_icmp .lt (9), 3) := by decide +kernel
theorem d_rd_isLetter_6 : decode b_rd_isLetter 6 = .ok (.iload_n 0, 1) := by decide +kernel
theorem d_rd_isLetter_7 : decode b_rd_isLetter 7 = .ok (.bipush (122), 2) := by decide +kernel
theorem d_rd_isLetter_9 : decode b_rd_isLetter 9 = .ok (.if_icmp .le (15), 3) := by decide +kernel
theorem d_rd_isLetter_12 : decode b_rd_isLetter 12 = .ok (.iload_n 0, 1) := by decide +kernel
theorem d_rd_isLetter_13 : decode b_rd_isLetter 13 = .ok (.bipush (65), 2) := by decide +kernel
theorem d_rd_isLetter_15 : decode b_rd_isLetter 15 = .ok (.if_icmp .lt (13), 3) := by decide +kernel
theorem d_rd_isLetter_18 : decode b_rd_isLetter 18 = .ok (.iload_n 0, 1) := by decide +kernel
theorem d_rd_isLetter_19 : decode b_rd_isLetter 19 = .ok (.bipush (90), 2) := by decide +kernel
theorem d_rd_isLetter_21 : decode b_rd_isLetter 21 = .ok (.if_icmp .gt (7), 3) := by decide +kernel
theorem d_rd_isLetter_24 : decode b_rd_isLetter 24 = .ok (.iconst 1, 1) := by decide +kernel
theorem d_rd_isLetter_25 : decode b_rd_isLetter 25 = .ok (.goto (4), 3) := by decide +kernel
theorem d_rd_isLetter_28 : decode b_rd_isLetter 28 = .ok (.iconst 0, 1) := by decide +kernel
theorem d_rd_isLetter_29 : decode b_rd_isLetter 29 = .ok (.ireturn, 1) := by decide +kernel
set_option maxHeartbeats 4000000 in
set_option maxRecDepth 100000 in
theorem j_rd_isLetter_29 {p : Program} {l : Launch} {e : Env} {s : State} {m : MethodId} {args : Array Value} {below : List Frame} {meth : Method} {c : Code} {D : va_G} {cA : Nat → ClassId} {base : Nat} {r : Int32} {w' : WW} (C : cx b_rd_isLetter (some .boolean) 1 y_rd_isLetter.cls "isLetter" p s m args meth c D cA base)   : ∀ (z0 : Int32) (w : WW), f_rd_isLetter_29 z0 w = some (r, w') → ∀ (H : Heap) (locs : List Loc) (ls : Array Slot), wo_S D cls cA base s w H locs → lv_has ls 1 [] → W p l e rm_rd_isLetter s m args below meth c H locs 0 0 (MQ below (wo_Q D cls cA base (some (.int r)) w') args s rm_rd_isLetter.cells rm_rd_isLetter.slots (wo_B base)) (F0 m 29 ls [.int z0]) := by
  obtain ⟨hx, hb, hr, hml, hown, hts, hlk, hnm, hK, hG⟩ := id C
  intro z0 w h H locs ls hW hl
  unfold f_rd_isLetter_29 at h
  replace h := its h
  obtain ⟨c3, h⟩ := h
  cases h
  exact wo_zret hx hb hr hlk hW c3 d_rd_isLetter_29
set_option maxHeartbeats 4000000 in
set_option maxRecDepth 100000 in
theorem j_rd_isLetter_28 {p : Program} {l : Launch} {e : Env} {s : State} {m : MethodId} {args : Array Value} {below : List Frame} {meth : Method} {c : Code} {D : va_G} {cA : Nat → ClassId} {base : Nat} {r : Int32} {w' : WW} (C : cx b_rd_isLetter (some .boolean) 1 y_rd_isLetter.cls "isLetter" p s m args meth c D cA base)   : ∀  (w : WW), f_rd_isLetter_28  w = some (r, w') → ∀ (H : Heap) (locs : List Loc) (ls : Array Slot), wo_S D cls cA base s w H locs → lv_has ls 1 [] → W p l e rm_rd_isLetter s m args below meth c H locs 0 0 (MQ below (wo_Q D cls cA base (some (.int r)) w') args s rm_rd_isLetter.cells rm_rd_isLetter.slots (wo_B base)) (F0 m 28 ls []) := by
  obtain ⟨hx, hb, hr, hml, hown, hts, hlk, hnm, hK, hG⟩ := id C
  intro  w h H locs ls hW hl
  unfold f_rd_isLetter_28 at h
  refine lv_iconst (v := (0 : Int32)) hx hb d_rd_isLetter_28 (by decide) ?_
  exact j_rd_isLetter_29 C (0 : Int32) w h _ _ _ hW (lv_sub hl [] rfl)
set_option maxHeartbeats 4000000 in
set_option maxRecDepth 100000 in
theorem j_rd_isLetter_24 {p : Program} {l : Launch} {e : Env} {s : State} {m : MethodId} {args : Array Value} {below : List Frame} {meth : Method} {c : Code} {D : va_G} {cA : Nat → ClassId} {base : Nat} {r : Int32} {w' : WW} (C : cx b_rd_isLetter (some .boolean) 1 y_rd_isLetter.cls "isLetter" p s m args meth c D cA base)   : ∀  (w : WW), f_rd_isLetter_24  w = some (r, w') → ∀ (H : Heap) (locs : List Loc) (ls : Array Slot), wo_S D cls cA base s w H locs → lv_has ls 1 [] → W p l e rm_rd_isLetter s m args below meth c H locs 0 0 (MQ below (wo_Q D cls cA base (some (.int r)) w') args s rm_rd_isLetter.cells rm_rd_isLetter.slots (wo_B base)) (F0 m 24 ls []) := by
  obtain ⟨hx, hb, hr, hml, hown, hts, hlk, hnm, hK, hG⟩ := id C
  intro  w h H locs ls hW hl
  unfold f_rd_isLetter_24 at h
  refine lv_iconst (v := (1 : Int32)) hx hb d_rd_isLetter_24 (by decide) ?_
  refine lv_goto (tgt := 29) hx hb d_rd_isLetter_25 (by decide) ?_
  exact j_rd_isLetter_29 C (1 : Int32) w h _ _ _ hW (lv_sub hl [] rfl)
set_option maxHeartbeats 4000000 in
set_option maxRecDepth 100000 in
theorem j_rd_isLetter_12 {p : Program} {l : Launch} {e : Env} {s : State} {m : MethodId} {args : Array Value} {below : List Frame} {meth : Method} {c : Code} {D : va_G} {cA : Nat → ClassId} {base : Nat} {r : Int32} {w' : WW} (C : cx b_rd_isLetter (some .boolean) 1 y_rd_isLetter.cls "isLetter" p s m args meth c D cA base)   : ∀ (y0 : Int32) (w : WW), f_rd_isLetter_12 y0 w = some (r, w') → ∀ (H : Heap) (locs : List Loc) (ls : Array Slot), wo_S D cls cA base s w H locs → lv_has ls 1 [(0, .int y0)] → W p l e rm_rd_isLetter s m args below meth c H locs 0 0 (MQ below (wo_Q D cls cA base (some (.int r)) w') args s rm_rd_isLetter.cells rm_rd_isLetter.slots (wo_B base)) (F0 m 12 ls []) := by
  obtain ⟨hx, hb, hr, hml, hown, hts, hlk, hnm, hK, hG⟩ := id C
  intro y0 w h H locs ls hW hl
  unfold f_rd_isLetter_12 at h
  refine lv_iload_n hx hb d_rd_isLetter_12 rfl (lv_at hl 0 rfl) ?_
  refine lv_bipush (v := (65 : Int32)) hx hb d_rd_isLetter_13 (by decide) ?_
  refine lv_icmp_lt (tgt := 28) hx hb d_rd_isLetter_15 (by decide) (fun c2 => ?_) (fun c2 => ?_)
  · rw [if_pos c2] at h
    exact j_rd_isLetter_28 C w h _ _ _ hW (lv_sub hl [] rfl)
  · rw [if_neg c2] at h
    refine lv_iload_n hx hb d_rd_isLetter_18 rfl (lv_at hl 0 rfl) ?_
    refine lv_bipush (v := (90 : Int32)) hx hb d_rd_isLetter_19 (by decide) ?_
    refine lv_icmp_gt (tgt := 28) hx hb d_rd_isLetter_21 (by decide) (fun c4 => ?_) (fun c4 => ?_)
    · rw [if_pos c4] at h
      exact j_rd_isLetter_28 C w h _ _ _ hW (lv_sub hl [] rfl)
    · rw [if_neg c4] at h
      exact j_rd_isLetter_24 C w h _ _ _ hW (lv_sub hl [] rfl)
set_option maxHeartbeats 4000000 in
set_option maxRecDepth 100000 in
theorem c_rd_isLetter (l : Launch) (D : va_G) (cA : Nat → ClassId) (base : Nat) {a0 : Int32} {w w' : WW} {r : Int32} (h : f_rd_isLetter a0 w = some (r, w')) : mt l D cls (wo_tys cA) cA base y_rd_isLetter (Cond.code y_rd_isLetter b_rd_isLetter 1 (some .boolean) :: gt) rm_rd_isLetter [.int a0] w (some (.int r)) w' rm_rd_isLetter.cells rm_rd_isLetter.slots := by
  refine mt_start (by decide) (Nat.le_of_ble_eq_true rfl) ?_
  intro p e s m below meth c ls hx hb hr hml hown hts hlk hnm hK hG hW hl
  have C : cx b_rd_isLetter (some .boolean) 1 y_rd_isLetter.cls "isLetter" p s m [.int a0].toArray meth c D cA base := ⟨hx, hb, hr, hml, hown, hts, hlk, hnm, hK, hG⟩
  have hl : lv_has ls 1 [(0, .int a0)] := hl
  unfold f_rd_isLetter at h
  refine lv_iload_n hx hb d_rd_isLetter_0 rfl (lv_at hl 0 rfl) ?_
  refine lv_bipush (v := (97 : Int32)) hx hb d_rd_isLetter_1 (by decide) ?_
  refine lv_icmp_lt (tgt := 12) hx hb d_rd_isLetter_3 (by decide) (fun c1 => ?_) (fun c1 => ?_)
  · rw [if_pos c1] at h
    exact j_rd_isLetter_12 C a0 w h _ _ _ hW (lv_sub hl [0] rfl)
  · rw [if_neg c1] at h
    refine lv_iload_n hx hb d_rd_isLetter_6 rfl (lv_at hl 0 rfl) ?_
    refine lv_bipush (v := (122 : Int32)) hx hb d_rd_isLetter_7 (by decide) ?_
    refine lv_icmp_le (tgt := 24) hx hb d_rd_isLetter_9 (by decide) (fun c5 => ?_) (fun c5 => ?_)
    · rw [if_pos c5] at h
      exact j_rd_isLetter_24 C w h _ _ _ hW (lv_sub hl [] rfl)
    · rw [if_neg c5] at h
      exact j_rd_isLetter_12 C a0 w h _ _ _ hW (lv_sub hl [0] rfl)
abbrev b_js_coder : ByteArray := prog_20_method_152_code
def y_js_coder : MethodName := ⟨"java/lang/String", "coder", "()B"⟩
def rm_js_coder : Room := { frames := 0, cells := 0, slots := 0, locals := 0 }
theorem d_js_coder_0 : decode b_js_coder 0 = .ok (.getstatic 38, 3) := by decide +kernel
theorem d_js_coder_3 : decode b_js_coder 3 = .ok (.ifCond .eq (10), 3) := by decide +kernel
theorem d_js_coder_6 : decode b_js_coder 6 = .ok (.aload_n 0, 1) := by decide +kernel
theorem d_js_coder_7 : decode b_js_coder 7 = .ok (.getfield 15, 3) := by decide +kernel
theorem d_js_coder_10 : decode b_js_coder 10 = .ok (.goto (4), 3) := by decide +kernel
theorem d_js_coder_13 : decode b_js_coder 13 = .ok (.iconst 1, 1) := by decide +kernel
theorem d_js_coder_14 : decode b_js_coder 14 = .ok (.ireturn, 1) := by decide +kernel
theorem kb_js_coder {a0 : Nat} {w : WW} {r : (Int32 × WW)} (h : f_js_coder a0 w = some r) : a0 < 6 := (its h).1
set_option maxHeartbeats 4000000 in
set_option maxRecDepth 100000 in
theorem j_js_coder_14 {p : Program} {l : Launch} {e : Env} {s : State} {m : MethodId} {args : Array Value} {below : List Frame} {meth : Method} {c : Code} {D : va_G} {cA : Nat → ClassId} {base : Nat} {r : Int32} {w' : WW} (C : cx b_js_coder (some .byte) 1 y_js_coder.cls "coder" p s m args meth c D cA base)   : ∀ (z0 : Int32) (w : WW), f_js_coder_14 z0 w = some (r, w') → ∀ (H : Heap) (locs : List Loc) (ls : Array Slot), wo_S D cls cA base s w H locs → lv_has ls 1 [] → W p l e rm_js_coder s m args below meth c H locs 0 0 (MQ below (wo_Q D cls cA base (some (.int r)) w') args s rm_js_coder.cells rm_js_coder.slots (wo_B base)) (F0 m 14 ls [.int z0]) := by
  obtain ⟨hx, hb, hr, hml, hown, hts, hlk, hnm, hK, hG⟩ := id C
  intro z0 w h H locs ls hW hl
  unfold f_js_coder_14 at h
  replace h := its h
  obtain ⟨c2, h⟩ := h
  cases h
  exact wo_nret hx hb hr hlk hW c2 d_js_coder_14
set_option maxHeartbeats 4000000 in
set_option maxRecDepth 100000 in
theorem c_js_coder (l : Launch) (D : va_G) (cA : Nat → ClassId) (base : Nat) {a0 : Nat} {w w' : WW} {r : Int32} (h : f_js_coder a0 w = some (r, w')) : mt l D cls (wo_tys cA) cA base y_js_coder (Cond.code y_js_coder b_js_coder 1 (some .byte) :: gt) rm_js_coder [.ref (cA (100 + a0))] w (some (.int r)) w' rm_js_coder.cells rm_js_coder.slots := by
  refine mt_startF (by decide +kernel) (Nat.le_of_ble_eq_true rfl) ?_
  intro p e s m below meth c ls hx hb hr hml hown hts hlk hnm hK hG hW hl
  have C : cx b_js_coder (some .byte) 1 y_js_coder.cls "coder" p s m [.ref (cA (100 + a0))].toArray meth c D cA base := ⟨hx, hb, hr, hml, hown, hts, hlk, hnm, hK, hG⟩
  have hl : lv_has ls 1 [(0, .ref (cA (100 + a0)))] := hl
  unfold f_js_coder at h
  replace h := its h
  obtain ⟨-, h⟩ := h
  refine va_gets (ref := "java/lang/String") hx hb hG.2.2.2.2.2.2.2.2.2.2.1 hW.2.1 hown (hts _ (gt_of (i := 533) (by decide +kernel) (by decide +kernel))) (fun _ h9 => h9) d_js_coder_0 ?_
  refine lv_if_eq (tgt := 13) hx hb d_js_coder_3 (by decide) (fun c1 => ?_) (fun c1 => ?_)
  · rw [if_pos c1] at h
    refine lv_iconst (v := (1 : Int32)) hx hb d_js_coder_13 (by decide) ?_
    exact j_js_coder_14 C (1 : Int32) w h _ _ _ hW (lv_sub hl [] rfl)
  · rw [if_neg c1] at h
    refine lv_aload_n hx hb d_js_coder_6 rfl (lv_at hl 0 rfl) ?_
    replace h := its h
    obtain ⟨c3, h⟩ := h
    refine vk_getf (ref := "java/lang/String") hx hb (hG.2.2.2.2.2.2.2.2.1.1 a0 c3).2.1 hW.2.1 hown (hts _ (gt_of (i := 1738) (by decide +kernel) (by decide +kernel))) (fun _ h9 => h9) d_js_coder_7 ?_
    refine lv_goto (tgt := 14) hx hb d_js_coder_10 (by decide) ?_
    exact j_js_coder_14 C (0 : Int32) w h _ _ _ hW (lv_sub hl [] rfl)
theorem cv_js_335 {p : Program} {l : Launch} {e : Env} {R : Room} {s : State} {m : MethodId} {args : Array Value} {below : List Frame} {meth : Method} {c : Code} {H : Heap} {locs : List Loc} {cells slots : Nat} {Q : State → Prop} {D : va_G} {cA : Nat → ClassId} {base : Nat} {w w' : WW} {cc : ByteArray} {pc nL : Nat} {ls : Array Slot} {rest st0 As : List Value} {ov : Option Value} {b : Nat} (hx : p.tables.exec = Jvm.exec) (hb : c.code = cc) (hml : c.maxLocals = nL) (hown : s.vm.findClass Rc_js = some m.cls) (hts : ∀ w ∈ gt, w.before args s = true) (hK : va_K D cls (wo_tys cA) s) (hG : wo_G cA base s) (hW : wo_S D cls cA base s w H locs) (hM : mt l D cls (wo_tys cA) cA base y_js_coder (Cond.code y_js_coder b_js_coder 1 (some .byte) :: gt) rm_js_coder (.ref (cA (100 + b)) :: As) w ov w' rm_js_coder.cells rm_js_coder.slots) (hkb : b < 6) (hR : rm_js_coder.frames + 1 ≤ R.frames ∧ 8 + (1 + 11) + rm_js_coder.locals ≤ R.locals) (hf : cells + rm_js_coder.cells ≤ R.cells ∧ slots + rm_js_coder.slots ≤ R.slots) (hn : As.length = 0) (hsz : ls.size = nL) (hst : st0 = As.reverse ++ .ref (cA (100 + b)) :: rest) (hcat : (rest.map fun v => v.category).sum ≤ 8) (hdg : decode cc pc = .ok (.invokevirtual 335, 3)) (kk : ∀ (H1 : Heap) (locs1 : List Loc), wo_S D cls cA base s w' H1 locs1 → W p l e R s m args below meth c H1 locs1 (cells + rm_js_coder.cells) (slots + rm_js_coder.slots) Q (F0 m (pc + 3) ls (ov.toList ++ rest))) : W p l e R s m args below meth c H locs cells slots Q (F0 m pc ls st0) :=
  wo_callVS hx hb hml hown hts hK hG hW hM hkb (gt_of (i := 529) (by decide +kernel) (by decide +kernel)) (gt_of (i := 530) (by decide +kernel) (by decide +kernel)) (gt_of (i := 531) (by decide +kernel) (by decide +kernel)) (gt_of (i := 16) (by decide +kernel) (by decide +kernel)) (gt_of (i := 532) (by decide +kernel) (by decide +kernel)) (by decide +kernel) hR hf hn hsz hst hcat hdg kk
abbrev b_js_length : ByteArray := prog_20_method_54_code
def y_js_length : MethodName := ⟨"java/lang/String", "length", "()I"⟩
def rm_js_length : Room := { frames := 1, cells := 0, slots := 0, locals := 20 }
theorem d_js_length_0 : decode b_js_length 0 = .ok (.aload_n 0, 1) := by decide +kernel
theorem d_js_length_1 : decode b_js_length 1 = .ok (.getfield 9, 3) := by decide +kernel
theorem d_js_length_4 : decode b_js_length 4 = .ok (.arraylength, 1) := by decide +kernel
theorem d_js_length_5 : decode b_js_length 5 = .ok (.aload_n 0, 1) := by decide +kernel
theorem d_js_length_6 : decode b_js_length 6 = .ok (.invokevirtual 335, 3) := by decide +kernel
theorem d_js_length_9 : decode b_js_length 9 = .ok (.ishr, 1) := by decide +kernel
theorem d_js_length_10 : decode b_js_length 10 = .ok (.ireturn, 1) := by decide +kernel
theorem kb_js_length {a0 : Nat} {w : WW} {r : (Int32 × WW)} (h : f_js_length a0 w = some r) : a0 < 6 := (its h).1
set_option maxHeartbeats 4000000 in
set_option maxRecDepth 100000 in
theorem c_js_length (l : Launch) (D : va_G) (cA : Nat → ClassId) (base : Nat) {a0 : Nat} {w w' : WW} {r : Int32} (h : f_js_length a0 w = some (r, w')) : mt l D cls (wo_tys cA) cA base y_js_length (Cond.code y_js_length b_js_length 1 (some .int) :: gt) rm_js_length [.ref (cA (100 + a0))] w (some (.int r)) w' rm_js_length.cells rm_js_length.slots := by
  refine mt_startF (by decide +kernel) (Nat.le_of_ble_eq_true rfl) ?_
  intro p e s m below meth c ls hx hb hr hml hown hts hlk hnm hK hG hW hl
  have C : cx b_js_length (some .int) 1 y_js_length.cls "length" p s m [.ref (cA (100 + a0))].toArray meth c D cA base := ⟨hx, hb, hr, hml, hown, hts, hlk, hnm, hK, hG⟩
  have hl : lv_has ls 1 [(0, .ref (cA (100 + a0)))] := hl
  unfold f_js_length at h
  replace h := its h
  obtain ⟨-, h⟩ := h
  refine lv_aload_n hx hb d_js_length_0 rfl (lv_at hl 0 rfl) ?_
  replace h := its h
  obtain ⟨c1, h⟩ := h
  refine vk_getf (ref := "java/lang/String") hx hb (hG.2.2.2.2.2.2.2.2.1.1 a0 c1).2.2.1 hW.2.1 hown (hts _ (gt_of (i := 1737) (by decide +kernel) (by decide +kernel))) (fun _ h9 => h9) d_js_length_1 ?_
  replace h := its h
  obtain ⟨c2, h⟩ := h
  refine va_tlen (v := Int32.ofNat (sLn.getD a0 0)) hx hb (hG.2.2.2.2.2.2.2.2.1.1 a0 c2).2.2.2 hW.2.1 rfl d_js_length_4 ?_
  refine lv_aload_n hx hb d_js_length_5 rfl (lv_at hl 0 rfl) ?_
  replace h := bs2 h
  obtain ⟨x4, w3, hw3, h⟩ := h
  refine cv_js_335 (As := []) (rest := [.int (Int32.ofNat (sLn.getD a0 0))]) hx hb hml hown hts hK hG hW (c_js_coder l D cA base hw3) (kb_js_coder hw3) ⟨Nat.le_of_ble_eq_true rfl, Nat.le_of_ble_eq_true rfl⟩ ⟨Nat.le_of_ble_eq_true rfl, Nat.le_of_ble_eq_true rfl⟩ rfl hl.1 rfl (Nat.le_of_ble_eq_true rfl) d_js_length_6 (fun H locs hW => ?_)
  refine lv_ishr hx hb d_js_length_9 ?_
  cases h
  exact wo_iret hx hb hr hlk hW d_js_length_10
abbrev b_js_isLatin1 : ByteArray := prog_20_method_154_code
def y_js_isLatin1 : MethodName := ⟨"java/lang/String", "isLatin1", "()Z"⟩
def rm_js_isLatin1 : Room := { frames := 0, cells := 0, slots := 0, locals := 0 }
theorem d_js_isLatin1_0 : decode b_js_isLatin1 0 = .ok (.getstatic 38, 3) := by decide +kernel
theorem d_js_isLatin1_3 : decode b_js_isLatin1 3 = .ok (.ifCond .eq (14), 3) := by decide +kernel
theorem d_js_isLatin1_6 : decode b_js_isLatin1 6 = .ok (.aload_n 0, 1) := by decide +kernel
theorem d_js_isLatin1_7 : decode b_js_isLatin1 7 = .ok (.getfield 15, 3) := by decide +kernel
theorem d_js_isLatin1_10 : decode b_js_isLatin1 10 = .ok (.ifCond .ne (7), 3) := by decide +kernel
theorem d_js_isLatin1_13 : decode b_js_isLatin1 13 = .ok (.iconst 1, 1) := by decide +kernel
theorem d_js_isLatin1_14 : decode b_js_isLatin1 14 = .ok (.goto (4), 3) := by decide +kernel
theorem d_js_isLatin1_17 : decode b_js_isLatin1 17 = .ok (.iconst 0, 1) := by decide +kernel
theorem d_js_isLatin1_18 : decode b_js_isLatin1 18 = .ok (.ireturn, 1) := by decide +kernel
theorem kb_js_isLatin1 {a0 : Nat} {w : WW} {r : (Int32 × WW)} (h : f_js_isLatin1 a0 w = some r) : a0 < 6 := (its h).1
set_option maxHeartbeats 4000000 in
set_option maxRecDepth 100000 in
theorem j_js_isLatin1_18 {p : Program} {l : Launch} {e : Env} {s : State} {m : MethodId} {args : Array Value} {below : List Frame} {meth : Method} {c : Code} {D : va_G} {cA : Nat → ClassId} {base : Nat} {r : Int32} {w' : WW} (C : cx b_js_isLatin1 (some .boolean) 1 y_js_isLatin1.cls "isLatin1" p s m args meth c D cA base)   : ∀ (z0 : Int32) (w : WW), f_js_isLatin1_18 z0 w = some (r, w') → ∀ (H : Heap) (locs : List Loc) (ls : Array Slot), wo_S D cls cA base s w H locs → lv_has ls 1 [] → W p l e rm_js_isLatin1 s m args below meth c H locs 0 0 (MQ below (wo_Q D cls cA base (some (.int r)) w') args s rm_js_isLatin1.cells rm_js_isLatin1.slots (wo_B base)) (F0 m 18 ls [.int z0]) := by
  obtain ⟨hx, hb, hr, hml, hown, hts, hlk, hnm, hK, hG⟩ := id C
  intro z0 w h H locs ls hW hl
  unfold f_js_isLatin1_18 at h
  replace h := its h
  obtain ⟨c2, h⟩ := h
  cases h
  exact wo_zret hx hb hr hlk hW c2 d_js_isLatin1_18
set_option maxHeartbeats 4000000 in
set_option maxRecDepth 100000 in
theorem j_js_isLatin1_17 {p : Program} {l : Launch} {e : Env} {s : State} {m : MethodId} {args : Array Value} {below : List Frame} {meth : Method} {c : Code} {D : va_G} {cA : Nat → ClassId} {base : Nat} {r : Int32} {w' : WW} (C : cx b_js_isLatin1 (some .boolean) 1 y_js_isLatin1.cls "isLatin1" p s m args meth c D cA base)   : ∀  (w : WW), f_js_isLatin1_17  w = some (r, w') → ∀ (H : Heap) (locs : List Loc) (ls : Array Slot), wo_S D cls cA base s w H locs → lv_has ls 1 [] → W p l e rm_js_isLatin1 s m args below meth c H locs 0 0 (MQ below (wo_Q D cls cA base (some (.int r)) w') args s rm_js_isLatin1.cells rm_js_isLatin1.slots (wo_B base)) (F0 m 17 ls []) := by
  obtain ⟨hx, hb, hr, hml, hown, hts, hlk, hnm, hK, hG⟩ := id C
  intro  w h H locs ls hW hl
  unfold f_js_isLatin1_17 at h
  refine lv_iconst (v := (0 : Int32)) hx hb d_js_isLatin1_17 (by decide) ?_
  exact j_js_isLatin1_18 C (0 : Int32) w h _ _ _ hW (lv_sub hl [] rfl)
set_option maxHeartbeats 4000000 in
set_option maxRecDepth 100000 in
theorem c_js_isLatin1 (l : Launch) (D : va_G) (cA : Nat → ClassId) (base : Nat) {a0 : Nat} {w w' : WW} {r : Int32} (h : f_js_isLatin1 a0 w = some (r, w')) : mt l D cls (wo_tys cA) cA base y_js_isLatin1 (Cond.code y_js_isLatin1 b_js_isLatin1 1 (some .boolean) :: gt) rm_js_isLatin1 [.ref (cA (100 + a0))] w (some (.int r)) w' rm_js_isLatin1.cells rm_js_isLatin1.slots := by
  refine mt_startF (by decide +kernel) (Nat.le_of_ble_eq_true rfl) ?_
  intro p e s m below meth c ls hx hb hr hml hown hts hlk hnm hK hG hW hl
  have C : cx b_js_isLatin1 (some .boolean) 1 y_js_isLatin1.cls "isLatin1" p s m [.ref (cA (100 + a0))].toArray meth c D cA base := ⟨hx, hb, hr, hml, hown, hts, hlk, hnm, hK, hG⟩
  have hl : lv_has ls 1 [(0, .ref (cA (100 + a0)))] := hl
  unfold f_js_isLatin1 at h
  replace h := its h
  obtain ⟨-, h⟩ := h
  refine va_gets (ref := "java/lang/String") hx hb hG.2.2.2.2.2.2.2.2.2.2.1 hW.2.1 hown (hts _ (gt_of (i := 533) (by decide +kernel) (by decide +kernel))) (fun _ h9 => h9) d_js_isLatin1_0 ?_
  refine lv_if_eq (tgt := 17) hx hb d_js_isLatin1_3 (by decide) (fun c1 => ?_) (fun c1 => ?_)
  · rw [if_pos c1] at h
    exact j_js_isLatin1_17 C w h _ _ _ hW (lv_sub hl [] rfl)
  · rw [if_neg c1] at h
    refine lv_aload_n hx hb d_js_isLatin1_6 rfl (lv_at hl 0 rfl) ?_
    replace h := its h
    obtain ⟨c3, h⟩ := h
    refine vk_getf (ref := "java/lang/String") hx hb (hG.2.2.2.2.2.2.2.2.1.1 a0 c3).2.1 hW.2.1 hown (hts _ (gt_of (i := 1738) (by decide +kernel) (by decide +kernel))) (fun _ h9 => h9) d_js_isLatin1_7 ?_
    refine lv_if_ne (tgt := 17) hx hb d_js_isLatin1_10 (by decide) (fun c4 => ?_) (fun c4 => ?_)
    · rw [if_neg c4] at h
      exact j_js_isLatin1_17 C w h _ _ _ hW (lv_sub hl [] rfl)
    · rw [if_pos c4] at h
      refine lv_iconst (v := (1 : Int32)) hx hb d_js_isLatin1_13 (by decide) ?_
      refine lv_goto (tgt := 18) hx hb d_js_isLatin1_14 (by decide) ?_
      exact j_js_isLatin1_18 C (1 : Int32) w h _ _ _ hW (lv_sub hl [] rfl)
abbrev b_jp_checkIndex : ByteArray := prog_25_method_11_code
def y_jp_checkIndex : MethodName := ⟨"jdk/internal/util/Preconditions", "checkIndex", "(IILjava/util/function/BiFunction;)I"⟩
def rm_jp_checkIndex : Room := { frames := 0, cells := 0, slots := 0, locals := 0 }
theorem d_jp_checkIndex_0 : decode b_jp_checkIndex 0 = .ok (.iload_n 0, 1) := by decide +kernel
theorem d_jp_checkIndex_1 : decode b_jp_checkIndex 1 = .ok (.ifCond .lt (8), 3) := by decide +kernel
theorem d_jp_checkIndex_4 : decode b_jp_checkIndex 4 = .ok (.iload_n 0, 1) := by decide +kernel
theorem d_jp_checkIndex_5 : decode b_jp_checkIndex 5 = .ok (.iload_n 1, 1) := by decide +kernel
theorem d_jp_checkIndex_6 : decode b_jp_checkIndex 6 = .ok (.if_icmp .lt (10), 3) := by decide +kernel
theorem d_jp_checkIndex_16 : decode b_jp_checkIndex 16 = .ok (.iload_n 0, 1) := by decide +kernel
theorem d_jp_checkIndex_17 : decode b_jp_checkIndex 17 = .ok (.ireturn, 1) := by decide +kernel
theorem lg_X3 (i n : Int32) (v : Value) (hv : v.category = 1) : (lg_sl [.int i, .int n, v]).length ≤ 3 := by
  cases v <;> first | exact Nat.le_of_ble_eq_true rfl | (simp [Value.category] at hv)
theorem c_jp_checkIndex (l : Launch) (D : va_G) (cA : Nat → ClassId) (base : Nat) {i n : Int32} {v : Value} (hv : v.category = 1) {w : WW} (h1 : ¬ i < 0) (h2 : i < n) : mt l D cls (wo_tys cA) cA base y_jp_checkIndex (Cond.code y_jp_checkIndex b_jp_checkIndex 3 (some .int) :: gt) rm_jp_checkIndex [.int i, .int n, v] w (some (.int i)) w rm_jp_checkIndex.cells rm_jp_checkIndex.slots := by
  refine mt_startF (by decide +kernel) (lg_X3 i n v hv) ?_
  intro p e s m below meth c ls hx hb hr hml hown hts hlk hnm hK hG hW hl
  have hl : lv_has ls 3 [(0, .int i), (1, .int n), (2, v)] := hl
  refine lv_iload_n hx hb d_jp_checkIndex_0 rfl (lv_at hl 0 rfl) ?_
  refine lv_if_lt (tgt := 9) hx hb d_jp_checkIndex_1 (by decide) (fun c1 => absurd c1 h1) (fun c1 => ?_)
  refine lv_iload_n hx hb d_jp_checkIndex_4 rfl (lv_at hl 0 rfl) ?_
  refine lv_iload_n hx hb d_jp_checkIndex_5 rfl (lv_at hl 1 rfl) ?_
  refine lv_icmp_lt (tgt := 16) hx hb d_jp_checkIndex_6 (by decide) (fun c2 => ?_) (fun c2 => absurd h2 c2)
  refine lv_iload_n hx hb d_jp_checkIndex_16 rfl (lv_at hl 0 rfl) ?_
  exact wo_iret hx hb hr hlk hW d_jp_checkIndex_17
abbrev b_js_checkIndex : ByteArray := prog_20_method_155_code
def y_js_checkIndex : MethodName := ⟨"java/lang/String", "checkIndex", "(II)V"⟩
def rm_js_checkIndex : Room := { frames := 1, cells := 0, slots := 0, locals := 22 }
theorem d_js_checkIndex_0 : decode b_js_checkIndex 0 = .ok (.iload_n 0, 1) := by decide +kernel
theorem d_js_checkIndex_1 : decode b_js_checkIndex 1 = .ok (.iload_n 1, 1) := by decide +kernel
theorem d_js_checkIndex_2 : decode b_js_checkIndex 2 = .ok (.getstatic 1053, 3) := by decide +kernel
theorem d_js_checkIndex_5 : decode b_js_checkIndex 5 = .ok (.invokestatic 1059, 3) := by decide +kernel
theorem d_js_checkIndex_8 : decode b_js_checkIndex 8 = .ok (.pop, 1) := by decide +kernel
theorem d_js_checkIndex_9 : decode b_js_checkIndex 9 = .ok (.return_, 1) := by decide +kernel
theorem c_js_checkIndex (l : Launch) (D : va_G) (cA : Nat → ClassId) (base : Nat) {a0 : Int32} {a1 : Int32} {w w' : WW} (h : f_js_checkIndex a0 a1 w = some w') : mt l D cls (wo_tys cA) cA base y_js_checkIndex (Cond.code y_js_checkIndex b_js_checkIndex 2 none :: gt) rm_js_checkIndex [.int a0, .int a1] w none w' rm_js_checkIndex.cells rm_js_checkIndex.slots := by
  refine mt_startF (by decide +kernel) (Nat.le_of_ble_eq_true rfl) ?_
  intro p e s m below meth c ls hx hb hr hml hown hts hlk hnm hK hG hW hl
  have hl : lv_has ls 2 [(0, .int a0), (1, .int a1)] := hl
  unfold f_js_checkIndex at h
  replace h := its h
  obtain ⟨⟨c1, c2⟩, h⟩ := h
  cases h
  refine lv_iload_n hx hb d_js_checkIndex_0 rfl (lv_at hl 0 rfl) ?_
  refine lv_iload_n hx hb d_js_checkIndex_1 rfl (lv_at hl 1 rfl) ?_
  obtain ⟨v, hv, hz⟩ := zq_v hG.2.2.2.2.2.2.2.2.2.2.2
  refine va_gets (ref := "jdk/internal/util/Preconditions") hx hb hz hW.2.1 hown (hts _ (gt_of (i := 549) (by decide +kernel) (by decide +kernel))) (fun _ h9 => h9) d_js_checkIndex_2 ?_
  refine wo_callS (n := 3) (As := [.int a0, .int a1, v]) (rest := []) hx hb hml hown hts hK hG hW (c_jp_checkIndex l D cA base hv c1 c2) (gt_of (i := 551) (by decide +kernel) (by decide +kernel)) (gt_of (i := 552) (by decide +kernel) (by decide +kernel)) (gt_of (i := 18) (by decide +kernel) (by decide +kernel)) (gt_of (i := 553) (by decide +kernel) (by decide +kernel)) (by decide +kernel) ⟨Nat.le_of_ble_eq_true rfl, Nat.le_of_ble_eq_true rfl⟩ ⟨Nat.le_of_ble_eq_true rfl, Nat.le_of_ble_eq_true rfl⟩ rfl hl.1 rfl (Nat.le_of_ble_eq_true rfl) d_js_checkIndex_5 (fun H locs hW => ?_)
  refine lv_pop hx hb d_js_checkIndex_8 rfl ?_
  exact wo_vret hx hb hr hlk hW d_js_checkIndex_9
theorem cs_jl_9 {p : Program} {l : Launch} {e : Env} {R : Room} {s : State} {m : MethodId} {args : Array Value} {below : List Frame} {meth : Method} {c : Code} {H : Heap} {locs : List Loc} {cells slots : Nat} {Q : State → Prop} {D : va_G} {cA : Nat → ClassId} {base : Nat} {w w' : WW} {cc : ByteArray} {pc nL : Nat} {ls : Array Slot} {rest st0 As : List Value} {ov : Option Value} (hx : p.tables.exec = Jvm.exec) (hb : c.code = cc) (hml : c.maxLocals = nL) (hown : s.vm.findClass Rc_jl = some m.cls) (hts : ∀ w ∈ gt, w.before args s = true) (hK : va_K D cls (wo_tys cA) s) (hG : wo_G cA base s) (hW : wo_S D cls cA base s w H locs) (hM : mt l D cls (wo_tys cA) cA base y_js_checkIndex (Cond.code y_js_checkIndex b_js_checkIndex 2 (none) :: gt) rm_js_checkIndex (As) w ov w' rm_js_checkIndex.cells rm_js_checkIndex.slots) (hR : rm_js_checkIndex.frames + 1 ≤ R.frames ∧ 8 + (2 + 11) + rm_js_checkIndex.locals ≤ R.locals) (hf : cells + rm_js_checkIndex.cells ≤ R.cells ∧ slots + rm_js_checkIndex.slots ≤ R.slots) (hn : As.length = 2) (hsz : ls.size = nL) (hst : st0 = As.reverse ++ rest) (hcat : (rest.map fun v => v.category).sum ≤ 8) (hdg : decode cc pc = .ok (.invokestatic 9, 3)) (kk : ∀ (H1 : Heap) (locs1 : List Loc), wo_S D cls cA base s w' H1 locs1 → W p l e R s m args below meth c H1 locs1 (cells + rm_js_checkIndex.cells) (slots + rm_js_checkIndex.slots) Q (F0 m (pc + 3) ls (ov.toList ++ rest))) : W p l e R s m args below meth c H locs cells slots Q (F0 m pc ls st0) :=
  wo_callS hx hb hml hown hts hK hG hW hM (gt_of (i := 546) (by decide +kernel) (by decide +kernel)) (gt_of (i := 547) (by decide +kernel) (by decide +kernel)) (gt_of (i := 16) (by decide +kernel) (by decide +kernel)) (gt_of (i := 548) (by decide +kernel) (by decide +kernel)) (by decide +kernel) hR hf hn hsz hst hcat hdg kk
abbrev b_jl_charAt : ByteArray := prog_21_method_2_code
def y_jl_charAt : MethodName := ⟨"java/lang/StringLatin1", "charAt", "([BI)C"⟩
def rm_jl_charAt : Room := { frames := 2, cells := 0, slots := 0, locals := 43 }
theorem d_jl_charAt_0 : decode b_jl_charAt 0 = .ok (.iload_n 1, 1) := by decide +kernel
theorem d_jl_charAt_1 : decode b_jl_charAt 1 = .ok (.aload_n 0, 1) := by decide +kernel
theorem d_jl_charAt_2 : decode b_jl_charAt 2 = .ok (.arraylength, 1) := by decide +kernel
theorem d_jl_charAt_3 : decode b_jl_charAt 3 = .ok (.invokestatic 9, 3) := by decide +kernel
theorem d_jl_charAt_6 : decode b_jl_charAt 6 = .ok (.aload_n 0, 1) := by decide +kernel
theorem d_jl_charAt_7 : decode b_jl_charAt 7 = .ok (.iload_n 1, 1) := by decide +kernel
theorem d_jl_charAt_8 : decode b_jl_charAt 8 = .ok (.baload, 1) := by decide +kernel
theorem d_jl_charAt_9 : decode b_jl_charAt 9 = .ok (.sipush (255), 3) := by decide +kernel
theorem d_jl_charAt_12 : decode b_jl_charAt 12 = .ok (.iand, 1) := by decide +kernel
theorem d_jl_charAt_13 : decode b_jl_charAt 13 = .ok (.i2c, 1) := by decide +kernel
theorem d_jl_charAt_14 : decode b_jl_charAt 14 = .ok (.ireturn, 1) := by decide +kernel
set_option maxHeartbeats 4000000 in
set_option maxRecDepth 100000 in
theorem c_jl_charAt (l : Launch) (D : va_G) (cA : Nat → ClassId) (base : Nat) {a0 : Nat} {a1 : Int32} {w w' : WW} {r : Int32} (h : f_jl_charAt a0 a1 w = some (r, w')) : mt l D cls (wo_tys cA) cA base y_jl_charAt (Cond.code y_jl_charAt b_jl_charAt 2 (some .char) :: gt) rm_jl_charAt [.ref (cA (200 + a0)), .int a1] w (some (.int r)) w' rm_jl_charAt.cells rm_jl_charAt.slots := by
  refine mt_startF (by decide +kernel) (Nat.le_of_ble_eq_true rfl) ?_
  intro p e s m below meth c ls hx hb hr hml hown hts hlk hnm hK hG hW hl
  have C : cx b_jl_charAt (some .char) 2 y_jl_charAt.cls "charAt" p s m [.ref (cA (200 + a0)), .int a1].toArray meth c D cA base := ⟨hx, hb, hr, hml, hown, hts, hlk, hnm, hK, hG⟩
  have hl : lv_has ls 2 [(0, .ref (cA (200 + a0))), (1, .int a1)] := hl
  unfold f_jl_charAt at h
  refine lv_iload_n hx hb d_jl_charAt_0 rfl (lv_at hl 1 rfl) ?_
  refine lv_aload_n hx hb d_jl_charAt_1 rfl (lv_at hl 0 rfl) ?_
  replace h := its h
  obtain ⟨c1, h⟩ := h
  refine va_tlen (v := Int32.ofNat (sLn.getD a0 0)) hx hb (hG.2.2.2.2.2.2.2.2.1.1 a0 c1).2.2.2 hW.2.1 rfl d_jl_charAt_2 ?_
  replace h := bs h
  obtain ⟨w2, hw2, h⟩ := h
  refine cs_jl_9 (As := [.int a1, .int (Int32.ofNat (sLn.getD a0 0))]) (rest := []) hx hb hml hown hts hK hG hW (c_js_checkIndex l D cA base hw2) ⟨Nat.le_of_ble_eq_true rfl, Nat.le_of_ble_eq_true rfl⟩ ⟨Nat.le_of_ble_eq_true rfl, Nat.le_of_ble_eq_true rfl⟩ rfl hl.1 rfl (Nat.le_of_ble_eq_true rfl) d_jl_charAt_3 (fun H locs hW => ?_)
  refine lv_aload_n hx hb d_jl_charAt_6 rfl (lv_at hl 0 rfl) ?_
  refine lv_iload_n hx hb d_jl_charAt_7 rfl (lv_at hl 1 rfl) ?_
  replace h := its h
  obtain ⟨c3, h⟩ := h
  replace h := bs h
  obtain ⟨x4, hx4, h⟩ := h
  refine va_tb (v := .int x4) hx hb (hG.2.2.2.2.2.2.2.2.1.1 a0 c3).2.2.2 hW.2.1 (tbS_s hx4).1 (tbS_s hx4).2 d_jl_charAt_8 ?_
  refine lv_sipush (v := (255 : Int32)) hx hb d_jl_charAt_9 (by decide) ?_
  refine lv_iand hx hb d_jl_charAt_12 ?_
  refine lv_i2c hx hb d_jl_charAt_13 rfl ?_
  replace h := its h
  obtain ⟨c5, h⟩ := h
  cases h
  exact wo_nret hx hb hr hlk hW c5 d_jl_charAt_14
