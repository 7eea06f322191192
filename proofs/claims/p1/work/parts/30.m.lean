/-! Methods as functions, and their contracts (by wip/gen/run.py). -/
abbrev b_a_clear : ByteArray := prog_1_method_5_code
def y_a_clear : MethodName := ⟨"AlarmForge", "clear", "()I"⟩
def rm_a_clear : Room := { frames := 0, cells := 0, slots := 0, locals := 0 }
theorem d_a_clear_0 : decode b_a_clear 0 = .ok (.aload_n 0, 1) := by decide +kernel
theorem d_a_clear_1 : decode b_a_clear 1 = .ok (.getfield 29, 3) := by decide +kernel
theorem d_a_clear_4 : decode b_a_clear 4 = .ok (.getfield 65, 3) := by decide +kernel
theorem d_a_clear_7 : decode b_a_clear 7 = .ok (.istore_n 1, 1) := by decide +kernel
theorem d_a_clear_8 : decode b_a_clear 8 = .ok (.aload_n 0, 1) := by decide +kernel
theorem d_a_clear_9 : decode b_a_clear 9 = .ok (.getfield 29, 3) := by decide +kernel
theorem d_a_clear_12 : decode b_a_clear 12 = .ok (.iconst 0, 1) := by decide +kernel
theorem d_a_clear_13 : decode b_a_clear 13 = .ok (.putfield 65, 3) := by decide +kernel
theorem d_a_clear_16 : decode b_a_clear 16 = .ok (.iload_n 1, 1) := by decide +kernel
theorem d_a_clear_17 : decode b_a_clear 17 = .ok (.ireturn, 1) := by decide +kernel
def f_a_clear (a0 : Nat) (w : WW) : Option (Int32 × WW) :=
  if kb w a0 0 = true then
    (gN w a0 0 3).bind fun x1 =>
    (gI w x1 1 4).bind fun x2 =>
    (gN w a0 0 3).bind fun x3 =>
    (pv w x3 1 4 (.int (0 : Int32))).bind fun w4 =>
    some (x2, w4)
  else none
theorem kb_a_clear {a0 : Nat}  {w : WW} {r : (Int32 × WW)} (h : f_a_clear a0 w = some r) : kb w a0 0 = true := (its h).1
set_option maxHeartbeats 4000000 in
set_option maxRecDepth 100000 in
theorem c_a_clear (l : Launch) (D : va_G) (cA : Nat → ClassId) (base : Nat) {a0 : Nat} {w w' : WW} {r : Int32} (h : f_a_clear a0 w = some (r, w')) : mt l D cls (wo_tys cA) cA base y_a_clear (Cond.code y_a_clear b_a_clear 2 (some .int) :: gt) rm_a_clear [.ref (base + a0)] w (some (.int r)) w' rm_a_clear.cells rm_a_clear.slots := by
  refine mt_start (by decide) (Nat.le_of_ble_eq_true rfl) ?_
  intro p e s m below meth c ls hx hb hr hml hown hts hlk hnm hK hG hW hl
  have C : cx b_a_clear (some .int) 2 y_a_clear.cls "clear" p s m [.ref (base + a0)].toArray meth c D cA base := ⟨hx, hb, hr, hml, hown, hts, hlk, hnm, hK, hG⟩
  have hl : lv_has ls 2 [(0, .ref (base + a0))] := hl
  unfold f_a_clear at h
  replace h := its h
  obtain ⟨-, h⟩ := h
  refine lv_aload_n hx hb d_a_clear_0 rfl (lv_at hl 0 rfl) ?_
  replace h := bs h
  obtain ⟨x1, hx1, h⟩ := h
  refine gf_a_29 hx hb hts hown hK hG hW (gN_s hx1) d_a_clear_1 ?_
  replace h := bs h
  obtain ⟨x2, hx2, h⟩ := h
  refine gf_a_65 hx hb hts hown hK hG hW (gI_s hx2) d_a_clear_4 ?_
  refine lv_istore_n (lv' := [(1, .int x2), (0, .ref (base + a0))]) hx hb d_a_clear_7 rfl hl (by decide) rfl (fun ls hl => ?_)
  refine lv_aload_n hx hb d_a_clear_8 rfl (lv_at hl 1 rfl) ?_
  replace h := bs h
  obtain ⟨x3, hx3, h⟩ := h
  refine gf_a_29 hx hb hts hown hK hG hW (gN_s hx3) d_a_clear_9 ?_
  refine lv_iconst (v := (0 : Int32)) hx hb d_a_clear_12 (by decide) ?_
  replace h := bs h
  obtain ⟨w4, hw4, h⟩ := h
  refine pf_a_65 hx hb hts hown hK hG hW rfl rfl (pbi hw4 rfl) d_a_clear_13 (fun H locs hW => ?_)
  refine lv_iload_n hx hb d_a_clear_16 rfl (lv_at hl 0 rfl) ?_
  cases h
  exact wo_iret hx hb hr hlk hW d_a_clear_17
abbrev b_a_where : ByteArray := prog_1_method_7_code
def y_a_where : MethodName := ⟨"AlarmForge", "where", "()I"⟩
def rm_a_where : Room := { frames := 0, cells := 0, slots := 0, locals := 0 }
theorem d_a_where_0 : decode b_a_where 0 = .ok (.aload_n 0, 1) := by decide +kernel
theorem d_a_where_1 : decode b_a_where 1 = .ok (.getfield 21, 3) := by decide +kernel
theorem d_a_where_4 : decode b_a_where 4 = .ok (.getfield 88, 3) := by decide +kernel
theorem d_a_where_7 : decode b_a_where 7 = .ok (.ireturn, 1) := by decide +kernel
def f_a_where (a0 : Nat) (w : WW) : Option (Int32 × WW) :=
  if kb w a0 0 = true then
    (gN w a0 0 2).bind fun x1 =>
    (gI w x1 2 3).bind fun x2 =>
    some (x2, w)
  else none
theorem kb_a_where {a0 : Nat}  {w : WW} {r : (Int32 × WW)} (h : f_a_where a0 w = some r) : kb w a0 0 = true := (its h).1
set_option maxHeartbeats 4000000 in
set_option maxRecDepth 100000 in
theorem c_a_where (l : Launch) (D : va_G) (cA : Nat → ClassId) (base : Nat) {a0 : Nat} {w w' : WW} {r : Int32} (h : f_a_where a0 w = some (r, w')) : mt l D cls (wo_tys cA) cA base y_a_where (Cond.code y_a_where b_a_where 1 (some .int) :: gt) rm_a_where [.ref (base + a0)] w (some (.int r)) w' rm_a_where.cells rm_a_where.slots := by
  refine mt_start (by decide) (Nat.le_of_ble_eq_true rfl) ?_
  intro p e s m below meth c ls hx hb hr hml hown hts hlk hnm hK hG hW hl
  have C : cx b_a_where (some .int) 1 y_a_where.cls "where" p s m [.ref (base + a0)].toArray meth c D cA base := ⟨hx, hb, hr, hml, hown, hts, hlk, hnm, hK, hG⟩
  have hl : lv_has ls 1 [(0, .ref (base + a0))] := hl
  unfold f_a_where at h
  replace h := its h
  obtain ⟨-, h⟩ := h
  refine lv_aload_n hx hb d_a_where_0 rfl (lv_at hl 0 rfl) ?_
  replace h := bs h
  obtain ⟨x1, hx1, h⟩ := h
  refine gf_a_21 hx hb hts hown hK hG hW (gN_s hx1) d_a_where_1 ?_
  replace h := bs h
  obtain ⟨x2, hx2, h⟩ := h
  refine gf_a_88 hx hb hts hown hK hG hW (gI_s hx2) d_a_where_4 ?_
  cases h
  exact wo_iret hx hb hr hlk hW d_a_where_7
abbrev b_a_forget : ByteArray := prog_1_method_10_code
def y_a_forget : MethodName := ⟨"AlarmForge", "forget", "()I"⟩
def rm_a_forget : Room := { frames := 0, cells := 0, slots := 0, locals := 0 }
theorem d_a_forget_0 : decode b_a_forget 0 = .ok (.aload_n 0, 1) := by decide +kernel
theorem d_a_forget_1 : decode b_a_forget 1 = .ok (.getfield 43, 3) := by decide +kernel
theorem d_a_forget_4 : decode b_a_forget 4 = .ok (.getfield 91, 3) := by decide +kernel
theorem d_a_forget_7 : decode b_a_forget 7 = .ok (.istore_n 1, 1) := by decide +kernel
theorem d_a_forget_8 : decode b_a_forget 8 = .ok (.aload_n 0, 1) := by decide +kernel
theorem d_a_forget_9 : decode b_a_forget 9 = .ok (.getfield 43, 3) := by decide +kernel
theorem d_a_forget_12 : decode b_a_forget 12 = .ok (.iconst 0, 1) := by decide +kernel
theorem d_a_forget_13 : decode b_a_forget 13 = .ok (.putfield 91, 3) := by decide +kernel
theorem d_a_forget_16 : decode b_a_forget 16 = .ok (.iload_n 1, 1) := by decide +kernel
theorem d_a_forget_17 : decode b_a_forget 17 = .ok (.ireturn, 1) := by decide +kernel
def f_a_forget (a0 : Nat) (w : WW) : Option (Int32 × WW) :=
  if kb w a0 0 = true then
    (gN w a0 0 7).bind fun x1 =>
    (gI w x1 5 5).bind fun x2 =>
    (gN w a0 0 7).bind fun x3 =>
    (pv w x3 5 5 (.int (0 : Int32))).bind fun w4 =>
    some (x2, w4)
  else none
theorem kb_a_forget {a0 : Nat}  {w : WW} {r : (Int32 × WW)} (h : f_a_forget a0 w = some r) : kb w a0 0 = true := (its h).1
set_option maxHeartbeats 4000000 in
set_option maxRecDepth 100000 in
theorem c_a_forget (l : Launch) (D : va_G) (cA : Nat → ClassId) (base : Nat) {a0 : Nat} {w w' : WW} {r : Int32} (h : f_a_forget a0 w = some (r, w')) : mt l D cls (wo_tys cA) cA base y_a_forget (Cond.code y_a_forget b_a_forget 2 (some .int) :: gt) rm_a_forget [.ref (base + a0)] w (some (.int r)) w' rm_a_forget.cells rm_a_forget.slots := by
  refine mt_start (by decide) (Nat.le_of_ble_eq_true rfl) ?_
  intro p e s m below meth c ls hx hb hr hml hown hts hlk hnm hK hG hW hl
  have C : cx b_a_forget (some .int) 2 y_a_forget.cls "forget" p s m [.ref (base + a0)].toArray meth c D cA base := ⟨hx, hb, hr, hml, hown, hts, hlk, hnm, hK, hG⟩
  have hl : lv_has ls 2 [(0, .ref (base + a0))] := hl
  unfold f_a_forget at h
  replace h := its h
  obtain ⟨-, h⟩ := h
  refine lv_aload_n hx hb d_a_forget_0 rfl (lv_at hl 0 rfl) ?_
  replace h := bs h
  obtain ⟨x1, hx1, h⟩ := h
  refine gf_a_43 hx hb hts hown hK hG hW (gN_s hx1) d_a_forget_1 ?_
  replace h := bs h
  obtain ⟨x2, hx2, h⟩ := h
  refine gf_a_91 hx hb hts hown hK hG hW (gI_s hx2) d_a_forget_4 ?_
  refine lv_istore_n (lv' := [(1, .int x2), (0, .ref (base + a0))]) hx hb d_a_forget_7 rfl hl (by decide) rfl (fun ls hl => ?_)
  refine lv_aload_n hx hb d_a_forget_8 rfl (lv_at hl 1 rfl) ?_
  replace h := bs h
  obtain ⟨x3, hx3, h⟩ := h
  refine gf_a_43 hx hb hts hown hK hG hW (gN_s hx3) d_a_forget_9 ?_
  refine lv_iconst (v := (0 : Int32)) hx hb d_a_forget_12 (by decide) ?_
  replace h := bs h
  obtain ⟨w4, hw4, h⟩ := h
  refine pf_a_91 hx hb hts hown hK hG hW rfl rfl (pbi hw4 rfl) d_a_forget_13 (fun H locs hW => ?_)
  refine lv_iload_n hx hb d_a_forget_16 rfl (lv_at hl 0 rfl) ?_
  cases h
  exact wo_iret hx hb hr hlk hW d_a_forget_17
abbrev b_a_byteAt : ByteArray := prog_1_method_3_code
def y_a_byteAt : MethodName := ⟨"AlarmForge", "byteAt", "(JI)I"⟩
def rm_a_byteAt : Room := { frames := 0, cells := 0, slots := 0, locals := 0 }
theorem d_a_byteAt_0 : decode b_a_byteAt 0 = .ok (.lload_n 0, 1) := by decide +kernel
theorem d_a_byteAt_1 : decode b_a_byteAt 1 = .ok (.iload_n 2, 1) := by decide +kernel
theorem d_a_byteAt_2 : decode b_a_byteAt 2 = .ok (.lushr, 1) := by decide +kernel
theorem d_a_byteAt_3 : decode b_a_byteAt 3 = .ok (.l2i, 1) := by decide +kernel
theorem d_a_byteAt_4 : decode b_a_byteAt 4 = .ok (.sipush (255), 3) := by decide +kernel
theorem d_a_byteAt_7 : decode b_a_byteAt 7 = .ok (.iand, 1) := by decide +kernel
theorem d_a_byteAt_8 : decode b_a_byteAt 8 = .ok (.ireturn, 1) := by decide +kernel
def f_a_byteAt (a0 : Int64) (a2 : Int32) (w : WW) : Option (Int32 × WW) :=
  some (((Int64.toInt32 ((Int64.toUInt64 a0 >>> ((Int32.toInt64 a2).toUInt64 &&& Int64.toUInt64 63)).toInt64)) &&& (255 : Int32)), w)
set_option maxHeartbeats 4000000 in
set_option maxRecDepth 100000 in
theorem c_a_byteAt (l : Launch) (D : va_G) (cA : Nat → ClassId) (base : Nat) {a0 : Int64} {a2 : Int32} {w w' : WW} {r : Int32} (h : f_a_byteAt a0 a2 w = some (r, w')) : mt l D cls (wo_tys cA) cA base y_a_byteAt (Cond.code y_a_byteAt b_a_byteAt 3 (some .int) :: gt) rm_a_byteAt [.long a0, .int a2] w (some (.int r)) w' rm_a_byteAt.cells rm_a_byteAt.slots := by
  refine mt_start (by decide) (Nat.le_of_ble_eq_true rfl) ?_
  intro p e s m below meth c ls hx hb hr hml hown hts hlk hnm hK hG hW hl
  have C : cx b_a_byteAt (some .int) 3 y_a_byteAt.cls "byteAt" p s m [.long a0, .int a2].toArray meth c D cA base := ⟨hx, hb, hr, hml, hown, hts, hlk, hnm, hK, hG⟩
  have hl : lv_has ls 3 [(0, .long a0), (2, .int a2)] := hl
  unfold f_a_byteAt at h
  refine lv_lload_n hx hb d_a_byteAt_0 rfl (lv_at hl 0 rfl) ?_
  refine lv_iload_n hx hb d_a_byteAt_1 rfl (lv_at hl 1 rfl) ?_
  refine lv_lushr hx hb d_a_byteAt_2 rfl ?_
  refine lv_l2i hx hb d_a_byteAt_3 rfl ?_
  refine lv_sipush (v := (255 : Int32)) hx hb d_a_byteAt_4 (by decide) ?_
  refine lv_iand hx hb d_a_byteAt_7 ?_
  cases h
  exact wo_iret hx hb hr hlk hW d_a_byteAt_8
abbrev b_a_isCharacter : ByteArray := prog_1_method_4_code
def y_a_isCharacter : MethodName := ⟨"AlarmForge", "isCharacter", "(I)Z"⟩
def rm_a_isCharacter : Room := { frames := 0, cells := 0, slots := 0, locals := 0 }
theorem d_a_isCharacter_0 : decode b_a_isCharacter 0 = .ok (.iload_n 0, 1) := by decide +kernel
theorem d_a_isCharacter_1 : decode b_a_isCharacter 1 = .ok (.bipush (10), 2) := by decide +kernel
theorem d_a_isCharacter_3 : decode b_a_isCharacter 3 = .ok (.if_icmp .eq (15), 3) := by decide +kernel
theorem d_a_isCharacter_6 : decode b_a_isCharacter 6 = .ok (.iload_n 0, 1) := by decide +kernel
theorem d_a_isCharacter_7 : decode b_a_isCharacter 7 = .ok (.bipush (32), 2) := by decide +kernel
theorem d_a_isCharacter_9 : decode b_a_isCharacter 9 = .ok (.if_icmp .lt (13), 3) := by decide +kernel
theorem d_a_isCharacter_12 : decode b_a_isCharacter 12 = .ok (.iload_n 0, 1) := by decide +kernel
theorem d_a_isCharacter_13 : decode b_a_isCharacter 13 = .ok (.bipush (126), 2) := by decide +kernel
theorem d_a_isCharacter_15 : decode b_a_isCharacter 15 = .ok (.if_icmp .gt (7), 3) := by decide +kernel
theorem d_a_isCharacter_18 : decode b_a_isCharacter 18 = .ok (.iconst 1, 1) := by decide +kernel
theorem d_a_isCharacter_19 : decode b_a_isCharacter 19 = .ok (.goto (4), 3) := by decide +kernel
theorem d_a_isCharacter_22 : decode b_a_isCharacter 22 = .ok (.iconst 0, 1) := by decide +kernel
theorem d_a_isCharacter_23 : decode b_a_isCharacter 23 = .ok (.ireturn, 1) := by decide +kernel
def f_a_isCharacter_23  (z0 : Int32) (w : WW) : Option (Int32 × WW) :=
  if z0 = 0 ∨ z0 = 1 then some (z0, w) else none
def f_a_isCharacter_18   (w : WW) : Option (Int32 × WW) :=
  f_a_isCharacter_23 (1 : Int32) w
def f_a_isCharacter_22   (w : WW) : Option (Int32 × WW) :=
  f_a_isCharacter_23 (0 : Int32) w
def f_a_isCharacter (a0 : Int32) (w : WW) : Option (Int32 × WW) :=
  if a0 = (10 : Int32) then
    f_a_isCharacter_18 w
  else
    if a0 < (32 : Int32) then
      f_a_isCharacter_22 w
    else
      if (126 : Int32) < a0 then
        f_a_isCharacter_22 w
      else
        f_a_isCharacter_18 w
set_option maxHeartbeats 4000000 in
set_option maxRecDepth 100000 in
theorem j_a_isCharacter_23 {p : Program} {l : Launch} {e : Env} {s : State} {m : MethodId} {args : Array Value} {below : List Frame} {meth : Method} {c : Code} {D : va_G} {cA : Nat → ClassId} {base : Nat} {r : Int32} {w' : WW} (C : cx b_a_isCharacter (some .boolean) 1 y_a_isCharacter.cls "isCharacter" p s m args meth c D cA base)   : ∀ (z0 : Int32) (w : WW), f_a_isCharacter_23 z0 w = some (r, w') → ∀ (H : Heap) (locs : List Loc) (ls : Array Slot), wo_S D cls cA base s w H locs → lv_has ls 1 [] → W p l e rm_a_isCharacter s m args below meth c H locs 0 0 (MQ below (wo_Q D cls cA base (some (.int r)) w') args s rm_a_isCharacter.cells rm_a_isCharacter.slots (wo_B base)) (F0 m 23 ls [.int z0]) := by
  obtain ⟨hx, hb, hr, hml, hown, hts, hlk, hnm, hK, hG⟩ := id C
  intro z0 w h H locs ls hW hl
  unfold f_a_isCharacter_23 at h
  replace h := its h
  obtain ⟨c2, h⟩ := h
  cases h
  exact wo_zret hx hb hr hlk hW c2 d_a_isCharacter_23
set_option maxHeartbeats 4000000 in
set_option maxRecDepth 100000 in
theorem j_a_isCharacter_18 {p : Program} {l : Launch} {e : Env} {s : State} {m : MethodId} {args : Array Value} {below : List Frame} {meth : Method} {c : Code} {D : va_G} {cA : Nat → ClassId} {base : Nat} {r : Int32} {w' : WW} (C : cx b_a_isCharacter (some .boolean) 1 y_a_isCharacter.cls "isCharacter" p s m args meth c D cA base)   : ∀  (w : WW), f_a_isCharacter_18  w = some (r, w') → ∀ (H : Heap) (locs : List Loc) (ls : Array Slot), wo_S D cls cA base s w H locs → lv_has ls 1 [] → W p l e rm_a_isCharacter s m args below meth c H locs 0 0 (MQ below (wo_Q D cls cA base (some (.int r)) w') args s rm_a_isCharacter.cells rm_a_isCharacter.slots (wo_B base)) (F0 m 18 ls []) := by
  obtain ⟨hx, hb, hr, hml, hown, hts, hlk, hnm, hK, hG⟩ := id C
  intro  w h H locs ls hW hl
  unfold f_a_isCharacter_18 at h
  refine lv_iconst (v := (1 : Int32)) hx hb d_a_isCharacter_18 (by decide) ?_
  refine lv_goto (tgt := 23) hx hb d_a_isCharacter_19 (by decide) ?_
  exact j_a_isCharacter_23 C (1 : Int32) w h _ _ _ hW (lv_sub hl [] rfl)
set_option maxHeartbeats 4000000 in
set_option maxRecDepth 100000 in
theorem j_a_isCharacter_22 {p : Program} {l : Launch} {e : Env} {s : State} {m : MethodId} {args : Array Value} {below : List Frame} {meth : Method} {c : Code} {D : va_G} {cA : Nat → ClassId} {base : Nat} {r : Int32} {w' : WW} (C : cx b_a_isCharacter (some .boolean) 1 y_a_isCharacter.cls "isCharacter" p s m args meth c D cA base)   : ∀  (w : WW), f_a_isCharacter_22  w = some (r, w') → ∀ (H : Heap) (locs : List Loc) (ls : Array Slot), wo_S D cls cA base s w H locs → lv_has ls 1 [] → W p l e rm_a_isCharacter s m args below meth c H locs 0 0 (MQ below (wo_Q D cls cA base (some (.int r)) w') args s rm_a_isCharacter.cells rm_a_isCharacter.slots (wo_B base)) (F0 m 22 ls []) := by
  obtain ⟨hx, hb, hr, hml, hown, hts, hlk, hnm, hK, hG⟩ := id C
  intro  w h H locs ls hW hl
  unfold f_a_isCharacter_22 at h
  refine lv_iconst (v := (0 : Int32)) hx hb d_a_isCharacter_22 (by decide) ?_
  exact j_a_isCharacter_23 C (0 : Int32) w h _ _ _ hW (lv_sub hl [] rfl)
set_option maxHeartbeats 4000000 in
set_option maxRecDepth 100000 in
theorem c_a_isCharacter (l : Launch) (D : va_G) (cA : Nat → ClassId) (base : Nat) {a0 : Int32} {w w' : WW} {r : Int32} (h : f_a_isCharacter a0 w = some (r, w')) : mt l D cls (wo_tys cA) cA base y_a_isCharacter (Cond.code y_a_isCharacter b_a_isCharacter 1 (some .boolean) :: gt) rm_a_isCharacter [.int a0] w (some (.int r)) w' rm_a_isCharacter.cells rm_a_isCharacter.slots := by
  refine mt_start (by decide) (Nat.le_of_ble_eq_true rfl) ?_
  intro p e s m below meth c ls hx hb hr hml hown hts hlk hnm hK hG hW hl
  have C : cx b_a_isCharacter (some .boolean) 1 y_a_isCharacter.cls "isCharacter" p s m [.int a0].toArray meth c D cA base := ⟨hx, hb, hr, hml, hown, hts, hlk, hnm, hK, hG⟩
  have hl : lv_has ls 1 [(0, .int a0)] := hl
  unfold f_a_isCharacter at h
  refine lv_iload_n hx hb d_a_isCharacter_0 rfl (lv_at hl 0 rfl) ?_
  refine lv_bipush (v := (10 : Int32)) hx hb d_a_isCharacter_1 (by decide) ?_
  refine lv_icmp_eq (tgt := 18) hx hb d_a_isCharacter_3 (by decide) (fun c1 => ?_) (fun c1 => ?_)
  · rw [if_pos c1] at h
    exact j_a_isCharacter_18 C w h _ _ _ hW (lv_sub hl [] rfl)
  · rw [if_neg c1] at h
    refine lv_iload_n hx hb d_a_isCharacter_6 rfl (lv_at hl 0 rfl) ?_
    refine lv_bipush (v := (32 : Int32)) hx hb d_a_isCharacter_7 (by decide) ?_
    refine lv_icmp_lt (tgt := 22) hx hb d_a_isCharacter_9 (by decide) (fun c3 => ?_) (fun c3 => ?_)
    · rw [if_pos c3] at h
      exact j_a_isCharacter_22 C w h _ _ _ hW (lv_sub hl [] rfl)
    · rw [if_neg c3] at h
      refine lv_iload_n hx hb d_a_isCharacter_12 rfl (lv_at hl 0 rfl) ?_
      refine lv_bipush (v := (126 : Int32)) hx hb d_a_isCharacter_13 (by decide) ?_
      refine lv_icmp_gt (tgt := 22) hx hb d_a_isCharacter_15 (by decide) (fun c4 => ?_) (fun c4 => ?_)
      · rw [if_pos c4] at h
        exact j_a_isCharacter_22 C w h _ _ _ hW (lv_sub hl [] rfl)
      · rw [if_neg c4] at h
        exact j_a_isCharacter_18 C w h _ _ _ hW (lv_sub hl [] rfl)
abbrev b_rd_append : ByteArray := prog_5_method_2_code
def y_rd_append : MethodName := ⟨"AlarmForge$Reader", "append", "(C)V"⟩
def rm_rd_append : Room := { frames := 0, cells := 0, slots := 0, locals := 0 }
theorem d_rd_append_0 : decode b_rd_append 0 = .ok (.aload_n 0, 1) := by decide +kernel
theorem d_rd_append_1 : decode b_rd_append 1 = .ok (.getfield 25, 3) := by decide +kernel
theorem d_rd_append_4 : decode b_rd_append 4 = .ok (.sipush (200), 3) := by decide +kernel
theorem d_rd_append_7 : decode b_rd_append 7 = .ok (.if_icmp .ge (23), 3) := by decide +kernel
theorem d_rd_append_10 : decode b_rd_append 10 = .ok (.aload_n 0, 1) := by decide +kernel
theorem d_rd_append_11 : decode b_rd_append 11 = .ok (.getfield 9, 3) := by decide +kernel
theorem d_rd_append_14 : decode b_rd_append 14 = .ok (.aload_n 0, 1) := by decide +kernel
theorem d_rd_append_15 : decode b_rd_append 15 = .ok (.getfield 25, 3) := by decide +kernel
theorem d_rd_append_18 : decode b_rd_append 18 = .ok (.iload_n 1, 1) := by decide +kernel
theorem d_rd_append_19 : decode b_rd_append 19 = .ok (.castore, 1) := by decide +kernel
theorem d_rd_append_20 : decode b_rd_append 20 = .ok (.aload_n 0, 1) := by decide +kernel
theorem d_rd_append_21 : decode b_rd_append 21 = .ok (.dup, 1) := by decide +kernel
theorem d_rd_append_22 : decode b_rd_append 22 = .ok (.getfield 25, 3) := by decide +kernel
theorem d_rd_append_25 : decode b_rd_append 25 = .ok (.iconst 1, 1) := by decide +kernel
theorem d_rd_append_26 : decode b_rd_append 26 = .ok (.iadd, 1) := by decide +kernel
theorem d_rd_append_27 : decode b_rd_append 27 = .ok (.putfield 25, 3) := by decide +kernel
theorem d_rd_append_30 : decode b_rd_append 30 = .ok (.return_, 1) := by decide +kernel
def f_rd_append_30   (w : WW) : Option WW :=
  some w
def f_rd_append (a0 : Nat) (a1 : Int32) (w : WW) : Option WW :=
  if kb w a0 1 = true then
    (gI w a0 1 4).bind fun x1 =>
    if (200 : Int32) ≤ x1 then
      f_rd_append_30 w
    else
      (gN w a0 1 0).bind fun x3 =>
      (gI w a0 1 4).bind fun x4 =>
      (sI w x3 3 x4 (vp_nar .char a1)).bind fun w5 =>
      (gI w5 a0 1 4).bind fun x6 =>
      (pv w5 a0 1 4 (.int (x6 + (1 : Int32)))).bind fun w7 =>
      f_rd_append_30 w7
  else none
theorem kb_rd_append {a0 : Nat} {a1 : Int32} {w : WW} {r : WW} (h : f_rd_append a0 a1 w = some r) : kb w a0 1 = true := (its h).1
set_option maxHeartbeats 4000000 in
set_option maxRecDepth 100000 in
theorem j_rd_append_30 {p : Program} {l : Launch} {e : Env} {s : State} {m : MethodId} {args : Array Value} {below : List Frame} {meth : Method} {c : Code} {D : va_G} {cA : Nat → ClassId} {base : Nat} {w' : WW} (C : cx b_rd_append (none) 2 y_rd_append.cls "append" p s m args meth c D cA base)   : ∀  (w : WW), f_rd_append_30  w = some w' → ∀ (H : Heap) (locs : List Loc) (ls : Array Slot), wo_S D cls cA base s w H locs → lv_has ls 2 [] → W p l e rm_rd_append s m args below meth c H locs 0 0 (MQ below (wo_Q D cls cA base none w') args s rm_rd_append.cells rm_rd_append.slots (wo_B base)) (F0 m 30 ls []) := by
  obtain ⟨hx, hb, hr, hml, hown, hts, hlk, hnm, hK, hG⟩ := id C
  intro  w h H locs ls hW hl
  unfold f_rd_append_30 at h
  cases h
  exact wo_vret hx hb hr hlk hW d_rd_append_30
set_option maxHeartbeats 4000000 in
set_option maxRecDepth 100000 in
theorem c_rd_append (l : Launch) (D : va_G) (cA : Nat → ClassId) (base : Nat) {a0 : Nat} {a1 : Int32} {w w' : WW} (h : f_rd_append a0 a1 w = some w') : mt l D cls (wo_tys cA) cA base y_rd_append (Cond.code y_rd_append b_rd_append 2 (none) :: gt) rm_rd_append [.ref (base + a0), .int a1] w none w' rm_rd_append.cells rm_rd_append.slots := by
  refine mt_start (by decide) (Nat.le_of_ble_eq_true rfl) ?_
  intro p e s m below meth c ls hx hb hr hml hown hts hlk hnm hK hG hW hl
  have C : cx b_rd_append (none) 2 y_rd_append.cls "append" p s m [.ref (base + a0), .int a1].toArray meth c D cA base := ⟨hx, hb, hr, hml, hown, hts, hlk, hnm, hK, hG⟩
  have hl : lv_has ls 2 [(0, .ref (base + a0)), (1, .int a1)] := hl
  unfold f_rd_append at h
  replace h := its h
  obtain ⟨-, h⟩ := h
  refine lv_aload_n hx hb d_rd_append_0 rfl (lv_at hl 0 rfl) ?_
  replace h := bs h
  obtain ⟨x1, hx1, h⟩ := h
  refine gf_rd_25 hx hb hts hown hK hG hW (gI_s hx1) d_rd_append_1 ?_
  refine lv_sipush (v := (200 : Int32)) hx hb d_rd_append_4 (by decide) ?_
  refine lv_icmp_ge (tgt := 30) hx hb d_rd_append_7 (by decide) (fun c2 => ?_) (fun c2 => ?_)
  · rw [if_pos c2] at h
    exact j_rd_append_30 C w h _ _ _ hW (lv_sub hl [] rfl)
  · rw [if_neg c2] at h
    refine lv_aload_n hx hb d_rd_append_10 rfl (lv_at hl 0 rfl) ?_
    replace h := bs h
    obtain ⟨x3, hx3, h⟩ := h
    refine gf_rd_9 hx hb hts hown hK hG hW (gN_s hx3) d_rd_append_11 ?_
    refine lv_aload_n hx hb d_rd_append_14 rfl (lv_at hl 0 rfl) ?_
    replace h := bs h
    obtain ⟨x4, hx4, h⟩ := h
    refine gf_rd_25 hx hb hts hown hK hG hW (gI_s hx4) d_rd_append_15 ?_
    refine lv_iload_n hx hb d_rd_append_18 rfl (lv_at hl 1 rfl) ?_
    replace h := bs h
    obtain ⟨w5, hw5, h⟩ := h
    refine wo_cast hx hb hK hW (t := 3) rfl hw5 d_rd_append_19 (fun H locs hW => ?_)
    refine lv_aload_n hx hb d_rd_append_20 rfl (lv_at hl 0 rfl) ?_
    refine lv_dup hx hb d_rd_append_21 rfl ?_
    replace h := bs h
    obtain ⟨x6, hx6, h⟩ := h
    refine gf_rd_25 hx hb hts hown hK hG hW (gI_s hx6) d_rd_append_22 ?_
    refine lv_iconst (v := (1 : Int32)) hx hb d_rd_append_25 (by decide) ?_
    refine lv_iadd hx hb d_rd_append_26 ?_
    replace h := bs h
    obtain ⟨w7, hw7, h⟩ := h
    refine pf_rd_25 hx hb hts hown hK hG hW rfl rfl (pbi hw7 rfl) d_rd_append_27 (fun H locs hW => ?_)
    exact j_rd_append_30 C w7 h _ _ _ hW (lv_sub hl [] rfl)
theorem cs_a_54 {p : Program} {l : Launch} {e : Env} {R : Room} {s : State} {m : MethodId} {args : Array Value} {below : List Frame} {meth : Method} {c : Code} {H : Heap} {locs : List Loc} {cells slots : Nat} {Q : State → Prop} {D : va_G} {cA : Nat → ClassId} {base : Nat} {w w' : WW} {cc : ByteArray} {pc nL : Nat} {ls : Array Slot} {rest st0 As : List Value} {ov : Option Value} (hx : p.tables.exec = Jvm.exec) (hb : c.code = cc) (hml : c.maxLocals = nL) (hown : s.vm.findClass Rc_a = some m.cls) (hts : ∀ w ∈ gt, w.before args s = true) (hK : va_K D cls (wo_tys cA) s) (hG : wo_G base s) (hW : wo_S D cls cA base s w H locs) (hM : mt l D cls (wo_tys cA) cA base y_a_byteAt (Cond.code y_a_byteAt b_a_byteAt 3 (some .int) :: gt) rm_a_byteAt (As) w ov w' rm_a_byteAt.cells rm_a_byteAt.slots) (hR : rm_a_byteAt.frames + 1 ≤ R.frames ∧ 8 + (3 + 11) + rm_a_byteAt.locals ≤ R.locals) (hf : cells + rm_a_byteAt.cells ≤ R.cells ∧ slots + rm_a_byteAt.slots ≤ R.slots) (hn : As.length = 2) (hsz : ls.size = nL) (hst : st0 = As.reverse ++ rest) (hcat : (rest.map fun v => v.category).sum ≤ 8) (hdg : decode cc pc = .ok (.invokestatic 54, 3)) (kk : ∀ (H1 : Heap) (locs1 : List Loc), wo_S D cls cA base s w' H1 locs1 → W p l e R s m args below meth c H1 locs1 (cells + rm_a_byteAt.cells) (slots + rm_a_byteAt.slots) Q (F0 m (pc + 3) ls (ov.toList ++ rest))) : W p l e R s m args below meth c H locs cells slots Q (F0 m pc ls st0) :=
  wo_callS hx hb hml hown hts hK hG hW hM (gt_of (i := 389) (by decide +kernel) (by decide +kernel)) (gt_of (i := 390) (by decide +kernel) (by decide +kernel)) (gt_of (i := 1) (by decide +kernel) (by decide +kernel)) (gt_of (i := 391) (by decide +kernel) (by decide +kernel)) (by decide +kernel) hR hf hn hsz hst hcat hdg kk
theorem cs_a_58 {p : Program} {l : Launch} {e : Env} {R : Room} {s : State} {m : MethodId} {args : Array Value} {below : List Frame} {meth : Method} {c : Code} {H : Heap} {locs : List Loc} {cells slots : Nat} {Q : State → Prop} {D : va_G} {cA : Nat → ClassId} {base : Nat} {w w' : WW} {cc : ByteArray} {pc nL : Nat} {ls : Array Slot} {rest st0 As : List Value} {ov : Option Value} (hx : p.tables.exec = Jvm.exec) (hb : c.code = cc) (hml : c.maxLocals = nL) (hown : s.vm.findClass Rc_a = some m.cls) (hts : ∀ w ∈ gt, w.before args s = true) (hK : va_K D cls (wo_tys cA) s) (hG : wo_G base s) (hW : wo_S D cls cA base s w H locs) (hM : mt l D cls (wo_tys cA) cA base y_a_isCharacter (Cond.code y_a_isCharacter b_a_isCharacter 1 (some .boolean) :: gt) rm_a_isCharacter (As) w ov w' rm_a_isCharacter.cells rm_a_isCharacter.slots) (hR : rm_a_isCharacter.frames + 1 ≤ R.frames ∧ 8 + (1 + 11) + rm_a_isCharacter.locals ≤ R.locals) (hf : cells + rm_a_isCharacter.cells ≤ R.cells ∧ slots + rm_a_isCharacter.slots ≤ R.slots) (hn : As.length = 1) (hsz : ls.size = nL) (hst : st0 = As.reverse ++ rest) (hcat : (rest.map fun v => v.category).sum ≤ 8) (hdg : decode cc pc = .ok (.invokestatic 58, 3)) (kk : ∀ (H1 : Heap) (locs1 : List Loc), wo_S D cls cA base s w' H1 locs1 → W p l e R s m args below meth c H1 locs1 (cells + rm_a_isCharacter.cells) (slots + rm_a_isCharacter.slots) Q (F0 m (pc + 3) ls (ov.toList ++ rest))) : W p l e R s m args below meth c H locs cells slots Q (F0 m pc ls st0) :=
  wo_callS hx hb hml hown hts hK hG hW hM (gt_of (i := 392) (by decide +kernel) (by decide +kernel)) (gt_of (i := 393) (by decide +kernel) (by decide +kernel)) (gt_of (i := 1) (by decide +kernel) (by decide +kernel)) (gt_of (i := 394) (by decide +kernel) (by decide +kernel)) (by decide +kernel) hR hf hn hsz hst hcat hdg kk
theorem cv_a_73 {p : Program} {l : Launch} {e : Env} {R : Room} {s : State} {m : MethodId} {args : Array Value} {below : List Frame} {meth : Method} {c : Code} {H : Heap} {locs : List Loc} {cells slots : Nat} {Q : State → Prop} {D : va_G} {cA : Nat → ClassId} {base : Nat} {w w' : WW} {cc : ByteArray} {pc nL : Nat} {ls : Array Slot} {rest st0 As : List Value} {ov : Option Value} {b : Nat} (hx : p.tables.exec = Jvm.exec) (hb : c.code = cc) (hml : c.maxLocals = nL) (hown : s.vm.findClass Rc_a = some m.cls) (hts : ∀ w ∈ gt, w.before args s = true) (hK : va_K D cls (wo_tys cA) s) (hG : wo_G base s) (hW : wo_S D cls cA base s w H locs) (hM : mt l D cls (wo_tys cA) cA base y_rd_append (Cond.code y_rd_append b_rd_append 2 (none) :: gt) rm_rd_append (.ref (base + b) :: As) w ov w' rm_rd_append.cells rm_rd_append.slots) (hkb : kb w b 1 = true) (hR : rm_rd_append.frames + 1 ≤ R.frames ∧ 8 + (2 + 11) + rm_rd_append.locals ≤ R.locals) (hf : cells + rm_rd_append.cells ≤ R.cells ∧ slots + rm_rd_append.slots ≤ R.slots) (hn : As.length = 1) (hsz : ls.size = nL) (hst : st0 = As.reverse ++ .ref (base + b) :: rest) (hcat : (rest.map fun v => v.category).sum ≤ 8) (hdg : decode cc pc = .ok (.invokevirtual 73, 3)) (kk : ∀ (H1 : Heap) (locs1 : List Loc), wo_S D cls cA base s w' H1 locs1 → W p l e R s m args below meth c H1 locs1 (cells + rm_rd_append.cells) (slots + rm_rd_append.slots) Q (F0 m (pc + 3) ls (ov.toList ++ rest))) : W p l e R s m args below meth c H locs cells slots Q (F0 m pc ls st0) :=
  wo_callV (C := Rc_rd) hx hb hml hown hts hK hG hW hM hkb rfl (gt_of (i := 475) (by decide +kernel) (by decide +kernel)) (gt_of (i := 476) (by decide +kernel) (by decide +kernel)) (gt_of (i := 477) (by decide +kernel) (by decide +kernel)) (gt_of (i := 3) (by decide +kernel) (by decide +kernel)) (gt_of (i := 478) (by decide +kernel) (by decide +kernel)) (by decide +kernel) hR hf hn hsz hst hcat hdg kk
abbrev b_a_text : ByteArray := prog_1_method_2_code
def y_a_text : MethodName := ⟨"AlarmForge", "text", "(J)I"⟩
def rm_a_text : Room := { frames := 6, cells := 0, slots := 0, locals := 100 }
def rx_a_text : Room := { frames := 6, cells := 1, slots := 6, locals := 100 }
theorem ow_a_64 : (Bundle.ownAtoms0 "AlarmForge" 64 "java/lang/IllegalArgumentException" ["java/lang/RuntimeException", "java/lang/Exception"]).all ow_ok = true := by decide +kernel
theorem ow_a_72 : (Bundle.ownAtoms0 "AlarmForge" 72 "java/lang/IllegalStateException" ["java/lang/RuntimeException", "java/lang/Exception"]).all ow_ok = true := by decide +kernel
theorem d_a_text_0 : decode b_a_text 0 = .ok (.iconst 0, 1) := by decide +kernel
theorem d_a_text_1 : decode b_a_text 1 = .ok (.istore_n 3, 1) := by decide +kernel
theorem d_a_text_2 : decode b_a_text 2 = .ok (.bipush (56), 2) := by decide +kernel
theorem d_a_text_4 : decode b_a_text 4 = .ok (.istore 4, 2) := by decide +kernel
theorem d_a_text_6 : decode b_a_text 6 = .ok (.iload 4, 2) := by decide +kernel
theorem d_a_text_8 : decode b_a_text 8 = .ok (.ifCond .lt (51), 3) := by decide +kernel
theorem d_a_text_11 : decode b_a_text 11 = .ok (.lload_n 1, 1) := by decide +kernel
theorem d_a_text_12 : decode b_a_text 12 = .ok (.iload 4, 2) := by decide +kernel
theorem d_a_text_14 : decode b_a_text 14 = .ok (.invokestatic 54, 3) := by decide +kernel
theorem d_a_text_17 : decode b_a_text 17 = .ok (.istore 5, 2) := by decide +kernel
theorem d_a_text_19 : decode b_a_text 19 = .ok (.iload 5, 2) := by decide +kernel
theorem d_a_text_21 : decode b_a_text 21 = .ok (.ifCond .eq (19), 3) := by decide +kernel
theorem d_a_text_24 : decode b_a_text 24 = .ok (.iload 5, 2) := by decide +kernel
theorem d_a_text_26 : decode b_a_text 26 = .ok (.invokestatic 58, 3) := by decide +kernel
theorem d_a_text_29 : decode b_a_text 29 = .ok (.ifCond .ne (11), 3) := by decide +kernel
theorem d_a_text_32 : decode b_a_text 32 = .ok (.new 62, 3) := by decide +kernel
theorem d_a_text_35 : decode b_a_text 35 = .ok (.dup, 1) := by decide +kernel
theorem d_a_text_36 : decode b_a_text 36 = .ok (.invokespecial 64, 3) := by decide +kernel
theorem d_a_text_39 : decode b_a_text 39 = .ok (.athrow, 1) := by decide +kernel
theorem d_a_text_40 : decode b_a_text 40 = .ok (.iload_n 3, 1) := by decide +kernel
theorem d_a_text_41 : decode b_a_text 41 = .ok (.iload 5, 2) := by decide +kernel
theorem d_a_text_43 : decode b_a_text 43 = .ok (.ifCond .ne (7), 3) := by decide +kernel
theorem d_a_text_46 : decode b_a_text 46 = .ok (.iconst 0, 1) := by decide +kernel
theorem d_a_text_47 : decode b_a_text 47 = .ok (.goto (4), 3) := by decide +kernel
theorem d_a_text_50 : decode b_a_text 50 = .ok (.iconst 1, 1) := by decide +kernel
theorem d_a_text_51 : decode b_a_text 51 = .ok (.iadd, 1) := by decide +kernel
theorem d_a_text_52 : decode b_a_text 52 = .ok (.istore_n 3, 1) := by decide +kernel
theorem d_a_text_53 : decode b_a_text 53 = .ok (.iinc 4 (-8), 3) := by decide +kernel
theorem d_a_text_56 : decode b_a_text 56 = .ok (.goto (-50), 3) := by decide +kernel
theorem d_a_text_59 : decode b_a_text 59 = .ok (.aload_n 0, 1) := by decide +kernel
theorem d_a_text_60 : decode b_a_text 60 = .ok (.getfield 29, 3) := by decide +kernel
theorem d_a_text_63 : decode b_a_text 63 = .ok (.getfield 65, 3) := by decide +kernel
theorem d_a_text_66 : decode b_a_text 66 = .ok (.iload_n 3, 1) := by decide +kernel
theorem d_a_text_67 : decode b_a_text 67 = .ok (.iadd, 1) := by decide +kernel
theorem d_a_text_68 : decode b_a_text 68 = .ok (.sipush (200), 3) := by decide +kernel
theorem d_a_text_71 : decode b_a_text 71 = .ok (.if_icmp .le (11), 3) := by decide +kernel
theorem d_a_text_74 : decode b_a_text 74 = .ok (.new 70, 3) := by decide +kernel
theorem d_a_text_77 : decode b_a_text 77 = .ok (.dup, 1) := by decide +kernel
theorem d_a_text_78 : decode b_a_text 78 = .ok (.invokespecial 72, 3) := by decide +kernel
theorem d_a_text_81 : decode b_a_text 81 = .ok (.athrow, 1) := by decide +kernel
theorem d_a_text_82 : decode b_a_text 82 = .ok (.bipush (56), 2) := by decide +kernel
theorem d_a_text_84 : decode b_a_text 84 = .ok (.istore 4, 2) := by decide +kernel
theorem d_a_text_86 : decode b_a_text 86 = .ok (.iload 4, 2) := by decide +kernel
theorem d_a_text_88 : decode b_a_text 88 = .ok (.ifCond .lt (32), 3) := by decide +kernel
theorem d_a_text_91 : decode b_a_text 91 = .ok (.lload_n 1, 1) := by decide +kernel
theorem d_a_text_92 : decode b_a_text 92 = .ok (.iload 4, 2) := by decide +kernel
theorem d_a_text_94 : decode b_a_text 94 = .ok (.invokestatic 54, 3) := by decide +kernel
theorem d_a_text_97 : decode b_a_text 97 = .ok (.istore 5, 2) := by decide +kernel
theorem d_a_text_99 : decode b_a_text 99 = .ok (.iload 5, 2) := by decide +kernel
theorem d_a_text_101 : decode b_a_text 101 = .ok (.ifCond .eq (13), 3) := by decide +kernel
theorem d_a_text_104 : decode b_a_text 104 = .ok (.aload_n 0, 1) := by decide +kernel
theorem d_a_text_105 : decode b_a_text 105 = .ok (.getfield 29, 3) := by decide +kernel
theorem d_a_text_108 : decode b_a_text 108 = .ok (.iload 5, 2) := by decide +kernel
theorem d_a_text_110 : decode b_a_text 110 = .ok (.i2c, 1) := by decide +kernel
theorem d_a_text_111 : decode b_a_text 111 = .ok (.invokevirtual 73, 3) := by decide +kernel
theorem d_a_text_114 : decode b_a_text 114 = .ok (.iinc 4 (-8), 3) := by decide +kernel
theorem d_a_text_117 : decode b_a_text 117 = .ok (.goto (-31), 3) := by decide +kernel
theorem d_a_text_120 : decode b_a_text 120 = .ok (.aload_n 0, 1) := by decide +kernel
theorem d_a_text_121 : decode b_a_text 121 = .ok (.getfield 29, 3) := by decide +kernel
theorem d_a_text_124 : decode b_a_text 124 = .ok (.getfield 65, 3) := by decide +kernel
theorem d_a_text_127 : decode b_a_text 127 = .ok (.ireturn, 1) := by decide +kernel
def f_a_text_114 (k_86 : Nat → Int64 → Int32 → WW → Option ((Int32 ⊕ String) × WW)) (y0 : Nat) (y1 : Int64) (y4 : Int32) (w : WW) : Option ((Int32 ⊕ String) × WW) :=
  k_86 y0 y1 (y4 + (-8 : Int32)) w
def f_a_text_86  : Nat → Nat → Int64 → Int32 → WW → Option ((Int32 ⊕ String) × WW)
  | 0, _, _, _, _ => none
  | n + 1, y0, y1, y4, w =>
    if y4 < 0 then
      (gN w y0 0 3).bind fun x6 =>
      (gI w x6 1 4).bind fun x7 =>
      some (.inl x7, w)
    else
      bd2 (f_a_byteAt y1 y4 w) fun x9 w8 =>
      if x9 = 0 then
        f_a_text_114 (f_a_text_86 n) y0 y1 y4 w8
      else
        (gN w8 y0 0 3).bind fun x11 =>
        (f_rd_append x11 ((Int32.toUInt32 x9 % 65536).toInt32) w8).bind fun w12 =>
        f_a_text_114 (f_a_text_86 n) y0 y1 y4 w12
def f_a_text_51 (k_6 : Nat → Int64 → Int32 → Int32 → WW → Option ((Int32 ⊕ String) × WW)) (y0 : Nat) (y1 : Int64) (y4 : Int32) (z0 : Int32) (z1 : Int32) (w : WW) : Option ((Int32 ⊕ String) × WW) :=
  k_6 y0 y1 (z0 + z1) (y4 + (-8 : Int32)) w
def f_a_text_40 (k_6 : Nat → Int64 → Int32 → Int32 → WW → Option ((Int32 ⊕ String) × WW)) (y0 : Nat) (y1 : Int64) (y3 : Int32) (y4 : Int32) (y5 : Int32) (w : WW) : Option ((Int32 ⊕ String) × WW) :=
  if y5 = 0 then
    f_a_text_51 k_6 y0 y1 y4 y3 (0 : Int32) w
  else
    f_a_text_51 k_6 y0 y1 y4 y3 (1 : Int32) w
def f_a_text_6  : Nat → Nat → Int64 → Int32 → Int32 → WW → Option ((Int32 ⊕ String) × WW)
  | 0, _, _, _, _, _ => none
  | n + 1, y0, y1, y3, y4, w =>
    if y4 < 0 then
      (gN w y0 0 3).bind fun x2 =>
      (gI w x2 1 4).bind fun x3 =>
      if (x3 + y3) ≤ (200 : Int32) then
        f_a_text_86 KK y0 y1 (56 : Int32) w
      else
        some (.inr "java/lang/IllegalStateException", w)
    else
      bd2 (f_a_byteAt y1 y4 w) fun x14 w13 =>
      if x14 = 0 then
        f_a_text_40 (f_a_text_6 n) y0 y1 y3 y4 x14 w13
      else
        bd2 (f_a_isCharacter x14 w13) fun x18 w17 =>
        if x18 = 0 then
          some (.inr "java/lang/IllegalArgumentException", w17)
        else
          f_a_text_40 (f_a_text_6 n) y0 y1 y3 y4 x14 w17
def f_a_text (a0 : Nat) (a1 : Int64) (w : WW) : Option ((Int32 ⊕ String) × WW) :=
  if kb w a0 0 = true then
    f_a_text_6 KK a0 a1 (0 : Int32) (56 : Int32) w
  else none
theorem kb_a_text {a0 : Nat} {a1 : Int64} {w : WW} {r : ((Int32 ⊕ String) × WW)} (h : f_a_text a0 a1 w = some r) : kb w a0 0 = true := (its h).1
set_option maxHeartbeats 4000000 in
set_option maxRecDepth 100000 in
theorem j_a_text_114 {p : Program} {l : Launch} {e : Env} {s : State} {m : MethodId} {args : Array Value} {below : List Frame} {meth : Method} {c : Code} {D : va_G} {cA : Nat → ClassId} {base : Nat} {r : Int32} {w' : WW} (C : cx b_a_text (some .int) 6 y_a_text.cls "text" p s m args meth c D cA base) {k_86 : Nat → Int64 → Int32 → WW → Option ((Int32 ⊕ String) × WW)} (hk_86 : ∀ (y0 : Nat) (y1 : Int64) (y4 : Int32) (w : WW), k_86 y0 y1 y4 w = some (.inl r, w') → ∀ (H : Heap) (locs : List Loc) (ls : Array Slot), wo_S D cls cA base s w H locs → lv_has ls 6 [(0, .ref (base + y0)), (1, .long y1), (4, .int y4)] → W p l e rm_a_text s m args below meth c H locs 0 0 (MQ below (wo_Q D cls cA base (some (.int r)) w') args s rm_a_text.cells rm_a_text.slots (wo_B base)) (F0 m 86 ls [])) : ∀ (y0 : Nat) (y1 : Int64) (y4 : Int32) (w : WW), f_a_text_114 k_86 y0 y1 y4 w = some (.inl r, w') → ∀ (H : Heap) (locs : List Loc) (ls : Array Slot), wo_S D cls cA base s w H locs → lv_has ls 6 [(0, .ref (base + y0)), (1, .long y1), (4, .int y4)] → W p l e rm_a_text s m args below meth c H locs 0 0 (MQ below (wo_Q D cls cA base (some (.int r)) w') args s rm_a_text.cells rm_a_text.slots (wo_B base)) (F0 m 114 ls []) := by
  obtain ⟨hx, hb, hr, hml, hown, hts, hlk, hnm, hK, hG⟩ := id C
  intro y0 y1 y4 w h H locs ls hW hl
  unfold f_a_text_114 at h
  refine lv_iinc (v := (y4 + (-8 : Int32))) (lv' := [(4, .int (y4 + (-8 : Int32))), (0, .ref (base + y0)), (1, .long y1)]) hx hb d_a_text_114 hl (k := 2) rfl rfl (by decide) rfl (fun ls hl => ?_)
  refine lv_goto (tgt := 86) hx hb d_a_text_117 (by decide) ?_
  exact hk_86 y0 y1 (y4 + (-8 : Int32)) w h _ _ _ hW (lv_sub hl [1, 2, 0] rfl)
set_option maxHeartbeats 4000000 in
set_option maxRecDepth 100000 in
theorem j_a_text_86 {p : Program} {l : Launch} {e : Env} {s : State} {m : MethodId} {args : Array Value} {below : List Frame} {meth : Method} {c : Code} {D : va_G} {cA : Nat → ClassId} {base : Nat} {r : Int32} {w' : WW} (C : cx b_a_text (some .int) 6 y_a_text.cls "text" p s m args meth c D cA base)   : ∀ n : Nat, ∀ (y0 : Nat) (y1 : Int64) (y4 : Int32) (w : WW), f_a_text_86 n y0 y1 y4 w = some (.inl r, w') → ∀ (H : Heap) (locs : List Loc) (ls : Array Slot), wo_S D cls cA base s w H locs → lv_has ls 6 [(0, .ref (base + y0)), (1, .long y1), (4, .int y4)] → W p l e rm_a_text s m args below meth c H locs 0 0 (MQ below (wo_Q D cls cA base (some (.int r)) w') args s rm_a_text.cells rm_a_text.slots (wo_B base)) (F0 m 86 ls []) := by
  obtain ⟨hx, hb, hr, hml, hown, hts, hlk, hnm, hK, hG⟩ := id C
  intro n
  induction n with
  | zero => intro y0 y1 y4 w h; cases h
  | succ n ih =>
    intro y0 y1 y4 w h H locs ls hW hl
    rw [f_a_text_86] at h
    refine lv_iload hx hb d_a_text_86 (lv_at hl 2 rfl) ?_
    refine lv_if_lt (tgt := 120) hx hb d_a_text_88 (by decide) (fun c5 => ?_) (fun c5 => ?_)
    · rw [if_pos c5] at h
      refine lv_aload_n hx hb d_a_text_120 rfl (lv_at hl 0 rfl) ?_
      replace h := bs h
      obtain ⟨x6, hx6, h⟩ := h
      refine gf_a_29 hx hb hts hown hK hG hW (gN_s hx6) d_a_text_121 ?_
      replace h := bs h
      obtain ⟨x7, hx7, h⟩ := h
      refine gf_a_65 hx hb hts hown hK hG hW (gI_s hx7) d_a_text_124 ?_
      cases h
      exact wo_iret hx hb hr hlk hW d_a_text_127
    · rw [if_neg c5] at h
      refine lv_lload_n hx hb d_a_text_91 rfl (lv_at hl 1 rfl) ?_
      refine lv_iload hx hb d_a_text_92 (lv_at hl 2 rfl) ?_
      replace h := bs2 h
      obtain ⟨x9, w8, hw8, h⟩ := h
      refine cs_a_54 (As := [.long y1, .int y4]) (rest := []) hx hb hml hown hts hK hG hW (c_a_byteAt l D cA base hw8) ⟨Nat.le_of_ble_eq_true rfl, Nat.le_of_ble_eq_true rfl⟩ ⟨Nat.le_of_ble_eq_true rfl, Nat.le_of_ble_eq_true rfl⟩ rfl hl.1 rfl (Nat.le_of_ble_eq_true rfl) d_a_text_94 (fun H locs hW => ?_)
      refine lv_istore (lv' := [(5, .int x9), (0, .ref (base + y0)), (1, .long y1), (4, .int y4)]) hx hb d_a_text_97 hl (by decide) rfl (fun ls hl => ?_)
      refine lv_iload hx hb d_a_text_99 (lv_at hl 0 rfl) ?_
      refine lv_if_eq (tgt := 114) hx hb d_a_text_101 (by decide) (fun c10 => ?_) (fun c10 => ?_)
      · rw [if_pos c10] at h
        exact j_a_text_114 C ih y0 y1 y4 w8 h _ _ _ hW (lv_sub hl [1, 2, 3] rfl)
      · rw [if_neg c10] at h
        refine lv_aload_n hx hb d_a_text_104 rfl (lv_at hl 1 rfl) ?_
        replace h := bs h
        obtain ⟨x11, hx11, h⟩ := h
        refine gf_a_29 hx hb hts hown hK hG hW (gN_s hx11) d_a_text_105 ?_
        refine lv_iload hx hb d_a_text_108 (lv_at hl 0 rfl) ?_
        refine lv_i2c hx hb d_a_text_110 rfl ?_
        replace h := bs h
        obtain ⟨w12, hw12, h⟩ := h
        refine cv_a_73 (As := [.int ((Int32.toUInt32 x9 % 65536).toInt32)]) (rest := []) hx hb hml hown hts hK hG hW (c_rd_append l D cA base hw12) (kb_rd_append hw12) ⟨Nat.le_of_ble_eq_true rfl, Nat.le_of_ble_eq_true rfl⟩ ⟨Nat.le_of_ble_eq_true rfl, Nat.le_of_ble_eq_true rfl⟩ rfl hl.1 rfl (Nat.le_of_ble_eq_true rfl) d_a_text_111 (fun H locs hW => ?_)
        exact j_a_text_114 C ih y0 y1 y4 w12 h _ _ _ hW (lv_sub hl [1, 2, 3] rfl)
set_option maxHeartbeats 4000000 in
set_option maxRecDepth 100000 in
theorem j_a_text_51 {p : Program} {l : Launch} {e : Env} {s : State} {m : MethodId} {args : Array Value} {below : List Frame} {meth : Method} {c : Code} {D : va_G} {cA : Nat → ClassId} {base : Nat} {r : Int32} {w' : WW} (C : cx b_a_text (some .int) 6 y_a_text.cls "text" p s m args meth c D cA base) {k_6 : Nat → Int64 → Int32 → Int32 → WW → Option ((Int32 ⊕ String) × WW)} (hk_6 : ∀ (y0 : Nat) (y1 : Int64) (y3 : Int32) (y4 : Int32) (w : WW), k_6 y0 y1 y3 y4 w = some (.inl r, w') → ∀ (H : Heap) (locs : List Loc) (ls : Array Slot), wo_S D cls cA base s w H locs → lv_has ls 6 [(0, .ref (base + y0)), (1, .long y1), (3, .int y3), (4, .int y4)] → W p l e rm_a_text s m args below meth c H locs 0 0 (MQ below (wo_Q D cls cA base (some (.int r)) w') args s rm_a_text.cells rm_a_text.slots (wo_B base)) (F0 m 6 ls [])) : ∀ (y0 : Nat) (y1 : Int64) (y4 : Int32) (z0 : Int32) (z1 : Int32) (w : WW), f_a_text_51 k_6 y0 y1 y4 z0 z1 w = some (.inl r, w') → ∀ (H : Heap) (locs : List Loc) (ls : Array Slot), wo_S D cls cA base s w H locs → lv_has ls 6 [(0, .ref (base + y0)), (1, .long y1), (4, .int y4)] → W p l e rm_a_text s m args below meth c H locs 0 0 (MQ below (wo_Q D cls cA base (some (.int r)) w') args s rm_a_text.cells rm_a_text.slots (wo_B base)) (F0 m 51 ls [.int z1, .int z0]) := by
  obtain ⟨hx, hb, hr, hml, hown, hts, hlk, hnm, hK, hG⟩ := id C
  intro y0 y1 y4 z0 z1 w h H locs ls hW hl
  unfold f_a_text_51 at h
  refine lv_iadd hx hb d_a_text_51 ?_
  refine lv_istore_n (lv' := [(3, .int (z0 + z1)), (0, .ref (base + y0)), (1, .long y1), (4, .int y4)]) hx hb d_a_text_52 rfl hl (by decide) rfl (fun ls hl => ?_)
  refine lv_iinc (v := (y4 + (-8 : Int32))) (lv' := [(4, .int (y4 + (-8 : Int32))), (3, .int (z0 + z1)), (0, .ref (base + y0)), (1, .long y1)]) hx hb d_a_text_53 hl (k := 3) rfl rfl (by decide) rfl (fun ls hl => ?_)
  refine lv_goto (tgt := 6) hx hb d_a_text_56 (by decide) ?_
  exact hk_6 y0 y1 (z0 + z1) (y4 + (-8 : Int32)) w h _ _ _ hW (lv_sub hl [2, 3, 1, 0] rfl)
set_option maxHeartbeats 4000000 in
set_option maxRecDepth 100000 in
theorem j_a_text_40 {p : Program} {l : Launch} {e : Env} {s : State} {m : MethodId} {args : Array Value} {below : List Frame} {meth : Method} {c : Code} {D : va_G} {cA : Nat → ClassId} {base : Nat} {r : Int32} {w' : WW} (C : cx b_a_text (some .int) 6 y_a_text.cls "text" p s m args meth c D cA base) {k_6 : Nat → Int64 → Int32 → Int32 → WW → Option ((Int32 ⊕ String) × WW)} (hk_6 : ∀ (y0 : Nat) (y1 : Int64) (y3 : Int32) (y4 : Int32) (w : WW), k_6 y0 y1 y3 y4 w = some (.inl r, w') → ∀ (H : Heap) (locs : List Loc) (ls : Array Slot), wo_S D cls cA base s w H locs → lv_has ls 6 [(0, .ref (base + y0)), (1, .long y1), (3, .int y3), (4, .int y4)] → W p l e rm_a_text s m args below meth c H locs 0 0 (MQ below (wo_Q D cls cA base (some (.int r)) w') args s rm_a_text.cells rm_a_text.slots (wo_B base)) (F0 m 6 ls [])) : ∀ (y0 : Nat) (y1 : Int64) (y3 : Int32) (y4 : Int32) (y5 : Int32) (w : WW), f_a_text_40 k_6 y0 y1 y3 y4 y5 w = some (.inl r, w') → ∀ (H : Heap) (locs : List Loc) (ls : Array Slot), wo_S D cls cA base s w H locs → lv_has ls 6 [(0, .ref (base + y0)), (1, .long y1), (3, .int y3), (4, .int y4), (5, .int y5)] → W p l e rm_a_text s m args below meth c H locs 0 0 (MQ below (wo_Q D cls cA base (some (.int r)) w') args s rm_a_text.cells rm_a_text.slots (wo_B base)) (F0 m 40 ls []) := by
  obtain ⟨hx, hb, hr, hml, hown, hts, hlk, hnm, hK, hG⟩ := id C
  intro y0 y1 y3 y4 y5 w h H locs ls hW hl
  unfold f_a_text_40 at h
  refine lv_iload_n hx hb d_a_text_40 rfl (lv_at hl 2 rfl) ?_
  refine lv_iload hx hb d_a_text_41 (lv_at hl 4 rfl) ?_
  refine lv_if_ne (tgt := 50) hx hb d_a_text_43 (by decide) (fun c16 => ?_) (fun c16 => ?_)
  · rw [if_neg c16] at h
    refine lv_iconst (v := (1 : Int32)) hx hb d_a_text_50 (by decide) ?_
    exact j_a_text_51 C hk_6 y0 y1 y4 y3 (1 : Int32) w h _ _ _ hW (lv_sub hl [0, 1, 3] rfl)
  · rw [if_pos c16] at h
    refine lv_iconst (v := (0 : Int32)) hx hb d_a_text_46 (by decide) ?_
    refine lv_goto (tgt := 51) hx hb d_a_text_47 (by decide) ?_
    exact j_a_text_51 C hk_6 y0 y1 y4 y3 (0 : Int32) w h _ _ _ hW (lv_sub hl [0, 1, 3] rfl)
set_option maxHeartbeats 4000000 in
set_option maxRecDepth 100000 in
theorem j_a_text_6 {p : Program} {l : Launch} {e : Env} {s : State} {m : MethodId} {args : Array Value} {below : List Frame} {meth : Method} {c : Code} {D : va_G} {cA : Nat → ClassId} {base : Nat} {r : Int32} {w' : WW} (C : cx b_a_text (some .int) 6 y_a_text.cls "text" p s m args meth c D cA base)   : ∀ n : Nat, ∀ (y0 : Nat) (y1 : Int64) (y3 : Int32) (y4 : Int32) (w : WW), f_a_text_6 n y0 y1 y3 y4 w = some (.inl r, w') → ∀ (H : Heap) (locs : List Loc) (ls : Array Slot), wo_S D cls cA base s w H locs → lv_has ls 6 [(0, .ref (base + y0)), (1, .long y1), (3, .int y3), (4, .int y4)] → W p l e rm_a_text s m args below meth c H locs 0 0 (MQ below (wo_Q D cls cA base (some (.int r)) w') args s rm_a_text.cells rm_a_text.slots (wo_B base)) (F0 m 6 ls []) := by
  obtain ⟨hx, hb, hr, hml, hown, hts, hlk, hnm, hK, hG⟩ := id C
  intro n
  induction n with
  | zero => intro y0 y1 y3 y4 w h; cases h
  | succ n ih =>
    intro y0 y1 y3 y4 w h H locs ls hW hl
    rw [f_a_text_6] at h
    refine lv_iload hx hb d_a_text_6 (lv_at hl 3 rfl) ?_
    refine lv_if_lt (tgt := 59) hx hb d_a_text_8 (by decide) (fun c1 => ?_) (fun c1 => ?_)
    · rw [if_pos c1] at h
      refine lv_aload_n hx hb d_a_text_59 rfl (lv_at hl 0 rfl) ?_
      replace h := bs h
      obtain ⟨x2, hx2, h⟩ := h
      refine gf_a_29 hx hb hts hown hK hG hW (gN_s hx2) d_a_text_60 ?_
      replace h := bs h
      obtain ⟨x3, hx3, h⟩ := h
      refine gf_a_65 hx hb hts hown hK hG hW (gI_s hx3) d_a_text_63 ?_
      refine lv_iload_n hx hb d_a_text_66 rfl (lv_at hl 2 rfl) ?_
      refine lv_iadd hx hb d_a_text_67 ?_
      refine lv_sipush (v := (200 : Int32)) hx hb d_a_text_68 (by decide) ?_
      refine lv_icmp_le (tgt := 82) hx hb d_a_text_71 (by decide) (fun c4 => ?_) (fun c4 => ?_)
      · rw [if_pos c4] at h
        refine lv_bipush (v := (56 : Int32)) hx hb d_a_text_82 (by decide) ?_
        refine lv_istore (lv' := [(4, .int (56 : Int32)), (0, .ref (base + y0)), (1, .long y1), (3, .int y3)]) hx hb d_a_text_84 hl (by decide) rfl (fun ls hl => ?_)
        exact j_a_text_86 C KK y0 y1 (56 : Int32) w h _ _ _ hW (lv_sub hl [1, 2, 0] rfl)
      · rw [if_neg c4] at h
        cases h
    · rw [if_neg c1] at h
      refine lv_lload_n hx hb d_a_text_11 rfl (lv_at hl 1 rfl) ?_
      refine lv_iload hx hb d_a_text_12 (lv_at hl 3 rfl) ?_
      replace h := bs2 h
      obtain ⟨x14, w13, hw13, h⟩ := h
      refine cs_a_54 (As := [.long y1, .int y4]) (rest := []) hx hb hml hown hts hK hG hW (c_a_byteAt l D cA base hw13) ⟨Nat.le_of_ble_eq_true rfl, Nat.le_of_ble_eq_true rfl⟩ ⟨Nat.le_of_ble_eq_true rfl, Nat.le_of_ble_eq_true rfl⟩ rfl hl.1 rfl (Nat.le_of_ble_eq_true rfl) d_a_text_14 (fun H locs hW => ?_)
      refine lv_istore (lv' := [(5, .int x14), (0, .ref (base + y0)), (1, .long y1), (3, .int y3), (4, .int y4)]) hx hb d_a_text_17 hl (by decide) rfl (fun ls hl => ?_)
      refine lv_iload hx hb d_a_text_19 (lv_at hl 0 rfl) ?_
      refine lv_if_eq (tgt := 40) hx hb d_a_text_21 (by decide) (fun c15 => ?_) (fun c15 => ?_)
      · rw [if_pos c15] at h
        exact j_a_text_40 C ih y0 y1 y3 y4 x14 w13 h _ _ _ hW (lv_sub hl [1, 2, 3, 4, 0] rfl)
      · rw [if_neg c15] at h
        refine lv_iload hx hb d_a_text_24 (lv_at hl 0 rfl) ?_
        replace h := bs2 h
        obtain ⟨x18, w17, hw17, h⟩ := h
        refine cs_a_58 (As := [.int x14]) (rest := []) hx hb hml hown hts hK hG hW (c_a_isCharacter l D cA base hw17) ⟨Nat.le_of_ble_eq_true rfl, Nat.le_of_ble_eq_true rfl⟩ ⟨Nat.le_of_ble_eq_true rfl, Nat.le_of_ble_eq_true rfl⟩ rfl hl.1 rfl (Nat.le_of_ble_eq_true rfl) d_a_text_26 (fun H locs hW => ?_)
        refine lv_if_ne (tgt := 40) hx hb d_a_text_29 (by decide) (fun c19 => ?_) (fun c19 => ?_)
        · rw [if_neg c19] at h
          exact j_a_text_40 C ih y0 y1 y3 y4 x14 w17 h _ _ _ hW (lv_sub hl [1, 2, 3, 4, 0] rfl)
        · rw [if_pos c19] at h
          cases h
set_option maxHeartbeats 4000000 in
set_option maxRecDepth 100000 in
theorem c_a_text (l : Launch) (D : va_G) (cA : Nat → ClassId) (base : Nat) {a0 : Nat} {a1 : Int64} {w w' : WW} {r : Int32} (h : f_a_text a0 a1 w = some (.inl r, w')) : mt l D cls (wo_tys cA) cA base y_a_text (Cond.code y_a_text b_a_text 6 (some .int) :: gt) rm_a_text [.ref (base + a0), .long a1] w (some (.int r)) w' rm_a_text.cells rm_a_text.slots := by
  refine mt_start (by decide) (Nat.le_of_ble_eq_true rfl) ?_
  intro p e s m below meth c ls hx hb hr hml hown hts hlk hnm hK hG hW hl
  have C : cx b_a_text (some .int) 6 y_a_text.cls "text" p s m [.ref (base + a0), .long a1].toArray meth c D cA base := ⟨hx, hb, hr, hml, hown, hts, hlk, hnm, hK, hG⟩
  have hl : lv_has ls 6 [(0, .ref (base + a0)), (1, .long a1)] := hl
  unfold f_a_text at h
  replace h := its h
  obtain ⟨-, h⟩ := h
  refine lv_iconst (v := (0 : Int32)) hx hb d_a_text_0 (by decide) ?_
  refine lv_istore_n (lv' := [(3, .int (0 : Int32)), (0, .ref (base + a0)), (1, .long a1)]) hx hb d_a_text_1 rfl hl (by decide) rfl (fun ls hl => ?_)
  refine lv_bipush (v := (56 : Int32)) hx hb d_a_text_2 (by decide) ?_
  refine lv_istore (lv' := [(4, .int (56 : Int32)), (3, .int (0 : Int32)), (0, .ref (base + a0)), (1, .long a1)]) hx hb d_a_text_4 hl (by decide) rfl (fun ls hl => ?_)
  exact j_a_text_6 C KK a0 a1 (0 : Int32) (56 : Int32) w h _ _ _ hW (lv_sub hl [2, 3, 1, 0] rfl)
set_option maxHeartbeats 4000000 in
set_option maxRecDepth 100000 in
theorem jx_a_text_114 {p : Program} {l : Launch} {e : Env} {s : State} {m : MethodId} {args : Array Value} {below : List Frame} {meth : Method} {c : Code} {D : va_G} {cA : Nat → ClassId} {base : Nat} {E : String} {w' : WW} (C : cx b_a_text (some .int) 6 y_a_text.cls "text" p s m args meth c D cA base ∧ (∀ x ∈ c.exceptionTable.toList, ∀ k : Nat, covers x k = false) ∧ l.stackTraces = false) {k_86 : Nat → Int64 → Int32 → WW → Option ((Int32 ⊕ String) × WW)} (hk_86 : ∀ (y0 : Nat) (y1 : Int64) (y4 : Int32) (w : WW), k_86 y0 y1 y4 w = some (.inr E, w') → ∀ (H : Heap) (locs : List Loc) (ls : Array Slot), wo_S D cls cA base s w H locs → lv_has ls 6 [(0, .ref (base + y0)), (1, .long y1), (4, .int y4)] → W p l e rx_a_text s m args below meth c H locs 0 0 (XQ below (wo_X D cls cA base E w' rx_a_text.cells rx_a_text.slots) args s) (F0 m 86 ls [])) : ∀ (y0 : Nat) (y1 : Int64) (y4 : Int32) (w : WW), f_a_text_114 k_86 y0 y1 y4 w = some (.inr E, w') → ∀ (H : Heap) (locs : List Loc) (ls : Array Slot), wo_S D cls cA base s w H locs → lv_has ls 6 [(0, .ref (base + y0)), (1, .long y1), (4, .int y4)] → W p l e rx_a_text s m args below meth c H locs 0 0 (XQ below (wo_X D cls cA base E w' rx_a_text.cells rx_a_text.slots) args s) (F0 m 114 ls []) := by
  obtain ⟨hx, hb, hr, hml, hown, hts, hlk, hnm, hK, hG⟩ := id C.1
  have hnt := C.2.1
  have hst := C.2.2
  intro y0 y1 y4 w h H locs ls hW hl
  unfold f_a_text_114 at h
  refine lv_iinc (v := (y4 + (-8 : Int32))) (lv' := [(4, .int (y4 + (-8 : Int32))), (0, .ref (base + y0)), (1, .long y1)]) hx hb d_a_text_114 hl (k := 2) rfl rfl (by decide) rfl (fun ls hl => ?_)
  refine lv_goto (tgt := 86) hx hb d_a_text_117 (by decide) ?_
  exact hk_86 y0 y1 (y4 + (-8 : Int32)) w h _ _ _ hW (lv_sub hl [1, 2, 0] rfl)
set_option maxHeartbeats 4000000 in
set_option maxRecDepth 100000 in
theorem jx_a_text_86 {p : Program} {l : Launch} {e : Env} {s : State} {m : MethodId} {args : Array Value} {below : List Frame} {meth : Method} {c : Code} {D : va_G} {cA : Nat → ClassId} {base : Nat} {E : String} {w' : WW} (C : cx b_a_text (some .int) 6 y_a_text.cls "text" p s m args meth c D cA base ∧ (∀ x ∈ c.exceptionTable.toList, ∀ k : Nat, covers x k = false) ∧ l.stackTraces = false)   : ∀ n : Nat, ∀ (y0 : Nat) (y1 : Int64) (y4 : Int32) (w : WW), f_a_text_86 n y0 y1 y4 w = some (.inr E, w') → ∀ (H : Heap) (locs : List Loc) (ls : Array Slot), wo_S D cls cA base s w H locs → lv_has ls 6 [(0, .ref (base + y0)), (1, .long y1), (4, .int y4)] → W p l e rx_a_text s m args below meth c H locs 0 0 (XQ below (wo_X D cls cA base E w' rx_a_text.cells rx_a_text.slots) args s) (F0 m 86 ls []) := by
  obtain ⟨hx, hb, hr, hml, hown, hts, hlk, hnm, hK, hG⟩ := id C.1
  have hnt := C.2.1
  have hst := C.2.2
  intro n
  induction n with
  | zero => intro y0 y1 y4 w h; cases h
  | succ n ih =>
    intro y0 y1 y4 w h H locs ls hW hl
    rw [f_a_text_86] at h
    refine lv_iload hx hb d_a_text_86 (lv_at hl 2 rfl) ?_
    refine lv_if_lt (tgt := 120) hx hb d_a_text_88 (by decide) (fun c5 => ?_) (fun c5 => ?_)
    · rw [if_pos c5] at h
      refine lv_aload_n hx hb d_a_text_120 rfl (lv_at hl 0 rfl) ?_
      replace h := bs h
      obtain ⟨x6, hx6, h⟩ := h
      refine gf_a_29 hx hb hts hown hK hG hW (gN_s hx6) d_a_text_121 ?_
      replace h := bs h
      obtain ⟨x7, hx7, h⟩ := h
      refine gf_a_65 hx hb hts hown hK hG hW (gI_s hx7) d_a_text_124 ?_
      cases h
    · rw [if_neg c5] at h
      refine lv_lload_n hx hb d_a_text_91 rfl (lv_at hl 1 rfl) ?_
      refine lv_iload hx hb d_a_text_92 (lv_at hl 2 rfl) ?_
      replace h := bs2 h
      obtain ⟨x9, w8, hw8, h⟩ := h
      refine cs_a_54 (As := [.long y1, .int y4]) (rest := []) hx hb hml hown hts hK hG hW (c_a_byteAt l D cA base hw8) ⟨Nat.le_of_ble_eq_true rfl, Nat.le_of_ble_eq_true rfl⟩ ⟨Nat.le_of_ble_eq_true rfl, Nat.le_of_ble_eq_true rfl⟩ rfl hl.1 rfl (Nat.le_of_ble_eq_true rfl) d_a_text_94 (fun H locs hW => ?_)
      refine lv_istore (lv' := [(5, .int x9), (0, .ref (base + y0)), (1, .long y1), (4, .int y4)]) hx hb d_a_text_97 hl (by decide) rfl (fun ls hl => ?_)
      refine lv_iload hx hb d_a_text_99 (lv_at hl 0 rfl) ?_
      refine lv_if_eq (tgt := 114) hx hb d_a_text_101 (by decide) (fun c10 => ?_) (fun c10 => ?_)
      · rw [if_pos c10] at h
        exact jx_a_text_114 C ih y0 y1 y4 w8 h _ _ _ hW (lv_sub hl [1, 2, 3] rfl)
      · rw [if_neg c10] at h
        refine lv_aload_n hx hb d_a_text_104 rfl (lv_at hl 1 rfl) ?_
        replace h := bs h
        obtain ⟨x11, hx11, h⟩ := h
        refine gf_a_29 hx hb hts hown hK hG hW (gN_s hx11) d_a_text_105 ?_
        refine lv_iload hx hb d_a_text_108 (lv_at hl 0 rfl) ?_
        refine lv_i2c hx hb d_a_text_110 rfl ?_
        replace h := bs h
        obtain ⟨w12, hw12, h⟩ := h
        refine cv_a_73 (As := [.int ((Int32.toUInt32 x9 % 65536).toInt32)]) (rest := []) hx hb hml hown hts hK hG hW (c_rd_append l D cA base hw12) (kb_rd_append hw12) ⟨Nat.le_of_ble_eq_true rfl, Nat.le_of_ble_eq_true rfl⟩ ⟨Nat.le_of_ble_eq_true rfl, Nat.le_of_ble_eq_true rfl⟩ rfl hl.1 rfl (Nat.le_of_ble_eq_true rfl) d_a_text_111 (fun H locs hW => ?_)
        exact jx_a_text_114 C ih y0 y1 y4 w12 h _ _ _ hW (lv_sub hl [1, 2, 3] rfl)
set_option maxHeartbeats 4000000 in
set_option maxRecDepth 100000 in
theorem jx_a_text_51 {p : Program} {l : Launch} {e : Env} {s : State} {m : MethodId} {args : Array Value} {below : List Frame} {meth : Method} {c : Code} {D : va_G} {cA : Nat → ClassId} {base : Nat} {E : String} {w' : WW} (C : cx b_a_text (some .int) 6 y_a_text.cls "text" p s m args meth c D cA base ∧ (∀ x ∈ c.exceptionTable.toList, ∀ k : Nat, covers x k = false) ∧ l.stackTraces = false) {k_6 : Nat → Int64 → Int32 → Int32 → WW → Option ((Int32 ⊕ String) × WW)} (hk_6 : ∀ (y0 : Nat) (y1 : Int64) (y3 : Int32) (y4 : Int32) (w : WW), k_6 y0 y1 y3 y4 w = some (.inr E, w') → ∀ (H : Heap) (locs : List Loc) (ls : Array Slot), wo_S D cls cA base s w H locs → lv_has ls 6 [(0, .ref (base + y0)), (1, .long y1), (3, .int y3), (4, .int y4)] → W p l e rx_a_text s m args below meth c H locs 0 0 (XQ below (wo_X D cls cA base E w' rx_a_text.cells rx_a_text.slots) args s) (F0 m 6 ls [])) : ∀ (y0 : Nat) (y1 : Int64) (y4 : Int32) (z0 : Int32) (z1 : Int32) (w : WW), f_a_text_51 k_6 y0 y1 y4 z0 z1 w = some (.inr E, w') → ∀ (H : Heap) (locs : List Loc) (ls : Array Slot), wo_S D cls cA base s w H locs → lv_has ls 6 [(0, .ref (base + y0)), (1, .long y1), (4, .int y4)] → W p l e rx_a_text s m args below meth c H locs 0 0 (XQ below (wo_X D cls cA base E w' rx_a_text.cells rx_a_text.slots) args s) (F0 m 51 ls [.int z1, .int z0]) := by
  obtain ⟨hx, hb, hr, hml, hown, hts, hlk, hnm, hK, hG⟩ := id C.1
  have hnt := C.2.1
  have hst := C.2.2
  intro y0 y1 y4 z0 z1 w h H locs ls hW hl
  unfold f_a_text_51 at h
  refine lv_iadd hx hb d_a_text_51 ?_
  refine lv_istore_n (lv' := [(3, .int (z0 + z1)), (0, .ref (base + y0)), (1, .long y1), (4, .int y4)]) hx hb d_a_text_52 rfl hl (by decide) rfl (fun ls hl => ?_)
  refine lv_iinc (v := (y4 + (-8 : Int32))) (lv' := [(4, .int (y4 + (-8 : Int32))), (3, .int (z0 + z1)), (0, .ref (base + y0)), (1, .long y1)]) hx hb d_a_text_53 hl (k := 3) rfl rfl (by decide) rfl (fun ls hl => ?_)
  refine lv_goto (tgt := 6) hx hb d_a_text_56 (by decide) ?_
  exact hk_6 y0 y1 (z0 + z1) (y4 + (-8 : Int32)) w h _ _ _ hW (lv_sub hl [2, 3, 1, 0] rfl)
set_option maxHeartbeats 4000000 in
set_option maxRecDepth 100000 in
theorem jx_a_text_40 {p : Program} {l : Launch} {e : Env} {s : State} {m : MethodId} {args : Array Value} {below : List Frame} {meth : Method} {c : Code} {D : va_G} {cA : Nat → ClassId} {base : Nat} {E : String} {w' : WW} (C : cx b_a_text (some .int) 6 y_a_text.cls "text" p s m args meth c D cA base ∧ (∀ x ∈ c.exceptionTable.toList, ∀ k : Nat, covers x k = false) ∧ l.stackTraces = false) {k_6 : Nat → Int64 → Int32 → Int32 → WW → Option ((Int32 ⊕ String) × WW)} (hk_6 : ∀ (y0 : Nat) (y1 : Int64) (y3 : Int32) (y4 : Int32) (w : WW), k_6 y0 y1 y3 y4 w = some (.inr E, w') → ∀ (H : Heap) (locs : List Loc) (ls : Array Slot), wo_S D cls cA base s w H locs → lv_has ls 6 [(0, .ref (base + y0)), (1, .long y1), (3, .int y3), (4, .int y4)] → W p l e rx_a_text s m args below meth c H locs 0 0 (XQ below (wo_X D cls cA base E w' rx_a_text.cells rx_a_text.slots) args s) (F0 m 6 ls [])) : ∀ (y0 : Nat) (y1 : Int64) (y3 : Int32) (y4 : Int32) (y5 : Int32) (w : WW), f_a_text_40 k_6 y0 y1 y3 y4 y5 w = some (.inr E, w') → ∀ (H : Heap) (locs : List Loc) (ls : Array Slot), wo_S D cls cA base s w H locs → lv_has ls 6 [(0, .ref (base + y0)), (1, .long y1), (3, .int y3), (4, .int y4), (5, .int y5)] → W p l e rx_a_text s m args below meth c H locs 0 0 (XQ below (wo_X D cls cA base E w' rx_a_text.cells rx_a_text.slots) args s) (F0 m 40 ls []) := by
  obtain ⟨hx, hb, hr, hml, hown, hts, hlk, hnm, hK, hG⟩ := id C.1
  have hnt := C.2.1
  have hst := C.2.2
  intro y0 y1 y3 y4 y5 w h H locs ls hW hl
  unfold f_a_text_40 at h
  refine lv_iload_n hx hb d_a_text_40 rfl (lv_at hl 2 rfl) ?_
  refine lv_iload hx hb d_a_text_41 (lv_at hl 4 rfl) ?_
  refine lv_if_ne (tgt := 50) hx hb d_a_text_43 (by decide) (fun c16 => ?_) (fun c16 => ?_)
  · rw [if_neg c16] at h
    refine lv_iconst (v := (1 : Int32)) hx hb d_a_text_50 (by decide) ?_
    exact jx_a_text_51 C hk_6 y0 y1 y4 y3 (1 : Int32) w h _ _ _ hW (lv_sub hl [0, 1, 3] rfl)
  · rw [if_pos c16] at h
    refine lv_iconst (v := (0 : Int32)) hx hb d_a_text_46 (by decide) ?_
    refine lv_goto (tgt := 51) hx hb d_a_text_47 (by decide) ?_
    exact jx_a_text_51 C hk_6 y0 y1 y4 y3 (0 : Int32) w h _ _ _ hW (lv_sub hl [0, 1, 3] rfl)
set_option maxHeartbeats 4000000 in
set_option maxRecDepth 100000 in
theorem jx_a_text_6 {p : Program} {l : Launch} {e : Env} {s : State} {m : MethodId} {args : Array Value} {below : List Frame} {meth : Method} {c : Code} {D : va_G} {cA : Nat → ClassId} {base : Nat} {E : String} {w' : WW} (C : cx b_a_text (some .int) 6 y_a_text.cls "text" p s m args meth c D cA base ∧ (∀ x ∈ c.exceptionTable.toList, ∀ k : Nat, covers x k = false) ∧ l.stackTraces = false)   : ∀ n : Nat, ∀ (y0 : Nat) (y1 : Int64) (y3 : Int32) (y4 : Int32) (w : WW), f_a_text_6 n y0 y1 y3 y4 w = some (.inr E, w') → ∀ (H : Heap) (locs : List Loc) (ls : Array Slot), wo_S D cls cA base s w H locs → lv_has ls 6 [(0, .ref (base + y0)), (1, .long y1), (3, .int y3), (4, .int y4)] → W p l e rx_a_text s m args below meth c H locs 0 0 (XQ below (wo_X D cls cA base E w' rx_a_text.cells rx_a_text.slots) args s) (F0 m 6 ls []) := by
  obtain ⟨hx, hb, hr, hml, hown, hts, hlk, hnm, hK, hG⟩ := id C.1
  have hnt := C.2.1
  have hst := C.2.2
  intro n
  induction n with
  | zero => intro y0 y1 y3 y4 w h; cases h
  | succ n ih =>
    intro y0 y1 y3 y4 w h H locs ls hW hl
    rw [f_a_text_6] at h
    refine lv_iload hx hb d_a_text_6 (lv_at hl 3 rfl) ?_
    refine lv_if_lt (tgt := 59) hx hb d_a_text_8 (by decide) (fun c1 => ?_) (fun c1 => ?_)
    · rw [if_pos c1] at h
      refine lv_aload_n hx hb d_a_text_59 rfl (lv_at hl 0 rfl) ?_
      replace h := bs h
      obtain ⟨x2, hx2, h⟩ := h
      refine gf_a_29 hx hb hts hown hK hG hW (gN_s hx2) d_a_text_60 ?_
      replace h := bs h
      obtain ⟨x3, hx3, h⟩ := h
      refine gf_a_65 hx hb hts hown hK hG hW (gI_s hx3) d_a_text_63 ?_
      refine lv_iload_n hx hb d_a_text_66 rfl (lv_at hl 2 rfl) ?_
      refine lv_iadd hx hb d_a_text_67 ?_
      refine lv_sipush (v := (200 : Int32)) hx hb d_a_text_68 (by decide) ?_
      refine lv_icmp_le (tgt := 82) hx hb d_a_text_71 (by decide) (fun c4 => ?_) (fun c4 => ?_)
      · rw [if_pos c4] at h
        refine lv_bipush (v := (56 : Int32)) hx hb d_a_text_82 (by decide) ?_
        refine lv_istore (lv' := [(4, .int (56 : Int32)), (0, .ref (base + y0)), (1, .long y1), (3, .int y3)]) hx hb d_a_text_84 hl (by decide) rfl (fun ls hl => ?_)
        exact jx_a_text_86 C KK y0 y1 (56 : Int32) w h _ _ _ hW (lv_sub hl [1, 2, 0] rfl)
      · rw [if_neg c4] at h
        cases h
        exact wo_throw (names := ["java/lang/RuntimeException", "java/lang/Exception"]) hx hb hst hown hts hG hW hnt hlk (by decide) (by decide) (gt_of (i := 460) (by decide +kernel) (by decide +kernel)) (gt_of (i := 15) (by decide +kernel) (by decide +kernel)) ow_a_72 (hl.1.trans hml.symm) d_a_text_74 d_a_text_77 d_a_text_78 d_a_text_81 (Nat.le_of_ble_eq_true rfl) (Nat.le_of_ble_eq_true rfl) (Nat.le_of_ble_eq_true rfl) (Nat.le_of_ble_eq_true rfl) (Nat.le_of_ble_eq_true rfl) (Nat.le_of_ble_eq_true rfl)
    · rw [if_neg c1] at h
      refine lv_lload_n hx hb d_a_text_11 rfl (lv_at hl 1 rfl) ?_
      refine lv_iload hx hb d_a_text_12 (lv_at hl 3 rfl) ?_
      replace h := bs2 h
      obtain ⟨x14, w13, hw13, h⟩ := h
      refine cs_a_54 (As := [.long y1, .int y4]) (rest := []) hx hb hml hown hts hK hG hW (c_a_byteAt l D cA base hw13) ⟨Nat.le_of_ble_eq_true rfl, Nat.le_of_ble_eq_true rfl⟩ ⟨Nat.le_of_ble_eq_true rfl, Nat.le_of_ble_eq_true rfl⟩ rfl hl.1 rfl (Nat.le_of_ble_eq_true rfl) d_a_text_14 (fun H locs hW => ?_)
      refine lv_istore (lv' := [(5, .int x14), (0, .ref (base + y0)), (1, .long y1), (3, .int y3), (4, .int y4)]) hx hb d_a_text_17 hl (by decide) rfl (fun ls hl => ?_)
      refine lv_iload hx hb d_a_text_19 (lv_at hl 0 rfl) ?_
      refine lv_if_eq (tgt := 40) hx hb d_a_text_21 (by decide) (fun c15 => ?_) (fun c15 => ?_)
      · rw [if_pos c15] at h
        exact jx_a_text_40 C ih y0 y1 y3 y4 x14 w13 h _ _ _ hW (lv_sub hl [1, 2, 3, 4, 0] rfl)
      · rw [if_neg c15] at h
        refine lv_iload hx hb d_a_text_24 (lv_at hl 0 rfl) ?_
        replace h := bs2 h
        obtain ⟨x18, w17, hw17, h⟩ := h
        refine cs_a_58 (As := [.int x14]) (rest := []) hx hb hml hown hts hK hG hW (c_a_isCharacter l D cA base hw17) ⟨Nat.le_of_ble_eq_true rfl, Nat.le_of_ble_eq_true rfl⟩ ⟨Nat.le_of_ble_eq_true rfl, Nat.le_of_ble_eq_true rfl⟩ rfl hl.1 rfl (Nat.le_of_ble_eq_true rfl) d_a_text_26 (fun H locs hW => ?_)
        refine lv_if_ne (tgt := 40) hx hb d_a_text_29 (by decide) (fun c19 => ?_) (fun c19 => ?_)
        · rw [if_neg c19] at h
          exact jx_a_text_40 C ih y0 y1 y3 y4 x14 w17 h _ _ _ hW (lv_sub hl [1, 2, 3, 4, 0] rfl)
        · rw [if_pos c19] at h
          cases h
          exact wo_throw (names := ["java/lang/RuntimeException", "java/lang/Exception"]) hx hb hst hown hts hG hW hnt hlk (by decide) (by decide) (gt_of (i := 395) (by decide +kernel) (by decide +kernel)) (gt_of (i := 14) (by decide +kernel) (by decide +kernel)) ow_a_64 (hl.1.trans hml.symm) d_a_text_32 d_a_text_35 d_a_text_36 d_a_text_39 (Nat.le_of_ble_eq_true rfl) (Nat.le_of_ble_eq_true rfl) (Nat.le_of_ble_eq_true rfl) (Nat.le_of_ble_eq_true rfl) (Nat.le_of_ble_eq_true rfl) (Nat.le_of_ble_eq_true rfl)
set_option maxHeartbeats 4000000 in
set_option maxRecDepth 100000 in
theorem x_a_text (l : Launch) (hst : l.stackTraces = false) (D : va_G) (cA : Nat → ClassId) (base : Nat) {a0 : Nat} {a1 : Int64} {w w' : WW} {E : String} (h : f_a_text a0 a1 w = some (.inr E, w')) : xt l D cls (wo_tys cA) cA base y_a_text (Cond.code y_a_text b_a_text 6 (some .int) :: gt) rx_a_text [.ref (base + a0), .long a1] w E w' rx_a_text.cells rx_a_text.slots := by
  refine xt_start (by decide) (Nat.le_of_ble_eq_true rfl) ?_
  intro p e s m below meth c ls hx hb hr hml hown hts hlk hnm hK hG hW hl hnt
  have C : cx b_a_text (some .int) 6 y_a_text.cls "text" p s m [.ref (base + a0), .long a1].toArray meth c D cA base ∧ (∀ x ∈ c.exceptionTable.toList, ∀ k : Nat, covers x k = false) ∧ l.stackTraces = false := ⟨⟨hx, hb, hr, hml, hown, hts, hlk, hnm, hK, hG⟩, hnt, hst⟩
  have hl : lv_has ls 6 [(0, .ref (base + a0)), (1, .long a1)] := hl
  unfold f_a_text at h
  replace h := its h
  obtain ⟨-, h⟩ := h
  refine lv_iconst (v := (0 : Int32)) hx hb d_a_text_0 (by decide) ?_
  refine lv_istore_n (lv' := [(3, .int (0 : Int32)), (0, .ref (base + a0)), (1, .long a1)]) hx hb d_a_text_1 rfl hl (by decide) rfl (fun ls hl => ?_)
  refine lv_bipush (v := (56 : Int32)) hx hb d_a_text_2 (by decide) ?_
  refine lv_istore (lv' := [(4, .int (56 : Int32)), (3, .int (0 : Int32)), (0, .ref (base + a0)), (1, .long a1)]) hx hb d_a_text_4 hl (by decide) rfl (fun ls hl => ?_)
  exact jx_a_text_6 C KK a0 a1 (0 : Int32) (56 : Int32) w h _ _ _ hW (lv_sub hl [2, 3, 1, 0] rfl)
abbrev b_pg_empty : ByteArray := prog_4_method_2_code
def y_pg_empty : MethodName := ⟨"AlarmForge$Program", "empty", "()V"⟩
def rm_pg_empty : Room := { frames := 0, cells := 0, slots := 0, locals := 0 }
theorem d_pg_empty_0 : decode b_pg_empty 0 = .ok (.aload_n 0, 1) := by decide +kernel
theorem d_pg_empty_1 : decode b_pg_empty 1 = .ok (.iconst 0, 1) := by decide +kernel
theorem d_pg_empty_2 : decode b_pg_empty 2 = .ok (.putfield 28, 3) := by decide +kernel
theorem d_pg_empty_5 : decode b_pg_empty 5 = .ok (.aload_n 0, 1) := by decide +kernel
theorem d_pg_empty_6 : decode b_pg_empty 6 = .ok (.iconst 0, 1) := by decide +kernel
theorem d_pg_empty_7 : decode b_pg_empty 7 = .ok (.putfield 32, 3) := by decide +kernel
theorem d_pg_empty_10 : decode b_pg_empty 10 = .ok (.return_, 1) := by decide +kernel
def f_pg_empty (a0 : Nat) (w : WW) : Option WW :=
  if kb w a0 3 = true then
    (pv w a0 3 1 (.int (0 : Int32))).bind fun w1 =>
    (pv w1 a0 3 5 (.int (0 : Int32))).bind fun w2 =>
    some w2
  else none
theorem kb_pg_empty {a0 : Nat}  {w : WW} {r : WW} (h : f_pg_empty a0 w = some r) : kb w a0 3 = true := (its h).1
set_option maxHeartbeats 4000000 in
set_option maxRecDepth 100000 in
theorem c_pg_empty (l : Launch) (D : va_G) (cA : Nat → ClassId) (base : Nat) {a0 : Nat} {w w' : WW} (h : f_pg_empty a0 w = some w') : mt l D cls (wo_tys cA) cA base y_pg_empty (Cond.code y_pg_empty b_pg_empty 1 (none) :: gt) rm_pg_empty [.ref (base + a0)] w none w' rm_pg_empty.cells rm_pg_empty.slots := by
  refine mt_start (by decide) (Nat.le_of_ble_eq_true rfl) ?_
  intro p e s m below meth c ls hx hb hr hml hown hts hlk hnm hK hG hW hl
  have C : cx b_pg_empty (none) 1 y_pg_empty.cls "empty" p s m [.ref (base + a0)].toArray meth c D cA base := ⟨hx, hb, hr, hml, hown, hts, hlk, hnm, hK, hG⟩
  have hl : lv_has ls 1 [(0, .ref (base + a0))] := hl
  unfold f_pg_empty at h
  replace h := its h
  obtain ⟨-, h⟩ := h
  refine lv_aload_n hx hb d_pg_empty_0 rfl (lv_at hl 0 rfl) ?_
  refine lv_iconst (v := (0 : Int32)) hx hb d_pg_empty_1 (by decide) ?_
  replace h := bs h
  obtain ⟨w1, hw1, h⟩ := h
  refine pf_pg_28 hx hb hts hown hK hG hW rfl rfl (pbi hw1 rfl) d_pg_empty_2 (fun H locs hW => ?_)
  refine lv_aload_n hx hb d_pg_empty_5 rfl (lv_at hl 0 rfl) ?_
  refine lv_iconst (v := (0 : Int32)) hx hb d_pg_empty_6 (by decide) ?_
  replace h := bs h
  obtain ⟨w2, hw2, h⟩ := h
  refine pf_pg_32 hx hb hts hown hK hG hW rfl rfl (pbi hw2 rfl) d_pg_empty_7 (fun H locs hW => ?_)
  cases h
  exact wo_vret hx hb hr hlk hW d_pg_empty_10
abbrev b_rd_isDigit : ByteArray := prog_5_method_10_code
def y_rd_isDigit : MethodName := ⟨"AlarmForge$Reader", "isDigit", "(C)Z"⟩
def rm_rd_isDigit : Room := { frames := 0, cells := 0, slots := 0, locals := 0 }
theorem d_rd_isDigit_0 : decode b_rd_isDigit 0 = .ok (.iload_n 0, 1) := by decide +kernel
theorem d_rd_isDigit_1 : decode b_rd_isDigit 1 = .ok (.bipush (48), 2) := by decide +kernel
theorem d_rd_isDigit_3 : decode b_rd_isDigit 3 = .ok (.if_icmp .lt (13), 3) := by decide +kernel
theorem d_rd_isDigit_6 : decode b_rd_isDigit 6 = .ok (.iload_n 0, 1) := by decide +kernel
theorem d_rd_isDigit_7 : decode b_rd_isDigit 7 = .ok (.bipush (57), 2) := by decide +kernel
theorem d_rd_isDigit_9 : decode b_rd_isDigit 9 = .ok (.if_icmp .gt (7), 3) := by decide +kernel
theorem d_rd_isDigit_12 : decode b_rd_isDigit 12 = .ok (.iconst 1, 1) := by decide +kernel
theorem d_rd_isDigit_13 : decode b_rd_isDigit 13 = .ok (.goto (4), 3) := by decide +kernel
theorem d_rd_isDigit_16 : decode b_rd_isDigit 16 = .ok (.iconst 0, 1) := by decide +kernel
theorem d_rd_isDigit_17 : decode b_rd_isDigit 17 = .ok (.ireturn, 1) := by decide +kernel
def f_rd_isDigit_17  (z0 : Int32) (w : WW) : Option (Int32 × WW) :=
  if z0 = 0 ∨ z0 = 1 then some (z0, w) else none
def f_rd_isDigit_16   (w : WW) : Option (Int32 × WW) :=
  f_rd_isDigit_17 (0 : Int32) w
def f_rd_isDigit (a0 : Int32) (w : WW) : Option (Int32 × WW) :=
  if a0 < (48 : Int32) then
    f_rd_isDigit_16 w
  else
    if (57 : Int32) < a0 then
      f_rd_isDigit_16 w
    else
      f_rd_isDigit_17 (1 : Int32) w
set_option maxHeartbeats 4000000 in
set_option maxRecDepth 100000 in
theorem j_rd_isDigit_17 {p : Program} {l : Launch} {e : Env} {s : State} {m : MethodId} {args : Array Value} {below : List Frame} {meth : Method} {c : Code} {D : va_G} {cA : Nat → ClassId} {base : Nat} {r : Int32} {w' : WW} (C : cx b_rd_isDigit (some .boolean) 1 y_rd_isDigit.cls "isDigit" p s m args meth c D cA base)   : ∀ (z0 : Int32) (w : WW), f_rd_isDigit_17 z0 w = some (r, w') → ∀ (H : Heap) (locs : List Loc) (ls : Array Slot), wo_S D cls cA base s w H locs → lv_has ls 1 [] → W p l e rm_rd_isDigit s m args below meth c H locs 0 0 (MQ below (wo_Q D cls cA base (some (.int r)) w') args s rm_rd_isDigit.cells rm_rd_isDigit.slots (wo_B base)) (F0 m 17 ls [.int z0]) := by
  obtain ⟨hx, hb, hr, hml, hown, hts, hlk, hnm, hK, hG⟩ := id C
  intro z0 w h H locs ls hW hl
  unfold f_rd_isDigit_17 at h
  replace h := its h
  obtain ⟨c2, h⟩ := h
  cases h
  exact wo_zret hx hb hr hlk hW c2 d_rd_isDigit_17
set_option maxHeartbeats 4000000 in
set_option maxRecDepth 100000 in
theorem j_rd_isDigit_16 {p : Program} {l : Launch} {e : Env} {s : State} {m : MethodId} {args : Array Value} {below : List Frame} {meth : Method} {c : Code} {D : va_G} {cA : Nat → ClassId} {base : Nat} {r : Int32} {w' : WW} (C : cx b_rd_isDigit (some .boolean) 1 y_rd_isDigit.cls "isDigit" p s m args meth c D cA base)   : ∀  (w : WW), f_rd_isDigit_16  w = some (r, w') → ∀ (H : Heap) (locs : List Loc) (ls : Array Slot), wo_S D cls cA base s w H locs → lv_has ls 1 [] → W p l e rm_rd_isDigit s m args below meth c H locs 0 0 (MQ below (wo_Q D cls cA base (some (.int r)) w') args s rm_rd_isDigit.cells rm_rd_isDigit.slots (wo_B base)) (F0 m 16 ls []) := by
  obtain ⟨hx, hb, hr, hml, hown, hts, hlk, hnm, hK, hG⟩ := id C
  intro  w h H locs ls hW hl
  unfold f_rd_isDigit_16 at h
  refine lv_iconst (v := (0 : Int32)) hx hb d_rd_isDigit_16 (by decide) ?_
  exact j_rd_isDigit_17 C (0 : Int32) w h _ _ _ hW (lv_sub hl [] rfl)
set_option maxHeartbeats 4000000 in
set_option maxRecDepth 100000 in
theorem c_rd_isDigit (l : Launch) (D : va_G) (cA : Nat → ClassId) (base : Nat) {a0 : Int32} {w w' : WW} {r : Int32} (h : f_rd_isDigit a0 w = some (r, w')) : mt l D cls (wo_tys cA) cA base y_rd_isDigit (Cond.code y_rd_isDigit b_rd_isDigit 1 (some .boolean) :: gt) rm_rd_isDigit [.int a0] w (some (.int r)) w' rm_rd_isDigit.cells rm_rd_isDigit.slots := by
  refine mt_start (by decide) (Nat.le_of_ble_eq_true rfl) ?_
  intro p e s m below meth c ls hx hb hr hml hown hts hlk hnm hK hG hW hl
  have C : cx b_rd_isDigit (some .boolean) 1 y_rd_isDigit.cls "isDigit" p s m [.int a0].toArray meth c D cA base := ⟨hx, hb, hr, hml, hown, hts, hlk, hnm, hK, hG⟩
  have hl : lv_has ls 1 [(0, .int a0)] := hl
  unfold f_rd_isDigit at h
  refine lv_iload_n hx hb d_rd_isDigit_0 rfl (lv_at hl 0 rfl) ?_
  refine lv_bipush (v := (48 : Int32)) hx hb d_rd_isDigit_1 (by decide) ?_
  refine lv_icmp_lt (tgt := 16) hx hb d_rd_isDigit_3 (by decide) (fun c1 => ?_) (fun c1 => ?_)
  · rw [if_pos c1] at h
    exact j_rd_isDigit_16 C w h _ _ _ hW (lv_sub hl [] rfl)
  · rw [if_neg c1] at h
    refine lv_iload_n hx hb d_rd_isDigit_6 rfl (lv_at hl 0 rfl) ?_
    refine lv_bipush (v := (57 : Int32)) hx hb d_rd_isDigit_7 (by decide) ?_
    refine lv_icmp_gt (tgt := 16) hx hb d_rd_isDigit_9 (by decide) (fun c3 => ?_) (fun c3 => ?_)
    · rw [if_pos c3] at h
      exact j_rd_isDigit_16 C w h _ _ _ hW (lv_sub hl [] rfl)
    · rw [if_neg c3] at h
      refine lv_iconst (v := (1 : Int32)) hx hb d_rd_isDigit_12 (by decide) ?_
      refine lv_goto (tgt := 17) hx hb d_rd_isDigit_13 (by decide) ?_
      exact j_rd_isDigit_17 C (1 : Int32) w h _ _ _ hW (lv_sub hl [] rfl)
abbrev b_rd_readNumeral : ByteArray := prog_5_method_5_code
def y_rd_readNumeral : MethodName := ⟨"AlarmForge$Reader", "readNumeral", "()V"⟩
def rm_rd_readNumeral : Room := { frames := 0, cells := 0, slots := 0, locals := 0 }
def f_rd_readNumeral (a0 : Nat) (w : WW) : Option WW := none
theorem kb_rd_readNumeral {a0 : Nat} {w : WW} {r : WW} (h : f_rd_readNumeral a0 w = some r) : kb w a0 1 = true := by cases h
theorem c_rd_readNumeral (l : Launch) (D : va_G) (cA : Nat → ClassId) (base : Nat) {a0 : Nat} {w w' : WW} (h : f_rd_readNumeral a0 w = some w') : mt l D cls (wo_tys cA) cA base y_rd_readNumeral (Cond.code y_rd_readNumeral b_rd_readNumeral 1 (none) :: gt) rm_rd_readNumeral [.ref (base + a0)] w none w' rm_rd_readNumeral.cells rm_rd_readNumeral.slots := by
  cases h
abbrev b_rd_isLetter : ByteArray := prog_5_method_11_code
def y_rd_isLetter : MethodName := ⟨"AlarmForge$Reader", "isLetter", "(C)Z"⟩
def rm_rd_isLetter : Room := { frames := 0, cells := 0, slots := 0, locals := 0 }
theorem d_rd_isLetter_0 : decode b_rd_isLetter 0 = .ok (.iload_n 0, 1) := by decide +kernel
theorem d_rd_isLetter_1 : decode b_rd_isLetter 1 = .ok (.bipush (97), 2) := by decide +kernel
theorem d_rd_isLetter_3 : decode b_rd_isLetter 3 = .ok (.if_icmp .lt (9), 3) := by decide +kernel
theorem d_rd_isLetter_6 : decode b_rd_isLetter 6 = .ok (.iload_n 0, 1) := by decide +kernel
theorem d_rd_isLetter_7 : decode b_rd_isLetter 7 = .ok (.bipush (122), 2) := by decide +kernel
theorem d_rd_isLetter_9 : decode b_rd_isLetter 9 = .ok (.if_icmp .le (15), 3) := by decide +kernel
theorem d_rd_isLetter_12 : decode b_rd_isLetter 12 = .ok (.iload_n 0, 1) := by decide +kernel
theorem d_rd_isLetter_13 : decode b_rd_isLetter 13 = .ok (.bipush (65), 2) := by decide +kernel
theorem d_rd_isLetter_15 : decode b_rd_isLetter 15 = .ok (.if_icmp .lt (13), 3) := by decide +kernel
theorem d_rd_isLetter_18 : decode b_rd_isLetter 18 = .ok (.iload_n 0, 1) := by decide +kernel
theorem d_rd_isLetter_19 : decode b_rd_isLetter 19 = .ok (.bipush (90), 2) := by decide +kernel
theorem d_rd_isLetter_21 : decode b_rd_isLetter 21 = .ok (.if_icmp .gt (7), 3) := by decide +kernel
theorem d_rd_isLetter_24 : decode b_rd_isLetter 24 = .ok (.iconst 1, 1) := by decide +kernel
theorem d_rd_isLetter_25 : decode b_rd_isLetter 25 = .ok (.goto (4), 3) := by decide +kernel
theorem d_rd_isLetter_28 : decode b_rd_isLetter 28 = .ok (.iconst 0, 1) := by decide +kernel
theorem d_rd_isLetter_29 : decode b_rd_isLetter 29 = .ok (.ireturn, 1) := by decide +kernel
def f_rd_isLetter_29  (z0 : Int32) (w : WW) : Option (Int32 × WW) :=
  if z0 = 0 ∨ z0 = 1 then some (z0, w) else none
def f_rd_isLetter_28   (w : WW) : Option (Int32 × WW) :=
  f_rd_isLetter_29 (0 : Int32) w
def f_rd_isLetter_24   (w : WW) : Option (Int32 × WW) :=
  f_rd_isLetter_29 (1 : Int32) w
def f_rd_isLetter_12  (y0 : Int32) (w : WW) : Option (Int32 × WW) :=
  if y0 < (65 : Int32) then
    f_rd_isLetter_28 w
  else
    if (90 : Int32) < y0 then
      f_rd_isLetter_28 w
    else
      f_rd_isLetter_24 w
def f_rd_isLetter (a0 : Int32) (w : WW) : Option (Int32 × WW) :=
  if a0 < (97 : Int32) then
    f_rd_isLetter_12 a0 w
  else
    if a0 ≤ (122 : Int32) then
      f_rd_isLetter_24 w
    else
      f_rd_isLetter_12 a0 w
set_option maxHeartbeats 4000000 in
set_option maxRecDepth 100000 in
theorem j_rd_isLetter_29 {p : Program} {l : Launch} {e : Env} {s : State} {m : MethodId} {args : Array Value} {below : List Frame} {meth : Method} {c : Code} {D : va_G} {cA : Nat → ClassId} {base : Nat} {r : Int32} {w' : WW} (C : cx b_rd_isLetter (some .boolean) 1 y_rd_isLetter.cls "isLetter" p s m args meth c D cA base)   : ∀ (z0 : Int32) (w : WW), f_rd_isLetter_29 z0 w = some (r, w') → ∀ (H : Heap) (locs : List Loc) (ls : Array Slot), wo_S D cls cA base s w H locs → lv_has ls 1 [] → W p l e rm_rd_isLetter s m args below meth c H locs 0 0 (MQ below (wo_Q D cls cA base (some (.int r)) w') args s rm_rd_isLetter.cells rm_rd_isLetter.slots (wo_B base)) (F0 m 29 ls [.int z0]) := by
  obtain ⟨hx, hb, hr, hml, hown, hts, hlk, hnm, hK, hG⟩ := id C
  intro z0 w h H locs ls hW hl
  unfold f_rd_isLetter_29 at h
  replace h := its h
  obtain ⟨c3, h⟩ := h
  cases h
  exact wo_zret hx hb hr hlk hW c3 d_rd_isLetter_29
set_option maxHeartbeats 4000000 in
set_option maxRecDepth 100000 in
theorem j_rd_isLetter_28 {p : Program} {l : Launch} {e : Env} {s : State} {m : MethodId} {args : Array Value} {below : List Frame} {meth : Method} {c : Code} {D : va_G} {cA : Nat → ClassId} {base : Nat} {r : Int32} {w' : WW} (C : cx b_rd_isLetter (some .boolean) 1 y_rd_isLetter.cls "isLetter" p s m args meth c D cA base)   : ∀  (w : WW), f_rd_isLetter_28  w = some (r, w') → ∀ (H : Heap) (locs : List Loc) (ls : Array Slot), wo_S D cls cA base s w H locs → lv_has ls 1 [] → W p l e rm_rd_isLetter s m args below meth c H locs 0 0 (MQ below (wo_Q D cls cA base (some (.int r)) w') args s rm_rd_isLetter.cells rm_rd_isLetter.slots (wo_B base)) (F0 m 28 ls []) := by
  obtain ⟨hx, hb, hr, hml, hown, hts, hlk, hnm, hK, hG⟩ := id C
  intro  w h H locs ls hW hl
  unfold f_rd_isLetter_28 at h
  refine lv_iconst (v := (0 : Int32)) hx hb d_rd_isLetter_28 (by decide) ?_
  exact j_rd_isLetter_29 C (0 : Int32) w h _ _ _ hW (lv_sub hl [] rfl)
set_option maxHeartbeats 4000000 in
set_option maxRecDepth 100000 in
theorem j_rd_isLetter_24 {p : Program} {l : Launch} {e : Env} {s : State} {m : MethodId} {args : Array Value} {below : List Frame} {meth : Method} {c : Code} {D : va_G} {cA : Nat → ClassId} {base : Nat} {r : Int32} {w' : WW} (C : cx b_rd_isLetter (some .boolean) 1 y_rd_isLetter.cls "isLetter" p s m args meth c D cA base)   : ∀  (w : WW), f_rd_isLetter_24  w = some (r, w') → ∀ (H : Heap) (locs : List Loc) (ls : Array Slot), wo_S D cls cA base s w H locs → lv_has ls 1 [] → W p l e rm_rd_isLetter s m args below meth c H locs 0 0 (MQ below (wo_Q D cls cA base (some (.int r)) w') args s rm_rd_isLetter.cells rm_rd_isLetter.slots (wo_B base)) (F0 m 24 ls []) := by
  obtain ⟨hx, hb, hr, hml, hown, hts, hlk, hnm, hK, hG⟩ := id C
  intro  w h H locs ls hW hl
  unfold f_rd_isLetter_24 at h
  refine lv_iconst (v := (1 : Int32)) hx hb d_rd_isLetter_24 (by decide) ?_
  refine lv_goto (tgt := 29) hx hb d_rd_isLetter_25 (by decide) ?_
  exact j_rd_isLetter_29 C (1 : Int32) w h _ _ _ hW (lv_sub hl [] rfl)
set_option maxHeartbeats 4000000 in
set_option maxRecDepth 100000 in
theorem j_rd_isLetter_12 {p : Program} {l : Launch} {e : Env} {s : State} {m : MethodId} {args : Array Value} {below : List Frame} {meth : Method} {c : Code} {D : va_G} {cA : Nat → ClassId} {base : Nat} {r : Int32} {w' : WW} (C : cx b_rd_isLetter (some .boolean) 1 y_rd_isLetter.cls "isLetter" p s m args meth c D cA base)   : ∀ (y0 : Int32) (w : WW), f_rd_isLetter_12 y0 w = some (r, w') → ∀ (H : Heap) (locs : List Loc) (ls : Array Slot), wo_S D cls cA base s w H locs → lv_has ls 1 [(0, .int y0)] → W p l e rm_rd_isLetter s m args below meth c H locs 0 0 (MQ below (wo_Q D cls cA base (some (.int r)) w') args s rm_rd_isLetter.cells rm_rd_isLetter.slots (wo_B base)) (F0 m 12 ls []) := by
  obtain ⟨hx, hb, hr, hml, hown, hts, hlk, hnm, hK, hG⟩ := id C
  intro y0 w h H locs ls hW hl
  unfold f_rd_isLetter_12 at h
  refine lv_iload_n hx hb d_rd_isLetter_12 rfl (lv_at hl 0 rfl) ?_
  refine lv_bipush (v := (65 : Int32)) hx hb d_rd_isLetter_13 (by decide) ?_
  refine lv_icmp_lt (tgt := 28) hx hb d_rd_isLetter_15 (by decide) (fun c2 => ?_) (fun c2 => ?_)
  · rw [if_pos c2] at h
    exact j_rd_isLetter_28 C w h _ _ _ hW (lv_sub hl [] rfl)
  · rw [if_neg c2] at h
    refine lv_iload_n hx hb d_rd_isLetter_18 rfl (lv_at hl 0 rfl) ?_
    refine lv_bipush (v := (90 : Int32)) hx hb d_rd_isLetter_19 (by decide) ?_
    refine lv_icmp_gt (tgt := 28) hx hb d_rd_isLetter_21 (by decide) (fun c4 => ?_) (fun c4 => ?_)
    · rw [if_pos c4] at h
      exact j_rd_isLetter_28 C w h _ _ _ hW (lv_sub hl [] rfl)
    · rw [if_neg c4] at h
      exact j_rd_isLetter_24 C w h _ _ _ hW (lv_sub hl [] rfl)
set_option maxHeartbeats 4000000 in
set_option maxRecDepth 100000 in
theorem c_rd_isLetter (l : Launch) (D : va_G) (cA : Nat → ClassId) (base : Nat) {a0 : Int32} {w w' : WW} {r : Int32} (h : f_rd_isLetter a0 w = some (r, w')) : mt l D cls (wo_tys cA) cA base y_rd_isLetter (Cond.code y_rd_isLetter b_rd_isLetter 1 (some .boolean) :: gt) rm_rd_isLetter [.int a0] w (some (.int r)) w' rm_rd_isLetter.cells rm_rd_isLetter.slots := by
  refine mt_start (by decide) (Nat.le_of_ble_eq_true rfl) ?_
  intro p e s m below meth c ls hx hb hr hml hown hts hlk hnm hK hG hW hl
  have C : cx b_rd_isLetter (some .boolean) 1 y_rd_isLetter.cls "isLetter" p s m [.int a0].toArray meth c D cA base := ⟨hx, hb, hr, hml, hown, hts, hlk, hnm, hK, hG⟩
  have hl : lv_has ls 1 [(0, .int a0)] := hl
  unfold f_rd_isLetter at h
  refine lv_iload_n hx hb d_rd_isLetter_0 rfl (lv_at hl 0 rfl) ?_
  refine lv_bipush (v := (97 : Int32)) hx hb d_rd_isLetter_1 (by decide) ?_
  refine lv_icmp_lt (tgt := 12) hx hb d_rd_isLetter_3 (by decide) (fun c1 => ?_) (fun c1 => ?_)
  · rw [if_pos c1] at h
    exact j_rd_isLetter_12 C a0 w h _ _ _ hW (lv_sub hl [0] rfl)
  · rw [if_neg c1] at h
    refine lv_iload_n hx hb d_rd_isLetter_6 rfl (lv_at hl 0 rfl) ?_
    refine lv_bipush (v := (122 : Int32)) hx hb d_rd_isLetter_7 (by decide) ?_
    refine lv_icmp_le (tgt := 24) hx hb d_rd_isLetter_9 (by decide) (fun c5 => ?_) (fun c5 => ?_)
    · rw [if_pos c5] at h
      exact j_rd_isLetter_24 C w h _ _ _ hW (lv_sub hl [] rfl)
    · rw [if_neg c5] at h
      exact j_rd_isLetter_12 C a0 w h _ _ _ hW (lv_sub hl [0] rfl)
abbrev b_rd_readWord : ByteArray := prog_5_method_6_code
def y_rd_readWord : MethodName := ⟨"AlarmForge$Reader", "readWord", "()V"⟩
def rm_rd_readWord : Room := { frames := 0, cells := 0, slots := 0, locals := 0 }
def f_rd_readWord (a0 : Nat) (w : WW) : Option WW := none
theorem kb_rd_readWord {a0 : Nat} {w : WW} {r : WW} (h : f_rd_readWord a0 w = some r) : kb w a0 1 = true := by cases h
theorem c_rd_readWord (l : Launch) (D : va_G) (cA : Nat → ClassId) (base : Nat) {a0 : Nat} {w w' : WW} (h : f_rd_readWord a0 w = some w') : mt l D cls (wo_tys cA) cA base y_rd_readWord (Cond.code y_rd_readWord b_rd_readWord 2 (none) :: gt) rm_rd_readWord [.ref (base + a0)] w none w' rm_rd_readWord.cells rm_rd_readWord.slots := by
  cases h
abbrev b_rd_readSign : ByteArray := prog_5_method_9_code
def y_rd_readSign : MethodName := ⟨"AlarmForge$Reader", "readSign", "()V"⟩
def rm_rd_readSign : Room := { frames := 0, cells := 0, slots := 0, locals := 0 }
def f_rd_readSign (a0 : Nat) (w : WW) : Option WW := none
theorem kb_rd_readSign {a0 : Nat} {w : WW} {r : WW} (h : f_rd_readSign a0 w = some r) : kb w a0 1 = true := by cases h
theorem c_rd_readSign (l : Launch) (D : va_G) (cA : Nat → ClassId) (base : Nat) {a0 : Nat} {w w' : WW} (h : f_rd_readSign a0 w = some w') : mt l D cls (wo_tys cA) cA base y_rd_readSign (Cond.code y_rd_readSign b_rd_readSign 3 (none) :: gt) rm_rd_readSign [.ref (base + a0)] w none w' rm_rd_readSign.cells rm_rd_readSign.slots := by
  cases h
theorem cs_rd_44 {p : Program} {l : Launch} {e : Env} {R : Room} {s : State} {m : MethodId} {args : Array Value} {below : List Frame} {meth : Method} {c : Code} {H : Heap} {locs : List Loc} {cells slots : Nat} {Q : State → Prop} {D : va_G} {cA : Nat → ClassId} {base : Nat} {w w' : WW} {cc : ByteArray} {pc nL : Nat} {ls : Array Slot} {rest st0 As : List Value} {ov : Option Value} (hx : p.tables.exec = Jvm.exec) (hb : c.code = cc) (hml : c.maxLocals = nL) (hown : s.vm.findClass Rc_rd = some m.cls) (hts : ∀ w ∈ gt, w.before args s = true) (hK : va_K D cls (wo_tys cA) s) (hG : wo_G base s) (hW : wo_S D cls cA base s w H locs) (hM : mt l D cls (wo_tys cA) cA base y_rd_isDigit (Cond.code y_rd_isDigit b_rd_isDigit 1 (some .boolean) :: gt) rm_rd_isDigit (As) w ov w' rm_rd_isDigit.cells rm_rd_isDigit.slots) (hR : rm_rd_isDigit.frames + 1 ≤ R.frames ∧ 8 + (1 + 11) + rm_rd_isDigit.locals ≤ R.locals) (hf : cells + rm_rd_isDigit.cells ≤ R.cells ∧ slots + rm_rd_isDigit.slots ≤ R.slots) (hn : As.length = 1) (hsz : ls.size = nL) (hst : st0 = As.reverse ++ rest) (hcat : (rest.map fun v => v.category).sum ≤ 8) (hdg : decode cc pc = .ok (.invokestatic 44, 3)) (kk : ∀ (H1 : Heap) (locs1 : List Loc), wo_S D cls cA base s w' H1 locs1 → W p l e R s m args below meth c H1 locs1 (cells + rm_rd_isDigit.cells) (slots + rm_rd_isDigit.slots) Q (F0 m (pc + 3) ls (ov.toList ++ rest))) : W p l e R s m args below meth c H locs cells slots Q (F0 m pc ls st0) :=
  wo_callS hx hb hml hown hts hK hG hW hM (gt_of (i := 502) (by decide +kernel) (by decide +kernel)) (gt_of (i := 503) (by decide +kernel) (by decide +kernel)) (gt_of (i := 3) (by decide +kernel) (by decide +kernel)) (gt_of (i := 504) (by decide +kernel) (by decide +kernel)) (by decide +kernel) hR hf hn hsz hst hcat hdg kk
theorem cv_rd_48 {p : Program} {l : Launch} {e : Env} {R : Room} {s : State} {m : MethodId} {args : Array Value} {below : List Frame} {meth : Method} {c : Code} {H : Heap} {locs : List Loc} {cells slots : Nat} {Q : State → Prop} {D : va_G} {cA : Nat → ClassId} {base : Nat} {w w' : WW} {cc : ByteArray} {pc nL : Nat} {ls : Array Slot} {rest st0 As : List Value} {ov : Option Value} {b : Nat} (hx : p.tables.exec = Jvm.exec) (hb : c.code = cc) (hml : c.maxLocals = nL) (hown : s.vm.findClass Rc_rd = some m.cls) (hts : ∀ w ∈ gt, w.before args s = true) (hK : va_K D cls (wo_tys cA) s) (hG : wo_G base s) (hW : wo_S D cls cA base s w H locs) (hM : mt l D cls (wo_tys cA) cA base y_rd_readNumeral (Cond.code y_rd_readNumeral b_rd_readNumeral 1 (none) :: gt) rm_rd_readNumeral (.ref (base + b) :: As) w ov w' rm_rd_readNumeral.cells rm_rd_readNumeral.slots) (hkb : kb w b 1 = true) (hR : rm_rd_readNumeral.frames + 1 ≤ R.frames ∧ 8 + (1 + 11) + rm_rd_readNumeral.locals ≤ R.locals) (hf : cells + rm_rd_readNumeral.cells ≤ R.cells ∧ slots + rm_rd_readNumeral.slots ≤ R.slots) (hn : As.length = 0) (hsz : ls.size = nL) (hst : st0 = As.reverse ++ .ref (base + b) :: rest) (hcat : (rest.map fun v => v.category).sum ≤ 8) (hdg : decode cc pc = .ok (.invokevirtual 48, 3)) (kk : ∀ (H1 : Heap) (locs1 : List Loc), wo_S D cls cA base s w' H1 locs1 → W p l e R s m args below meth c H1 locs1 (cells + rm_rd_readNumeral.cells) (slots + rm_rd_readNumeral.slots) Q (F0 m (pc + 3) ls (ov.toList ++ rest))) : W p l e R s m args below meth c H locs cells slots Q (F0 m pc ls st0) :=
  wo_callV (C := Rc_rd) hx hb hml hown hts hK hG hW hM hkb rfl (gt_of (i := 505) (by decide +kernel) (by decide +kernel)) (gt_of (i := 507) (by decide +kernel) (by decide +kernel)) (gt_sel (i := 2) (by decide +kernel) (by decide +kernel)) (gt_of (i := 3) (by decide +kernel) (by decide +kernel)) (gt_of (i := 508) (by decide +kernel) (by decide +kernel)) (by decide +kernel) hR hf hn hsz hst hcat hdg kk
theorem cs_rd_51 {p : Program} {l : Launch} {e : Env} {R : Room} {s : State} {m : MethodId} {args : Array Value} {below : List Frame} {meth : Method} {c : Code} {H : Heap} {locs : List Loc} {cells slots : Nat} {Q : State → Prop} {D : va_G} {cA : Nat → ClassId} {base : Nat} {w w' : WW} {cc : ByteArray} {pc nL : Nat} {ls : Array Slot} {rest st0 As : List Value} {ov : Option Value} (hx : p.tables.exec = Jvm.exec) (hb : c.code = cc) (hml : c.maxLocals = nL) (hown : s.vm.findClass Rc_rd = some m.cls) (hts : ∀ w ∈ gt, w.before args s = true) (hK : va_K D cls (wo_tys cA) s) (hG : wo_G base s) (hW : wo_S D cls cA base s w H locs) (hM : mt l D cls (wo_tys cA) cA base y_rd_isLetter (Cond.code y_rd_isLetter b_rd_isLetter 1 (some .boolean) :: gt) rm_rd_isLetter (As) w ov w' rm_rd_isLetter.cells rm_rd_isLetter.slots) (hR : rm_rd_isLetter.frames + 1 ≤ R.frames ∧ 8 + (1 + 11) + rm_rd_isLetter.locals ≤ R.locals) (hf : cells + rm_rd_isLetter.cells ≤ R.cells ∧ slots + rm_rd_isLetter.slots ≤ R.slots) (hn : As.length = 1) (hsz : ls.size = nL) (hst : st0 = As.reverse ++ rest) (hcat : (rest.map fun v => v.category).sum ≤ 8) (hdg : decode cc pc = .ok (.invokestatic 51, 3)) (kk : ∀ (H1 : Heap) (locs1 : List Loc), wo_S D cls cA base s w' H1 locs1 → W p l e R s m args below meth c H1 locs1 (cells + rm_rd_isLetter.cells) (slots + rm_rd_isLetter.slots) Q (F0 m (pc + 3) ls (ov.toList ++ rest))) : W p l e R s m args below meth c H locs cells slots Q (F0 m pc ls st0) :=
  wo_callS hx hb hml hown hts hK hG hW hM (gt_of (i := 509) (by decide +kernel) (by decide +kernel)) (gt_of (i := 510) (by decide +kernel) (by decide +kernel)) (gt_of (i := 3) (by decide +kernel) (by decide +kernel)) (gt_of (i := 511) (by decide +kernel) (by decide +kernel)) (by decide +kernel) hR hf hn hsz hst hcat hdg kk
theorem cv_rd_54 {p : Program} {l : Launch} {e : Env} {R : Room} {s : State} {m : MethodId} {args : Array Value} {below : List Frame} {meth : Method} {c : Code} {H : Heap} {locs : List Loc} {cells slots : Nat} {Q : State → Prop} {D : va_G} {cA : Nat → ClassId} {base : Nat} {w w' : WW} {cc : ByteArray} {pc nL : Nat} {ls : Array Slot} {rest st0 As : List Value} {ov : Option Value} {b : Nat} (hx : p.tables.exec = Jvm.exec) (hb : c.code = cc) (hml : c.maxLocals = nL) (hown : s.vm.findClass Rc_rd = some m.cls) (hts : ∀ w ∈ gt, w.before args s = true) (hK : va_K D cls (wo_tys cA) s) (hG : wo_G base s) (hW : wo_S D cls cA base s w H locs) (hM : mt l D cls (wo_tys cA) cA base y_rd_readWord (Cond.code y_rd_readWord b_rd_readWord 2 (none) :: gt) rm_rd_readWord (.ref (base + b) :: As) w ov w' rm_rd_readWord.cells rm_rd_readWord.slots) (hkb : kb w b 1 = true) (hR : rm_rd_readWord.frames + 1 ≤ R.frames ∧ 8 + (2 + 11) + rm_rd_readWord.locals ≤ R.locals) (hf : cells + rm_rd_readWord.cells ≤ R.cells ∧ slots + rm_rd_readWord.slots ≤ R.slots) (hn : As.length = 0) (hsz : ls.size = nL) (hst : st0 = As.reverse ++ .ref (base + b) :: rest) (hcat : (rest.map fun v => v.category).sum ≤ 8) (hdg : decode cc pc = .ok (.invokevirtual 54, 3)) (kk : ∀ (H1 : Heap) (locs1 : List Loc), wo_S D cls cA base s w' H1 locs1 → W p l e R s m args below meth c H1 locs1 (cells + rm_rd_readWord.cells) (slots + rm_rd_readWord.slots) Q (F0 m (pc + 3) ls (ov.toList ++ rest))) : W p l e R s m args below meth c H locs cells slots Q (F0 m pc ls st0) :=
  wo_callV (C := Rc_rd) hx hb hml hown hts hK hG hW hM hkb rfl (gt_of (i := 512) (by decide +kernel) (by decide +kernel)) (gt_of (i := 514) (by decide +kernel) (by decide +kernel)) (gt_sel (i := 3) (by decide +kernel) (by decide +kernel)) (gt_of (i := 3) (by decide +kernel) (by decide +kernel)) (gt_of (i := 515) (by decide +kernel) (by decide +kernel)) (by decide +kernel) hR hf hn hsz hst hcat hdg kk
theorem cv_rd_57 {p : Program} {l : Launch} {e : Env} {R : Room} {s : State} {m : MethodId} {args : Array Value} {below : List Frame} {meth : Method} {c : Code} {H : Heap} {locs : List Loc} {cells slots : Nat} {Q : State → Prop} {D : va_G} {cA : Nat → ClassId} {base : Nat} {w w' : WW} {cc : ByteArray} {pc nL : Nat} {ls : Array Slot} {rest st0 As : List Value} {ov : Option Value} {b : Nat} (hx : p.tables.exec = Jvm.exec) (hb : c.code = cc) (hml : c.maxLocals = nL) (hown : s.vm.findClass Rc_rd = some m.cls) (hts : ∀ w ∈ gt, w.before args s = true) (hK : va_K D cls (wo_tys cA) s) (hG : wo_G base s) (hW : wo_S D cls cA base s w H locs) (hM : mt l D cls (wo_tys cA) cA base y_rd_readSign (Cond.code y_rd_readSign b_rd_readSign 3 (none) :: gt) rm_rd_readSign (.ref (base + b) :: As) w ov w' rm_rd_readSign.cells rm_rd_readSign.slots) (hkb : kb w b 1 = true) (hR : rm_rd_readSign.frames + 1 ≤ R.frames ∧ 8 + (3 + 11) + rm_rd_readSign.locals ≤ R.locals) (hf : cells + rm_rd_readSign.cells ≤ R.cells ∧ slots + rm_rd_readSign.slots ≤ R.slots) (hn : As.length = 0) (hsz : ls.size = nL) (hst : st0 = As.reverse ++ .ref (base + b) :: rest) (hcat : (rest.map fun v => v.category).sum ≤ 8) (hdg : decode cc pc = .ok (.invokevirtual 57, 3)) (kk : ∀ (H1 : Heap) (locs1 : List Loc), wo_S D cls cA base s w' H1 locs1 → W p l e R s m args below meth c H1 locs1 (cells + rm_rd_readSign.cells) (slots + rm_rd_readSign.slots) Q (F0 m (pc + 3) ls (ov.toList ++ rest))) : W p l e R s m args below meth c H locs cells slots Q (F0 m pc ls st0) :=
  wo_callV (C := Rc_rd) hx hb hml hown hts hK hG hW hM hkb rfl (gt_of (i := 577) (by decide +kernel) (by decide +kernel)) (gt_of (i := 579) (by decide +kernel) (by decide +kernel)) (gt_sel (i := 6) (by decide +kernel) (by decide +kernel)) (gt_of (i := 3) (by decide +kernel) (by decide +kernel)) (gt_of (i := 580) (by decide +kernel) (by decide +kernel)) (by decide +kernel) hR hf hn hsz hst hcat hdg kk
abbrev b_rd_readToken : ByteArray := prog_5_method_4_code
def y_rd_readToken : MethodName := ⟨"AlarmForge$Reader", "readToken", "()V"⟩
def rm_rd_readToken : Room := { frames := 1, cells := 0, slots := 0, locals := 22 }
theorem d_rd_readToken_0 : decode b_rd_readToken 0 = .ok (.aload_n 0, 1) := by decide +kernel
theorem d_rd_readToken_1 : decode b_rd_readToken 1 = .ok (.getfield 29, 3) := by decide +kernel
theorem d_rd_readToken_4 : decode b_rd_readToken 4 = .ok (.aload_n 0, 1) := by decide +kernel
theorem d_rd_readToken_5 : decode b_rd_readToken 5 = .ok (.getfield 25, 3) := by decide +kernel
theorem d_rd_readToken_8 : decode b_rd_readToken 8 = .ok (.if_icmp .ge (44), 3) := by decide +kernel
theorem d_rd_readToken_11 : decode b_rd_readToken 11 = .ok (.aload_n 0, 1) := by decide +kernel
theorem d_rd_readToken_12 : decode b_rd_readToken 12 = .ok (.getfield 9, 3) := by decide +kernel
theorem d_rd_readToken_15 : decode b_rd_readToken 15 = .ok (.aload_n 0, 1) := by decide +kernel
theorem d_rd_readToken_16 : decode b_rd_readToken 16 = .ok (.getfield 29, 3) := by decide +kernel
theorem d_rd_readToken_19 : decode b_rd_readToken 19 = .ok (.caload, 1) := by decide +kernel
theorem d_rd_readToken_20 : decode b_rd_readToken 20 = .ok (.bipush (32), 2) := by decide +kernel
theorem d_rd_readToken_22 : decode b_rd_readToken 22 = .ok (.if_icmp .eq (17), 3) := by decide +kernel
theorem d_rd_readToken_25 : decode b_rd_readToken 25 = .ok (.aload_n 0, 1) := by decide +kernel
theorem d_rd_readToken_26 : decode b_rd_readToken 26 = .ok (.getfield 9, 3) := by decide +kernel
theorem d_rd_readToken_29 : decode b_rd_readToken 29 = .ok (.aload_n 0, 1) := by decide +kernel
theorem d_rd_readToken_30 : decode b_rd_readToken 30 = .ok (.getfield 29, 3) := by decide +kernel
theorem d_rd_readToken_33 : decode b_rd_readToken 33 = .ok (.caload, 1) := by decide +kernel
theorem d_rd_readToken_34 : decode b_rd_readToken 34 = .ok (.bipush (10), 2) := by decide +kernel
theorem d_rd_readToken_36 : decode b_rd_readToken 36 = .ok (.if_icmp .ne (16), 3) := by decide +kernel
theorem d_rd_readToken_39 : decode b_rd_readToken 39 = .ok (.aload_n 0, 1) := by decide +kernel
theorem d_rd_readToken_40 : decode b_rd_readToken 40 = .ok (.dup, 1) := by decide +kernel
theorem d_rd_readToken_41 : decode b_rd_readToken 41 = .ok (.getfield 29, 3) := by decide +kernel
theorem d_rd_readToken_44 : decode b_rd_readToken 44 = .ok (.iconst 1, 1) := by decide +kernel
theorem d_rd_readToken_45 : decode b_rd_readToken 45 = .ok (.iadd, 1) := by decide +kernel
theorem d_rd_readToken_46 : decode b_rd_readToken 46 = .ok (.putfield 29, 3) := by decide +kernel
theorem d_rd_readToken_49 : decode b_rd_readToken 49 = .ok (.goto (-49), 3) := by decide +kernel
theorem d_rd_readToken_52 : decode b_rd_readToken 52 = .ok (.aload_n 0, 1) := by decide +kernel
theorem d_rd_readToken_53 : decode b_rd_readToken 53 = .ok (.aload_n 0, 1) := by decide +kernel
theorem d_rd_readToken_54 : decode b_rd_readToken 54 = .ok (.getfield 29, 3) := by decide +kernel
theorem d_rd_readToken_57 : decode b_rd_readToken 57 = .ok (.putfield 38, 3) := by decide +kernel
theorem d_rd_readToken_60 : decode b_rd_readToken 60 = .ok (.aload_n 0, 1) := by decide +kernel
theorem d_rd_readToken_61 : decode b_rd_readToken 61 = .ok (.iconst 0, 1) := by decide +kernel
theorem d_rd_readToken_62 : decode b_rd_readToken 62 = .ok (.putfield 41, 3) := by decide +kernel
theorem d_rd_readToken_65 : decode b_rd_readToken 65 = .ok (.aload_n 0, 1) := by decide +kernel
theorem d_rd_readToken_66 : decode b_rd_readToken 66 = .ok (.getfield 29, 3) := by decide +kernel
theorem d_rd_readToken_69 : decode b_rd_readToken 69 = .ok (.aload_n 0, 1) := by decide +kernel
theorem d_rd_readToken_70 : decode b_rd_readToken 70 = .ok (.getfield 25, 3) := by decide +kernel
theorem d_rd_readToken_73 : decode b_rd_readToken 73 = .ok (.if_icmp .lt (11), 3) := by decide +kernel
theorem d_rd_readToken_76 : decode b_rd_readToken 76 = .ok (.aload_n 0, 1) := by decide +kernel
theorem d_rd_readToken_77 : decode b_rd_readToken 77 = .ok (.iconst 0, 1) := by decide +kernel
theorem d_rd_readToken_78 : decode b_rd_readToken 78 = .ok (.putfield 32, 3) := by decide +kernel
theorem d_rd_readToken_81 : decode b_rd_readToken 81 = .ok (.goto (51), 3) := by decide +kernel
theorem d_rd_readToken_84 : decode b_rd_readToken 84 = .ok (.aload_n 0, 1) := by decide +kernel
theorem d_rd_readToken_85 : decode b_rd_readToken 85 = .ok (.getfield 9, 3) := by decide +kernel
theorem d_rd_readToken_88 : decode b_rd_readToken 88 = .ok (.aload_n 0, 1) := by decide +kernel
theorem d_rd_readToken_89 : decode b_rd_readToken 89 = .ok (.getfield 29, 3) := by decide +kernel
theorem d_rd_readToken_92 : decode b_rd_readToken 92 = .ok (.caload, 1) := by decide +kernel
theorem d_rd_readToken_93 : decode b_rd_readToken 93 = .ok (.invokestatic 44, 3) := by decide +kernel
theorem d_rd_readToken_96 : decode b_rd_readToken 96 = .ok (.ifCond .eq (10), 3) := by decide +kernel
theorem d_rd_readToken_99 : decode b_rd_readToken 99 = .ok (.aload_n 0, 1) := by decide +kernel
theorem d_rd_readToken_100 : decode b_rd_readToken 100 = .ok (.invokevirtual 48, 3) := by decide +kernel
theorem d_rd_readToken_103 : decode b_rd_readToken 103 = .ok (.goto (29), 3) := by decide +kernel
theorem d_rd_readToken_106 : decode b_rd_readToken 106 = .ok (.aload_n 0, 1) := by decide +kernel
theorem d_rd_readToken_107 : decode b_rd_readToken 107 = .ok (.getfield 9, 3) := by decide +kernel
theorem d_rd_readToken_110 : decode b_rd_readToken 110 = .ok (.aload_n 0, 1) := by decide +kernel
theorem d_rd_readToken_111 : decode b_rd_readToken 111 = .ok (.getfield 29, 3) := by decide +kernel
theorem d_rd_readToken_114 : decode b_rd_readToken 114 = .ok (.caload, 1) := by decide +kernel
theorem d_rd_readToken_115 : decode b_rd_readToken 115 = .ok (.invokestatic 51, 3) := by decide +kernel
theorem d_rd_readToken_118 : decode b_rd_readToken 118 = .ok (.ifCond .eq (10), 3) := by decide +kernel
theorem d_rd_readToken_121 : decode b_rd_readToken 121 = .ok (.aload_n 0, 1) := by decide +kernel
theorem d_rd_readToken_122 : decode b_rd_readToken 122 = .ok (.invokevirtual 54, 3) := by decide +kernel
theorem d_rd_readToken_125 : decode b_rd_readToken 125 = .ok (.goto (7), 3) := by decide +kernel
theorem d_rd_readToken_128 : decode b_rd_readToken 128 = .ok (.aload_n 0, 1) := by decide +kernel
theorem d_rd_readToken_129 : decode b_rd_readToken 129 = .ok (.invokevirtual 57, 3) := by decide +kernel
theorem d_rd_readToken_132 : decode b_rd_readToken 132 = .ok (.return_, 1) := by decide +kernel
def f_rd_readToken_132   (w : WW) : Option WW :=
  some w
def f_rd_readToken_52  (y0 : Nat) (w : WW) : Option WW :=
  (gI w y0 1 5).bind fun x4 =>
  (pv w y0 1 7 (.int x4)).bind fun w5 =>
  (pv w5 y0 1 8 (.int (0 : Int32))).bind fun w6 =>
  (gI w6 y0 1 5).bind fun x7 =>
  (gI w6 y0 1 4).bind fun x8 =>
  if x7 < x8 then
    (gN w6 y0 1 0).bind fun x10 =>
    (gI w6 y0 1 5).bind fun x11 =>
    (rI w6 x10 3 x11).bind fun x12 =>
    bd2 (f_rd_isDigit x12 w6) fun x14 w13 =>
    if x14 = 0 then
      (gN w13 y0 1 0).bind fun x16 =>
      (gI w13 y0 1 5).bind fun x17 =>
      (rI w13 x16 3 x17).bind fun x18 =>
      bd2 (f_rd_isLetter x18 w13) fun x20 w19 =>
      if x20 = 0 then
        (f_rd_readSign y0 w19).bind fun w22 =>
        f_rd_readToken_132 w22
      else
        (f_rd_readWord y0 w19).bind fun w23 =>
        f_rd_readToken_132 w23
    else
      (f_rd_readNumeral y0 w13).bind fun w24 =>
      f_rd_readToken_132 w24
  else
    (pv w6 y0 1 6 (.int (0 : Int32))).bind fun w25 =>
    f_rd_readToken_132 w25
def f_rd_readToken_39 (k_0 : Nat → WW → Option WW) (y0 : Nat) (w : WW) : Option WW :=
  (gI w y0 1 5).bind fun x30 =>
  (pv w y0 1 5 (.int (x30 + (1 : Int32)))).bind fun w31 =>
  k_0 y0 w31
def f_rd_readToken_0  : Nat → Nat → WW → Option WW
  | 0, _, _ => none
  | n + 1, y0, w =>
    (gI w y0 1 5).bind fun x1 =>
    (gI w y0 1 4).bind fun x2 =>
    if x2 ≤ x1 then
      f_rd_readToken_52 y0 w
    else
      (gN w y0 1 0).bind fun x26 =>
      (gI w y0 1 5).bind fun x27 =>
      (rI w x26 3 x27).bind fun x28 =>
      if x28 = (32 : Int32) then
        f_rd_readToken_39 (f_rd_readToken_0 n) y0 w
      else
        (gN w y0 1 0).bind fun x32 =>
        (gI w y0 1 5).bind fun x33 =>
        (rI w x32 3 x33).bind fun x34 =>
        if x34 = (10 : Int32) then
          f_rd_readToken_39 (f_rd_readToken_0 n) y0 w
        else
          f_rd_readToken_52 y0 w
def f_rd_readToken (a0 : Nat) (w : WW) : Option WW :=
  if kb w a0 1 = true then
    f_rd_readToken_0 KK a0 w
  else none
theorem kb_rd_readToken {a0 : Nat}  {w : WW} {r : WW} (h : f_rd_readToken a0 w = some r) : kb w a0 1 = true := (its h).1
set_option maxHeartbeats 4000000 in
set_option maxRecDepth 100000 in
theorem j_rd_readToken_132 {p : Program} {l : Launch} {e : Env} {s : State} {m : MethodId} {args : Array Value} {below : List Frame} {meth : Method} {c : Code} {D : va_G} {cA : Nat → ClassId} {base : Nat} {w' : WW} (C : cx b_rd_readToken (none) 1 y_rd_readToken.cls "readToken" p s m args meth c D cA base)   : ∀  (w : WW), f_rd_readToken_132  w = some w' → ∀ (H : Heap) (locs : List Loc) (ls : Array Slot), wo_S D cls cA base s w H locs → lv_has ls 1 [] → W p l e rm_rd_readToken s m args below meth c H locs 0 0 (MQ below (wo_Q D cls cA base none w') args s rm_rd_readToken.cells rm_rd_readToken.slots (wo_B base)) (F0 m 132 ls []) := by
  obtain ⟨hx, hb, hr, hml, hown, hts, hlk, hnm, hK, hG⟩ := id C
  intro  w h H locs ls hW hl
  unfold f_rd_readToken_132 at h
  cases h
  exact wo_vret hx hb hr hlk hW d_rd_readToken_132
set_option maxHeartbeats 4000000 in
set_option maxRecDepth 100000 in
theorem j_rd_readToken_52 {p : Program} {l : Launch} {e : Env} {s : State} {m : MethodId} {args : Array Value} {below : List Frame} {meth : Method} {c : Code} {D : va_G} {cA : Nat → ClassId} {base : Nat} {w' : WW} (C : cx b_rd_readToken (none) 1 y_rd_readToken.cls "readToken" p s m args meth c D cA base)   : ∀ (y0 : Nat) (w : WW), f_rd_readToken_52 y0 w = some w' → ∀ (H : Heap) (locs : List Loc) (ls : Array Slot), wo_S D cls cA base s w H locs → lv_has ls 1 [(0, .ref (base + y0))] → W p l e rm_rd_readToken s m args below meth c H locs 0 0 (MQ below (wo_Q D cls cA base none w') args s rm_rd_readToken.cells rm_rd_readToken.slots (wo_B base)) (F0 m 52 ls []) := by
  obtain ⟨hx, hb, hr, hml, hown, hts, hlk, hnm, hK, hG⟩ := id C
  intro y0 w h H locs ls hW hl
  unfold f_rd_readToken_52 at h
  refine lv_aload_n hx hb d_rd_readToken_52 rfl (lv_at hl 0 rfl) ?_
  refine lv_aload_n hx hb d_rd_readToken_53 rfl (lv_at hl 0 rfl) ?_
  replace h := bs h
  obtain ⟨x4, hx4, h⟩ := h
  refine gf_rd_29 hx hb hts hown hK hG hW (gI_s hx4) d_rd_readToken_54 ?_
  replace h := bs h
  obtain ⟨w5, hw5, h⟩ := h
  refine pf_rd_38 hx hb hts hown hK hG hW rfl rfl (pbi hw5 rfl) d_rd_readToken_57 (fun H locs hW => ?_)
  refine lv_aload_n hx hb d_rd_readToken_60 rfl (lv_at hl 0 rfl) ?_
  refine lv_iconst (v := (0 : Int32)) hx hb d_rd_readToken_61 (by decide) ?_
  replace h := bs h
  obtain ⟨w6, hw6, h⟩ := h
  refine pf_rd_41 hx hb hts hown hK hG hW rfl rfl (pbi hw6 rfl) d_rd_readToken_62 (fun H locs hW => ?_)
  refine lv_aload_n hx hb d_rd_readToken_65 rfl (lv_at hl 0 rfl) ?_
  replace h := bs h
  obtain ⟨x7, hx7, h⟩ := h
  refine gf_rd_29 hx hb hts hown hK hG hW (gI_s hx7) d_rd_readToken_66 ?_
  refine lv_aload_n hx hb d_rd_readToken_69 rfl (lv_at hl 0 rfl) ?_
  replace h := bs h
  obtain ⟨x8, hx8, h⟩ := h
  refine gf_rd_25 hx hb hts hown hK hG hW (gI_s hx8) d_rd_readToken_70 ?_
  refine lv_icmp_lt (tgt := 84) hx hb d_rd_readToken_73 (by decide) (fun c9 => ?_) (fun c9 => ?_)
  · rw [if_pos c9] at h
    refine lv_aload_n hx hb d_rd_readToken_84 rfl (lv_at hl 0 rfl) ?_
    replace h := bs h
    obtain ⟨x10, hx10, h⟩ := h
    refine gf_rd_9 hx hb hts hown hK hG hW (gN_s hx10) d_rd_readToken_85 ?_
    refine lv_aload_n hx hb d_rd_readToken_88 rfl (lv_at hl 0 rfl) ?_
    replace h := bs h
    obtain ⟨x11, hx11, h⟩ := h
    refine gf_rd_29 hx hb hts hown hK hG hW (gI_s hx11) d_rd_readToken_89 ?_
    replace h := bs h
    obtain ⟨x12, hx12, h⟩ := h
    refine wo_cald hx hb hK hW (t := 3) rfl hx12 d_rd_readToken_92 ?_
    replace h := bs2 h
    obtain ⟨x14, w13, hw13, h⟩ := h
    refine cs_rd_44 (As := [.int x12]) (rest := []) hx hb hml hown hts hK hG hW (c_rd_isDigit l D cA base hw13) ⟨Nat.le_of_ble_eq_true rfl, Nat.le_of_ble_eq_true rfl⟩ ⟨Nat.le_of_ble_eq_true rfl, Nat.le_of_ble_eq_true rfl⟩ rfl hl.1 rfl (Nat.le_of_ble_eq_true rfl) d_rd_readToken_93 (fun H locs hW => ?_)
    refine lv_if_eq (tgt := 106) hx hb d_rd_readToken_96 (by decide) (fun c15 => ?_) (fun c15 => ?_)
    · rw [if_pos c15] at h
      refine lv_aload_n hx hb d_rd_readToken_106 rfl (lv_at hl 0 rfl) ?_
      replace h := bs h
      obtain ⟨x16, hx16, h⟩ := h
      refine gf_rd_9 hx hb hts hown hK hG hW (gN_s hx16) d_rd_readToken_107 ?_
      refine lv_aload_n hx hb d_rd_readToken_110 rfl (lv_at hl 0 rfl) ?_
      replace h := bs h
      obtain ⟨x17, hx17, h⟩ := h
      refine gf_rd_29 hx hb hts hown hK hG hW (gI_s hx17) d_rd_readToken_111 ?_
      replace h := bs h
      obtain ⟨x18, hx18, h⟩ := h
      refine wo_cald hx hb hK hW (t := 3) rfl hx18 d_rd_readToken_114 ?_
      replace h := bs2 h
      obtain ⟨x20, w19, hw19, h⟩ := h
      refine cs_rd_51 (As := [.int x18]) (rest := []) hx hb hml hown hts hK hG hW (c_rd_isLetter l D cA base hw19) ⟨Nat.le_of_ble_eq_true rfl, Nat.le_of_ble_eq_true rfl⟩ ⟨Nat.le_of_ble_eq_true rfl, Nat.le_of_ble_eq_true rfl⟩ rfl hl.1 rfl (Nat.le_of_ble_eq_true rfl) d_rd_readToken_115 (fun H locs hW => ?_)
      refine lv_if_eq (tgt := 128) hx hb d_rd_readToken_118 (by decide) (fun c21 => ?_) (fun c21 => ?_)
      · rw [if_pos c21] at h
        refine lv_aload_n hx hb d_rd_readToken_128 rfl (lv_at hl 0 rfl) ?_
        replace h := bs h
        obtain ⟨w22, hw22, h⟩ := h
        refine cv_rd_57 (As := []) (rest := []) hx hb hml hown hts hK hG hW (c_rd_readSign l D cA base hw22) (kb_rd_readSign hw22) ⟨Nat.le_of_ble_eq_true rfl, Nat.le_of_ble_eq_true rfl⟩ ⟨Nat.le_of_ble_eq_true rfl, Nat.le_of_ble_eq_true rfl⟩ rfl hl.1 rfl (Nat.le_of_ble_eq_true rfl) d_rd_readToken_129 (fun H locs hW => ?_)
        exact j_rd_readToken_132 C w22 h _ _ _ hW (lv_sub hl [] rfl)
      · rw [if_neg c21] at h
        refine lv_aload_n hx hb d_rd_readToken_121 rfl (lv_at hl 0 rfl) ?_
        replace h := bs h
        obtain ⟨w23, hw23, h⟩ := h
        refine cv_rd_54 (As := []) (rest := []) hx hb hml hown hts hK hG hW (c_rd_readWord l D cA base hw23) (kb_rd_readWord hw23) ⟨Nat.le_of_ble_eq_true rfl, Nat.le_of_ble_eq_true rfl⟩ ⟨Nat.le_of_ble_eq_true rfl, Nat.le_of_ble_eq_true rfl⟩ rfl hl.1 rfl (Nat.le_of_ble_eq_true rfl) d_rd_readToken_122 (fun H locs hW => ?_)
        refine lv_goto (tgt := 132) hx hb d_rd_readToken_125 (by decide) ?_
        exact j_rd_readToken_132 C w23 h _ _ _ hW (lv_sub hl [] rfl)
    · rw [if_neg c15] at h
      refine lv_aload_n hx hb d_rd_readToken_99 rfl (lv_at hl 0 rfl) ?_
      replace h := bs h
      obtain ⟨w24, hw24, h⟩ := h
      refine cv_rd_48 (As := []) (rest := []) hx hb hml hown hts hK hG hW (c_rd_readNumeral l D cA base hw24) (kb_rd_readNumeral hw24) ⟨Nat.le_of_ble_eq_true rfl, Nat.le_of_ble_eq_true rfl⟩ ⟨Nat.le_of_ble_eq_true rfl, Nat.le_of_ble_eq_true rfl⟩ rfl hl.1 rfl (Nat.le_of_ble_eq_true rfl) d_rd_readToken_100 (fun H locs hW => ?_)
      refine lv_goto (tgt := 132) hx hb d_rd_readToken_103 (by decide) ?_
      exact j_rd_readToken_132 C w24 h _ _ _ hW (lv_sub hl [] rfl)
  · rw [if_neg c9] at h
    refine lv_aload_n hx hb d_rd_readToken_76 rfl (lv_at hl 0 rfl) ?_
    refine lv_iconst (v := (0 : Int32)) hx hb d_rd_readToken_77 (by decide) ?_
    replace h := bs h
    obtain ⟨w25, hw25, h⟩ := h
    refine pf_rd_32 hx hb hts hown hK hG hW rfl rfl (pbi hw25 rfl) d_rd_readToken_78 (fun H locs hW => ?_)
    refine lv_goto (tgt := 132) hx hb d_rd_readToken_81 (by decide) ?_
    exact j_rd_readToken_132 C w25 h _ _ _ hW (lv_sub hl [] rfl)
set_option maxHeartbeats 4000000 in
set_option maxRecDepth 100000 in
theorem j_rd_readToken_39 {p : Program} {l : Launch} {e : Env} {s : State} {m : MethodId} {args : Array Value} {below : List Frame} {meth : Method} {c : Code} {D : va_G} {cA : Nat → ClassId} {base : Nat} {w' : WW} (C : cx b_rd_readToken (none) 1 y_rd_readToken.cls "readToken" p s m args meth c D cA base) {k_0 : Nat → WW → Option WW} (hk_0 : ∀ (y0 : Nat) (w : WW), k_0 y0 w = some w' → ∀ (H : Heap) (locs : List Loc) (ls : Array Slot), wo_S D cls cA base s w H locs → lv_has ls 1 [(0, .ref (base + y0))] → W p l e rm_rd_readToken s m args below meth c H locs 0 0 (MQ below (wo_Q D cls cA base none w') args s rm_rd_readToken.cells rm_rd_readToken.slots (wo_B base)) (F0 m 0 ls [])) : ∀ (y0 : Nat) (w : WW), f_rd_readToken_39 k_0 y0 w = some w' → ∀ (H : Heap) (locs : List Loc) (ls : Array Slot), wo_S D cls cA base s w H locs → lv_has ls 1 [(0, .ref (base + y0))] → W p l e rm_rd_readToken s m args below meth c H locs 0 0 (MQ below (wo_Q D cls cA base none w') args s rm_rd_readToken.cells rm_rd_readToken.slots (wo_B base)) (F0 m 39 ls []) := by
  obtain ⟨hx, hb, hr, hml, hown, hts, hlk, hnm, hK, hG⟩ := id C
  intro y0 w h H locs ls hW hl
  unfold f_rd_readToken_39 at h
  refine lv_aload_n hx hb d_rd_readToken_39 rfl (lv_at hl 0 rfl) ?_
  refine lv_dup hx hb d_rd_readToken_40 rfl ?_
  replace h := bs h
  obtain ⟨x30, hx30, h⟩ := h
  refine gf_rd_29 hx hb hts hown hK hG hW (gI_s hx30) d_rd_readToken_41 ?_
  refine lv_iconst (v := (1 : Int32)) hx hb d_rd_readToken_44 (by decide) ?_
  refine lv_iadd hx hb d_rd_readToken_45 ?_
  replace h := bs h
  obtain ⟨w31, hw31, h⟩ := h
  refine pf_rd_29 hx hb hts hown hK hG hW rfl rfl (pbi hw31 rfl) d_rd_readToken_46 (fun H locs hW => ?_)
  refine lv_goto (tgt := 0) hx hb d_rd_readToken_49 (by decide) ?_
  exact hk_0 y0 w31 h _ _ _ hW (lv_sub hl [0] rfl)
set_option maxHeartbeats 4000000 in
set_option maxRecDepth 100000 in
theorem j_rd_readToken_0 {p : Program} {l : Launch} {e : Env} {s : State} {m : MethodId} {args : Array Value} {below : List Frame} {meth : Method} {c : Code} {D : va_G} {cA : Nat → ClassId} {base : Nat} {w' : WW} (C : cx b_rd_readToken (none) 1 y_rd_readToken.cls "readToken" p s m args meth c D cA base)   : ∀ n : Nat, ∀ (y0 : Nat) (w : WW), f_rd_readToken_0 n y0 w = some w' → ∀ (H : Heap) (locs : List Loc) (ls : Array Slot), wo_S D cls cA base s w H locs → lv_has ls 1 [(0, .ref (base + y0))] → W p l e rm_rd_readToken s m args below meth c H locs 0 0 (MQ below (wo_Q D cls cA base none w') args s rm_rd_readToken.cells rm_rd_readToken.slots (wo_B base)) (F0 m 0 ls []) := by
  obtain ⟨hx, hb, hr, hml, hown, hts, hlk, hnm, hK, hG⟩ := id C
  intro n
  induction n with
  | zero => intro y0 w h; cases h
  | succ n ih =>
    intro y0 w h H locs ls hW hl
    rw [f_rd_readToken_0] at h
    refine lv_aload_n hx hb d_rd_readToken_0 rfl (lv_at hl 0 rfl) ?_
    replace h := bs h
    obtain ⟨x1, hx1, h⟩ := h
    refine gf_rd_29 hx hb hts hown hK hG hW (gI_s hx1) d_rd_readToken_1 ?_
    refine lv_aload_n hx hb d_rd_readToken_4 rfl (lv_at hl 0 rfl) ?_
    replace h := bs h
    obtain ⟨x2, hx2, h⟩ := h
    refine gf_rd_25 hx hb hts hown hK hG hW (gI_s hx2) d_rd_readToken_5 ?_
    refine lv_icmp_ge (tgt := 52) hx hb d_rd_readToken_8 (by decide) (fun c3 => ?_) (fun c3 => ?_)
    · rw [if_pos c3] at h
      exact j_rd_readToken_52 C y0 w h _ _ _ hW (lv_sub hl [0] rfl)
    · rw [if_neg c3] at h
      refine lv_aload_n hx hb d_rd_readToken_11 rfl (lv_at hl 0 rfl) ?_
      replace h := bs h
      obtain ⟨x26, hx26, h⟩ := h
      refine gf_rd_9 hx hb hts hown hK hG hW (gN_s hx26) d_rd_readToken_12 ?_
      refine lv_aload_n hx hb d_rd_readToken_15 rfl (lv_at hl 0 rfl) ?_
      replace h := bs h
      obtain ⟨x27, hx27, h⟩ := h
      refine gf_rd_29 hx hb hts hown hK hG hW (gI_s hx27) d_rd_readToken_16 ?_
      replace h := bs h
      obtain ⟨x28, hx28, h⟩ := h
      refine wo_cald hx hb hK hW (t := 3) rfl hx28 d_rd_readToken_19 ?_
      refine lv_bipush (v := (32 : Int32)) hx hb d_rd_readToken_20 (by decide) ?_
      refine lv_icmp_eq (tgt := 39) hx hb d_rd_readToken_22 (by decide) (fun c29 => ?_) (fun c29 => ?_)
      · rw [if_pos c29] at h
        exact j_rd_readToken_39 C ih y0 w h _ _ _ hW (lv_sub hl [0] rfl)
      · rw [if_neg c29] at h
        refine lv_aload_n hx hb d_rd_readToken_25 rfl (lv_at hl 0 rfl) ?_
        replace h := bs h
        obtain ⟨x32, hx32, h⟩ := h
        refine gf_rd_9 hx hb hts hown hK hG hW (gN_s hx32) d_rd_readToken_26 ?_
        refine lv_aload_n hx hb d_rd_readToken_29 rfl (lv_at hl 0 rfl) ?_
        replace h := bs h
        obtain ⟨x33, hx33, h⟩ := h
        refine gf_rd_29 hx hb hts hown hK hG hW (gI_s hx33) d_rd_readToken_30 ?_
        replace h := bs h
        obtain ⟨x34, hx34, h⟩ := h
        refine wo_cald hx hb hK hW (t := 3) rfl hx34 d_rd_readToken_33 ?_
        refine lv_bipush (v := (10 : Int32)) hx hb d_rd_readToken_34 (by decide) ?_
        refine lv_icmp_ne (tgt := 52) hx hb d_rd_readToken_36 (by decide) (fun c35 => ?_) (fun c35 => ?_)
        · rw [if_neg c35] at h
          exact j_rd_readToken_52 C y0 w h _ _ _ hW (lv_sub hl [0] rfl)
        · rw [if_pos c35] at h
          exact j_rd_readToken_39 C ih y0 w h _ _ _ hW (lv_sub hl [0] rfl)
set_option maxHeartbeats 4000000 in
set_option maxRecDepth 100000 in
theorem c_rd_readToken (l : Launch) (D : va_G) (cA : Nat → ClassId) (base : Nat) {a0 : Nat} {w w' : WW} (h : f_rd_readToken a0 w = some w') : mt l D cls (wo_tys cA) cA base y_rd_readToken (Cond.code y_rd_readToken b_rd_readToken 1 (none) :: gt) rm_rd_readToken [.ref (base + a0)] w none w' rm_rd_readToken.cells rm_rd_readToken.slots := by
  refine mt_start (by decide) (Nat.le_of_ble_eq_true rfl) ?_
  intro p e s m below meth c ls hx hb hr hml hown hts hlk hnm hK hG hW hl
  have C : cx b_rd_readToken (none) 1 y_rd_readToken.cls "readToken" p s m [.ref (base + a0)].toArray meth c D cA base := ⟨hx, hb, hr, hml, hown, hts, hlk, hnm, hK, hG⟩
  have hl : lv_has ls 1 [(0, .ref (base + a0))] := hl
  unfold f_rd_readToken at h
  replace h := its h
  obtain ⟨-, h⟩ := h
  exact j_rd_readToken_0 C KK a0 w h _ _ _ hW (lv_sub hl [0] rfl)
theorem cv_rd_35 {p : Program} {l : Launch} {e : Env} {R : Room} {s : State} {m : MethodId} {args : Array Value} {below : List Frame} {meth : Method} {c : Code} {H : Heap} {locs : List Loc} {cells slots : Nat} {Q : State → Prop} {D : va_G} {cA : Nat → ClassId} {base : Nat} {w w' : WW} {cc : ByteArray} {pc nL : Nat} {ls : Array Slot} {rest st0 As : List Value} {ov : Option Value} {b : Nat} (hx : p.tables.exec = Jvm.exec) (hb : c.code = cc) (hml : c.maxLocals = nL) (hown : s.vm.findClass Rc_rd = some m.cls) (hts : ∀ w ∈ gt, w.before args s = true) (hK : va_K D cls (wo_tys cA) s) (hG : wo_G base s) (hW : wo_S D cls cA base s w H locs) (hM : mt l D cls (wo_tys cA) cA base y_rd_readToken (Cond.code y_rd_readToken b_rd_readToken 1 (none) :: gt) rm_rd_readToken (.ref (base + b) :: As) w ov w' rm_rd_readToken.cells rm_rd_readToken.slots) (hkb : kb w b 1 = true) (hR : rm_rd_readToken.frames + 1 ≤ R.frames ∧ 8 + (1 + 11) + rm_rd_readToken.locals ≤ R.locals) (hf : cells + rm_rd_readToken.cells ≤ R.cells ∧ slots + rm_rd_readToken.slots ≤ R.slots) (hn : As.length = 0) (hsz : ls.size = nL) (hst : st0 = As.reverse ++ .ref (base + b) :: rest) (hcat : (rest.map fun v => v.category).sum ≤ 8) (hdg : decode cc pc = .ok (.invokevirtual 35, 3)) (kk : ∀ (H1 : Heap) (locs1 : List Loc), wo_S D cls cA base s w' H1 locs1 → W p l e R s m args below meth c H1 locs1 (cells + rm_rd_readToken.cells) (slots + rm_rd_readToken.slots) Q (F0 m (pc + 3) ls (ov.toList ++ rest))) : W p l e R s m args below meth c H locs cells slots Q (F0 m pc ls st0) :=
  wo_callV (C := Rc_rd) hx hb hml hown hts hK hG hW hM hkb rfl (gt_of (i := 498) (by decide +kernel) (by decide +kernel)) (gt_of (i := 500) (by decide +kernel) (by decide +kernel)) (gt_sel (i := 1) (by decide +kernel) (by decide +kernel)) (gt_of (i := 3) (by decide +kernel) (by decide +kernel)) (gt_of (i := 501) (by decide +kernel) (by decide +kernel)) (by decide +kernel) hR hf hn hsz hst hcat hdg kk
abbrev b_rd_readAll : ByteArray := prog_5_method_3_code
def y_rd_readAll : MethodName := ⟨"AlarmForge$Reader", "readAll", "()V"⟩
def rm_rd_readAll : Room := { frames := 2, cells := 0, slots := 0, locals := 42 }
theorem d_rd_readAll_0 : decode b_rd_readAll 0 = .ok (.aload_n 0, 1) := by decide +kernel
theorem d_rd_readAll_1 : decode b_rd_readAll 1 = .ok (.iconst 0, 1) := by decide +kernel
theorem d_rd_readAll_2 : decode b_rd_readAll 2 = .ok (.putfield 29, 3) := by decide +kernel
theorem d_rd_readAll_5 : decode b_rd_readAll 5 = .ok (.aload_n 0, 1) := by decide +kernel
theorem d_rd_readAll_6 : decode b_rd_readAll 6 = .ok (.iconst 1, 1) := by decide +kernel
theorem d_rd_readAll_7 : decode b_rd_readAll 7 = .ok (.putfield 32, 3) := by decide +kernel
theorem d_rd_readAll_10 : decode b_rd_readAll 10 = .ok (.iconst 0, 1) := by decide +kernel
theorem d_rd_readAll_11 : decode b_rd_readAll 11 = .ok (.istore_n 1, 1) := by decide +kernel
theorem d_rd_readAll_12 : decode b_rd_readAll 12 = .ok (.iload_n 1, 1) := by decide +kernel
theorem d_rd_readAll_13 : decode b_rd_readAll 13 = .ok (.sipush (200), 3) := by decide +kernel
theorem d_rd_readAll_16 : decode b_rd_readAll 16 = .ok (.if_icmp .gt (58), 3) := by decide +kernel
theorem d_rd_readAll_19 : decode b_rd_readAll 19 = .ok (.aload_n 0, 1) := by decide +kernel
theorem d_rd_readAll_20 : decode b_rd_readAll 20 = .ok (.getfield 32, 3) := by decide +kernel
theorem d_rd_readAll_23 : decode b_rd_readAll 23 = .ok (.ifCond .eq (51), 3) := by decide +kernel
theorem d_rd_readAll_26 : decode b_rd_readAll 26 = .ok (.aload_n 0, 1) := by decide +kernel
theorem d_rd_readAll_27 : decode b_rd_readAll 27 = .ok (.getfield 32, 3) := by decide +kernel
theorem d_rd_readAll_30 : decode b_rd_readAll 30 = .ok (.iconst (-1), 1) := by decide +kernel
theorem d_rd_readAll_31 : decode b_rd_readAll 31 = .ok (.if_icmp .eq (43), 3) := by decide +kernel
theorem d_rd_readAll_34 : decode b_rd_readAll 34 = .ok (.aload_n 0, 1) := by decide +kernel
theorem d_rd_readAll_35 : decode b_rd_readAll 35 = .ok (.invokevirtual 35, 3) := by decide +kernel
theorem d_rd_readAll_38 : decode b_rd_readAll 38 = .ok (.aload_n 0, 1) := by decide +kernel
theorem d_rd_readAll_39 : decode b_rd_readAll 39 = .ok (.getfield 15, 3) := by decide +kernel
theorem d_rd_readAll_42 : decode b_rd_readAll 42 = .ok (.iload_n 1, 1) := by decide +kernel
theorem d_rd_readAll_43 : decode b_rd_readAll 43 = .ok (.aload_n 0, 1) := by decide +kernel
theorem d_rd_readAll_44 : decode b_rd_readAll 44 = .ok (.getfield 32, 3) := by decide +kernel
theorem d_rd_readAll_47 : decode b_rd_readAll 47 = .ok (.iastore, 1) := by decide +kernel
theorem d_rd_readAll_48 : decode b_rd_readAll 48 = .ok (.aload_n 0, 1) := by decide +kernel
theorem d_rd_readAll_49 : decode b_rd_readAll 49 = .ok (.getfield 19, 3) := by decide +kernel
theorem d_rd_readAll_52 : decode b_rd_readAll 52 = .ok (.iload_n 1, 1) := by decide +kernel
theorem d_rd_readAll_53 : decode b_rd_readAll 53 = .ok (.aload_n 0, 1) := by decide +kernel
theorem d_rd_readAll_54 : decode b_rd_readAll 54 = .ok (.getfield 38, 3) := by decide +kernel
theorem d_rd_readAll_57 : decode b_rd_readAll 57 = .ok (.iastore, 1) := by decide +kernel
theorem d_rd_readAll_58 : decode b_rd_readAll 58 = .ok (.aload_n 0, 1) := by decide +kernel
theorem d_rd_readAll_59 : decode b_rd_readAll 59 = .ok (.getfield 22, 3) := by decide +kernel
theorem d_rd_readAll_62 : decode b_rd_readAll 62 = .ok (.iload_n 1, 1) := by decide +kernel
theorem d_rd_readAll_63 : decode b_rd_readAll 63 = .ok (.aload_n 0, 1) := by decide +kernel
theorem d_rd_readAll_64 : decode b_rd_readAll 64 = .ok (.getfield 41, 3) := by decide +kernel
theorem d_rd_readAll_67 : decode b_rd_readAll 67 = .ok (.iastore, 1) := by decide +kernel
theorem d_rd_readAll_68 : decode b_rd_readAll 68 = .ok (.iinc 1 (1), 3) := by decide +kernel
theorem d_rd_readAll_71 : decode b_rd_readAll 71 = .ok (.goto (-59), 3) := by decide +kernel
theorem d_rd_readAll_74 : decode b_rd_readAll 74 = .ok (.return_, 1) := by decide +kernel
def f_rd_readAll_74   (w : WW) : Option WW :=
  some w
def f_rd_readAll_12  : Nat → Nat → Int32 → WW → Option WW
  | 0, _, _, _ => none
  | n + 1, y0, y1, w =>
    if (200 : Int32) < y1 then
      f_rd_readAll_74 w
    else
      (gI w y0 1 6).bind fun x4 =>
      if x4 = 0 then
        f_rd_readAll_74 w
      else
        (gI w y0 1 6).bind fun x6 =>
        if x6 = (-1 : Int32) then
          f_rd_readAll_74 w
        else
          (f_rd_readToken y0 w).bind fun w8 =>
          (gN w8 y0 1 1).bind fun x9 =>
          (gI w8 y0 1 6).bind fun x10 =>
          (sI w8 x9 0 y1 x10).bind fun w11 =>
          (gN w11 y0 1 2).bind fun x12 =>
          (gI w11 y0 1 7).bind fun x13 =>
          (sI w11 x12 0 y1 x13).bind fun w14 =>
          (gN w14 y0 1 3).bind fun x15 =>
          (gI w14 y0 1 8).bind fun x16 =>
          (sI w14 x15 0 y1 x16).bind fun w17 =>
          f_rd_readAll_12 n y0 (y1 + (1 : Int32)) w17
def f_rd_readAll (a0 : Nat) (w : WW) : Option WW :=
  if kb w a0 1 = true then
    (pv w a0 1 5 (.int (0 : Int32))).bind fun w1 =>
    (pv w1 a0 1 6 (.int (1 : Int32))).bind fun w2 =>
    f_rd_readAll_12 KK a0 (0 : Int32) w2
  else none
theorem kb_rd_readAll {a0 : Nat}  {w : WW} {r : WW} (h : f_rd_readAll a0 w = some r) : kb w a0 1 = true := (its h).1
set_option maxHeartbeats 4000000 in
set_option maxRecDepth 100000 in
theorem j_rd_readAll_74 {p : Program} {l : Launch} {e : Env} {s : State} {m : MethodId} {args : Array Value} {below : List Frame} {meth : Method} {c : Code} {D : va_G} {cA : Nat → ClassId} {base : Nat} {w' : WW} (C : cx b_rd_readAll (none) 2 y_rd_readAll.cls "readAll" p s m args meth c D cA base)   : ∀  (w : WW), f_rd_readAll_74  w = some w' → ∀ (H : Heap) (locs : List Loc) (ls : Array Slot), wo_S D cls cA base s w H locs → lv_has ls 2 [] → W p l e rm_rd_readAll s m args below meth c H locs 0 0 (MQ below (wo_Q D cls cA base none w') args s rm_rd_readAll.cells rm_rd_readAll.slots (wo_B base)) (F0 m 74 ls []) := by
  obtain ⟨hx, hb, hr, hml, hown, hts, hlk, hnm, hK, hG⟩ := id C
  intro  w h H locs ls hW hl
  unfold f_rd_readAll_74 at h
  cases h
  exact wo_vret hx hb hr hlk hW d_rd_readAll_74
set_option maxHeartbeats 4000000 in
set_option maxRecDepth 100000 in
theorem j_rd_readAll_12 {p : Program} {l : Launch} {e : Env} {s : State} {m : MethodId} {args : Array Value} {below : List Frame} {meth : Method} {c : Code} {D : va_G} {cA : Nat → ClassId} {base : Nat} {w' : WW} (C : cx b_rd_readAll (none) 2 y_rd_readAll.cls "readAll" p s m args meth c D cA base)   : ∀ n : Nat, ∀ (y0 : Nat) (y1 : Int32) (w : WW), f_rd_readAll_12 n y0 y1 w = some w' → ∀ (H : Heap) (locs : List Loc) (ls : Array Slot), wo_S D cls cA base s w H locs → lv_has ls 2 [(0, .ref (base + y0)), (1, .int y1)] → W p l e rm_rd_readAll s m args below meth c H locs 0 0 (MQ below (wo_Q D cls cA base none w') args s rm_rd_readAll.cells rm_rd_readAll.slots (wo_B base)) (F0 m 12 ls []) := by
  obtain ⟨hx, hb, hr, hml, hown, hts, hlk, hnm, hK, hG⟩ := id C
  intro n
  induction n with
  | zero => intro y0 y1 w h; cases h
  | succ n ih =>
    intro y0 y1 w h H locs ls hW hl
    rw [f_rd_readAll_12] at h
    refine lv_iload_n hx hb d_rd_readAll_12 rfl (lv_at hl 1 rfl) ?_
    refine lv_sipush (v := (200 : Int32)) hx hb d_rd_readAll_13 (by decide) ?_
    refine lv_icmp_gt (tgt := 74) hx hb d_rd_readAll_16 (by decide) (fun c3 => ?_) (fun c3 => ?_)
    · rw [if_pos c3] at h
      exact j_rd_readAll_74 C w h _ _ _ hW (lv_sub hl [] rfl)
    · rw [if_neg c3] at h
      refine lv_aload_n hx hb d_rd_readAll_19 rfl (lv_at hl 0 rfl) ?_
      replace h := bs h
      obtain ⟨x4, hx4, h⟩ := h
      refine gf_rd_32 hx hb hts hown hK hG hW (gI_s hx4) d_rd_readAll_20 ?_
      refine lv_if_eq (tgt := 74) hx hb d_rd_readAll_23 (by decide) (fun c5 => ?_) (fun c5 => ?_)
      · rw [if_pos c5] at h
        exact j_rd_readAll_74 C w h _ _ _ hW (lv_sub hl [] rfl)
      · rw [if_neg c5] at h
        refine lv_aload_n hx hb d_rd_readAll_26 rfl (lv_at hl 0 rfl) ?_
        replace h := bs h
        obtain ⟨x6, hx6, h⟩ := h
        refine gf_rd_32 hx hb hts hown hK hG hW (gI_s hx6) d_rd_readAll_27 ?_
        refine lv_iconst (v := (-1 : Int32)) hx hb d_rd_readAll_30 (by decide) ?_
        refine lv_icmp_eq (tgt := 74) hx hb d_rd_readAll_31 (by decide) (fun c7 => ?_) (fun c7 => ?_)
        · rw [if_pos c7] at h
          exact j_rd_readAll_74 C w h _ _ _ hW (lv_sub hl [] rfl)
        · rw [if_neg c7] at h
          refine lv_aload_n hx hb d_rd_readAll_34 rfl (lv_at hl 0 rfl) ?_
          replace h := bs h
          obtain ⟨w8, hw8, h⟩ := h
          refine cv_rd_35 (As := []) (rest := []) hx hb hml hown hts hK hG hW (c_rd_readToken l D cA base hw8) (kb_rd_readToken hw8) ⟨Nat.le_of_ble_eq_true rfl, Nat.le_of_ble_eq_true rfl⟩ ⟨Nat.le_of_ble_eq_true rfl, Nat.le_of_ble_eq_true rfl⟩ rfl hl.1 rfl (Nat.le_of_ble_eq_true rfl) d_rd_readAll_35 (fun H locs hW => ?_)
          refine lv_aload_n hx hb d_rd_readAll_38 rfl (lv_at hl 0 rfl) ?_
          replace h := bs h
          obtain ⟨x9, hx9, h⟩ := h
          refine gf_rd_15 hx hb hts hown hK hG hW (gN_s hx9) d_rd_readAll_39 ?_
          refine lv_iload_n hx hb d_rd_readAll_42 rfl (lv_at hl 1 rfl) ?_
          refine lv_aload_n hx hb d_rd_readAll_43 rfl (lv_at hl 0 rfl) ?_
          replace h := bs h
          obtain ⟨x10, hx10, h⟩ := h
          refine gf_rd_32 hx hb hts hown hK hG hW (gI_s hx10) d_rd_readAll_44 ?_
          replace h := bs h
          obtain ⟨w11, hw11, h⟩ := h
          refine wo_iast hx hb hK hW (t := 0) rfl hw11 d_rd_readAll_47 (fun H locs hW => ?_)
          refine lv_aload_n hx hb d_rd_readAll_48 rfl (lv_at hl 0 rfl) ?_
          replace h := bs h
          obtain ⟨x12, hx12, h⟩ := h
          refine gf_rd_19 hx hb hts hown hK hG hW (gN_s hx12) d_rd_readAll_49 ?_
          refine lv_iload_n hx hb d_rd_readAll_52 rfl (lv_at hl 1 rfl) ?_
          refine lv_aload_n hx hb d_rd_readAll_53 rfl (lv_at hl 0 rfl) ?_
          replace h := bs h
          obtain ⟨x13, hx13, h⟩ := h
          refine gf_rd_38 hx hb hts hown hK hG hW (gI_s hx13) d_rd_readAll_54 ?_
          replace h := bs h
          obtain ⟨w14, hw14, h⟩ := h
          refine wo_iast hx hb hK hW (t := 0) rfl hw14 d_rd_readAll_57 (fun H locs hW => ?_)
          refine lv_aload_n hx hb d_rd_readAll_58 rfl (lv_at hl 0 rfl) ?_
          replace h := bs h
          obtain ⟨x15, hx15, h⟩ := h
          refine gf_rd_22 hx hb hts hown hK hG hW (gN_s hx15) d_rd_readAll_59 ?_
          refine lv_iload_n hx hb d_rd_readAll_62 rfl (lv_at hl 1 rfl) ?_
          refine lv_aload_n hx hb d_rd_readAll_63 rfl (lv_at hl 0 rfl) ?_
          replace h := bs h
          obtain ⟨x16, hx16, h⟩ := h
          refine gf_rd_41 hx hb hts hown hK hG hW (gI_s hx16) d_rd_readAll_64 ?_
          replace h := bs h
          obtain ⟨w17, hw17, h⟩ := h
          refine wo_iast hx hb hK hW (t := 0) rfl hw17 d_rd_readAll_67 (fun H locs hW => ?_)
          refine lv_iinc (v := (y1 + (1 : Int32))) (lv' := [(1, .int (y1 + (1 : Int32))), (0, .ref (base + y0))]) hx hb d_rd_readAll_68 hl (k := 1) rfl rfl (by decide) rfl (fun ls hl => ?_)
          refine lv_goto (tgt := 12) hx hb d_rd_readAll_71 (by decide) ?_
          exact ih y0 (y1 + (1 : Int32)) w17 h _ _ _ hW (lv_sub hl [1, 0] rfl)
set_option maxHeartbeats 4000000 in
set_option maxRecDepth 100000 in
theorem c_rd_readAll (l : Launch) (D : va_G) (cA : Nat → ClassId) (base : Nat) {a0 : Nat} {w w' : WW} (h : f_rd_readAll a0 w = some w') : mt l D cls (wo_tys cA) cA base y_rd_readAll (Cond.code y_rd_readAll b_rd_readAll 2 (none) :: gt) rm_rd_readAll [.ref (base + a0)] w none w' rm_rd_readAll.cells rm_rd_readAll.slots := by
  refine mt_start (by decide) (Nat.le_of_ble_eq_true rfl) ?_
  intro p e s m below meth c ls hx hb hr hml hown hts hlk hnm hK hG hW hl
  have C : cx b_rd_readAll (none) 2 y_rd_readAll.cls "readAll" p s m [.ref (base + a0)].toArray meth c D cA base := ⟨hx, hb, hr, hml, hown, hts, hlk, hnm, hK, hG⟩
  have hl : lv_has ls 2 [(0, .ref (base + a0))] := hl
  unfold f_rd_readAll at h
  replace h := its h
  obtain ⟨-, h⟩ := h
  refine lv_aload_n hx hb d_rd_readAll_0 rfl (lv_at hl 0 rfl) ?_
  refine lv_iconst (v := (0 : Int32)) hx hb d_rd_readAll_1 (by decide) ?_
  replace h := bs h
  obtain ⟨w1, hw1, h⟩ := h
  refine pf_rd_29 hx hb hts hown hK hG hW rfl rfl (pbi hw1 rfl) d_rd_readAll_2 (fun H locs hW => ?_)
  refine lv_aload_n hx hb d_rd_readAll_5 rfl (lv_at hl 0 rfl) ?_
  refine lv_iconst (v := (1 : Int32)) hx hb d_rd_readAll_6 (by decide) ?_
  replace h := bs h
  obtain ⟨w2, hw2, h⟩ := h
  refine pf_rd_32 hx hb hts hown hK hG hW rfl rfl (pbi hw2 rfl) d_rd_readAll_7 (fun H locs hW => ?_)
  refine lv_iconst (v := (0 : Int32)) hx hb d_rd_readAll_10 (by decide) ?_
  refine lv_istore_n (lv' := [(1, .int (0 : Int32)), (0, .ref (base + a0))]) hx hb d_rd_readAll_11 rfl hl (by decide) rfl (fun ls hl => ?_)
  exact j_rd_readAll_12 C KK a0 (0 : Int32) w2 h _ _ _ hW (lv_sub hl [1, 0] rfl)
