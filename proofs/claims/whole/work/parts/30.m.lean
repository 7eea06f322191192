/-! Methods as functions, and their contracts (by wip/gen/run.py). -/
abbrev b_a_clear : ByteArray := prog_1_method_5_code
def y_a_clear : MethodName := ⟨"AlarmForge", "clear", "()I"⟩
def rm_a_clear : Room := { frames := 0, cells := 0, slots := 0, locals := 0 }
theorem d_a_clear_0 : decode b_a_clear 0 = .ok (.aload_n 0, 1) := by decide +kernel
theorem d_a_clear_1 : decode b_a_clear 1 = .ok (.getfield 29, 3) := by decide +kernel
theorem d_a_clear_4 : decode b_a_clear 4 = .ok (.getfield 65, 3) := by decide +kernel
theorem d_a_clear_7 : decode b_a_clear 7 = .ok (.istore_n 1, 1) := by decide +kernel
theorem d_a_clear_8 : decode b_a_clear 8 = .ok (.aload_n 0, 1) := by decide +kernel
theorem d_a_clear_9 : decode b_a_clear 9 = .ok (.getfield 29, 3) := by decide +kernel
theorem d_a_clear_12 : decode b_a_clear 12 = .ok (.iconst 0, 1) := by decide +kernel
theorem d_a_clear_13 : decode b_a_clear 13 = .ok (.putfield 65, 3) := by decide +kernel
theorem d_a_clear_16 : decode b_a_clear 16 = .ok (.iload_n 1, 1) := by decide +kernel
theorem d_a_clear_17 : decode b_a_clear 17 = .ok (.ireturn, 1) := by decide +kernel
def f_a_clear (a0 : Nat) (w : WW) : Option (Int32 × WW) :=
  if kb w a0 0 = true then
    (gN w a0 0 3).bind fun x1 =>
    (gI w x1 1 4).bind fun x2 =>
    (gN w a0 0 3).bind fun x3 =>
    (pv w x3 1 4 (.int (0 : Int32))).bind fun w4 =>
    some (x2, w4)
  else none
theorem kb_a_clear {a0 : Nat}  {w : WW} {r : (Int32 × WW)} (h : f_a_clear a0 w = some r) : kb w a0 0 = true := (its h).1
set_option maxHeartbeats 4000000 in
set_option maxRecDepth 100000 in
theorem c_a_clear (l : Launch) (D : va_G) (cA : Nat → ClassId) (base : Nat) {a0 : Nat} {w w' : WW} {r : Int32} (h : f_a_clear a0 w = some (r, w')) : mt l D cls (wo_tys cA) cA base y_a_clear (Cond.code y_a_clear b_a_clear 2 (some .int) :: gt) rm_a_clear [.ref a0] w (some (.int r)) w' rm_a_clear.cells rm_a_clear.slots := by
  refine mt_start (by decide) (Nat.le_of_ble_eq_true rfl) ?_
  intro p e s m below meth c ls hx hb hr hml hown hts hlk hnm hK hG hW hl
  have C : cx b_a_clear (some .int) 2 y_a_clear.cls "clear" p s m [.ref a0].toArray meth c D cA base := ⟨hx, hb, hr, hml, hown, hts, hlk, hnm, hK, hG⟩
  have hl : lv_has ls 2 [(0, .ref a0)] := hl
  unfold f_a_clear at h
  replace h := its h
  obtain ⟨-, h⟩ := h
  refine lv_aload_n hx hb d_a_clear_0 rfl (lv_at hl 0 rfl) ?_
  replace h := bs h
  obtain ⟨x1, hx1, h⟩ := h
  refine gf_a_29 hx hb hts hown hK hG hW (gN_s hx1) d_a_clear_1 ?_
  replace h := bs h
  obtain ⟨x2, hx2, h⟩ := h
  refine gf_a_65 hx hb hts hown hK hG hW (gI_s hx2) d_a_clear_4 ?_
  refine lv_istore_n (lv' := [(1, .int x2), (0, .ref a0)]) hx hb d_a_clear_7 rfl hl (by decide) rfl (fun ls hl => ?_)
  refine lv_aload_n hx hb d_a_clear_8 rfl (lv_at hl 1 rfl) ?_
  replace h := bs h
  obtain ⟨x3, hx3, h⟩ := h
  refine gf_a_29 hx hb hts hown hK hG hW (gN_s hx3) d_a_clear_9 ?_
  refine lv_iconst (v := (0 : Int32)) hx hb d_a_clear_12 (by decide) ?_
  replace h := bs h
  obtain ⟨w4, hw4, h⟩ := h
  refine pf_a_65 hx hb hts hown hK hG hW rfl rfl hw4 d_a_clear_13 (fun H locs hW => ?_)
  refine lv_iload_n hx hb d_a_clear_16 rfl (lv_at hl 0 rfl) ?_
  cases h
  exact wo_iret hx hb hr hlk hW d_a_clear_17
abbrev b_a_where : ByteArray := prog_1_method_7_code
def y_a_where : MethodName := ⟨"AlarmForge", "where", "()I"⟩
def rm_a_where : Room := { frames := 0, cells := 0, slots := 0, locals := 0 }
theorem d_a_where_0 : decode b_a_where 0 = .ok (.aload_n 0, 1) := by decide +kernel
theorem d_a_where_1 : decode b_a_where 1 = .ok (.getfield 21, 3) := by decide +kernel
theorem d_a_where_4 : decode b_a_where 4 = .ok (.getfield 88, 3) := by decide +kernel
theorem d_a_where_7 : decode b_a_where 7 = .ok (.ireturn, 1) := by decide +kernel
def f_a_where (a0 : Nat) (w : WW) : Option (Int32 × WW) :=
  if kb w a0 0 = true then
    (gN w a0 0 2).bind fun x1 =>
    (gI w x1 2 3).bind fun x2 =>
    some (x2, w)
  else none
theorem kb_a_where {a0 : Nat}  {w : WW} {r : (Int32 × WW)} (h : f_a_where a0 w = some r) : kb w a0 0 = true := (its h).1
set_option maxHeartbeats 4000000 in
set_option maxRecDepth 100000 in
theorem c_a_where (l : Launch) (D : va_G) (cA : Nat → ClassId) (base : Nat) {a0 : Nat} {w w' : WW} {r : Int32} (h : f_a_where a0 w = some (r, w')) : mt l D cls (wo_tys cA) cA base y_a_where (Cond.code y_a_where b_a_where 1 (some .int) :: gt) rm_a_where [.ref a0] w (some (.int r)) w' rm_a_where.cells rm_a_where.slots := by
  refine mt_start (by decide) (Nat.le_of_ble_eq_true rfl) ?_
  intro p e s m below meth c ls hx hb hr hml hown hts hlk hnm hK hG hW hl
  have C : cx b_a_where (some .int) 1 y_a_where.cls "where" p s m [.ref a0].toArray meth c D cA base := ⟨hx, hb, hr, hml, hown, hts, hlk, hnm, hK, hG⟩
  have hl : lv_has ls 1 [(0, .ref a0)] := hl
  unfold f_a_where at h
  replace h := its h
  obtain ⟨-, h⟩ := h
  refine lv_aload_n hx hb d_a_where_0 rfl (lv_at hl 0 rfl) ?_
  replace h := bs h
  obtain ⟨x1, hx1, h⟩ := h
  refine gf_a_21 hx hb hts hown hK hG hW (gN_s hx1) d_a_where_1 ?_
  replace h := bs h
  obtain ⟨x2, hx2, h⟩ := h
  refine gf_a_88 hx hb hts hown hK hG hW (gI_s hx2) d_a_where_4 ?_
  cases h
  exact wo_iret hx hb hr hlk hW d_a_where_7
abbrev b_a_forget : ByteArray := prog_1_method_10_code
def y_a_forget : MethodName := ⟨"AlarmForge", "forget", "()I"⟩
def rm_a_forget : Room := { frames := 0, cells := 0, slots := 0, locals := 0 }
theorem d_a_forget_0 : decode b_a_forget 0 = .ok (.aload_n 0, 1) := by decide +kernel
theorem d_a_forget_1 : decode b_a_forget 1 = .ok (.getfield 43, 3) := by decide +kernel
theorem d_a_forget_4 : decode b_a_forget 4 = .ok (.getfield 91, 3) := by decide +kernel
theorem d_a_forget_7 : decode b_a_forget 7 = .ok (.istore_n 1, 1) := by decide +kernel
theorem d_a_forget_8 : decode b_a_forget 8 = .ok (.aload_n 0, 1) := by decide +kernel
theorem d_a_forget_9 : decode b_a_forget 9 = .ok (.getfield 43, 3) := by decide +kernel
theorem d_a_forget_12 : decode b_a_forget 12 = .ok (.iconst 0, 1) := by decide +kernel
theorem d_a_forget_13 : decode b_a_forget 13 = .ok (.putfield 91, 3) := by decide +kernel
theorem d_a_forget_16 : decode b_a_forget 16 = .ok (.iload_n 1, 1) := by decide +kernel
theorem d_a_forget_17 : decode b_a_forget 17 = .ok (.ireturn, 1) := by decide +kernel
def f_a_forget (a0 : Nat) (w : WW) : Option (Int32 × WW) :=
  if kb w a0 0 = true then
    (gN w a0 0 7).bind fun x1 =>
    (gI w x1 5 5).bind fun x2 =>
    (gN w a0 0 7).bind fun x3 =>
    (pv w x3 5 5 (.int (0 : Int32))).bind fun w4 =>
    some (x2, w4)
  else none
theorem kb_a_forget {a0 : Nat}  {w : WW} {r : (Int32 × WW)} (h : f_a_forget a0 w = some r) : kb w a0 0 = true := (its h).1
set_option maxHeartbeats 4000000 in
set_option maxRecDepth 100000 in
theorem c_a_forget (l : Launch) (D : va_G) (cA : Nat → ClassId) (base : Nat) {a0 : Nat} {w w' : WW} {r : Int32} (h : f_a_forget a0 w = some (r, w')) : mt l D cls (wo_tys cA) cA base y_a_forget (Cond.code y_a_forget b_a_forget 2 (some .int) :: gt) rm_a_forget [.ref a0] w (some (.int r)) w' rm_a_forget.cells rm_a_forget.slots := by
  refine mt_start (by decide) (Nat.le_of_ble_eq_true rfl) ?_
  intro p e s m below meth c ls hx hb hr hml hown hts hlk hnm hK hG hW hl
  have C : cx b_a_forget (some .int) 2 y_a_forget.cls "forget" p s m [.ref a0].toArray meth c D cA base := ⟨hx, hb, hr, hml, hown, hts, hlk, hnm, hK, hG⟩
  have hl : lv_has ls 2 [(0, .ref a0)] := hl
  unfold f_a_forget at h
  replace h := its h
  obtain ⟨-, h⟩ := h
  refine lv_aload_n hx hb d_a_forget_0 rfl (lv_at hl 0 rfl) ?_
  replace h := bs h
  obtain ⟨x1, hx1, h⟩ := h
  refine gf_a_43 hx hb hts hown hK hG hW (gN_s hx1) d_a_forget_1 ?_
  replace h := bs h
  obtain ⟨x2, hx2, h⟩ := h
  refine gf_a_91 hx hb hts hown hK hG hW (gI_s hx2) d_a_forget_4 ?_
  refine lv_istore_n (lv' := [(1, .int x2), (0, .ref a0)]) hx hb d_a_forget_7 rfl hl (by decide) rfl (fun ls hl => ?_)
  refine lv_aload_n hx hb d_a_forget_8 rfl (lv_at hl 1 rfl) ?_
  replace h := bs h
  obtain ⟨x3, hx3, h⟩ := h
  refine gf_a_43 hx hb hts hown hK hG hW (gN_s hx3) d_a_forget_9 ?_
  refine lv_iconst (v := (0 : Int32)) hx hb d_a_forget_12 (by decide) ?_
  replace h := bs h
  obtain ⟨w4, hw4, h⟩ := h
  refine pf_a_91 hx hb hts hown hK hG hW rfl rfl hw4 d_a_forget_13 (fun H locs hW => ?_)
  refine lv_iload_n hx hb d_a_forget_16 rfl (lv_at hl 0 rfl) ?_
  cases h
  exact wo_iret hx hb hr hlk hW d_a_forget_17
abbrev b_a_byteAt : ByteArray := prog_1_method_3_code
def y_a_byteAt : MethodName := ⟨"AlarmForge", "byteAt", "(JI)I"⟩
def rm_a_byteAt : Room := { frames := 0, cells := 0, slots := 0, locals := 0 }
theorem d_a_byteAt_0 : decode b_a_byteAt 0 = .ok (.lload_n 0, 1) := by decide +kernel
theorem d_a_byteAt_1 : decode b_a_byteAt 1 = .ok (.iload_n 2, 1) := by decide +kernel
theorem d_a_byteAt_2 : decode b_a_byteAt 2 = .ok (.lushr, 1) := by decide +kernel
theorem d_a_byteAt_3 : decode b_a_byteAt 3 = .ok (.l2i, 1) := by decide +kernel
theorem d_a_byteAt_4 : decode b_a_byteAt 4 = .ok (.sipush (255), 3) := by decide +kernel
theorem d_a_byteAt_7 : decode b_a_byteAt 7 = .ok (.iand, 1) := by decide +kernel
theorem d_a_byteAt_8 : decode b_a_byteAt 8 = .ok (.ireturn, 1) := by decide +kernel
def f_a_byteAt (a0 : Int64) (a2 : Int32) (w : WW) : Option (Int32 × WW) :=
  some (((Int64.toInt32 ((Int64.toUInt64 a0 >>> ((Int32.toInt64 a2).toUInt64 &&& Int64.toUInt64 63)).toInt64)) &&& (255 : Int32)), w)
set_option maxHeartbeats 4000000 in
set_option maxRecDepth 100000 in
theorem c_a_byteAt (l : Launch) (D : va_G) (cA : Nat → ClassId) (base : Nat) {a0 : Int64} {a2 : Int32} {w w' : WW} {r : Int32} (h : f_a_byteAt a0 a2 w = some (r, w')) : mt l D cls (wo_tys cA) cA base y_a_byteAt (Cond.code y_a_byteAt b_a_byteAt 3 (some .int) :: gt) rm_a_byteAt [.long a0, .int a2] w (some (.int r)) w' rm_a_byteAt.cells rm_a_byteAt.slots := by
  refine mt_start (by decide) (Nat.le_of_ble_eq_true rfl) ?_
  intro p e s m below meth c ls hx hb hr hml hown hts hlk hnm hK hG hW hl
  have C : cx b_a_byteAt (some .int) 3 y_a_byteAt.cls "byteAt" p s m [.long a0, .int a2].toArray meth c D cA base := ⟨hx, hb, hr, hml, hown, hts, hlk, hnm, hK, hG⟩
  have hl : lv_has ls 3 [(0, .long a0), (2, .int a2)] := hl
  unfold f_a_byteAt at h
  refine lv_lload_n hx hb d_a_byteAt_0 rfl (lv_at hl 0 rfl) ?_
  refine lv_iload_n hx hb d_a_byteAt_1 rfl (lv_at hl 1 rfl) ?_
  refine lv_lushr hx hb d_a_byteAt_2 rfl ?_
  refine lv_l2i hx hb d_a_byteAt_3 rfl ?_
  refine lv_sipush (v := (255 : Int32)) hx hb d_a_byteAt_4 (by decide) ?_
  refine lv_iand hx hb d_a_byteAt_7 ?_
  cases h
  exact wo_iret hx hb hr hlk hW d_a_byteAt_8
abbrev b_a_isCharacter : ByteArray := prog_1_method_4_code
def y_a_isCharacter : MethodName := ⟨"AlarmForge", "isCharacter", "(I)Z"⟩
def rm_a_isCharacter : Room := { frames := 0, cells := 0, slots := 0, locals := 0 }
theorem d_a_isCharacter_0 : decode b_a_isCharacter 0 = .ok (.iload_n 0, 1) := by decide +kernel
theorem d_a_isCharacter_1 : decode b_a_isCharacter 1 = .ok (.bipush (10), 2) := by decide +kernel
theorem d_a_isCharacter_3 : decode b_a_isCharacter 3 = .ok (.if_icmp .eq (15), 3) := by decide +kernel
theorem d_a_isCharacter_6 : decode b_a_isCharacter 6 = .ok (.iload_n 0, 1) := by decide +kernel
theorem d_a_isCharacter_7 : decode b_a_isCharacter 7 = .ok (.bipush (32), 2) := by decide +kernel
theorem d_a_isCharacter_9 : decode b_a_isCharacter 9 = .ok (.if_icmp .lt (13), 3) := by decide +kernel
theorem d_a_isCharacter_12 : decode b_a_isCharacter 12 = .ok (.iload_n 0, 1) := by decide +kernel
theorem d_a_isCharacter_13 : decode b_a_isCharacter 13 = .ok (.bipush (126), 2) := by decide +kernel
theorem d_a_isCharacter_15 : decode b_a_isCharacter 15 = .ok (.if_icmp .gt (7), 3) := by decide +kernel
theorem d_a_isCharacter_18 : decode b_a_isCharacter 18 = .ok (.iconst 1, 1) := by decide +kernel
theorem d_a_isCharacter_19 : decode b_a_isCharacter 19 = .ok (.goto (4), 3) := by decide +kernel
theorem d_a_isCharacter_22 : decode b_a_isCharacter 22 = .ok (.iconst 0, 1) := by decide +kernel
theorem d_a_isCharacter_23 : decode b_a_isCharacter 23 = .ok (.ireturn, 1) := by decide +kernel
def f_a_isCharacter_23  (z0 : Int32) (w : WW) : Option (Int32 × WW) :=
  if z0 = 0 ∨ z0 = 1 then some (z0, w) else none
def f_a_isCharacter_18   (w : WW) : Option (Int32 × WW) :=
  f_a_isCharacter_23 (1 : Int32) w
def f_a_isCharacter_22   (w : WW) : Option (Int32 × WW) :=
  f_a_isCharacter_23 (0 : Int32) w
def f_a_isCharacter (a0 : Int32) (w : WW) : Option (Int32 × WW) :=
  if a0 = (10 : Int32) then
    f_a_isCharacter_18 w
  else
    if a0 < (32 : Int32) then
      f_a_isCharacter_22 w
    else
      if (126 : Int32) < a0 then
        f_a_isCharacter_22 w
      else
        f_a_isCharacter_18 w
set_option maxHeartbeats 4000000 in
set_option maxRecDepth 100000 in
theorem j_a_isCharacter_23 {p : Program} {l : Launch} {e : Env} {s : State} {m : MethodId} {args : Array Value} {below : List Frame} {meth : Method} {c : Code} {D : va_G} {cA : Nat → ClassId} {base : Nat} {r : Int32} {w' : WW} (C : cx b_a_isCharacter (some .boolean) 1 y_a_isCharacter.cls "isCharacter" p s m args meth c D cA base)   : ∀ (z0 : Int32) (w : WW), f_a_isCharacter_23 z0 w = some (r, w') → ∀ (H : Heap) (locs : List Loc) (ls : Array Slot), wo_S D cls cA base s w H locs → lv_has ls 1 [] → W p l e rm_a_isCharacter s m args below meth c H locs 0 0 (MQ below (wo_Q D cls cA base (some (.int r)) w') args s rm_a_isCharacter.cells rm_a_isCharacter.slots (wo_B base)) (F0 m 23 ls [.int z0]) := by
  obtain ⟨hx, hb, hr, hml, hown, hts, hlk, hnm, hK, hG⟩ := id C
  intro z0 w h H locs ls hW hl
  unfold f_a_isCharacter_23 at h
  replace h := its h
  obtain ⟨c2, h⟩ := h
  cases h
  exact wo_zret hx hb hr hlk hW c2 d_a_isCharacter_23
set_option maxHeartbeats 4000000 in
set_option maxRecDepth 100000 in
theorem j_a_isCharacter_18 {p : Program} {l : Launch} {e : Env} {s : State} {m : MethodId} {args : Array Value} {below : List Frame} {meth : Method} {c : Code} {D : va_G} {cA : Nat → ClassId} {base : Nat} {r : Int32} {w' : WW} (C : cx b_a_isCharacter (some .boolean) 1 y_a_isCharacter.cls "isCharacter" p s m args meth c D cA base)   : ∀  (w : WW), f_a_isCharacter_18  w = some (r, w') → ∀ (H : Heap) (locs : List Loc) (ls : Array Slot), wo_S D cls cA base s w H locs → lv_has ls 1 [] → W p l e rm_a_isCharacter s m args below meth c H locs 0 0 (MQ below (wo_Q D cls cA base (some (.int r)) w') args s rm_a_isCharacter.cells rm_a_isCharacter.slots (wo_B base)) (F0 m 18 ls []) := by
  obtain ⟨hx, hb, hr, hml, hown, hts, hlk, hnm, hK, hG⟩ := id C
  intro  w h H locs ls hW hl
  unfold f_a_isCharacter_18 at h
  refine lv_iconst (v := (1 : Int32)) hx hb d_a_isCharacter_18 (by decide) ?_
  refine lv_goto (tgt := 23) hx hb d_a_isCharacter_19 (by decide) ?_
  exact j_a_isCharacter_23 C (1 : Int32) w h _ _ _ hW (lv_sub hl [] rfl)
set_option maxHeartbeats 4000000 in
set_option maxRecDepth 100000 in
theorem j_a_isCharacter_22 {p : Program} {l : Launch} {e : Env} {s : State} {m : MethodId} {args : Array Value} {below : List Frame} {meth : Method} {c : Code} {D : va_G} {cA : Nat → ClassId} {base : Nat} {r : Int32} {w' : WW} (C : cx b_a_isCharacter (some .boolean) 1 y_a_isCharacter.cls "isCharacter" p s m args meth c D cA base)   : ∀  (w : WW), f_a_isCharacter_22  w = some (r, w') → ∀ (H : Heap) (locs : List Loc) (ls : Array Slot), wo_S D cls cA base s w H locs → lv_has ls 1 [] → W p l e rm_a_isCharacter s m args below meth c H locs 0 0 (MQ below (wo_Q D cls cA base (some (.int r)) w') args s rm_a_isCharacter.cells rm_a_isCharacter.slots (wo_B base)) (F0 m 22 ls []) := by
  obtain ⟨hx, hb, hr, hml, hown, hts, hlk, hnm, hK, hG⟩ := id C
  intro  w h H locs ls hW hl
  unfold f_a_isCharacter_22 at h
  refine lv_iconst (v := (0 : Int32)) hx hb d_a_isCharacter_22 (by decide) ?_
  exact j_a_isCharacter_23 C (0 : Int32) w h _ _ _ hW (lv_sub hl [] rfl)
set_option maxHeartbeats 4000000 in
set_option maxRecDepth 100000 in
theorem c_a_isCharacter (l : Launch) (D : va_G) (cA : Nat → ClassId) (base : Nat) {a0 : Int32} {w w' : WW} {r : Int32} (h : f_a_isCharacter a0 w = some (r, w')) : mt l D cls (wo_tys cA) cA base y_a_isCharacter (Cond.code y_a_isCharacter b_a_isCharacter 1 (some .boolean) :: gt) rm_a_isCharacter [.int a0] w (some (.int r)) w' rm_a_isCharacter.cells rm_a_isCharacter.slots := by
  refine mt_start (by decide) (Nat.le_of_ble_eq_true rfl) ?_
  intro p e s m below meth c ls hx hb hr hml hown hts hlk hnm hK hG hW hl
  have C : cx b_a_isCharacter (some .boolean) 1 y_a_isCharacter.cls "isCharacter" p s m [.int a0].toArray meth c D cA base := ⟨hx, hb, hr, hml, hown, hts, hlk, hnm, hK, hG⟩
  have hl : lv_has ls 1 [(0, .int a0)] := hl
  unfold f_a_isCharacter at h
  refine lv_iload_n hx hb d_a_isCharacter_0 rfl (lv_at hl 0 rfl) ?_
  refine lv_bipush (v := (10 : Int32)) hx hb d_a_isCharacter_1 (by decide) ?_
  refine lv_icmp_eq (tgt := 18) hx hb d_a_isCharacter_3 (by decide) (fun c1 => ?_) (fun c1 => ?_)
  · rw [if_pos c1] at h
    exact j_a_isCharacter_18 C w h _ _ _ hW (lv_sub hl [] rfl)
  · rw [if_neg c1] at h
    refine lv_iload_n hx hb d_a_isCharacter_6 rfl (lv_at hl 0 rfl) ?_
    refine lv_bipush (v := (32 : Int32)) hx hb d_a_isCharacter_7 (by decide) ?_
    refine lv_icmp_lt (tgt := 22) hx hb d_a_isCharacter_9 (by decide) (fun c3 => ?_) (fun c3 => ?_)
    · rw [if_pos c3] at h
      exact j_a_isCharacter_22 C w h _ _ _ hW (lv_sub hl [] rfl)
    · rw [if_neg c3] at h
      refine lv_iload_n hx hb d_a_isCharacter_12 rfl (lv_at hl 0 rfl) ?_
      refine lv_bipush (v := (126 : Int32)) hx hb d_a_isCharacter_13 (by decide) ?_
      refine lv_icmp_gt (tgt := 22) hx hb d_a_isCharacter_15 (by decide) (fun c4 => ?_) (fun c4 => ?_)
      · rw [if_pos c4] at h
        exact j_a_isCharacter_22 C w h _ _ _ hW (lv_sub hl [] rfl)
      · rw [if_neg c4] at h
        exact j_a_isCharacter_18 C w h _ _ _ hW (lv_sub hl [] rfl)
abbrev b_rd_append : ByteArray := prog_5_method_2_code
def y_rd_append : MethodName := ⟨"AlarmForge$Reader", "append", "(C)V"⟩
def rm_rd_append : Room := { frames := 0, cells := 0, slots := 0, locals := 0 }
theorem d_rd_append_0 : decode b_rd_append 0 = .ok (.aload_n 0, 1) := by decide +kernel
theorem d_rd_append_1 : decode b_rd_append 1 = .ok (.getfield 25, 3) := by decide +kernel
theorem d_rd_append_4 : decode b_rd_append 4 = .ok (.sipush (200), 3) := by decide +kernel
theorem d_rd_append_7 : decode b_rd_append 7 = .ok (.if_icmp .ge (23), 3) := by decide +kernel
theorem d_rd_append_10 : decode b_rd_append 10 = .ok (.aload_n 0, 1) := by decide +kernel
theorem d_rd_append_11 : decode b_rd_append 11 = .ok (.getfield 9, 3) := by decide +kernel
theorem d_rd_append_14 : decode b_rd_append 14 = .ok (.aload_n 0, 1) := by decide +kernel
theorem d_rd_append_15 : decode b_rd_append 15 = .ok (.getfield 25, 3) := by decide +kernel
theorem d_rd_append_18 : decode b_rd_append 18 = .ok (.iload_n 1, 1) := by decide +kernel
theorem d_rd_append_19 : decode b_rd_append 19 = .ok (.castore, 1) := by decide +kernel
theorem d_rd_append_20 : decode b_rd_append 20 = .ok (.aload_n 0, 1) := by decide +kernel
theorem d_rd_append_21 : decode b_rd_append 21 = .ok (.dup, 1) := by decide +kernel
theorem d_rd_append_22 : decode b_rd_append 22 = .ok (.getfield 25, 3) := by decide +kernel
theorem d_rd_append_25 : decode b_rd_append 25 = .ok (.iconst 1, 1) := by decide +kernel
theorem d_rd_append_26 : decode b_rd_append 26 = .ok (.iadd, 1) := by decide +kernel
theorem d_rd_append_27 : decode b_rd_append 27 = .ok (.putfield 25, 3) := by decide +kernel
theorem d_rd_append_30 : decode b_rd_append 30 = .ok (.return_, 1) := by decide +kernel
def f_rd_append_30   (w : WW) : Option WW :=
  some w
def f_rd_append (a0 : Nat) (a1 : Int32) (w : WW) : Option WW :=
  if kb w a0 1 = true then
    (gI w a0 1 4).bind fun x1 =>
    if (200 : Int32) ≤ x1 then
      f_rd_append_30 w
    else
      (gN w a0 1 0).bind fun x3 =>
      (gI w a0 1 4).bind fun x4 =>
      (sI w x3 3 x4 (vp_nar .char a1)).bind fun w5 =>
      (gI w5 a0 1 4).bind fun x6 =>
      (pv w5 a0 1 4 (.int (x6 + (1 : Int32)))).bind fun w7 =>
      f_rd_append_30 w7
  else none
theorem kb_rd_append {a0 : Nat} {a1 : Int32} {w : WW} {r : WW} (h : f_rd_append a0 a1 w = some r) : kb w a0 1 = true := (its h).1
set_option maxHeartbeats 4000000 in
set_option maxRecDepth 100000 in
theorem j_rd_append_30 {p : Program} {l : Launch} {e : Env} {s : State} {m : MethodId} {args : Array Value} {below : List Frame} {meth : Method} {c : Code} {D : va_G} {cA : Nat → ClassId} {base : Nat} {w' : WW} (C : cx b_rd_append (none) 2 y_rd_append.cls "append" p s m args meth c D cA base)   : ∀  (w : WW), f_rd_append_30  w = some w' → ∀ (H : Heap) (locs : List Loc) (ls : Array Slot), wo_S D cls cA base s w H locs → lv_has ls 2 [] → W p l e rm_rd_append s m args below meth c H locs 0 0 (MQ below (wo_Q D cls cA base none w') args s rm_rd_append.cells rm_rd_append.slots (wo_B base)) (F0 m 30 ls []) := by
  obtain ⟨hx, hb, hr, hml, hown, hts, hlk, hnm, hK, hG⟩ := id C
  intro  w h H locs ls hW hl
  unfold f_rd_append_30 at h
  cases h
  exact wo_vret hx hb hr hlk hW d_rd_append_30
set_option maxHeartbeats 4000000 in
set_option maxRecDepth 100000 in
theorem c_rd_append (l : Launch) (D : va_G) (cA : Nat → ClassId) (base : Nat) {a0 : Nat} {a1 : Int32} {w w' : WW} (h : f_rd_append a0 a1 w = some w') : mt l D cls (wo_tys cA) cA base y_rd_append (Cond.code y_rd_append b_rd_append 2 (none) :: gt) rm_rd_append [.ref a0, .int a1] w none w' rm_rd_append.cells rm_rd_append.slots := by
  refine mt_start (by decide) (Nat.le_of_ble_eq_true rfl) ?_
  intro p e s m below meth c ls hx hb hr hml hown hts hlk hnm hK hG hW hl
  have C : cx b_rd_append (none) 2 y_rd_append.cls "append" p s m [.ref a0, .int a1].toArray meth c D cA base := ⟨hx, hb, hr, hml, hown, hts, hlk, hnm, hK, hG⟩
  have hl : lv_has ls 2 [(0, .ref a0), (1, .int a1)] := hl
  unfold f_rd_append at h
  replace h := its h
  obtain ⟨-, h⟩ := h
  refine lv_aload_n hx hb d_rd_append_0 rfl (lv_at hl 0 rfl) ?_
  replace h := bs h
  obtain ⟨x1, hx1, h⟩ := h
  refine gf_rd_25 hx hb hts hown hK hG hW (gI_s hx1) d_rd_append_1 ?_
  refine lv_sipush (v := (200 : Int32)) hx hb d_rd_append_4 (by decide) ?_
  refine lv_icmp_ge (tgt := 30) hx hb d_rd_append_7 (by decide) (fun c2 => ?_) (fun c2 => ?_)
  · rw [if_pos c2] at h
    exact j_rd_append_30 C w h _ _ _ hW (lv_sub hl [] rfl)
  · rw [if_neg c2] at h
    refine lv_aload_n hx hb d_rd_append_10 rfl (lv_at hl 0 rfl) ?_
    replace h := bs h
    obtain ⟨x3, hx3, h⟩ := h
    refine gf_rd_9 hx hb hts hown hK hG hW (gN_s hx3) d_rd_append_11 ?_
    refine lv_aload_n hx hb d_rd_append_14 rfl (lv_at hl 0 rfl) ?_
    replace h := bs h
    obtain ⟨x4, hx4, h⟩ := h
    refine gf_rd_25 hx hb hts hown hK hG hW (gI_s hx4) d_rd_append_15 ?_
    refine lv_iload_n hx hb d_rd_append_18 rfl (lv_at hl 1 rfl) ?_
    replace h := bs h
    obtain ⟨w5, hw5, h⟩ := h
    refine wo_cast hx hb hK hW (t := 3) rfl hw5 d_rd_append_19 (fun H locs hW => ?_)
    refine lv_aload_n hx hb d_rd_append_20 rfl (lv_at hl 0 rfl) ?_
    refine lv_dup hx hb d_rd_append_21 rfl ?_
    replace h := bs h
    obtain ⟨x6, hx6, h⟩ := h
    refine gf_rd_25 hx hb hts hown hK hG hW (gI_s hx6) d_rd_append_22 ?_
    refine lv_iconst (v := (1 : Int32)) hx hb d_rd_append_25 (by decide) ?_
    refine lv_iadd hx hb d_rd_append_26 ?_
    replace h := bs h
    obtain ⟨w7, hw7, h⟩ := h
    refine pf_rd_25 hx hb hts hown hK hG hW rfl rfl hw7 d_rd_append_27 (fun H locs hW => ?_)
    exact j_rd_append_30 C w7 h _ _ _ hW (lv_sub hl [] rfl)
abbrev b_pg_empty : ByteArray := prog_4_method_2_code
def y_pg_empty : MethodName := ⟨"AlarmForge$Program", "empty", "()V"⟩
def rm_pg_empty : Room := { frames := 0, cells := 0, slots := 0, locals := 0 }
theorem d_pg_empty_0 : decode b_pg_empty 0 = .ok (.aload_n 0, 1) := by decide +kernel
theorem d_pg_empty_1 : decode b_pg_empty 1 = .ok (.iconst 0, 1) := by decide +kernel
theorem d_pg_empty_2 : decode b_pg_empty 2 = .ok (.putfield 28, 3) := by decide +kernel
theorem d_pg_empty_5 : decode b_pg_empty 5 = .ok (.aload_n 0, 1) := by decide +kernel
theorem d_pg_empty_6 : decode b_pg_empty 6 = .ok (.iconst 0, 1) := by decide +kernel
theorem d_pg_empty_7 : decode b_pg_empty 7 = .ok (.putfield 32, 3) := by decide +kernel
theorem d_pg_empty_10 : decode b_pg_empty 10 = .ok (.return_, 1) := by decide +kernel
def f_pg_empty (a0 : Nat) (w : WW) : Option WW :=
  if kb w a0 3 = true then
    (pv w a0 3 1 (.int (0 : Int32))).bind fun w1 =>
    (pv w1 a0 3 5 (.int (0 : Int32))).bind fun w2 =>
    some w2
  else none
theorem kb_pg_empty {a0 : Nat}  {w : WW} {r : WW} (h : f_pg_empty a0 w = some r) : kb w a0 3 = true := (its h).1
set_option maxHeartbeats 4000000 in
set_option maxRecDepth 100000 in
theorem c_pg_empty (l : Launch) (D : va_G) (cA : Nat → ClassId) (base : Nat) {a0 : Nat} {w w' : WW} (h : f_pg_empty a0 w = some w') : mt l D cls (wo_tys cA) cA base y_pg_empty (Cond.code y_pg_empty b_pg_empty 1 (none) :: gt) rm_pg_empty [.ref a0] w none w' rm_pg_empty.cells rm_pg_empty.slots := by
  refine mt_start (by decide) (Nat.le_of_ble_eq_true rfl) ?_
  intro p e s m below meth c ls hx hb hr hml hown hts hlk hnm hK hG hW hl
  have C : cx b_pg_empty (none) 1 y_pg_empty.cls "empty" p s m [.ref a0].toArray meth c D cA base := ⟨hx, hb, hr, hml, hown, hts, hlk, hnm, hK, hG⟩
  have hl : lv_has ls 1 [(0, .ref a0)] := hl
  unfold f_pg_empty at h
  replace h := its h
  obtain ⟨-, h⟩ := h
  refine lv_aload_n hx hb d_pg_empty_0 rfl (lv_at hl 0 rfl) ?_
  refine lv_iconst (v := (0 : Int32)) hx hb d_pg_empty_1 (by decide) ?_
  replace h := bs h
  obtain ⟨w1, hw1, h⟩ := h
  refine pf_pg_28 hx hb hts hown hK hG hW rfl rfl hw1 d_pg_empty_2 (fun H locs hW => ?_)
  refine lv_aload_n hx hb d_pg_empty_5 rfl (lv_at hl 0 rfl) ?_
  refine lv_iconst (v := (0 : Int32)) hx hb d_pg_empty_6 (by decide) ?_
  replace h := bs h
  obtain ⟨w2, hw2, h⟩ := h
  refine pf_pg_32 hx hb hts hown hK hG hW rfl rfl hw2 d_pg_empty_7 (fun H locs hW => ?_)
  cases h
  exact wo_vret hx hb hr hlk hW d_pg_empty_10
abbrev b_rd_isDigit : ByteArray := prog_5_method_10_code
def y_rd_isDigit : MethodName := ⟨"AlarmForge$Reader", "isDigit", "(C)Z"⟩
def rm_rd_isDigit : Room := { frames := 0, cells := 0, slots := 0, locals := 0 }
theorem d_rd_isDigit_0 : decode b_rd_isDigit 0 = .ok (.iload_n 0, 1) := by decide +kernel
theorem d_rd_isDigit_1 : decode b_rd_isDigit 1 = .ok (.bipush (48), 2) := by decide +kernel
theorem d_rd_isDigit_3 : decode b_rd_isDigit 3 = .ok (.if_icmp .lt (13), 3) := by decide +kernel
theorem d_rd_isDigit_6 : decode b_rd_isDigit 6 = .ok (.iload_n 0, 1) := by decide +kernel
theorem d_rd_isDigit_7 : decode b_rd_isDigit 7 = .ok (.bipush (57), 2) := by decide +kernel
theorem d_rd_isDigit_9 : decode b_rd_isDigit 9 = .ok (.if_icmp .gt (7), 3) := by decide +kernel
theorem d_rd_isDigit_12 : decode b_rd_isDigit 12 = .ok (.iconst 1, 1) := by decide +kernel
theorem d_rd_isDigit_13 : decode b_rd_isDigit 13 = .ok (.goto (4), 3) := by decide +kernel
theorem d_rd_isDigit_16 : decode b_rd_isDigit 16 = .ok (.iconst 0, 1) := by decide +kernel
theorem d_rd_isDigit_17 : decode b_rd_isDigit 17 = .ok (.ireturn, 1) := by decide +kernel
def f_rd_isDigit_17  (z0 : Int32) (w : WW) : Option (Int32 × WW) :=
  if z0 = 0 ∨ z0 = 1 then some (z0, w) else none
def f_rd_isDigit_16   (w : WW) : Option (Int32 × WW) :=
  f_rd_isDigit_17 (0 : Int32) w
def f_rd_isDigit (a0 : Int32) (w : WW) : Option (Int32 × WW) :=
  if a0 < (48 : Int32) then
    f_rd_isDigit_16 w
  else
    if (57 : Int32) < a0 then
      f_rd_isDigit_16 w
    else
      f_rd_isDigit_17 (1 : Int32) w
set_option maxHeartbeats 4000000 in
set_option maxRecDepth 100000 in
theorem j_rd_isDigit_17 {p : Program} {l : Launch} {e : Env} {s : State} {m : MethodId} {args : Array Value} {below : List Frame} {meth : Method} {c : Code} {D : va_G} {cA : Nat → ClassId} {base : Nat} {r : Int32} {w' : WW} (C : cx b_rd_isDigit (some .boolean) 1 y_rd_isDigit.cls "isDigit" p s m args meth c D cA base)   : ∀ (z0 : Int32) (w : WW), f_rd_isDigit_17 z0 w = some (r, w') → ∀ (H : Heap) (locs : List Loc) (ls : Array Slot), wo_S D cls cA base s w H locs → lv_has ls 1 [] → W p l e rm_rd_isDigit s m args below meth c H locs 0 0 (MQ below (wo_Q D cls cA base (some (.int r)) w') args s rm_rd_isDigit.cells rm_rd_isDigit.slots (wo_B base)) (F0 m 17 ls [.int z0]) := by
  obtain ⟨hx, hb, hr, hml, hown, hts, hlk, hnm, hK, hG⟩ := id C
  intro z0 w h H locs ls hW hl
  unfold f_rd_isDigit_17 at h
  replace h := its h
  obtain ⟨c2, h⟩ := h
  cases h
  exact wo_zret hx hb hr hlk hW c2 d_rd_isDigit_17
set_option maxHeartbeats 4000000 in
set_option maxRecDepth 100000 in
theorem j_rd_isDigit_16 {p : Program} {l : Launch} {e : Env} {s : State} {m : MethodId} {args : Array Value} {below : List Frame} {meth : Method} {c : Code} {D : va_G} {cA : Nat → ClassId} {base : Nat} {r : Int32} {w' : WW} (C : cx b_rd_isDigit (some .boolean) 1 y_rd_isDigit.cls "isDigit" p s m args meth c D cA base)   : ∀  (w : WW), f_rd_isDigit_16  w = some (r, w') → ∀ (H : Heap) (locs : List Loc) (ls : Array Slot), wo_S D cls cA base s w H locs → lv_has ls 1 [] → W p l e rm_rd_isDigit s m args below meth c H locs 0 0 (MQ below (wo_Q D cls cA base (some (.int r)) w') args s rm_rd_isDigit.cells rm_rd_isDigit.slots (wo_B base)) (F0 m 16 ls []) := by
  obtain ⟨hx, hb, hr, hml, hown, hts, hlk, hnm, hK, hG⟩ := id C
  intro  w h H locs ls hW hl
  unfold f_rd_isDigit_16 at h
  refine lv_iconst (v := (0 : Int32)) hx hb d_rd_isDigit_16 (by decide) ?_
  exact j_rd_isDigit_17 C (0 : Int32) w h _ _ _ hW (lv_sub hl [] rfl)
set_option maxHeartbeats 4000000 in
set_option maxRecDepth 100000 in
theorem c_rd_isDigit (l : Launch) (D : va_G) (cA : Nat → ClassId) (base : Nat) {a0 : Int32} {w w' : WW} {r : Int32} (h : f_rd_isDigit a0 w = some (r, w')) : mt l D cls (wo_tys cA) cA base y_rd_isDigit (Cond.code y_rd_isDigit b_rd_isDigit 1 (some .boolean) :: gt) rm_rd_isDigit [.int a0] w (some (.int r)) w' rm_rd_isDigit.cells rm_rd_isDigit.slots := by
  refine mt_start (by decide) (Nat.le_of_ble_eq_true rfl) ?_
  intro p e s m below meth c ls hx hb hr hml hown hts hlk hnm hK hG hW hl
  have C : cx b_rd_isDigit (some .boolean) 1 y_rd_isDigit.cls "isDigit" p s m [.int a0].toArray meth c D cA base := ⟨hx, hb, hr, hml, hown, hts, hlk, hnm, hK, hG⟩
  have hl : lv_has ls 1 [(0, .int a0)] := hl
  unfold f_rd_isDigit at h
  refine lv_iload_n hx hb d_rd_isDigit_0 rfl (lv_at hl 0 rfl) ?_
  refine lv_bipush (v := (48 : Int32)) hx hb d_rd_isDigit_1 (by decide) ?_
  refine lv_icmp_lt (tgt := 16) hx hb d_rd_isDigit_3 (by decide) (fun c1 => ?_) (fun c1 => ?_)
  · rw [if_pos c1] at h
    exact j_rd_isDigit_16 C w h _ _ _ hW (lv_sub hl [] rfl)
  · rw [if_neg c1] at h
    refine lv_iload_n hx hb d_rd_isDigit_6 rfl (lv_at hl 0 rfl) ?_
    refine lv_bipush (v := (57 : Int32)) hx hb d_rd_isDigit_7 (by decide) ?_
    refine lv_icmp_gt (tgt := 16) hx hb d_rd_isDigit_9 (by decide) (fun c3 => ?_) (fun c3 => ?_)
    · rw [if_pos c3] at h
      exact j_rd_isDigit_16 C w h _ _ _ hW (lv_sub hl [] rfl)
    · rw [if_neg c3] at h
      refine lv_iconst (v := (1 : Int32)) hx hb d_rd_isDigit_12 (by decide) ?_
      refine lv_goto (tgt := 17) hx hb d_rd_isDigit_13 (by decide) ?_
      exact j_rd_isDigit_17 C (1 : Int32) w h _ _ _ hW (lv_sub hl [] rfl)
theorem cs_rd_44 {p : Program} {l : Launch} {e : Env} {R : Room} {s : State} {m : MethodId} {args : Array Value} {below : List Frame} {meth : Method} {c : Code} {H : Heap} {locs : List Loc} {cells slots : Nat} {Q : State → Prop} {D : va_G} {cA : Nat → ClassId} {base : Nat} {w w' : WW} {cc : ByteArray} {pc nL : Nat} {ls : Array Slot} {rest st0 As : List Value} {ov : Option Value} (hx : p.tables.exec = Jvm.exec) (hb : c.code = cc) (hml : c.maxLocals = nL) (hown : s.vm.findClass Rc_rd = some m.cls) (hts : ∀ w ∈ gt, w.before args s = true) (hK : va_K D cls (wo_tys cA) s) (hG : wo_G base s) (hW : wo_S D cls cA base s w H locs) (hM : mt l D cls (wo_tys cA) cA base y_rd_isDigit (Cond.code y_rd_isDigit b_rd_isDigit 1 (some .boolean) :: gt) rm_rd_isDigit (As) w ov w' rm_rd_isDigit.cells rm_rd_isDigit.slots) (hR : rm_rd_isDigit.frames + 1 ≤ R.frames ∧ 8 + (1 + 11) + rm_rd_isDigit.locals ≤ R.locals) (hf : cells + rm_rd_isDigit.cells ≤ R.cells ∧ slots + rm_rd_isDigit.slots ≤ R.slots) (hn : As.length = 1) (hsz : ls.size = nL) (hst : st0 = As.reverse ++ rest) (hcat : (rest.map fun v => v.category).sum ≤ 8) (hdg : decode cc pc = .ok (.invokestatic 44, 3)) (kk : ∀ (H1 : Heap) (locs1 : List Loc), wo_S D cls cA base s w' H1 locs1 → W p l e R s m args below meth c H1 locs1 (cells + rm_rd_isDigit.cells) (slots + rm_rd_isDigit.slots) Q (F0 m (pc + 3) ls (ov.toList ++ rest))) : W p l e R s m args below meth c H locs cells slots Q (F0 m pc ls st0) :=
  wo_callS hx hb hml hown hts hK hG hW hM (gt_of (i := 502) (by decide +kernel) (by decide +kernel)) (gt_of (i := 503) (by decide +kernel) (by decide +kernel)) (gt_of (i := 3) (by decide +kernel) (by decide +kernel)) (gt_of (i := 504) (by decide +kernel) (by decide +kernel)) (by decide +kernel) hR hf hn hsz hst hcat hdg kk
abbrev b_rd_readNumeral : ByteArray := prog_5_method_5_code
def y_rd_readNumeral : MethodName := ⟨"AlarmForge$Reader", "readNumeral", "()V"⟩
def rm_rd_readNumeral : Room := { frames := 1, cells := 0, slots := 0, locals := 20 }
theorem d_rd_readNumeral_0 : decode b_rd_readNumeral 0 = .ok (.aload_n 0, 1) := by decide +kernel
theorem d_rd_readNumeral_1 : decode b_rd_readNumeral 1 = .ok (.iconst 1, 1) := by decide +kernel
theorem d_rd_readNumeral_2 : decode b_rd_readNumeral 2 = .ok (.putfield 32, 3) := by decide +kernel
theorem d_rd_readNumeral_5 : decode b_rd_readNumeral 5 = .ok (.aload_n 0, 1) := by decide +kernel
theorem d_rd_readNumeral_6 : decode b_rd_readNumeral 6 = .ok (.getfield 29, 3) := by decide +kernel
theorem d_rd_readNumeral_9 : decode b_rd_readNumeral 9 = .ok (.aload_n 0, 1) := by decide +kernel
theorem d_rd_readNumeral_10 : decode b_rd_readNumeral 10 = .ok (.getfield 25, 3) := by decide +kernel
theorem d_rd_readNumeral_13 : decode b_rd_readNumeral 13 = .ok (.if_icmp .ge (69), 3) := by decide +kernel
theorem d_rd_readNumeral_16 : decode b_rd_readNumeral 16 = .ok (.aload_n 0, 1) := by decide +kernel
theorem d_rd_readNumeral_17 : decode b_rd_readNumeral 17 = .ok (.getfield 29, 3) := by decide +kernel
theorem d_rd_readNumeral_20 : decode b_rd_readNumeral 20 = .ok (.aload_n 0, 1) := by decide +kernel
theorem d_rd_readNumeral_21 : decode b_rd_readNumeral 21 = .ok (.getfield 38, 3) := by decide +kernel
theorem d_rd_readNumeral_24 : decode b_rd_readNumeral 24 = .ok (.bipush (9), 2) := by decide +kernel
theorem d_rd_readNumeral_26 : decode b_rd_readNumeral 26 = .ok (.iadd, 1) := by decide +kernel
theorem d_rd_readNumeral_27 : decode b_rd_readNumeral 27 = .ok (.if_icmp .ge (55), 3) := by decide +kernel
theorem d_rd_readNumeral_30 : decode b_rd_readNumeral 30 = .ok (.aload_n 0, 1) := by decide +kernel
theorem d_rd_readNumeral_31 : decode b_rd_readNumeral 31 = .ok (.getfield 9, 3) := by decide +kernel
theorem d_rd_readNumeral_34 : decode b_rd_readNumeral 34 = .ok (.aload_n 0, 1) := by decide +kernel
theorem d_rd_readNumeral_35 : decode b_rd_readNumeral 35 = .ok (.getfield 29, 3) := by decide +kernel
theorem d_rd_readNumeral_38 : decode b_rd_readNumeral 38 = .ok (.caload, 1) := by decide +kernel
theorem d_rd_readNumeral_39 : decode b_rd_readNumeral 39 = .ok (.invokestatic 44, 3) := by decide +kernel
theorem d_rd_readNumeral_42 : decode b_rd_readNumeral 42 = .ok (.ifCond .eq (40), 3) := by decide +kernel
theorem d_rd_readNumeral_45 : decode b_rd_readNumeral 45 = .ok (.aload_n 0, 1) := by decide +kernel
theorem d_rd_readNumeral_46 : decode b_rd_readNumeral 46 = .ok (.aload_n 0, 1) := by decide +kernel
theorem d_rd_readNumeral_47 : decode b_rd_readNumeral 47 = .ok (.getfield 41, 3) := by decide +kernel
theorem d_rd_readNumeral_50 : decode b_rd_readNumeral 50 = .ok (.bipush (10), 2) := by decide +kernel
theorem d_rd_readNumeral_52 : decode b_rd_readNumeral 52 = .ok (.imul, 1) := by decide +kernel
theorem d_rd_readNumeral_53 : decode b_rd_readNumeral 53 = .ok (.aload_n 0, 1) := by decide +kernel
theorem d_rd_readNumeral_54 : decode b_rd_readNumeral 54 = .ok (.getfield 9, 3) := by decide +kernel
theorem d_rd_readNumeral_57 : decode b_rd_readNumeral 57 = .ok (.aload_n 0, 1) := by decide +kernel
theorem d_rd_readNumeral_58 : decode b_rd_readNumeral 58 = .ok (.getfield 29, 3) := by decide +kernel
theorem d_rd_readNumeral_61 : decode b_rd_readNumeral 61 = .ok (.caload, 1) := by decide +kernel
theorem d_rd_readNumeral_62 : decode b_rd_readNumeral 62 = .ok (.bipush (48), 2) := by decide +kernel
theorem d_rd_readNumeral_64 : decode b_rd_readNumeral 64 = .ok (.isub, 1) := by decide +kernel
theorem d_rd_readNumeral_65 : decode b_rd_readNumeral 65 = .ok (.iadd, 1) := by decide +kernel
theorem d_rd_readNumeral_66 : decode b_rd_readNumeral 66 = .ok (.putfield 41, 3) := by decide +kernel
theorem d_rd_readNumeral_69 : decode b_rd_readNumeral 69 = .ok (.aload_n 0, 1) := by decide +kernel
theorem d_rd_readNumeral_70 : decode b_rd_readNumeral 70 = .ok (.dup, 1) := by decide +kernel
theorem d_rd_readNumeral_71 : decode b_rd_readNumeral 71 = .ok (.getfield 29, 3) := by decide +kernel
theorem d_rd_readNumeral_74 : decode b_rd_readNumeral 74 = .ok (.iconst 1, 1) := by decide +kernel
theorem d_rd_readNumeral_75 : decode b_rd_readNumeral 75 = .ok (.iadd, 1) := by decide +kernel
theorem d_rd_readNumeral_76 : decode b_rd_readNumeral 76 = .ok (.putfield 29, 3) := by decide +kernel
theorem d_rd_readNumeral_79 : decode b_rd_readNumeral 79 = .ok (.goto (-74), 3) := by decide +kernel
theorem d_rd_readNumeral_82 : decode b_rd_readNumeral 82 = .ok (.return_, 1) := by decide +kernel
def f_rd_readNumeral_82   (w : WW) : Option WW :=
  some w
def f_rd_readNumeral_5  : Nat → Nat → WW → Option WW
  | 0, _, _ => none
  | n + 1, y0, w =>
    (gI w y0 1 5).bind fun x2 =>
    (gI w y0 1 4).bind fun x3 =>
    if x3 ≤ x2 then
      f_rd_readNumeral_82 w
    else
      (gI w y0 1 5).bind fun x5 =>
      (gI w y0 1 7).bind fun x6 =>
      if (x6 + (9 : Int32)) ≤ x5 then
        f_rd_readNumeral_82 w
      else
        (gN w y0 1 0).bind fun x8 =>
        (gI w y0 1 5).bind fun x9 =>
        (rI w x8 3 x9).bind fun x10 =>
        bd2 (f_rd_isDigit x10 w) fun x12 w11 =>
        if x12 = 0 then
          f_rd_readNumeral_82 w11
        else
          (gI w11 y0 1 8).bind fun x14 =>
          (gN w11 y0 1 0).bind fun x15 =>
          (gI w11 y0 1 5).bind fun x16 =>
          (rI w11 x15 3 x16).bind fun x17 =>
          (pv w11 y0 1 8 (.int ((x14 * (10 : Int32)) + (x17 - (48 : Int32))))).bind fun w18 =>
          (gI w18 y0 1 5).bind fun x19 =>
          (pv w18 y0 1 5 (.int (x19 + (1 : Int32)))).bind fun w20 =>
          f_rd_readNumeral_5 n y0 w20
def f_rd_readNumeral (a0 : Nat) (w : WW) : Option WW :=
  if kb w a0 1 = true then
    (pv w a0 1 6 (.int (1 : Int32))).bind fun w1 =>
    f_rd_readNumeral_5 KK a0 w1
  else none
theorem kb_rd_readNumeral {a0 : Nat}  {w : WW} {r : WW} (h : f_rd_readNumeral a0 w = some r) : kb w a0 1 = true := (its h).1
set_option maxHeartbeats 4000000 in
set_option maxRecDepth 100000 in
theorem j_rd_readNumeral_82 {p : Program} {l : Launch} {e : Env} {s : State} {m : MethodId} {args : Array Value} {below : List Frame} {meth : Method} {c : Code} {D : va_G} {cA : Nat → ClassId} {base : Nat} {w' : WW} (C : cx b_rd_readNumeral (none) 1 y_rd_readNumeral.cls "readNumeral" p s m args meth c D cA base)   : ∀  (w : WW), f_rd_readNumeral_82  w = some w' → ∀ (H : Heap) (locs : List Loc) (ls : Array Slot), wo_S D cls cA base s w H locs → lv_has ls 1 [] → W p l e rm_rd_readNumeral s m args below meth c H locs 0 0 (MQ below (wo_Q D cls cA base none w') args s rm_rd_readNumeral.cells rm_rd_readNumeral.slots (wo_B base)) (F0 m 82 ls []) := by
  obtain ⟨hx, hb, hr, hml, hown, hts, hlk, hnm, hK, hG⟩ := id C
  intro  w h H locs ls hW hl
  unfold f_rd_readNumeral_82 at h
  cases h
  exact wo_vret hx hb hr hlk hW d_rd_readNumeral_82
set_option maxHeartbeats 4000000 in
set_option maxRecDepth 100000 in
theorem j_rd_readNumeral_5 {p : Program} {l : Launch} {e : Env} {s : State} {m : MethodId} {args : Array Value} {below : List Frame} {meth : Method} {c : Code} {D : va_G} {cA : Nat → ClassId} {base : Nat} {w' : WW} (C : cx b_rd_readNumeral (none) 1 y_rd_readNumeral.cls "readNumeral" p s m args meth c D cA base)   : ∀ n : Nat, ∀ (y0 : Nat) (w : WW), f_rd_readNumeral_5 n y0 w = some w' → ∀ (H : Heap) (locs : List Loc) (ls : Array Slot), wo_S D cls cA base s w H locs → lv_has ls 1 [(0, .ref y0)] → W p l e rm_rd_readNumeral s m args below meth c H locs 0 0 (MQ below (wo_Q D cls cA base none w') args s rm_rd_readNumeral.cells rm_rd_readNumeral.slots (wo_B base)) (F0 m 5 ls []) := by
  obtain ⟨hx, hb, hr, hml, hown, hts, hlk, hnm, hK, hG⟩ := id C
  intro n
  induction n with
  | zero => intro y0 w h; cases h
  | succ n ih =>
    intro y0 w h H locs ls hW hl
    rw [f_rd_readNumeral_5] at h
    refine lv_aload_n hx hb d_rd_readNumeral_5 rfl (lv_at hl 0 rfl) ?_
    replace h := bs h
    obtain ⟨x2, hx2, h⟩ := h
    refine gf_rd_29 hx hb hts hown hK hG hW (gI_s hx2) d_rd_readNumeral_6 ?_
    refine lv_aload_n hx hb d_rd_readNumeral_9 rfl (lv_at hl 0 rfl) ?_
    replace h := bs h
    obtain ⟨x3, hx3, h⟩ := h
    refine gf_rd_25 hx hb hts hown hK hG hW (gI_s hx3) d_rd_readNumeral_10 ?_
    refine lv_icmp_ge (tgt := 82) hx hb d_rd_readNumeral_13 (by decide) (fun c4 => ?_) (fun c4 => ?_)
    · rw [if_pos c4] at h
      exact j_rd_readNumeral_82 C w h _ _ _ hW (lv_sub hl [] rfl)
    · rw [if_neg c4] at h
      refine lv_aload_n hx hb d_rd_readNumeral_16 rfl (lv_at hl 0 rfl) ?_
      replace h := bs h
      obtain ⟨x5, hx5, h⟩ := h
      refine gf_rd_29 hx hb hts hown hK hG hW (gI_s hx5) d_rd_readNumeral_17 ?_
      refine lv_aload_n hx hb d_rd_readNumeral_20 rfl (lv_at hl 0 rfl) ?_
      replace h := bs h
      obtain ⟨x6, hx6, h⟩ := h
      refine gf_rd_38 hx hb hts hown hK hG hW (gI_s hx6) d_rd_readNumeral_21 ?_
      refine lv_bipush (v := (9 : Int32)) hx hb d_rd_readNumeral_24 (by decide) ?_
      refine lv_iadd hx hb d_rd_readNumeral_26 ?_
      refine lv_icmp_ge (tgt := 82) hx hb d_rd_readNumeral_27 (by decide) (fun c7 => ?_) (fun c7 => ?_)
      · rw [if_pos c7] at h
        exact j_rd_readNumeral_82 C w h _ _ _ hW (lv_sub hl [] rfl)
      · rw [if_neg c7] at h
        refine lv_aload_n hx hb d_rd_readNumeral_30 rfl (lv_at hl 0 rfl) ?_
        replace h := bs h
        obtain ⟨x8, hx8, h⟩ := h
        refine gf_rd_9 hx hb hts hown hK hG hW (gN_s hx8) d_rd_readNumeral_31 ?_
        refine lv_aload_n hx hb d_rd_readNumeral_34 rfl (lv_at hl 0 rfl) ?_
        replace h := bs h
        obtain ⟨x9, hx9, h⟩ := h
        refine gf_rd_29 hx hb hts hown hK hG hW (gI_s hx9) d_rd_readNumeral_35 ?_
        replace h := bs h
        obtain ⟨x10, hx10, h⟩ := h
        refine wo_cald hx hb hK hW (t := 3) rfl hx10 d_rd_readNumeral_38 ?_
        replace h := bs2 h
        obtain ⟨x12, w11, hw11, h⟩ := h
        refine cs_rd_44 (As := [.int x10]) (rest := []) hx hb hml hown hts hK hG hW (c_rd_isDigit l D cA base hw11) ⟨Nat.le_of_ble_eq_true rfl, Nat.le_of_ble_eq_true rfl⟩ ⟨Nat.le_of_ble_eq_true rfl, Nat.le_of_ble_eq_true rfl⟩ rfl hl.1 rfl (Nat.le_of_ble_eq_true rfl) d_rd_readNumeral_39 (fun H locs hW => ?_)
        refine lv_if_eq (tgt := 82) hx hb d_rd_readNumeral_42 (by decide) (fun c13 => ?_) (fun c13 => ?_)
        · rw [if_pos c13] at h
          exact j_rd_readNumeral_82 C w11 h _ _ _ hW (lv_sub hl [] rfl)
        · rw [if_neg c13] at h
          refine lv_aload_n hx hb d_rd_readNumeral_45 rfl (lv_at hl 0 rfl) ?_
          refine lv_aload_n hx hb d_rd_readNumeral_46 rfl (lv_at hl 0 rfl) ?_
          replace h := bs h
          obtain ⟨x14, hx14, h⟩ := h
          refine gf_rd_41 hx hb hts hown hK hG hW (gI_s hx14) d_rd_readNumeral_47 ?_
          refine lv_bipush (v := (10 : Int32)) hx hb d_rd_readNumeral_50 (by decide) ?_
          refine lv_imul hx hb d_rd_readNumeral_52 ?_
          refine lv_aload_n hx hb d_rd_readNumeral_53 rfl (lv_at hl 0 rfl) ?_
          replace h := bs h
          obtain ⟨x15, hx15, h⟩ := h
          refine gf_rd_9 hx hb hts hown hK hG hW (gN_s hx15) d_rd_readNumeral_54 ?_
          refine lv_aload_n hx hb d_rd_readNumeral_57 rfl (lv_at hl 0 rfl) ?_
          replace h := bs h
          obtain ⟨x16, hx16, h⟩ := h
          refine gf_rd_29 hx hb hts hown hK hG hW (gI_s hx16) d_rd_readNumeral_58 ?_
          replace h := bs h
          obtain ⟨x17, hx17, h⟩ := h
          refine wo_cald hx hb hK hW (t := 3) rfl hx17 d_rd_readNumeral_61 ?_
          refine lv_bipush (v := (48 : Int32)) hx hb d_rd_readNumeral_62 (by decide) ?_
          refine lv_isub hx hb d_rd_readNumeral_64 ?_
          refine lv_iadd hx hb d_rd_readNumeral_65 ?_
          replace h := bs h
          obtain ⟨w18, hw18, h⟩ := h
          refine pf_rd_41 hx hb hts hown hK hG hW rfl rfl hw18 d_rd_readNumeral_66 (fun H locs hW => ?_)
          refine lv_aload_n hx hb d_rd_readNumeral_69 rfl (lv_at hl 0 rfl) ?_
          refine lv_dup hx hb d_rd_readNumeral_70 rfl ?_
          replace h := bs h
          obtain ⟨x19, hx19, h⟩ := h
          refine gf_rd_29 hx hb hts hown hK hG hW (gI_s hx19) d_rd_readNumeral_71 ?_
          refine lv_iconst (v := (1 : Int32)) hx hb d_rd_readNumeral_74 (by decide) ?_
          refine lv_iadd hx hb d_rd_readNumeral_75 ?_
          replace h := bs h
          obtain ⟨w20, hw20, h⟩ := h
          refine pf_rd_29 hx hb hts hown hK hG hW rfl rfl hw20 d_rd_readNumeral_76 (fun H locs hW => ?_)
          refine lv_goto (tgt := 5) hx hb d_rd_readNumeral_79 (by decide) ?_
          exact ih y0 w20 h _ _ _ hW (lv_sub hl [0] rfl)
set_option maxHeartbeats 4000000 in
set_option maxRecDepth 100000 in
theorem c_rd_readNumeral (l : Launch) (D : va_G) (cA : Nat → ClassId) (base : Nat) {a0 : Nat} {w w' : WW} (h : f_rd_readNumeral a0 w = some w') : mt l D cls (wo_tys cA) cA base y_rd_readNumeral (Cond.code y_rd_readNumeral b_rd_readNumeral 1 (none) :: gt) rm_rd_readNumeral [.ref a0] w none w' rm_rd_readNumeral.cells rm_rd_readNumeral.slots := by
  refine mt_start (by decide) (Nat.le_of_ble_eq_true rfl) ?_
  intro p e s m below meth c ls hx hb hr hml hown hts hlk hnm hK hG hW hl
  have C : cx b_rd_readNumeral (none) 1 y_rd_readNumeral.cls "readNumeral" p s m [.ref a0].toArray meth c D cA base := ⟨hx, hb, hr, hml, hown, hts, hlk, hnm, hK, hG⟩
  have hl : lv_has ls 1 [(0, .ref a0)] := hl
  unfold f_rd_readNumeral at h
  replace h := its h
  obtain ⟨-, h⟩ := h
  refine lv_aload_n hx hb d_rd_readNumeral_0 rfl (lv_at hl 0 rfl) ?_
  refine lv_iconst (v := (1 : Int32)) hx hb d_rd_readNumeral_1 (by decide) ?_
  replace h := bs h
  obtain ⟨w1, hw1, h⟩ := h
  refine pf_rd_32 hx hb hts hown hK hG hW rfl rfl hw1 d_rd_readNumeral_2 (fun H locs hW => ?_)
  exact j_rd_readNumeral_5 C KK a0 w1 h _ _ _ hW (lv_sub hl [0] rfl)
abbrev b_rd_isLetter : ByteArray := prog_5_method_11_code
def y_rd_isLetter : MethodName := ⟨"AlarmForge$Reader", "isLetter", "(C)Z"⟩
def rm_rd_isLetter : Room := { frames := 0, cells := 0, slots := 0, locals := 0 }
theorem d_rd_isLetter_0 : decode b_rd_isLetter 0 = .ok (.iload_n 0, 1) := by decide +kernel
theorem d_rd_isLetter_1 : decode b_rd_isLetter 1 = .ok (.bipush (97), 2) := by decide +kernel
theorem d_rd_isLetter_3 : decode b_rd_isLetter 3 = .ok (.if_icmp .lt (9), 3) := by decide +kernel
theorem d_rd_isLetter_6 : decode b_rd_isLetter 6 = .ok (.iload_n 0, 1) := by decide +kernel
theorem d_rd_isLetter_7 : decode b_rd_isLetter 7 = .ok (.bipush (122), 2) := by decide +kernel
theorem d_rd_isLetter_9 : decode b_rd_isLetter 9 = .ok (.if_icmp .le (15), 3) := by decide +kernel
theorem d_rd_isLetter_12 : decode b_rd_isLetter 12 = .ok (.iload_n 0, 1) := by decide +kernel
theorem d_rd_isLetter_13 : decode b_rd_isLetter 13 = .ok (.bipush (65), 2) := by decide +kernel
theorem d_rd_isLetter_15 : decode b_rd_isLetter 15 = .ok (.if_icmp .lt (13), 3) := by decide +kernel
theorem d_rd_isLetter_18 : decode b_rd_isLetter 18 = .ok (.iload_n 0, 1) := by decide +kernel
theorem d_rd_isLetter_19 : decode b_rd_isLetter 19 = .ok (.bipush (90), 2) := by decide +kernel
theorem d_rd_isLetter_21 : decode b_rd_isLetter 21 = .ok (.if_icmp .gt (7), 3) := by decide +kernel
theorem d_rd_isLetter_24 : decode b_rd_isLetter 24 = .ok (.iconst 1, 1) := by decide +kernel
theorem d_rd_isLetter_25 : decode b_rd_isLetter 25 = .ok (.goto (4), 3) := by decide +kernel
theorem d_rd_isLetter_28 : decode b_rd_isLetter 28 = .ok (.iconst 0, 1) := by decide +kernel
theorem d_rd_isLetter_29 : decode b_rd_isLetter 29 = .ok (.ireturn, 1) := by decide +kernel
def f_rd_isLetter_29  (z0 : Int32) (w : WW) : Option (Int32 × WW) :=
  if z0 = 0 ∨ z0 = 1 then some (z0, w) else none
def f_rd_isLetter_28   (w : WW) : Option (Int32 × WW) :=
  f_rd_isLetter_29 (0 : Int32) w
def f_rd_isLetter_24   (w : WW) : Option (Int32 × WW) :=
  f_rd_isLetter_29 (1 : Int32) w
def f_rd_isLetter_12  (y0 : Int32) (w : WW) : Option (Int32 × WW) :=
  if y0 < (65 : Int32) then
    f_rd_isLetter_28 w
  else
    if (90 : Int32) < y0 then
      f_rd_isLetter_28 w
    else
      f_rd_isLetter_24 w
def f_rd_isLetter (a0 : Int32) (w : WW) : Option (Int32 × WW) :=
  if a0 < (97 : Int32) then
    f_rd_isLetter_12 a0 w
  else
    if a0 ≤ (122 : Int32) then
      f_rd_isLetter_24 w
    else
      f_rd_isLetter_12 a0 w
set_option maxHeartbeats 4000000 in
set_option maxRecDepth 100000 in
theorem j_rd_isLetter_29 {p : Program} {l : Launch} {e : Env} {s : State} {m : MethodId} {args : Array Value} {below : List Frame} {meth : Method} {c : Code} {D : va_G} {cA : Nat → ClassId} {base : Nat} {r : Int32} {w' : WW} (C : cx b_rd_isLetter (some .boolean) 1 y_rd_isLetter.cls "isLetter" p s m args meth c D cA base)   : ∀ (z0 : Int32) (w : WW), f_rd_isLetter_29 z0 w = some (r, w') → ∀ (H : Heap) (locs : List Loc) (ls : Array Slot), wo_S D cls cA base s w H locs → lv_has ls 1 [] → W p l e rm_rd_isLetter s m args below meth c H locs 0 0 (MQ below (wo_Q D cls cA base (some (.int r)) w') args s rm_rd_isLetter.cells rm_rd_isLetter.slots (wo_B base)) (F0 m 29 ls [.int z0]) := by
  obtain ⟨hx, hb, hr, hml, hown, hts, hlk, hnm, hK, hG⟩ := id C
  intro z0 w h H locs ls hW hl
  unfold f_rd_isLetter_29 at h
  replace h := its h
  obtain ⟨c3, h⟩ := h
  cases h
  exact wo_zret hx hb hr hlk hW c3 d_rd_isLetter_29
set_option maxHeartbeats 4000000 in
set_option maxRecDepth 100000 in
theorem j_rd_isLetter_28 {p : Program} {l : Launch} {e : Env} {s : State} {m : MethodId} {args : Array Value} {below : List Frame} {meth : Method} {c : Code} {D : va_G} {cA : Nat → ClassId} {base : Nat} {r : Int32} {w' : WW} (C : cx b_rd_isLetter (some .boolean) 1 y_rd_isLetter.cls "isLetter" p s m args meth c D cA base)   : ∀  (w : WW), f_rd_isLetter_28  w = some (r, w') → ∀ (H : Heap) (locs : List Loc) (ls : Array Slot), wo_S D cls cA base s w H locs → lv_has ls 1 [] → W p l e rm_rd_isLetter s m args below meth c H locs 0 0 (MQ below (wo_Q D cls cA base (some (.int r)) w') args s rm_rd_isLetter.cells rm_rd_isLetter.slots (wo_B base)) (F0 m 28 ls []) := by
  obtain ⟨hx, hb, hr, hml, hown, hts, hlk, hnm, hK, hG⟩ := id C
  intro  w h H locs ls hW hl
  unfold f_rd_isLetter_28 at h
  refine lv_iconst (v := (0 : Int32)) hx hb d_rd_isLetter_28 (by decide) ?_
  exact j_rd_isLetter_29 C (0 : Int32) w h _ _ _ hW (lv_sub hl [] rfl)
set_option maxHeartbeats 4000000 in
set_option maxRecDepth 100000 in
theorem j_rd_isLetter_24 {p : Program} {l : Launch} {e : Env} {s : State} {m : MethodId} {args : Array Value} {below : List Frame} {meth : Method} {c : Code} {D : va_G} {cA : Nat → ClassId} {base : Nat} {r : Int32} {w' : WW} (C : cx b_rd_isLetter (some .boolean) 1 y_rd_isLetter.cls "isLetter" p s m args meth c D cA base)   : ∀  (w : WW), f_rd_isLetter_24  w = some (r, w') → ∀ (H : Heap) (locs : List Loc) (ls : Array Slot), wo_S D cls cA base s w H locs → lv_has ls 1 [] → W p l e rm_rd_isLetter s m args below meth c H locs 0 0 (MQ below (wo_Q D cls cA base (some (.int r)) w') args s rm_rd_isLetter.cells rm_rd_isLetter.slots (wo_B base)) (F0 m 24 ls []) := by
  obtain ⟨hx, hb, hr, hml, hown, hts, hlk, hnm, hK, hG⟩ := id C
  intro  w h H locs ls hW hl
  unfold f_rd_isLetter_24 at h
  refine lv_iconst (v := (1 : Int32)) hx hb d_rd_isLetter_24 (by decide) ?_
  refine lv_goto (tgt := 29) hx hb d_rd_isLetter_25 (by decide) ?_
  exact j_rd_isLetter_29 C (1 : Int32) w h _ _ _ hW (lv_sub hl [] rfl)
set_option maxHeartbeats 4000000 in
set_option maxRecDepth 100000 in
theorem j_rd_isLetter_12 {p : Program} {l : Launch} {e : Env} {s : State} {m : MethodId} {args : Array Value} {below : List Frame} {meth : Method} {c : Code} {D : va_G} {cA : Nat → ClassId} {base : Nat} {r : Int32} {w' : WW} (C : cx b_rd_isLetter (some .boolean) 1 y_rd_isLetter.cls "isLetter" p s m args meth c D cA base)   : ∀ (y0 : Int32) (w : WW), f_rd_isLetter_12 y0 w = some (r, w') → ∀ (H : Heap) (locs : List Loc) (ls : Array Slot), wo_S D cls cA base s w H locs → lv_has ls 1 [(0, .int y0)] → W p l e rm_rd_isLetter s m args below meth c H locs 0 0 (MQ below (wo_Q D cls cA base (some (.int r)) w') args s rm_rd_isLetter.cells rm_rd_isLetter.slots (wo_B base)) (F0 m 12 ls []) := by
  obtain ⟨hx, hb, hr, hml, hown, hts, hlk, hnm, hK, hG⟩ := id C
  intro y0 w h H locs ls hW hl
  unfold f_rd_isLetter_12 at h
  refine lv_iload_n hx hb d_rd_isLetter_12 rfl (lv_at hl 0 rfl) ?_
  refine lv_bipush (v := (65 : Int32)) hx hb d_rd_isLetter_13 (by decide) ?_
  refine lv_icmp_lt (tgt := 28) hx hb d_rd_isLetter_15 (by decide) (fun c2 => ?_) (fun c2 => ?_)
  · rw [if_pos c2] at h
    exact j_rd_isLetter_28 C w h _ _ _ hW (lv_sub hl [] rfl)
  · rw [if_neg c2] at h
    refine lv_iload_n hx hb d_rd_isLetter_18 rfl (lv_at hl 0 rfl) ?_
    refine lv_bipush (v := (90 : Int32)) hx hb d_rd_isLetter_19 (by decide) ?_
    refine lv_icmp_gt (tgt := 28) hx hb d_rd_isLetter_21 (by decide) (fun c4 => ?_) (fun c4 => ?_)
    · rw [if_pos c4] at h
      exact j_rd_isLetter_28 C w h _ _ _ hW (lv_sub hl [] rfl)
    · rw [if_neg c4] at h
      exact j_rd_isLetter_24 C w h _ _ _ hW (lv_sub hl [] rfl)
set_option maxHeartbeats 4000000 in
set_option maxRecDepth 100000 in
theorem c_rd_isLetter (l : Launch) (D : va_G) (cA : Nat → ClassId) (base : Nat) {a0 : Int32} {w w' : WW} {r : Int32} (h : f_rd_isLetter a0 w = some (r, w')) : mt l D cls (wo_tys cA) cA base y_rd_isLetter (Cond.code y_rd_isLetter b_rd_isLetter 1 (some .boolean) :: gt) rm_rd_isLetter [.int a0] w (some (.int r)) w' rm_rd_isLetter.cells rm_rd_isLetter.slots := by
  refine mt_start (by decide) (Nat.le_of_ble_eq_true rfl) ?_
  intro p e s m below meth c ls hx hb hr hml hown hts hlk hnm hK hG hW hl
  have C : cx b_rd_isLetter (some .boolean) 1 y_rd_isLetter.cls "isLetter" p s m [.int a0].toArray meth c D cA base := ⟨hx, hb, hr, hml, hown, hts, hlk, hnm, hK, hG⟩
  have hl : lv_has ls 1 [(0, .int a0)] := hl
  unfold f_rd_isLetter at h
  refine lv_iload_n hx hb d_rd_isLetter_0 rfl (lv_at hl 0 rfl) ?_
  refine lv_bipush (v := (97 : Int32)) hx hb d_rd_isLetter_1 (by decide) ?_
  refine lv_icmp_lt (tgt := 12) hx hb d_rd_isLetter_3 (by decide) (fun c1 => ?_) (fun c1 => ?_)
  · rw [if_pos c1] at h
    exact j_rd_isLetter_12 C a0 w h _ _ _ hW (lv_sub hl [0] rfl)
  · rw [if_neg c1] at h
    refine lv_iload_n hx hb d_rd_isLetter_6 rfl (lv_at hl 0 rfl) ?_
    refine lv_bipush (v := (122 : Int32)) hx hb d_rd_isLetter_7 (by decide) ?_
    refine lv_icmp_le (tgt := 24) hx hb d_rd_isLetter_9 (by decide) (fun c5 => ?_) (fun c5 => ?_)
    · rw [if_pos c5] at h
      exact j_rd_isLetter_24 C w h _ _ _ hW (lv_sub hl [] rfl)
    · rw [if_neg c5] at h
      exact j_rd_isLetter_12 C a0 w h _ _ _ hW (lv_sub hl [0] rfl)
abbrev b_pa_kindHere : ByteArray := prog_3_method_3_code
def y_pa_kindHere : MethodName := ⟨"AlarmForge$Parser", "kindHere", "()I"⟩
def rm_pa_kindHere : Room := { frames := 0, cells := 0, slots := 0, locals := 0 }
theorem d_pa_kindHere_0 : decode b_pa_kindHere 0 = .ok (.aload_n 0, 1) := by decide +kernel
theorem d_pa_kindHere_1 : decode b_pa_kindHere 1 = .ok (.getfield 12, 3) := by decide +kernel
theorem d_pa_kindHere_4 : decode b_pa_kindHere 4 = .ok (.getfield 45, 3) := by decide +kernel
theorem d_pa_kindHere_7 : decode b_pa_kindHere 7 = .ok (.aload_n 0, 1) := by decide +kernel
theorem d_pa_kindHere_8 : decode b_pa_kindHere 8 = .ok (.getfield 34, 3) := by decide +kernel
theorem d_pa_kindHere_11 : decode b_pa_kindHere 11 = .ok (.iaload, 1) := by decide +kernel
theorem d_pa_kindHere_12 : decode b_pa_kindHere 12 = .ok (.ireturn, 1) := by decide +kernel
def f_pa_kindHere (a0 : Nat) (w : WW) : Option (Int32 × WW) :=
  if kb w a0 2 = true then
    (gN w a0 2 0).bind fun x1 =>
    (gN w x1 1 1).bind fun x2 =>
    (gI w a0 2 1).bind fun x3 =>
    (rI w x2 0 x3).bind fun x4 =>
    some (x4, w)
  else none
theorem kb_pa_kindHere {a0 : Nat}  {w : WW} {r : (Int32 × WW)} (h : f_pa_kindHere a0 w = some r) : kb w a0 2 = true := (its h).1
set_option maxHeartbeats 4000000 in
set_option maxRecDepth 100000 in
theorem c_pa_kindHere (l : Launch) (D : va_G) (cA : Nat → ClassId) (base : Nat) {a0 : Nat} {w w' : WW} {r : Int32} (h : f_pa_kindHere a0 w = some (r, w')) : mt l D cls (wo_tys cA) cA base y_pa_kindHere (Cond.code y_pa_kindHere b_pa_kindHere 1 (some .int) :: gt) rm_pa_kindHere [.ref a0] w (some (.int r)) w' rm_pa_kindHere.cells rm_pa_kindHere.slots := by
  refine mt_start (by decide) (Nat.le_of_ble_eq_true rfl) ?_
  intro p e s m below meth c ls hx hb hr hml hown hts hlk hnm hK hG hW hl
  have C : cx b_pa_kindHere (some .int) 1 y_pa_kindHere.cls "kindHere" p s m [.ref a0].toArray meth c D cA base := ⟨hx, hb, hr, hml, hown, hts, hlk, hnm, hK, hG⟩
  have hl : lv_has ls 1 [(0, .ref a0)] := hl
  unfold f_pa_kindHere at h
  replace h := its h
  obtain ⟨-, h⟩ := h
  refine lv_aload_n hx hb d_pa_kindHere_0 rfl (lv_at hl 0 rfl) ?_
  replace h := bs h
  obtain ⟨x1, hx1, h⟩ := h
  refine gf_pa_12 hx hb hts hown hK hG hW (gN_s hx1) d_pa_kindHere_1 ?_
  replace h := bs h
  obtain ⟨x2, hx2, h⟩ := h
  refine gf_pa_45 hx hb hts hown hK hG hW (gN_s hx2) d_pa_kindHere_4 ?_
  refine lv_aload_n hx hb d_pa_kindHere_7 rfl (lv_at hl 0 rfl) ?_
  replace h := bs h
  obtain ⟨x3, hx3, h⟩ := h
  refine gf_pa_34 hx hb hts hown hK hG hW (gI_s hx3) d_pa_kindHere_8 ?_
  replace h := bs h
  obtain ⟨x4, hx4, h⟩ := h
  refine wo_iald hx hb hK hW (t := 0) rfl hx4 d_pa_kindHere_11 ?_
  cases h
  exact wo_iret hx hb hr hlk hW d_pa_kindHere_12
abbrev b_pa_beginsStatement : ByteArray := prog_3_method_9_code
def y_pa_beginsStatement : MethodName := ⟨"AlarmForge$Parser", "beginsStatement", "(I)Z"⟩
def rm_pa_beginsStatement : Room := { frames := 0, cells := 0, slots := 0, locals := 0 }
theorem d_pa_beginsStatement_0 : decode b_pa_beginsStatement 0 = .ok (.iload_n 0, 1) := by decide +kernel
theorem d_pa_beginsStatement_1 : decode b_pa_beginsStatement 1 = .ok (.iconst 2, 1) := by decide +kernel
theorem d_pa_beginsStatement_2 : decode b_pa_beginsStatement 2 = .ok (.if_icmp .eq (25), 3) := by decide +kernel
theorem d_pa_beginsStatement_5 : decode b_pa_beginsStatement 5 = .ok (.iload_n 0, 1) := by decide +kernel
theorem d_pa_beginsStatement_6 : decode b_pa_beginsStatement 6 = .ok (.iconst 3, 1) := by decide +kernel
theorem d_pa_beginsStatement_7 : decode b_pa_beginsStatement 7 = .ok (.if_icmp .eq (20), 3) := by decide +kernel
theorem d_pa_beginsStatement_10 : decode b_pa_beginsStatement 10 = .ok (.iload_n 0, 1) := by decide +kernel
theorem d_pa_beginsStatement_11 : decode b_pa_beginsStatement 11 = .ok (.iconst 4, 1) := by decide +kernel
theorem d_pa_beginsStatement_12 : decode b_pa_beginsStatement 12 = .ok (.if_icmp .eq (15), 3) := by decide +kernel
theorem d_pa_beginsStatement_15 : decode b_pa_beginsStatement 15 = .ok (.iload_n 0, 1) := by decide +kernel
theorem d_pa_beginsStatement_16 : decode b_pa_beginsStatement 16 = .ok (.bipush (6), 2) := by decide +kernel
theorem d_pa_beginsStatement_18 : decode b_pa_beginsStatement 18 = .ok (.if_icmp .eq (9), 3) := by decide +kernel
theorem d_pa_beginsStatement_21 : decode b_pa_beginsStatement 21 = .ok (.iload_n 0, 1) := by decide +kernel
theorem d_pa_beginsStatement_22 : decode b_pa_beginsStatement 22 = .ok (.bipush (7), 2) := by decide +kernel
theorem d_pa_beginsStatement_24 : decode b_pa_beginsStatement 24 = .ok (.if_icmp .ne (7), 3) := by decide +kernel
theorem d_pa_beginsStatement_27 : decode b_pa_beginsStatement 27 = .ok (.iconst 1, 1) := by decide +kernel
theorem d_pa_beginsStatement_28 : decode b_pa_beginsStatement 28 = .ok (.goto (4), 3) := by decide +kernel
theorem d_pa_beginsStatement_31 : decode b_pa_beginsStatement 31 = .ok (.iconst 0, 1) := by decide +kernel
theorem d_pa_beginsStatement_32 : decode b_pa_beginsStatement 32 = .ok (.ireturn, 1) := by decide +kernel
def f_pa_beginsStatement_32  (z0 : Int32) (w : WW) : Option (Int32 × WW) :=
  if z0 = 0 ∨ z0 = 1 then some (z0, w) else none
def f_pa_beginsStatement_27   (w : WW) : Option (Int32 × WW) :=
  f_pa_beginsStatement_32 (1 : Int32) w
def f_pa_beginsStatement (a0 : Int32) (w : WW) : Option (Int32 × WW) :=
  if a0 = (2 : Int32) then
    f_pa_beginsStatement_27 w
  else
    if a0 = (3 : Int32) then
      f_pa_beginsStatement_27 w
    else
      if a0 = (4 : Int32) then
        f_pa_beginsStatement_27 w
      else
        if a0 = (6 : Int32) then
          f_pa_beginsStatement_27 w
        else
          if a0 = (7 : Int32) then
            f_pa_beginsStatement_27 w
          else
            f_pa_beginsStatement_32 (0 : Int32) w
set_option maxHeartbeats 4000000 in
set_option maxRecDepth 100000 in
theorem j_pa_beginsStatement_32 {p : Program} {l : Launch} {e : Env} {s : State} {m : MethodId} {args : Array Value} {below : List Frame} {meth : Method} {c : Code} {D : va_G} {cA : Nat → ClassId} {base : Nat} {r : Int32} {w' : WW} (C : cx b_pa_beginsStatement (some .boolean) 1 y_pa_beginsStatement.cls "beginsStatement" p s m args meth c D cA base)   : ∀ (z0 : Int32) (w : WW), f_pa_beginsStatement_32 z0 w = some (r, w') → ∀ (H : Heap) (locs : List Loc) (ls : Array Slot), wo_S D cls cA base s w H locs → lv_has ls 1 [] → W p l e rm_pa_beginsStatement s m args below meth c H locs 0 0 (MQ below (wo_Q D cls cA base (some (.int r)) w') args s rm_pa_beginsStatement.cells rm_pa_beginsStatement.slots (wo_B base)) (F0 m 32 ls [.int z0]) := by
  obtain ⟨hx, hb, hr, hml, hown, hts, hlk, hnm, hK, hG⟩ := id C
  intro z0 w h H locs ls hW hl
  unfold f_pa_beginsStatement_32 at h
  replace h := its h
  obtain ⟨c2, h⟩ := h
  cases h
  exact wo_zret hx hb hr hlk hW c2 d_pa_beginsStatement_32
set_option maxHeartbeats 4000000 in
set_option maxRecDepth 100000 in
theorem j_pa_beginsStatement_27 {p : Program} {l : Launch} {e : Env} {s : State} {m : MethodId} {args : Array Value} {below : List Frame} {meth : Method} {c : Code} {D : va_G} {cA : Nat → ClassId} {base : Nat} {r : Int32} {w' : WW} (C : cx b_pa_beginsStatement (some .boolean) 1 y_pa_beginsStatement.cls "beginsStatement" p s m args meth c D cA base)   : ∀  (w : WW), f_pa_beginsStatement_27  w = some (r, w') → ∀ (H : Heap) (locs : List Loc) (ls : Array Slot), wo_S D cls cA base s w H locs → lv_has ls 1 [] → W p l e rm_pa_beginsStatement s m args below meth c H locs 0 0 (MQ below (wo_Q D cls cA base (some (.int r)) w') args s rm_pa_beginsStatement.cells rm_pa_beginsStatement.slots (wo_B base)) (F0 m 27 ls []) := by
  obtain ⟨hx, hb, hr, hml, hown, hts, hlk, hnm, hK, hG⟩ := id C
  intro  w h H locs ls hW hl
  unfold f_pa_beginsStatement_27 at h
  refine lv_iconst (v := (1 : Int32)) hx hb d_pa_beginsStatement_27 (by decide) ?_
  refine lv_goto (tgt := 32) hx hb d_pa_beginsStatement_28 (by decide) ?_
  exact j_pa_beginsStatement_32 C (1 : Int32) w h _ _ _ hW (lv_sub hl [] rfl)
set_option maxHeartbeats 4000000 in
set_option maxRecDepth 100000 in
theorem c_pa_beginsStatement (l : Launch) (D : va_G) (cA : Nat → ClassId) (base : Nat) {a0 : Int32} {w w' : WW} {r : Int32} (h : f_pa_beginsStatement a0 w = some (r, w')) : mt l D cls (wo_tys cA) cA base y_pa_beginsStatement (Cond.code y_pa_beginsStatement b_pa_beginsStatement 1 (some .boolean) :: gt) rm_pa_beginsStatement [.int a0] w (some (.int r)) w' rm_pa_beginsStatement.cells rm_pa_beginsStatement.slots := by
  refine mt_start (by decide) (Nat.le_of_ble_eq_true rfl) ?_
  intro p e s m below meth c ls hx hb hr hml hown hts hlk hnm hK hG hW hl
  have C : cx b_pa_beginsStatement (some .boolean) 1 y_pa_beginsStatement.cls "beginsStatement" p s m [.int a0].toArray meth c D cA base := ⟨hx, hb, hr, hml, hown, hts, hlk, hnm, hK, hG⟩
  have hl : lv_has ls 1 [(0, .int a0)] := hl
  unfold f_pa_beginsStatement at h
  refine lv_iload_n hx hb d_pa_beginsStatement_0 rfl (lv_at hl 0 rfl) ?_
  refine lv_iconst (v := (2 : Int32)) hx hb d_pa_beginsStatement_1 (by decide) ?_
  refine lv_icmp_eq (tgt := 27) hx hb d_pa_beginsStatement_2 (by decide) (fun c1 => ?_) (fun c1 => ?_)
  · rw [if_pos c1] at h
    exact j_pa_beginsStatement_27 C w h _ _ _ hW (lv_sub hl [] rfl)
  · rw [if_neg c1] at h
    refine lv_iload_n hx hb d_pa_beginsStatement_5 rfl (lv_at hl 0 rfl) ?_
    refine lv_iconst (v := (3 : Int32)) hx hb d_pa_beginsStatement_6 (by decide) ?_
    refine lv_icmp_eq (tgt := 27) hx hb d_pa_beginsStatement_7 (by decide) (fun c3 => ?_) (fun c3 => ?_)
    · rw [if_pos c3] at h
      exact j_pa_beginsStatement_27 C w h _ _ _ hW (lv_sub hl [] rfl)
    · rw [if_neg c3] at h
      refine lv_iload_n hx hb d_pa_beginsStatement_10 rfl (lv_at hl 0 rfl) ?_
      refine lv_iconst (v := (4 : Int32)) hx hb d_pa_beginsStatement_11 (by decide) ?_
      refine lv_icmp_eq (tgt := 27) hx hb d_pa_beginsStatement_12 (by decide) (fun c4 => ?_) (fun c4 => ?_)
      · rw [if_pos c4] at h
        exact j_pa_beginsStatement_27 C w h _ _ _ hW (lv_sub hl [] rfl)
      · rw [if_neg c4] at h
        refine lv_iload_n hx hb d_pa_beginsStatement_15 rfl (lv_at hl 0 rfl) ?_
        refine lv_bipush (v := (6 : Int32)) hx hb d_pa_beginsStatement_16 (by decide) ?_
        refine lv_icmp_eq (tgt := 27) hx hb d_pa_beginsStatement_18 (by decide) (fun c5 => ?_) (fun c5 => ?_)
        · rw [if_pos c5] at h
          exact j_pa_beginsStatement_27 C w h _ _ _ hW (lv_sub hl [] rfl)
        · rw [if_neg c5] at h
          refine lv_iload_n hx hb d_pa_beginsStatement_21 rfl (lv_at hl 0 rfl) ?_
          refine lv_bipush (v := (7 : Int32)) hx hb d_pa_beginsStatement_22 (by decide) ?_
          refine lv_icmp_ne (tgt := 31) hx hb d_pa_beginsStatement_24 (by decide) (fun c6 => ?_) (fun c6 => ?_)
          · rw [if_neg c6] at h
            refine lv_iconst (v := (0 : Int32)) hx hb d_pa_beginsStatement_31 (by decide) ?_
            exact j_pa_beginsStatement_32 C (0 : Int32) w h _ _ _ hW (lv_sub hl [] rfl)
          · rw [if_pos c6] at h
            exact j_pa_beginsStatement_27 C w h _ _ _ hW (lv_sub hl [] rfl)
abbrev b_pg_isFull : ByteArray := prog_4_method_3_code
def y_pg_isFull : MethodName := ⟨"AlarmForge$Program", "isFull", "()Z"⟩
def rm_pg_isFull : Room := { frames := 0, cells := 0, slots := 0, locals := 0 }
theorem d_pg_isFull_0 : decode b_pg_isFull 0 = .ok (.aload_n 0, 1) := by decide +kernel
theorem d_pg_isFull_1 : decode b_pg_isFull 1 = .ok (.getfield 28, 3) := by decide +kernel
theorem d_pg_isFull_4 : decode b_pg_isFull 4 = .ok (.bipush (50), 2) := by decide +kernel
theorem d_pg_isFull_6 : decode b_pg_isFull 6 = .ok (.if_icmp .lt (7), 3) := by decide +kernel
theorem d_pg_isFull_9 : decode b_pg_isFull 9 = .ok (.iconst 1, 1) := by decide +kernel
theorem d_pg_isFull_10 : decode b_pg_isFull 10 = .ok (.goto (4), 3) := by decide +kernel
theorem d_pg_isFull_13 : decode b_pg_isFull 13 = .ok (.iconst 0, 1) := by decide +kernel
theorem d_pg_isFull_14 : decode b_pg_isFull 14 = .ok (.ireturn, 1) := by decide +kernel
def f_pg_isFull_14  (z0 : Int32) (w : WW) : Option (Int32 × WW) :=
  if z0 = 0 ∨ z0 = 1 then some (z0, w) else none
def f_pg_isFull (a0 : Nat) (w : WW) : Option (Int32 × WW) :=
  if kb w a0 3 = true then
    (gI w a0 3 1).bind fun x1 =>
    if x1 < (50 : Int32) then
      f_pg_isFull_14 (0 : Int32) w
    else
      f_pg_isFull_14 (1 : Int32) w
  else none
theorem kb_pg_isFull {a0 : Nat}  {w : WW} {r : (Int32 × WW)} (h : f_pg_isFull a0 w = some r) : kb w a0 3 = true := (its h).1
set_option maxHeartbeats 4000000 in
set_option maxRecDepth 100000 in
theorem j_pg_isFull_14 {p : Program} {l : Launch} {e : Env} {s : State} {m : MethodId} {args : Array Value} {below : List Frame} {meth : Method} {c : Code} {D : va_G} {cA : Nat → ClassId} {base : Nat} {r : Int32} {w' : WW} (C : cx b_pg_isFull (some .boolean) 1 y_pg_isFull.cls "isFull" p s m args meth c D cA base)   : ∀ (z0 : Int32) (w : WW), f_pg_isFull_14 z0 w = some (r, w') → ∀ (H : Heap) (locs : List Loc) (ls : Array Slot), wo_S D cls cA base s w H locs → lv_has ls 1 [] → W p l e rm_pg_isFull s m args below meth c H locs 0 0 (MQ below (wo_Q D cls cA base (some (.int r)) w') args s rm_pg_isFull.cells rm_pg_isFull.slots (wo_B base)) (F0 m 14 ls [.int z0]) := by
  obtain ⟨hx, hb, hr, hml, hown, hts, hlk, hnm, hK, hG⟩ := id C
  intro z0 w h H locs ls hW hl
  unfold f_pg_isFull_14 at h
  replace h := its h
  obtain ⟨c3, h⟩ := h
  cases h
  exact wo_zret hx hb hr hlk hW c3 d_pg_isFull_14
set_option maxHeartbeats 4000000 in
set_option maxRecDepth 100000 in
theorem c_pg_isFull (l : Launch) (D : va_G) (cA : Nat → ClassId) (base : Nat) {a0 : Nat} {w w' : WW} {r : Int32} (h : f_pg_isFull a0 w = some (r, w')) : mt l D cls (wo_tys cA) cA base y_pg_isFull (Cond.code y_pg_isFull b_pg_isFull 1 (some .boolean) :: gt) rm_pg_isFull [.ref a0] w (some (.int r)) w' rm_pg_isFull.cells rm_pg_isFull.slots := by
  refine mt_start (by decide) (Nat.le_of_ble_eq_true rfl) ?_
  intro p e s m below meth c ls hx hb hr hml hown hts hlk hnm hK hG hW hl
  have C : cx b_pg_isFull (some .boolean) 1 y_pg_isFull.cls "isFull" p s m [.ref a0].toArray meth c D cA base := ⟨hx, hb, hr, hml, hown, hts, hlk, hnm, hK, hG⟩
  have hl : lv_has ls 1 [(0, .ref a0)] := hl
  unfold f_pg_isFull at h
  replace h := its h
  obtain ⟨-, h⟩ := h
  refine lv_aload_n hx hb d_pg_isFull_0 rfl (lv_at hl 0 rfl) ?_
  replace h := bs h
  obtain ⟨x1, hx1, h⟩ := h
  refine gf_pg_28 hx hb hts hown hK hG hW (gI_s hx1) d_pg_isFull_1 ?_
  refine lv_bipush (v := (50 : Int32)) hx hb d_pg_isFull_4 (by decide) ?_
  refine lv_icmp_lt (tgt := 13) hx hb d_pg_isFull_6 (by decide) (fun c2 => ?_) (fun c2 => ?_)
  · rw [if_pos c2] at h
    refine lv_iconst (v := (0 : Int32)) hx hb d_pg_isFull_13 (by decide) ?_
    exact j_pg_isFull_14 C (0 : Int32) w h _ _ _ hW (lv_sub hl [] rfl)
  · rw [if_neg c2] at h
    refine lv_iconst (v := (1 : Int32)) hx hb d_pg_isFull_9 (by decide) ?_
    refine lv_goto (tgt := 14) hx hb d_pg_isFull_10 (by decide) ?_
    exact j_pg_isFull_14 C (1 : Int32) w h _ _ _ hW (lv_sub hl [] rfl)
abbrev b_pg_newStatement : ByteArray := prog_4_method_4_code
def y_pg_newStatement : MethodName := ⟨"AlarmForge$Program", "newStatement", "()LAlarmForge$Statement;"⟩
def rm_pg_newStatement : Room := { frames := 0, cells := 0, slots := 0, locals := 0 }
theorem d_pg_newStatement_0 : decode b_pg_newStatement 0 = .ok (.aload_n 0, 1) := by decide +kernel
theorem d_pg_newStatement_1 : decode b_pg_newStatement 1 = .ok (.getfield 11, 3) := by decide +kernel
theorem d_pg_newStatement_4 : decode b_pg_newStatement 4 = .ok (.aload_n 0, 1) := by decide +kernel
theorem d_pg_newStatement_5 : decode b_pg_newStatement 5 = .ok (.getfield 28, 3) := by decide +kernel
theorem d_pg_newStatement_8 : decode b_pg_newStatement 8 = .ok (.aaload, 1) := by decide +kernel
theorem d_pg_newStatement_9 : decode b_pg_newStatement 9 = .ok (.astore_n 1, 1) := by decide +kernel
theorem d_pg_newStatement_10 : decode b_pg_newStatement 10 = .ok (.aload_n 0, 1) := by decide +kernel
theorem d_pg_newStatement_11 : decode b_pg_newStatement 11 = .ok (.dup, 1) := by decide +kernel
theorem d_pg_newStatement_12 : decode b_pg_newStatement 12 = .ok (.getfield 28, 3) := by decide +kernel
theorem d_pg_newStatement_15 : decode b_pg_newStatement 15 = .ok (.iconst 1, 1) := by decide +kernel
theorem d_pg_newStatement_16 : decode b_pg_newStatement 16 = .ok (.iadd, 1) := by decide +kernel
theorem d_pg_newStatement_17 : decode b_pg_newStatement 17 = .ok (.putfield 28, 3) := by decide +kernel
theorem d_pg_newStatement_20 : decode b_pg_newStatement 20 = .ok (.aload_n 1, 1) := by decide +kernel
theorem d_pg_newStatement_21 : decode b_pg_newStatement 21 = .ok (.areturn, 1) := by decide +kernel
def f_pg_newStatement (a0 : Nat) (w : WW) : Option (Option Nat × WW) :=
  if kb w a0 3 = true then
    (gN w a0 3 0).bind fun x1 =>
    (gI w a0 3 1).bind fun x2 =>
    (rN w x1 6 x2).bind fun x3 =>
    (gI w a0 3 1).bind fun x4 =>
    (pv w a0 3 1 (.int (x4 + (1 : Int32)))).bind fun w5 =>
    some ((some x3), w5)
  else none
theorem kb_pg_newStatement {a0 : Nat}  {w : WW} {r : (Option Nat × WW)} (h : f_pg_newStatement a0 w = some r) : kb w a0 3 = true := (its h).1
set_option maxHeartbeats 4000000 in
set_option maxRecDepth 100000 in
theorem c_pg_newStatement (l : Launch) (D : va_G) (cA : Nat → ClassId) (base : Nat) {a0 : Nat} {w w' : WW} {r : Option Nat} (h : f_pg_newStatement a0 w = some (r, w')) : mt l D cls (wo_tys cA) cA base y_pg_newStatement (Cond.code y_pg_newStatement b_pg_newStatement 2 (some (.object "AlarmForge$Statement")) :: gt) rm_pg_newStatement [.ref a0] w (some (va_rf r)) w' rm_pg_newStatement.cells rm_pg_newStatement.slots := by
  refine mt_start (by decide) (Nat.le_of_ble_eq_true rfl) ?_
  intro p e s m below meth c ls hx hb hr hml hown hts hlk hnm hK hG hW hl
  have C : cx b_pg_newStatement (some (.object "AlarmForge$Statement")) 2 y_pg_newStatement.cls "newStatement" p s m [.ref a0].toArray meth c D cA base := ⟨hx, hb, hr, hml, hown, hts, hlk, hnm, hK, hG⟩
  have hl : lv_has ls 2 [(0, .ref a0)] := hl
  unfold f_pg_newStatement at h
  replace h := its h
  obtain ⟨-, h⟩ := h
  refine lv_aload_n hx hb d_pg_newStatement_0 rfl (lv_at hl 0 rfl) ?_
  replace h := bs h
  obtain ⟨x1, hx1, h⟩ := h
  refine gf_pg_11 hx hb hts hown hK hG hW (gN_s hx1) d_pg_newStatement_1 ?_
  refine lv_aload_n hx hb d_pg_newStatement_4 rfl (lv_at hl 0 rfl) ?_
  replace h := bs h
  obtain ⟨x2, hx2, h⟩ := h
  refine gf_pg_28 hx hb hts hown hK hG hW (gI_s hx2) d_pg_newStatement_5 ?_
  replace h := bs h
  obtain ⟨x3, hx3, h⟩ := h
  refine wo_aald hx hb hK hW (t := 6) rfl (rN_s hx3) d_pg_newStatement_8 ?_
  refine lv_astore_n (lv' := [(1, .ref x3), (0, .ref a0)]) hx hb d_pg_newStatement_9 rfl hl (by decide) rfl (fun ls hl => ?_)
  refine lv_aload_n hx hb d_pg_newStatement_10 rfl (lv_at hl 1 rfl) ?_
  refine lv_dup hx hb d_pg_newStatement_11 rfl ?_
  replace h := bs h
  obtain ⟨x4, hx4, h⟩ := h
  refine gf_pg_28 hx hb hts hown hK hG hW (gI_s hx4) d_pg_newStatement_12 ?_
  refine lv_iconst (v := (1 : Int32)) hx hb d_pg_newStatement_15 (by decide) ?_
  refine lv_iadd hx hb d_pg_newStatement_16 ?_
  replace h := bs h
  obtain ⟨w5, hw5, h⟩ := h
  refine pf_pg_28 hx hb hts hown hK hG hW rfl rfl hw5 d_pg_newStatement_17 (fun H locs hW => ?_)
  refine lv_aload_n hx hb d_pg_newStatement_20 rfl (lv_at hl 0 rfl) ?_
  cases h
  exact wo_aret hx hb hr hlk hW d_pg_newStatement_21
abbrev b_st_begin : ByteArray := prog_8_method_2_code
def y_st_begin : MethodName := ⟨"AlarmForge$Statement", "begin", "(III)V"⟩
def rm_st_begin : Room := { frames := 0, cells := 0, slots := 0, locals := 0 }
theorem d_st_begin_0 : decode b_st_begin 0 = .ok (.aload_n 0, 1) := by decide +kernel
theorem d_st_begin_1 : decode b_st_begin 1 = .ok (.iload_n 1, 1) := by decide +kernel
theorem d_st_begin_2 : decode b_st_begin 2 = .ok (.putfield 7, 3) := by decide +kernel
theorem d_st_begin_5 : decode b_st_begin 5 = .ok (.aload_n 0, 1) := by decide +kernel
theorem d_st_begin_6 : decode b_st_begin 6 = .ok (.iload_n 2, 1) := by decide +kernel
theorem d_st_begin_7 : decode b_st_begin 7 = .ok (.putfield 13, 3) := by decide +kernel
theorem d_st_begin_10 : decode b_st_begin 10 = .ok (.aload_n 0, 1) := by decide +kernel
theorem d_st_begin_11 : decode b_st_begin 11 = .ok (.iload_n 3, 1) := by decide +kernel
theorem d_st_begin_12 : decode b_st_begin 12 = .ok (.putfield 16, 3) := by decide +kernel
theorem d_st_begin_15 : decode b_st_begin 15 = .ok (.aload_n 0, 1) := by decide +kernel
theorem d_st_begin_16 : decode b_st_begin 16 = .ok (.aconst_null, 1) := by decide +kernel
theorem d_st_begin_17 : decode b_st_begin 17 = .ok (.putfield 19, 3) := by decide +kernel
theorem d_st_begin_20 : decode b_st_begin 20 = .ok (.aload_n 0, 1) := by decide +kernel
theorem d_st_begin_21 : decode b_st_begin 21 = .ok (.aconst_null, 1) := by decide +kernel
theorem d_st_begin_22 : decode b_st_begin 22 = .ok (.putfield 23, 3) := by decide +kernel
theorem d_st_begin_25 : decode b_st_begin 25 = .ok (.aload_n 0, 1) := by decide +kernel
theorem d_st_begin_26 : decode b_st_begin 26 = .ok (.aconst_null, 1) := by decide +kernel
theorem d_st_begin_27 : decode b_st_begin 27 = .ok (.putfield 26, 3) := by decide +kernel
theorem d_st_begin_30 : decode b_st_begin 30 = .ok (.return_, 1) := by decide +kernel
def f_st_begin (a0 : Nat) (a1 : Int32) (a2 : Int32) (a3 : Int32) (w : WW) : Option WW :=
  if kb w a0 4 = true then
    (pv w a0 4 0 (.int a1)).bind fun w1 =>
    (pv w1 a0 4 1 (.int a2)).bind fun w2 =>
    (pv w2 a0 4 2 (.int a3)).bind fun w3 =>
    (pv w3 a0 4 7 (va_rf none)).bind fun w4 =>
    (pv w4 a0 4 8 (va_rf none)).bind fun w5 =>
    (pv w5 a0 4 9 (va_rf none)).bind fun w6 =>
    some w6
  else none
theorem kb_st_begin {a0 : Nat} {a1 : Int32} {a2 : Int32} {a3 : Int32} {w : WW} {r : WW} (h : f_st_begin a0 a1 a2 a3 w = some r) : kb w a0 4 = true := (its h).1
set_option maxHeartbeats 4000000 in
set_option maxRecDepth 100000 in
theorem c_st_begin (l : Launch) (D : va_G) (cA : Nat → ClassId) (base : Nat) {a0 : Nat} {a1 : Int32} {a2 : Int32} {a3 : Int32} {w w' : WW} (h : f_st_begin a0 a1 a2 a3 w = some w') : mt l D cls (wo_tys cA) cA base y_st_begin (Cond.code y_st_begin b_st_begin 4 (none) :: gt) rm_st_begin [.ref a0, .int a1, .int a2, .int a3] w none w' rm_st_begin.cells rm_st_begin.slots := by
  refine mt_start (by decide) (Nat.le_of_ble_eq_true rfl) ?_
  intro p e s m below meth c ls hx hb hr hml hown hts hlk hnm hK hG hW hl
  have C : cx b_st_begin (none) 4 y_st_begin.cls "begin" p s m [.ref a0, .int a1, .int a2, .int a3].toArray meth c D cA base := ⟨hx, hb, hr, hml, hown, hts, hlk, hnm, hK, hG⟩
  have hl : lv_has ls 4 [(0, .ref a0), (1, .int a1), (2, .int a2), (3, .int a3)] := hl
  unfold f_st_begin at h
  replace h := its h
  obtain ⟨-, h⟩ := h
  refine lv_aload_n hx hb d_st_begin_0 rfl (lv_at hl 0 rfl) ?_
  refine lv_iload_n hx hb d_st_begin_1 rfl (lv_at hl 1 rfl) ?_
  replace h := bs h
  obtain ⟨w1, hw1, h⟩ := h
  refine pf_st_7 hx hb hts hown hK hG hW rfl rfl hw1 d_st_begin_2 (fun H locs hW => ?_)
  refine lv_aload_n hx hb d_st_begin_5 rfl (lv_at hl 0 rfl) ?_
  refine lv_iload_n hx hb d_st_begin_6 rfl (lv_at hl 2 rfl) ?_
  replace h := bs h
  obtain ⟨w2, hw2, h⟩ := h
  refine pf_st_13 hx hb hts hown hK hG hW rfl rfl hw2 d_st_begin_7 (fun H locs hW => ?_)
  refine lv_aload_n hx hb d_st_begin_10 rfl (lv_at hl 0 rfl) ?_
  refine lv_iload_n hx hb d_st_begin_11 rfl (lv_at hl 3 rfl) ?_
  replace h := bs h
  obtain ⟨w3, hw3, h⟩ := h
  refine pf_st_16 hx hb hts hown hK hG hW rfl rfl hw3 d_st_begin_12 (fun H locs hW => ?_)
  refine lv_aload_n hx hb d_st_begin_15 rfl (lv_at hl 0 rfl) ?_
  refine wo_null hx hb d_st_begin_16 ?_
  replace h := bs h
  obtain ⟨w4, hw4, h⟩ := h
  refine pf_st_19 hx hb hts hown hK hG hW (rf_n _ _) (rf_f _ _) hw4 d_st_begin_17 (fun H locs hW => ?_)
  refine lv_aload_n hx hb d_st_begin_20 rfl (lv_at hl 0 rfl) ?_
  refine wo_null hx hb d_st_begin_21 ?_
  replace h := bs h
  obtain ⟨w5, hw5, h⟩ := h
  refine pf_st_23 hx hb hts hown hK hG hW (rf_n _ _) (rf_f _ _) hw5 d_st_begin_22 (fun H locs hW => ?_)
  refine lv_aload_n hx hb d_st_begin_25 rfl (lv_at hl 0 rfl) ?_
  refine wo_null hx hb d_st_begin_26 ?_
  replace h := bs h
  obtain ⟨w6, hw6, h⟩ := h
  refine pf_st_26 hx hb hts hown hK hG hW (rf_n _ _) (rf_f _ _) hw6 d_st_begin_27 (fun H locs hW => ?_)
  cases h
  exact wo_vret hx hb hr hlk hW d_st_begin_30
abbrev b_pa_advance : ByteArray := prog_3_method_5_code
def y_pa_advance : MethodName := ⟨"AlarmForge$Parser", "advance", "()V"⟩
def rm_pa_advance : Room := { frames := 0, cells := 0, slots := 0, locals := 0 }
theorem d_pa_advance_0 : decode b_pa_advance 0 = .ok (.aload_n 0, 1) := by decide +kernel
theorem d_pa_advance_1 : decode b_pa_advance 1 = .ok (.getfield 34, 3) := by decide +kernel
theorem d_pa_advance_4 : decode b_pa_advance 4 = .ok (.sipush (200), 3) := by decide +kernel
theorem d_pa_advance_7 : decode b_pa_advance 7 = .ok (.if_icmp .ge (13), 3) := by decide +kernel
theorem d_pa_advance_10 : decode b_pa_advance 10 = .ok (.aload_n 0, 1) := by decide +kernel
theorem d_pa_advance_11 : decode b_pa_advance 11 = .ok (.dup, 1) := by decide +kernel
theorem d_pa_advance_12 : decode b_pa_advance 12 = .ok (.getfield 34, 3) := by decide +kernel
theorem d_pa_advance_15 : decode b_pa_advance 15 = .ok (.iconst 1, 1) := by decide +kernel
theorem d_pa_advance_16 : decode b_pa_advance 16 = .ok (.iadd, 1) := by decide +kernel
theorem d_pa_advance_17 : decode b_pa_advance 17 = .ok (.putfield 34, 3) := by decide +kernel
theorem d_pa_advance_20 : decode b_pa_advance 20 = .ok (.return_, 1) := by decide +kernel
def f_pa_advance_20   (w : WW) : Option WW :=
  some w
def f_pa_advance (a0 : Nat) (w : WW) : Option WW :=
  if kb w a0 2 = true then
    (gI w a0 2 1).bind fun x1 =>
    if (200 : Int32) ≤ x1 then
      f_pa_advance_20 w
    else
      (gI w a0 2 1).bind fun x3 =>
      (pv w a0 2 1 (.int (x3 + (1 : Int32)))).bind fun w4 =>
      f_pa_advance_20 w4
  else none
theorem kb_pa_advance {a0 : Nat}  {w : WW} {r : WW} (h : f_pa_advance a0 w = some r) : kb w a0 2 = true := (its h).1
set_option maxHeartbeats 4000000 in
set_option maxRecDepth 100000 in
theorem j_pa_advance_20 {p : Program} {l : Launch} {e : Env} {s : State} {m : MethodId} {args : Array Value} {below : List Frame} {meth : Method} {c : Code} {D : va_G} {cA : Nat → ClassId} {base : Nat} {w' : WW} (C : cx b_pa_advance (none) 1 y_pa_advance.cls "advance" p s m args meth c D cA base)   : ∀  (w : WW), f_pa_advance_20  w = some w' → ∀ (H : Heap) (locs : List Loc) (ls : Array Slot), wo_S D cls cA base s w H locs → lv_has ls 1 [] → W p l e rm_pa_advance s m args below meth c H locs 0 0 (MQ below (wo_Q D cls cA base none w') args s rm_pa_advance.cells rm_pa_advance.slots (wo_B base)) (F0 m 20 ls []) := by
  obtain ⟨hx, hb, hr, hml, hown, hts, hlk, hnm, hK, hG⟩ := id C
  intro  w h H locs ls hW hl
  unfold f_pa_advance_20 at h
  cases h
  exact wo_vret hx hb hr hlk hW d_pa_advance_20
set_option maxHeartbeats 4000000 in
set_option maxRecDepth 100000 in
theorem c_pa_advance (l : Launch) (D : va_G) (cA : Nat → ClassId) (base : Nat) {a0 : Nat} {w w' : WW} (h : f_pa_advance a0 w = some w') : mt l D cls (wo_tys cA) cA base y_pa_advance (Cond.code y_pa_advance b_pa_advance 1 (none) :: gt) rm_pa_advance [.ref a0] w none w' rm_pa_advance.cells rm_pa_advance.slots := by
  refine mt_start (by decide) (Nat.le_of_ble_eq_true rfl) ?_
  intro p e s m below meth c ls hx hb hr hml hown hts hlk hnm hK hG hW hl
  have C : cx b_pa_advance (none) 1 y_pa_advance.cls "advance" p s m [.ref a0].toArray meth c D cA base := ⟨hx, hb, hr, hml, hown, hts, hlk, hnm, hK, hG⟩
  have hl : lv_has ls 1 [(0, .ref a0)] := hl
  unfold f_pa_advance at h
  replace h := its h
  obtain ⟨-, h⟩ := h
  refine lv_aload_n hx hb d_pa_advance_0 rfl (lv_at hl 0 rfl) ?_
  replace h := bs h
  obtain ⟨x1, hx1, h⟩ := h
  refine gf_pa_34 hx hb hts hown hK hG hW (gI_s hx1) d_pa_advance_1 ?_
  refine lv_sipush (v := (200 : Int32)) hx hb d_pa_advance_4 (by decide) ?_
  refine lv_icmp_ge (tgt := 20) hx hb d_pa_advance_7 (by decide) (fun c2 => ?_) (fun c2 => ?_)
  · rw [if_pos c2] at h
    exact j_pa_advance_20 C w h _ _ _ hW (lv_sub hl [] rfl)
  · rw [if_neg c2] at h
    refine lv_aload_n hx hb d_pa_advance_10 rfl (lv_at hl 0 rfl) ?_
    refine lv_dup hx hb d_pa_advance_11 rfl ?_
    replace h := bs h
    obtain ⟨x3, hx3, h⟩ := h
    refine gf_pa_34 hx hb hts hown hK hG hW (gI_s hx3) d_pa_advance_12 ?_
    refine lv_iconst (v := (1 : Int32)) hx hb d_pa_advance_15 (by decide) ?_
    refine lv_iadd hx hb d_pa_advance_16 ?_
    replace h := bs h
    obtain ⟨w4, hw4, h⟩ := h
    refine pf_pa_34 hx hb hts hown hK hG hW rfl rfl hw4 d_pa_advance_17 (fun H locs hW => ?_)
    exact j_pa_advance_20 C w4 h _ _ _ hW (lv_sub hl [] rfl)
abbrev b_pa_beginsFactor : ByteArray := prog_3_method_18_code
def y_pa_beginsFactor : MethodName := ⟨"AlarmForge$Parser", "beginsFactor", "(I)Z"⟩
def rm_pa_beginsFactor : Room := { frames := 0, cells := 0, slots := 0, locals := 0 }
theorem d_pa_beginsFactor_0 : decode b_pa_beginsFactor 0 = .ok (.iload_n 0, 1) := by decide +kernel
theorem d_pa_beginsFactor_1 : decode b_pa_beginsFactor 1 = .ok (.iconst 1, 1) := by decide +kernel
theorem d_pa_beginsFactor_2 : decode b_pa_beginsFactor 2 = .ok (.if_icmp .eq (25), 3) := by decide +kernel
theorem d_pa_beginsFactor_5 : decode b_pa_beginsFactor 5 = .ok (.iload_n 0, 1) := by decide +kernel
theorem d_pa_beginsFactor_6 : decode b_pa_beginsFactor 6 = .ok (.iconst 2, 1) := by decide +kernel
theorem d_pa_beginsFactor_7 : decode b_pa_beginsFactor 7 = .ok (.if_icmp .eq (20), 3) := by decide +kernel
theorem d_pa_beginsFactor_10 : decode b_pa_beginsFactor 10 = .ok (.iload_n 0, 1) := by decide +kernel
theorem d_pa_beginsFactor_11 : decode b_pa_beginsFactor 11 = .ok (.iconst 3, 1) := by decide +kernel
theorem d_pa_beginsFactor_12 : decode b_pa_beginsFactor 12 = .ok (.if_icmp .eq (15), 3) := by decide +kernel
theorem d_pa_beginsFactor_15 : decode b_pa_beginsFactor 15 = .ok (.iload_n 0, 1) := by decide +kernel
theorem d_pa_beginsFactor_16 : decode b_pa_beginsFactor 16 = .ok (.bipush (45), 2) := by decide +kernel
theorem d_pa_beginsFactor_18 : decode b_pa_beginsFactor 18 = .ok (.if_icmp .eq (9), 3) := by decide +kernel
theorem d_pa_beginsFactor_21 : decode b_pa_beginsFactor 21 = .ok (.iload_n 0, 1) := by decide +kernel
theorem d_pa_beginsFactor_22 : decode b_pa_beginsFactor 22 = .ok (.bipush (40), 2) := by decide +kernel
theorem d_pa_beginsFactor_24 : decode b_pa_beginsFactor 24 = .ok (.if_icmp .ne (7), 3) := by decide +kernel
theorem d_pa_beginsFactor_27 : decode b_pa_beginsFactor 27 = .ok (.iconst 1, 1) := by decide +kernel
theorem d_pa_beginsFactor_28 : decode b_pa_beginsFactor 28 = .ok (.goto (4), 3) := by decide +kernel
theorem d_pa_beginsFactor_31 : decode b_pa_beginsFactor 31 = .ok (.iconst 0, 1) := by decide +kernel
theorem d_pa_beginsFactor_32 : decode b_pa_beginsFactor 32 = .ok (.ireturn, 1) := by decide +kernel
def f_pa_beginsFactor_32  (z0 : Int32) (w : WW) : Option (Int32 × WW) :=
  if z0 = 0 ∨ z0 = 1 then some (z0, w) else none
def f_pa_beginsFactor_27   (w : WW) : Option (Int32 × WW) :=
  f_pa_beginsFactor_32 (1 : Int32) w
def f_pa_beginsFactor (a0 : Int32) (w : WW) : Option (Int32 × WW) :=
  if a0 = (1 : Int32) then
    f_pa_beginsFactor_27 w
  else
    if a0 = (2 : Int32) then
      f_pa_beginsFactor_27 w
    else
      if a0 = (3 : Int32) then
        f_pa_beginsFactor_27 w
      else
        if a0 = (45 : Int32) then
          f_pa_beginsFactor_27 w
        else
          if a0 = (40 : Int32) then
            f_pa_beginsFactor_27 w
          else
            f_pa_beginsFactor_32 (0 : Int32) w
set_option maxHeartbeats 4000000 in
set_option maxRecDepth 100000 in
theorem j_pa_beginsFactor_32 {p : Program} {l : Launch} {e : Env} {s : State} {m : MethodId} {args : Array Value} {below : List Frame} {meth : Method} {c : Code} {D : va_G} {cA : Nat → ClassId} {base : Nat} {r : Int32} {w' : WW} (C : cx b_pa_beginsFactor (some .boolean) 1 y_pa_beginsFactor.cls "beginsFactor" p s m args meth c D cA base)   : ∀ (z0 : Int32) (w : WW), f_pa_beginsFactor_32 z0 w = some (r, w') → ∀ (H : Heap) (locs : List Loc) (ls : Array Slot), wo_S D cls cA base s w H locs → lv_has ls 1 [] → W p l e rm_pa_beginsFactor s m args below meth c H locs 0 0 (MQ below (wo_Q D cls cA base (some (.int r)) w') args s rm_pa_beginsFactor.cells rm_pa_beginsFactor.slots (wo_B base)) (F0 m 32 ls [.int z0]) := by
  obtain ⟨hx, hb, hr, hml, hown, hts, hlk, hnm, hK, hG⟩ := id C
  intro z0 w h H locs ls hW hl
  unfold f_pa_beginsFactor_32 at h
  replace h := its h
  obtain ⟨c2, h⟩ := h
  cases h
  exact wo_zret hx hb hr hlk hW c2 d_pa_beginsFactor_32
set_option maxHeartbeats 4000000 in
set_option maxRecDepth 100000 in
theorem j_pa_beginsFactor_27 {p : Program} {l : Launch} {e : Env} {s : State} {m : MethodId} {args : Array Value} {below : List Frame} {meth : Method} {c : Code} {D : va_G} {cA : Nat → ClassId} {base : Nat} {r : Int32} {w' : WW} (C : cx b_pa_beginsFactor (some .boolean) 1 y_pa_beginsFactor.cls "beginsFactor" p s m args meth c D cA base)   : ∀  (w : WW), f_pa_beginsFactor_27  w = some (r, w') → ∀ (H : Heap) (locs : List Loc) (ls : Array Slot), wo_S D cls cA base s w H locs → lv_has ls 1 [] → W p l e rm_pa_beginsFactor s m args below meth c H locs 0 0 (MQ below (wo_Q D cls cA base (some (.int r)) w') args s rm_pa_beginsFactor.cells rm_pa_beginsFactor.slots (wo_B base)) (F0 m 27 ls []) := by
  obtain ⟨hx, hb, hr, hml, hown, hts, hlk, hnm, hK, hG⟩ := id C
  intro  w h H locs ls hW hl
  unfold f_pa_beginsFactor_27 at h
  refine lv_iconst (v := (1 : Int32)) hx hb d_pa_beginsFactor_27 (by decide) ?_
  refine lv_goto (tgt := 32) hx hb d_pa_beginsFactor_28 (by decide) ?_
  exact j_pa_beginsFactor_32 C (1 : Int32) w h _ _ _ hW (lv_sub hl [] rfl)
set_option maxHeartbeats 4000000 in
set_option maxRecDepth 100000 in
theorem c_pa_beginsFactor (l : Launch) (D : va_G) (cA : Nat → ClassId) (base : Nat) {a0 : Int32} {w w' : WW} {r : Int32} (h : f_pa_beginsFactor a0 w = some (r, w')) : mt l D cls (wo_tys cA) cA base y_pa_beginsFactor (Cond.code y_pa_beginsFactor b_pa_beginsFactor 1 (some .boolean) :: gt) rm_pa_beginsFactor [.int a0] w (some (.int r)) w' rm_pa_beginsFactor.cells rm_pa_beginsFactor.slots := by
  refine mt_start (by decide) (Nat.le_of_ble_eq_true rfl) ?_
  intro p e s m below meth c ls hx hb hr hml hown hts hlk hnm hK hG hW hl
  have C : cx b_pa_beginsFactor (some .boolean) 1 y_pa_beginsFactor.cls "beginsFactor" p s m [.int a0].toArray meth c D cA base := ⟨hx, hb, hr, hml, hown, hts, hlk, hnm, hK, hG⟩
  have hl : lv_has ls 1 [(0, .int a0)] := hl
  unfold f_pa_beginsFactor at h
  refine lv_iload_n hx hb d_pa_beginsFactor_0 rfl (lv_at hl 0 rfl) ?_
  refine lv_iconst (v := (1 : Int32)) hx hb d_pa_beginsFactor_1 (by decide) ?_
  refine lv_icmp_eq (tgt := 27) hx hb d_pa_beginsFactor_2 (by decide) (fun c1 => ?_) (fun c1 => ?_)
  · rw [if_pos c1] at h
    exact j_pa_beginsFactor_27 C w h _ _ _ hW (lv_sub hl [] rfl)
  · rw [if_neg c1] at h
    refine lv_iload_n hx hb d_pa_beginsFactor_5 rfl (lv_at hl 0 rfl) ?_
    refine lv_iconst (v := (2 : Int32)) hx hb d_pa_beginsFactor_6 (by decide) ?_
    refine lv_icmp_eq (tgt := 27) hx hb d_pa_beginsFactor_7 (by decide) (fun c3 => ?_) (fun c3 => ?_)
    · rw [if_pos c3] at h
      exact j_pa_beginsFactor_27 C w h _ _ _ hW (lv_sub hl [] rfl)
    · rw [if_neg c3] at h
      refine lv_iload_n hx hb d_pa_beginsFactor_10 rfl (lv_at hl 0 rfl) ?_
      refine lv_iconst (v := (3 : Int32)) hx hb d_pa_beginsFactor_11 (by decide) ?_
      refine lv_icmp_eq (tgt := 27) hx hb d_pa_beginsFactor_12 (by decide) (fun c4 => ?_) (fun c4 => ?_)
      · rw [if_pos c4] at h
        exact j_pa_beginsFactor_27 C w h _ _ _ hW (lv_sub hl [] rfl)
      · rw [if_neg c4] at h
        refine lv_iload_n hx hb d_pa_beginsFactor_15 rfl (lv_at hl 0 rfl) ?_
        refine lv_bipush (v := (45 : Int32)) hx hb d_pa_beginsFactor_16 (by decide) ?_
        refine lv_icmp_eq (tgt := 27) hx hb d_pa_beginsFactor_18 (by decide) (fun c5 => ?_) (fun c5 => ?_)
        · rw [if_pos c5] at h
          exact j_pa_beginsFactor_27 C w h _ _ _ hW (lv_sub hl [] rfl)
        · rw [if_neg c5] at h
          refine lv_iload_n hx hb d_pa_beginsFactor_21 rfl (lv_at hl 0 rfl) ?_
          refine lv_bipush (v := (40 : Int32)) hx hb d_pa_beginsFactor_22 (by decide) ?_
          refine lv_icmp_ne (tgt := 31) hx hb d_pa_beginsFactor_24 (by decide) (fun c6 => ?_) (fun c6 => ?_)
          · rw [if_neg c6] at h
            refine lv_iconst (v := (0 : Int32)) hx hb d_pa_beginsFactor_31 (by decide) ?_
            exact j_pa_beginsFactor_32 C (0 : Int32) w h _ _ _ hW (lv_sub hl [] rfl)
          · rw [if_pos c6] at h
            exact j_pa_beginsFactor_27 C w h _ _ _ hW (lv_sub hl [] rfl)
abbrev b_pg_addStep : ByteArray := prog_4_method_6_code
def y_pg_addStep : MethodName := ⟨"AlarmForge$Program", "addStep", "(III)V"⟩
def rm_pg_addStep : Room := { frames := 0, cells := 0, slots := 0, locals := 0 }
theorem d_pg_addStep_0 : decode b_pg_addStep 0 = .ok (.aload_n 0, 1) := by decide +kernel
theorem d_pg_addStep_1 : decode b_pg_addStep 1 = .ok (.getfield 32, 3) := by decide +kernel
theorem d_pg_addStep_4 : decode b_pg_addStep 4 = .ok (.sipush (200), 3) := by decide +kernel
theorem d_pg_addStep_7 : decode b_pg_addStep 7 = .ok (.if_icmp .ge (43), 3) := by decide +kernel
theorem d_pg_addStep_10 : decode b_pg_addStep 10 = .ok (.aload_n 0, 1) := by decide +kernel
theorem d_pg_addStep_11 : decode b_pg_addStep 11 = .ok (.getfield 18, 3) := by decide +kernel
theorem d_pg_addStep_14 : decode b_pg_addStep 14 = .ok (.aload_n 0, 1) := by decide +kernel
theorem d_pg_addStep_15 : decode b_pg_addStep 15 = .ok (.getfield 32, 3) := by decide +kernel
theorem d_pg_addStep_18 : decode b_pg_addStep 18 = .ok (.iload_n 1, 1) := by decide +kernel
theorem d_pg_addStep_19 : decode b_pg_addStep 19 = .ok (.iastore, 1) := by decide +kernel
theorem d_pg_addStep_20 : decode b_pg_addStep 20 = .ok (.aload_n 0, 1) := by decide +kernel
theorem d_pg_addStep_21 : decode b_pg_addStep 21 = .ok (.getfield 22, 3) := by decide +kernel
theorem d_pg_addStep_24 : decode b_pg_addStep 24 = .ok (.aload_n 0, 1) := by decide +kernel
theorem d_pg_addStep_25 : decode b_pg_addStep 25 = .ok (.getfield 32, 3) := by decide +kernel
theorem d_pg_addStep_28 : decode b_pg_addStep 28 = .ok (.iload_n 2, 1) := by decide +kernel
theorem d_pg_addStep_29 : decode b_pg_addStep 29 = .ok (.iastore, 1) := by decide +kernel
theorem d_pg_addStep_30 : decode b_pg_addStep 30 = .ok (.aload_n 0, 1) := by decide +kernel
theorem d_pg_addStep_31 : decode b_pg_addStep 31 = .ok (.getfield 25, 3) := by decide +kernel
theorem d_pg_addStep_34 : decode b_pg_addStep 34 = .ok (.aload_n 0, 1) := by decide +kernel
theorem d_pg_addStep_35 : decode b_pg_addStep 35 = .ok (.getfield 32, 3) := by decide +kernel
theorem d_pg_addStep_38 : decode b_pg_addStep 38 = .ok (.iload_n 3, 1) := by decide +kernel
theorem d_pg_addStep_39 : decode b_pg_addStep 39 = .ok (.iastore, 1) := by decide +kernel
theorem d_pg_addStep_40 : decode b_pg_addStep 40 = .ok (.aload_n 0, 1) := by decide +kernel
theorem d_pg_addStep_41 : decode b_pg_addStep 41 = .ok (.dup, 1) := by decide +kernel
theorem d_pg_addStep_42 : decode b_pg_addStep 42 = .ok (.getfield 32, 3) := by decide +kernel
theorem d_pg_addStep_45 : decode b_pg_addStep 45 = .ok (.iconst 1, 1) := by decide +kernel
theorem d_pg_addStep_46 : decode b_pg_addStep 46 = .ok (.iadd, 1) := by decide +kernel
theorem d_pg_addStep_47 : decode b_pg_addStep 47 = .ok (.putfield 32, 3) := by decide +kernel
theorem d_pg_addStep_50 : decode b_pg_addStep 50 = .ok (.return_, 1) := by decide +kernel
def f_pg_addStep_50   (w : WW) : Option WW :=
  some w
def f_pg_addStep (a0 : Nat) (a1 : Int32) (a2 : Int32) (a3 : Int32) (w : WW) : Option WW :=
  if kb w a0 3 = true then
    (gI w a0 3 5).bind fun x1 =>
    if (200 : Int32) ≤ x1 then
      f_pg_addStep_50 w
    else
      (gN w a0 3 2).bind fun x3 =>
      (gI w a0 3 5).bind fun x4 =>
      (sI w x3 0 x4 a1).bind fun w5 =>
      (gN w5 a0 3 3).bind fun x6 =>
      (gI w5 a0 3 5).bind fun x7 =>
      (sI w5 x6 0 x7 a2).bind fun w8 =>
      (gN w8 a0 3 4).bind fun x9 =>
      (gI w8 a0 3 5).bind fun x10 =>
      (sI w8 x9 0 x10 a3).bind fun w11 =>
      (gI w11 a0 3 5).bind fun x12 =>
      (pv w11 a0 3 5 (.int (x12 + (1 : Int32)))).bind fun w13 =>
      f_pg_addStep_50 w13
  else none
theorem kb_pg_addStep {a0 : Nat} {a1 : Int32} {a2 : Int32} {a3 : Int32} {w : WW} {r : WW} (h : f_pg_addStep a0 a1 a2 a3 w = some r) : kb w a0 3 = true := (its h).1
set_option maxHeartbeats 4000000 in
set_option maxRecDepth 100000 in
theorem j_pg_addStep_50 {p : Program} {l : Launch} {e : Env} {s : State} {m : MethodId} {args : Array Value} {below : List Frame} {meth : Method} {c : Code} {D : va_G} {cA : Nat → ClassId} {base : Nat} {w' : WW} (C : cx b_pg_addStep (none) 4 y_pg_addStep.cls "addStep" p s m args meth c D cA base)   : ∀  (w : WW), f_pg_addStep_50  w = some w' → ∀ (H : Heap) (locs : List Loc) (ls : Array Slot), wo_S D cls cA base s w H locs → lv_has ls 4 [] → W p l e rm_pg_addStep s m args below meth c H locs 0 0 (MQ below (wo_Q D cls cA base none w') args s rm_pg_addStep.cells rm_pg_addStep.slots (wo_B base)) (F0 m 50 ls []) := by
  obtain ⟨hx, hb, hr, hml, hown, hts, hlk, hnm, hK, hG⟩ := id C
  intro  w h H locs ls hW hl
  unfold f_pg_addStep_50 at h
  cases h
  exact wo_vret hx hb hr hlk hW d_pg_addStep_50
set_option maxHeartbeats 4000000 in
set_option maxRecDepth 100000 in
theorem c_pg_addStep (l : Launch) (D : va_G) (cA : Nat → ClassId) (base : Nat) {a0 : Nat} {a1 : Int32} {a2 : Int32} {a3 : Int32} {w w' : WW} (h : f_pg_addStep a0 a1 a2 a3 w = some w') : mt l D cls (wo_tys cA) cA base y_pg_addStep (Cond.code y_pg_addStep b_pg_addStep 4 (none) :: gt) rm_pg_addStep [.ref a0, .int a1, .int a2, .int a3] w none w' rm_pg_addStep.cells rm_pg_addStep.slots := by
  refine mt_start (by decide) (Nat.le_of_ble_eq_true rfl) ?_
  intro p e s m below meth c ls hx hb hr hml hown hts hlk hnm hK hG hW hl
  have C : cx b_pg_addStep (none) 4 y_pg_addStep.cls "addStep" p s m [.ref a0, .int a1, .int a2, .int a3].toArray meth c D cA base := ⟨hx, hb, hr, hml, hown, hts, hlk, hnm, hK, hG⟩
  have hl : lv_has ls 4 [(0, .ref a0), (1, .int a1), (2, .int a2), (3, .int a3)] := hl
  unfold f_pg_addStep at h
  replace h := its h
  obtain ⟨-, h⟩ := h
  refine lv_aload_n hx hb d_pg_addStep_0 rfl (lv_at hl 0 rfl) ?_
  replace h := bs h
  obtain ⟨x1, hx1, h⟩ := h
  refine gf_pg_32 hx hb hts hown hK hG hW (gI_s hx1) d_pg_addStep_1 ?_
  refine lv_sipush (v := (200 : Int32)) hx hb d_pg_addStep_4 (by decide) ?_
  refine lv_icmp_ge (tgt := 50) hx hb d_pg_addStep_7 (by decide) (fun c2 => ?_) (fun c2 => ?_)
  · rw [if_pos c2] at h
    exact j_pg_addStep_50 C w h _ _ _ hW (lv_sub hl [] rfl)
  · rw [if_neg c2] at h
    refine lv_aload_n hx hb d_pg_addStep_10 rfl (lv_at hl 0 rfl) ?_
    replace h := bs h
    obtain ⟨x3, hx3, h⟩ := h
    refine gf_pg_18 hx hb hts hown hK hG hW (gN_s hx3) d_pg_addStep_11 ?_
    refine lv_aload_n hx hb d_pg_addStep_14 rfl (lv_at hl 0 rfl) ?_
    replace h := bs h
    obtain ⟨x4, hx4, h⟩ := h
    refine gf_pg_32 hx hb hts hown hK hG hW (gI_s hx4) d_pg_addStep_15 ?_
    refine lv_iload_n hx hb d_pg_addStep_18 rfl (lv_at hl 1 rfl) ?_
    replace h := bs h
    obtain ⟨w5, hw5, h⟩ := h
    refine wo_iast hx hb hK hW (t := 0) rfl hw5 d_pg_addStep_19 (fun H locs hW => ?_)
    refine lv_aload_n hx hb d_pg_addStep_20 rfl (lv_at hl 0 rfl) ?_
    replace h := bs h
    obtain ⟨x6, hx6, h⟩ := h
    refine gf_pg_22 hx hb hts hown hK hG hW (gN_s hx6) d_pg_addStep_21 ?_
    refine lv_aload_n hx hb d_pg_addStep_24 rfl (lv_at hl 0 rfl) ?_
    replace h := bs h
    obtain ⟨x7, hx7, h⟩ := h
    refine gf_pg_32 hx hb hts hown hK hG hW (gI_s hx7) d_pg_addStep_25 ?_
    refine lv_iload_n hx hb d_pg_addStep_28 rfl (lv_at hl 2 rfl) ?_
    replace h := bs h
    obtain ⟨w8, hw8, h⟩ := h
    refine wo_iast hx hb hK hW (t := 0) rfl hw8 d_pg_addStep_29 (fun H locs hW => ?_)
    refine lv_aload_n hx hb d_pg_addStep_30 rfl (lv_at hl 0 rfl) ?_
    replace h := bs h
    obtain ⟨x9, hx9, h⟩ := h
    refine gf_pg_25 hx hb hts hown hK hG hW (gN_s hx9) d_pg_addStep_31 ?_
    refine lv_aload_n hx hb d_pg_addStep_34 rfl (lv_at hl 0 rfl) ?_
    replace h := bs h
    obtain ⟨x10, hx10, h⟩ := h
    refine gf_pg_32 hx hb hts hown hK hG hW (gI_s hx10) d_pg_addStep_35 ?_
    refine lv_iload_n hx hb d_pg_addStep_38 rfl (lv_at hl 3 rfl) ?_
    replace h := bs h
    obtain ⟨w11, hw11, h⟩ := h
    refine wo_iast hx hb hK hW (t := 0) rfl hw11 d_pg_addStep_39 (fun H locs hW => ?_)
    refine lv_aload_n hx hb d_pg_addStep_40 rfl (lv_at hl 0 rfl) ?_
    refine lv_dup hx hb d_pg_addStep_41 rfl ?_
    replace h := bs h
    obtain ⟨x12, hx12, h⟩ := h
    refine gf_pg_32 hx hb hts hown hK hG hW (gI_s hx12) d_pg_addStep_42 ?_
    refine lv_iconst (v := (1 : Int32)) hx hb d_pg_addStep_45 (by decide) ?_
    refine lv_iadd hx hb d_pg_addStep_46 ?_
    replace h := bs h
    obtain ⟨w13, hw13, h⟩ := h
    refine pf_pg_32 hx hb hts hown hK hG hW rfl rfl hw13 d_pg_addStep_47 (fun H locs hW => ?_)
    exact j_pg_addStep_50 C w13 h _ _ _ hW (lv_sub hl [] rfl)
abbrev b_pa_isProductSign : ByteArray := prog_3_method_17_code
def y_pa_isProductSign : MethodName := ⟨"AlarmForge$Parser", "isProductSign", "(I)Z"⟩
def rm_pa_isProductSign : Room := { frames := 0, cells := 0, slots := 0, locals := 0 }
theorem d_pa_isProductSign_0 : decode b_pa_isProductSign 0 = .ok (.iload_n 0, 1) := by decide +kernel
theorem d_pa_isProductSign_1 : decode b_pa_isProductSign 1 = .ok (.bipush (42), 2) := by decide +kernel
theorem d_pa_isProductSign_3 : decode b_pa_isProductSign 3 = .ok (.if_icmp .eq (15), 3) := by decide +kernel
theorem d_pa_isProductSign_6 : decode b_pa_isProductSign 6 = .ok (.iload_n 0, 1) := by decide +kernel
theorem d_pa_isProductSign_7 : decode b_pa_isProductSign 7 = .ok (.bipush (47), 2) := by decide +kernel
theorem d_pa_isProductSign_9 : decode b_pa_isProductSign 9 = .ok (.if_icmp .eq (9), 3) := by decide +kernel
theorem d_pa_isProductSign_12 : decode b_pa_isProductSign 12 = .ok (.iload_n 0, 1) := by decide +kernel
theorem d_pa_isProductSign_13 : decode b_pa_isProductSign 13 = .ok (.bipush (37), 2) := by decide +kernel
theorem d_pa_isProductSign_15 : decode b_pa_isProductSign 15 = .ok (.if_icmp .ne (7), 3) := by decide +kernel
theorem d_pa_isProductSign_18 : decode b_pa_isProductSign 18 = .ok (.iconst 1, 1) := by decide +kernel
theorem d_pa_isProductSign_19 : decode b_pa_isProductSign 19 = .ok (.goto (4), 3) := by decide +kernel
theorem d_pa_isProductSign_22 : decode b_pa_isProductSign 22 = .ok (.iconst 0, 1) := by decide +kernel
theorem d_pa_isProductSign_23 : decode b_pa_isProductSign 23 = .ok (.ireturn, 1) := by decide +kernel
def f_pa_isProductSign_23  (z0 : Int32) (w : WW) : Option (Int32 × WW) :=
  if z0 = 0 ∨ z0 = 1 then some (z0, w) else none
def f_pa_isProductSign_18   (w : WW) : Option (Int32 × WW) :=
  f_pa_isProductSign_23 (1 : Int32) w
def f_pa_isProductSign (a0 : Int32) (w : WW) : Option (Int32 × WW) :=
  if a0 = (42 : Int32) then
    f_pa_isProductSign_18 w
  else
    if a0 = (47 : Int32) then
      f_pa_isProductSign_18 w
    else
      if a0 = (37 : Int32) then
        f_pa_isProductSign_18 w
      else
        f_pa_isProductSign_23 (0 : Int32) w
set_option maxHeartbeats 4000000 in
set_option maxRecDepth 100000 in
theorem j_pa_isProductSign_23 {p : Program} {l : Launch} {e : Env} {s : State} {m : MethodId} {args : Array Value} {below : List Frame} {meth : Method} {c : Code} {D : va_G} {cA : Nat → ClassId} {base : Nat} {r : Int32} {w' : WW} (C : cx b_pa_isProductSign (some .boolean) 1 y_pa_isProductSign.cls "isProductSign" p s m args meth c D cA base)   : ∀ (z0 : Int32) (w : WW), f_pa_isProductSign_23 z0 w = some (r, w') → ∀ (H : Heap) (locs : List Loc) (ls : Array Slot), wo_S D cls cA base s w H locs → lv_has ls 1 [] → W p l e rm_pa_isProductSign s m args below meth c H locs 0 0 (MQ below (wo_Q D cls cA base (some (.int r)) w') args s rm_pa_isProductSign.cells rm_pa_isProductSign.slots (wo_B base)) (F0 m 23 ls [.int z0]) := by
  obtain ⟨hx, hb, hr, hml, hown, hts, hlk, hnm, hK, hG⟩ := id C
  intro z0 w h H locs ls hW hl
  unfold f_pa_isProductSign_23 at h
  replace h := its h
  obtain ⟨c2, h⟩ := h
  cases h
  exact wo_zret hx hb hr hlk hW c2 d_pa_isProductSign_23
set_option maxHeartbeats 4000000 in
set_option maxRecDepth 100000 in
theorem j_pa_isProductSign_18 {p : Program} {l : Launch} {e : Env} {s : State} {m : MethodId} {args : Array Value} {below : List Frame} {meth : Method} {c : Code} {D : va_G} {cA : Nat → ClassId} {base : Nat} {r : Int32} {w' : WW} (C : cx b_pa_isProductSign (some .boolean) 1 y_pa_isProductSign.cls "isProductSign" p s m args meth c D cA base)   : ∀  (w : WW), f_pa_isProductSign_18  w = some (r, w') → ∀ (H : Heap) (locs : List Loc) (ls : Array Slot), wo_S D cls cA base s w H locs → lv_has ls 1 [] → W p l e rm_pa_isProductSign s m args below meth c H locs 0 0 (MQ below (wo_Q D cls cA base (some (.int r)) w') args s rm_pa_isProductSign.cells rm_pa_isProductSign.slots (wo_B base)) (F0 m 18 ls []) := by
  obtain ⟨hx, hb, hr, hml, hown, hts, hlk, hnm, hK, hG⟩ := id C
  intro  w h H locs ls hW hl
  unfold f_pa_isProductSign_18 at h
  refine lv_iconst (v := (1 : Int32)) hx hb d_pa_isProductSign_18 (by decide) ?_
  refine lv_goto (tgt := 23) hx hb d_pa_isProductSign_19 (by decide) ?_
  exact j_pa_isProductSign_23 C (1 : Int32) w h _ _ _ hW (lv_sub hl [] rfl)
set_option maxHeartbeats 4000000 in
set_option maxRecDepth 100000 in
theorem c_pa_isProductSign (l : Launch) (D : va_G) (cA : Nat → ClassId) (base : Nat) {a0 : Int32} {w w' : WW} {r : Int32} (h : f_pa_isProductSign a0 w = some (r, w')) : mt l D cls (wo_tys cA) cA base y_pa_isProductSign (Cond.code y_pa_isProductSign b_pa_isProductSign 1 (some .boolean) :: gt) rm_pa_isProductSign [.int a0] w (some (.int r)) w' rm_pa_isProductSign.cells rm_pa_isProductSign.slots := by
  refine mt_start (by decide) (Nat.le_of_ble_eq_true rfl) ?_
  intro p e s m below meth c ls hx hb hr hml hown hts hlk hnm hK hG hW hl
  have C : cx b_pa_isProductSign (some .boolean) 1 y_pa_isProductSign.cls "isProductSign" p s m [.int a0].toArray meth c D cA base := ⟨hx, hb, hr, hml, hown, hts, hlk, hnm, hK, hG⟩
  have hl : lv_has ls 1 [(0, .int a0)] := hl
  unfold f_pa_isProductSign at h
  refine lv_iload_n hx hb d_pa_isProductSign_0 rfl (lv_at hl 0 rfl) ?_
  refine lv_bipush (v := (42 : Int32)) hx hb d_pa_isProductSign_1 (by decide) ?_
  refine lv_icmp_eq (tgt := 18) hx hb d_pa_isProductSign_3 (by decide) (fun c1 => ?_) (fun c1 => ?_)
  · rw [if_pos c1] at h
    exact j_pa_isProductSign_18 C w h _ _ _ hW (lv_sub hl [] rfl)
  · rw [if_neg c1] at h
    refine lv_iload_n hx hb d_pa_isProductSign_6 rfl (lv_at hl 0 rfl) ?_
    refine lv_bipush (v := (47 : Int32)) hx hb d_pa_isProductSign_7 (by decide) ?_
    refine lv_icmp_eq (tgt := 18) hx hb d_pa_isProductSign_9 (by decide) (fun c3 => ?_) (fun c3 => ?_)
    · rw [if_pos c3] at h
      exact j_pa_isProductSign_18 C w h _ _ _ hW (lv_sub hl [] rfl)
    · rw [if_neg c3] at h
      refine lv_iload_n hx hb d_pa_isProductSign_12 rfl (lv_at hl 0 rfl) ?_
      refine lv_bipush (v := (37 : Int32)) hx hb d_pa_isProductSign_13 (by decide) ?_
      refine lv_icmp_ne (tgt := 22) hx hb d_pa_isProductSign_15 (by decide) (fun c4 => ?_) (fun c4 => ?_)
      · rw [if_neg c4] at h
        refine lv_iconst (v := (0 : Int32)) hx hb d_pa_isProductSign_22 (by decide) ?_
        exact j_pa_isProductSign_23 C (0 : Int32) w h _ _ _ hW (lv_sub hl [] rfl)
      · rw [if_pos c4] at h
        exact j_pa_isProductSign_18 C w h _ _ _ hW (lv_sub hl [] rfl)
abbrev b_ru_addInput : ByteArray := prog_6_method_2_code
def y_ru_addInput : MethodName := ⟨"AlarmForge$Runner", "addInput", "(I)V"⟩
def rm_ru_addInput : Room := { frames := 0, cells := 0, slots := 0, locals := 0 }
theorem d_ru_addInput_0 : decode b_ru_addInput 0 = .ok (.aload_n 0, 1) := by decide +kernel
theorem d_ru_addInput_1 : decode b_ru_addInput 1 = .ok (.getfield 28, 3) := by decide +kernel
theorem d_ru_addInput_4 : decode b_ru_addInput 4 = .ok (.bipush (8), 2) := by decide +kernel
theorem d_ru_addInput_6 : decode b_ru_addInput 6 = .ok (.if_icmp .ge (23), 3) := by decide +kernel
theorem d_ru_addInput_9 : decode b_ru_addInput 9 = .ok (.aload_n 0, 1) := by decide +kernel
theorem d_ru_addInput_10 : decode b_ru_addInput 10 = .ok (.getfield 25, 3) := by decide +kernel
theorem d_ru_addInput_13 : decode b_ru_addInput 13 = .ok (.aload_n 0, 1) := by decide +kernel
theorem d_ru_addInput_14 : decode b_ru_addInput 14 = .ok (.getfield 28, 3) := by decide +kernel
theorem d_ru_addInput_17 : decode b_ru_addInput 17 = .ok (.iload_n 1, 1) := by decide +kernel
theorem d_ru_addInput_18 : decode b_ru_addInput 18 = .ok (.iastore, 1) := by decide +kernel
theorem d_ru_addInput_19 : decode b_ru_addInput 19 = .ok (.aload_n 0, 1) := by decide +kernel
theorem d_ru_addInput_20 : decode b_ru_addInput 20 = .ok (.dup, 1) := by decide +kernel
theorem d_ru_addInput_21 : decode b_ru_addInput 21 = .ok (.getfield 28, 3) := by decide +kernel
theorem d_ru_addInput_24 : decode b_ru_addInput 24 = .ok (.iconst 1, 1) := by decide +kernel
theorem d_ru_addInput_25 : decode b_ru_addInput 25 = .ok (.iadd, 1) := by decide +kernel
theorem d_ru_addInput_26 : decode b_ru_addInput 26 = .ok (.putfield 28, 3) := by decide +kernel
theorem d_ru_addInput_29 : decode b_ru_addInput 29 = .ok (.return_, 1) := by decide +kernel
def f_ru_addInput_29   (w : WW) : Option WW :=
  some w
def f_ru_addInput (a0 : Nat) (a1 : Int32) (w : WW) : Option WW :=
  if kb w a0 5 = true then
    (gI w a0 5 5).bind fun x1 =>
    if (8 : Int32) ≤ x1 then
      f_ru_addInput_29 w
    else
      (gN w a0 5 4).bind fun x3 =>
      (gI w a0 5 5).bind fun x4 =>
      (sI w x3 0 x4 a1).bind fun w5 =>
      (gI w5 a0 5 5).bind fun x6 =>
      (pv w5 a0 5 5 (.int (x6 + (1 : Int32)))).bind fun w7 =>
      f_ru_addInput_29 w7
  else none
theorem kb_ru_addInput {a0 : Nat} {a1 : Int32} {w : WW} {r : WW} (h : f_ru_addInput a0 a1 w = some r) : kb w a0 5 = true := (its h).1
set_option maxHeartbeats 4000000 in
set_option maxRecDepth 100000 in
theorem j_ru_addInput_29 {p : Program} {l : Launch} {e : Env} {s : State} {m : MethodId} {args : Array Value} {below : List Frame} {meth : Method} {c : Code} {D : va_G} {cA : Nat → ClassId} {base : Nat} {w' : WW} (C : cx b_ru_addInput (none) 2 y_ru_addInput.cls "addInput" p s m args meth c D cA base)   : ∀  (w : WW), f_ru_addInput_29  w = some w' → ∀ (H : Heap) (locs : List Loc) (ls : Array Slot), wo_S D cls cA base s w H locs → lv_has ls 2 [] → W p l e rm_ru_addInput s m args below meth c H locs 0 0 (MQ below (wo_Q D cls cA base none w') args s rm_ru_addInput.cells rm_ru_addInput.slots (wo_B base)) (F0 m 29 ls []) := by
  obtain ⟨hx, hb, hr, hml, hown, hts, hlk, hnm, hK, hG⟩ := id C
  intro  w h H locs ls hW hl
  unfold f_ru_addInput_29 at h
  cases h
  exact wo_vret hx hb hr hlk hW d_ru_addInput_29
set_option maxHeartbeats 4000000 in
set_option maxRecDepth 100000 in
theorem c_ru_addInput (l : Launch) (D : va_G) (cA : Nat → ClassId) (base : Nat) {a0 : Nat} {a1 : Int32} {w w' : WW} (h : f_ru_addInput a0 a1 w = some w') : mt l D cls (wo_tys cA) cA base y_ru_addInput (Cond.code y_ru_addInput b_ru_addInput 2 (none) :: gt) rm_ru_addInput [.ref a0, .int a1] w none w' rm_ru_addInput.cells rm_ru_addInput.slots := by
  refine mt_start (by decide) (Nat.le_of_ble_eq_true rfl) ?_
  intro p e s m below meth c ls hx hb hr hml hown hts hlk hnm hK hG hW hl
  have C : cx b_ru_addInput (none) 2 y_ru_addInput.cls "addInput" p s m [.ref a0, .int a1].toArray meth c D cA base := ⟨hx, hb, hr, hml, hown, hts, hlk, hnm, hK, hG⟩
  have hl : lv_has ls 2 [(0, .ref a0), (1, .int a1)] := hl
  unfold f_ru_addInput at h
  replace h := its h
  obtain ⟨-, h⟩ := h
  refine lv_aload_n hx hb d_ru_addInput_0 rfl (lv_at hl 0 rfl) ?_
  replace h := bs h
  obtain ⟨x1, hx1, h⟩ := h
  refine gf_ru_28 hx hb hts hown hK hG hW (gI_s hx1) d_ru_addInput_1 ?_
  refine lv_bipush (v := (8 : Int32)) hx hb d_ru_addInput_4 (by decide) ?_
  refine lv_icmp_ge (tgt := 29) hx hb d_ru_addInput_6 (by decide) (fun c2 => ?_) (fun c2 => ?_)
  · rw [if_pos c2] at h
    exact j_ru_addInput_29 C w h _ _ _ hW (lv_sub hl [] rfl)
  · rw [if_neg c2] at h
    refine lv_aload_n hx hb d_ru_addInput_9 rfl (lv_at hl 0 rfl) ?_
    replace h := bs h
    obtain ⟨x3, hx3, h⟩ := h
    refine gf_ru_25 hx hb hts hown hK hG hW (gN_s hx3) d_ru_addInput_10 ?_
    refine lv_aload_n hx hb d_ru_addInput_13 rfl (lv_at hl 0 rfl) ?_
    replace h := bs h
    obtain ⟨x4, hx4, h⟩ := h
    refine gf_ru_28 hx hb hts hown hK hG hW (gI_s hx4) d_ru_addInput_14 ?_
    refine lv_iload_n hx hb d_ru_addInput_17 rfl (lv_at hl 1 rfl) ?_
    replace h := bs h
    obtain ⟨w5, hw5, h⟩ := h
    refine wo_iast hx hb hK hW (t := 0) rfl hw5 d_ru_addInput_18 (fun H locs hW => ?_)
    refine lv_aload_n hx hb d_ru_addInput_19 rfl (lv_at hl 0 rfl) ?_
    refine lv_dup hx hb d_ru_addInput_20 rfl ?_
    replace h := bs h
    obtain ⟨x6, hx6, h⟩ := h
    refine gf_ru_28 hx hb hts hown hK hG hW (gI_s hx6) d_ru_addInput_21 ?_
    refine lv_iconst (v := (1 : Int32)) hx hb d_ru_addInput_24 (by decide) ?_
    refine lv_iadd hx hb d_ru_addInput_25 ?_
    replace h := bs h
    obtain ⟨w7, hw7, h⟩ := h
    refine pf_ru_28 hx hb hts hown hK hG hW rfl rfl hw7 d_ru_addInput_26 (fun H locs hW => ?_)
    exact j_ru_addInput_29 C w7 h _ _ _ hW (lv_sub hl [] rfl)
abbrev b_ru_begin : ByteArray := prog_6_method_4_code
def y_ru_begin : MethodName := ⟨"AlarmForge$Runner", "begin", "()V"⟩
def rm_ru_begin : Room := { frames := 0, cells := 0, slots := 0, locals := 0 }
theorem d_ru_begin_0 : decode b_ru_begin 0 = .ok (.iconst 0, 1) := by decide +kernel
theorem d_ru_begin_1 : decode b_ru_begin 1 = .ok (.istore_n 1, 1) := by decide +kernel
theorem d_ru_begin_2 : decode b_ru_begin 2 = .ok (.iload_n 1, 1) := by decide +kernel
theorem d_ru_begin_3 : decode b_ru_begin 3 = .ok (.bipush (6), 2) := by decide +kernel
theorem d_ru_begin_5 : decode b_ru_begin 5 = .ok (.if_icmp .ge (23), 3) := by decide +kernel
theorem d_ru_begin_8 : decode b_ru_begin 8 = .ok (.aload_n 0, 1) := by decide +kernel
theorem d_ru_begin_9 : decode b_ru_begin 9 = .ok (.getfield 9, 3) := by decide +kernel
theorem d_ru_begin_12 : decode b_ru_begin 12 = .ok (.iload_n 1, 1) := by decide +kernel
theorem d_ru_begin_13 : decode b_ru_begin 13 = .ok (.iconst 0, 1) := by decide +kernel
theorem d_ru_begin_14 : decode b_ru_begin 14 = .ok (.iastore, 1) := by decide +kernel
theorem d_ru_begin_15 : decode b_ru_begin 15 = .ok (.aload_n 0, 1) := by decide +kernel
theorem d_ru_begin_16 : decode b_ru_begin 16 = .ok (.getfield 15, 3) := by decide +kernel
theorem d_ru_begin_19 : decode b_ru_begin 19 = .ok (.iload_n 1, 1) := by decide +kernel
theorem d_ru_begin_20 : decode b_ru_begin 20 = .ok (.iconst 1, 1) := by decide +kernel
theorem d_ru_begin_21 : decode b_ru_begin 21 = .ok (.bastore, 1) := by decide +kernel
theorem d_ru_begin_22 : decode b_ru_begin 22 = .ok (.iinc 1 (1), 3) := by decide +kernel
theorem d_ru_begin_25 : decode b_ru_begin 25 = .ok (.goto (-23), 3) := by decide +kernel
theorem d_ru_begin_28 : decode b_ru_begin 28 = .ok (.iconst 0, 1) := by decide +kernel
theorem d_ru_begin_29 : decode b_ru_begin 29 = .ok (.istore_n 1, 1) := by decide +kernel
theorem d_ru_begin_30 : decode b_ru_begin 30 = .ok (.iload_n 1, 1) := by decide +kernel
theorem d_ru_begin_31 : decode b_ru_begin 31 = .ok (.bipush (8), 2) := by decide +kernel
theorem d_ru_begin_33 : decode b_ru_begin 33 = .ok (.if_icmp .ge (16), 3) := by decide +kernel
theorem d_ru_begin_36 : decode b_ru_begin 36 = .ok (.aload_n 0, 1) := by decide +kernel
theorem d_ru_begin_37 : decode b_ru_begin 37 = .ok (.getfield 19, 3) := by decide +kernel
theorem d_ru_begin_40 : decode b_ru_begin 40 = .ok (.iload_n 1, 1) := by decide +kernel
theorem d_ru_begin_41 : decode b_ru_begin 41 = .ok (.iconst 0, 1) := by decide +kernel
theorem d_ru_begin_42 : decode b_ru_begin 42 = .ok (.iastore, 1) := by decide +kernel
theorem d_ru_begin_43 : decode b_ru_begin 43 = .ok (.iinc 1 (1), 3) := by decide +kernel
theorem d_ru_begin_46 : decode b_ru_begin 46 = .ok (.goto (-16), 3) := by decide +kernel
theorem d_ru_begin_49 : decode b_ru_begin 49 = .ok (.aload_n 0, 1) := by decide +kernel
theorem d_ru_begin_50 : decode b_ru_begin 50 = .ok (.iconst 0, 1) := by decide +kernel
theorem d_ru_begin_51 : decode b_ru_begin 51 = .ok (.putfield 52, 3) := by decide +kernel
theorem d_ru_begin_54 : decode b_ru_begin 54 = .ok (.aload_n 0, 1) := by decide +kernel
theorem d_ru_begin_55 : decode b_ru_begin 55 = .ok (.iconst 0, 1) := by decide +kernel
theorem d_ru_begin_56 : decode b_ru_begin 56 = .ok (.putfield 55, 3) := by decide +kernel
theorem d_ru_begin_59 : decode b_ru_begin 59 = .ok (.aload_n 0, 1) := by decide +kernel
theorem d_ru_begin_60 : decode b_ru_begin 60 = .ok (.iconst 0, 1) := by decide +kernel
theorem d_ru_begin_61 : decode b_ru_begin 61 = .ok (.putfield 58, 3) := by decide +kernel
theorem d_ru_begin_64 : decode b_ru_begin 64 = .ok (.return_, 1) := by decide +kernel
def f_ru_begin_30  : Nat → Nat → Int32 → WW → Option WW
  | 0, _, _, _ => none
  | n + 1, y0, y1, w =>
    if (8 : Int32) ≤ y1 then
      (pv w y0 5 8 (.int (0 : Int32))).bind fun w3 =>
      (pv w3 y0 5 9 (.int (0 : Int32))).bind fun w4 =>
      (pv w4 y0 5 10 (.int (0 : Int32))).bind fun w5 =>
      some w5
    else
      (gN w y0 5 2).bind fun x6 =>
      (sI w x6 0 y1 (0 : Int32)).bind fun w7 =>
      f_ru_begin_30 n y0 (y1 + (1 : Int32)) w7
def f_ru_begin_2  : Nat → Nat → Int32 → WW → Option WW
  | 0, _, _, _ => none
  | n + 1, y0, y1, w =>
    if (6 : Int32) ≤ y1 then
      f_ru_begin_30 KK y0 (0 : Int32) w
    else
      (gN w y0 5 0).bind fun x8 =>
      (sI w x8 0 y1 (0 : Int32)).bind fun w9 =>
      (gN w9 y0 5 1).bind fun x10 =>
      (sI w9 x10 2 y1 (vp_nar .boolean (1 : Int32))).bind fun w11 =>
      f_ru_begin_2 n y0 (y1 + (1 : Int32)) w11
def f_ru_begin (a0 : Nat) (w : WW) : Option WW :=
  if kb w a0 5 = true then
    f_ru_begin_2 KK a0 (0 : Int32) w
  else none
theorem kb_ru_begin {a0 : Nat}  {w : WW} {r : WW} (h : f_ru_begin a0 w = some r) : kb w a0 5 = true := (its h).1
set_option maxHeartbeats 4000000 in
set_option maxRecDepth 100000 in
theorem j_ru_begin_30 {p : Program} {l : Launch} {e : Env} {s : State} {m : MethodId} {args : Array Value} {below : List Frame} {meth : Method} {c : Code} {D : va_G} {cA : Nat → ClassId} {base : Nat} {w' : WW} (C : cx b_ru_begin (none) 2 y_ru_begin.cls "begin" p s m args meth c D cA base)   : ∀ n : Nat, ∀ (y0 : Nat) (y1 : Int32) (w : WW), f_ru_begin_30 n y0 y1 w = some w' → ∀ (H : Heap) (locs : List Loc) (ls : Array Slot), wo_S D cls cA base s w H locs → lv_has ls 2 [(0, .ref y0), (1, .int y1)] → W p l e rm_ru_begin s m args below meth c H locs 0 0 (MQ below (wo_Q D cls cA base none w') args s rm_ru_begin.cells rm_ru_begin.slots (wo_B base)) (F0 m 30 ls []) := by
  obtain ⟨hx, hb, hr, hml, hown, hts, hlk, hnm, hK, hG⟩ := id C
  intro n
  induction n with
  | zero => intro y0 y1 w h; cases h
  | succ n ih =>
    intro y0 y1 w h H locs ls hW hl
    rw [f_ru_begin_30] at h
    refine lv_iload_n hx hb d_ru_begin_30 rfl (lv_at hl 1 rfl) ?_
    refine lv_bipush (v := (8 : Int32)) hx hb d_ru_begin_31 (by decide) ?_
    refine lv_icmp_ge (tgt := 49) hx hb d_ru_begin_33 (by decide) (fun c2 => ?_) (fun c2 => ?_)
    · rw [if_pos c2] at h
      refine lv_aload_n hx hb d_ru_begin_49 rfl (lv_at hl 0 rfl) ?_
      refine lv_iconst (v := (0 : Int32)) hx hb d_ru_begin_50 (by decide) ?_
      replace h := bs h
      obtain ⟨w3, hw3, h⟩ := h
      refine pf_ru_52 hx hb hts hown hK hG hW rfl rfl hw3 d_ru_begin_51 (fun H locs hW => ?_)
      refine lv_aload_n hx hb d_ru_begin_54 rfl (lv_at hl 0 rfl) ?_
      refine lv_iconst (v := (0 : Int32)) hx hb d_ru_begin_55 (by decide) ?_
      replace h := bs h
      obtain ⟨w4, hw4, h⟩ := h
      refine pf_ru_55 hx hb hts hown hK hG hW rfl rfl hw4 d_ru_begin_56 (fun H locs hW => ?_)
      refine lv_aload_n hx hb d_ru_begin_59 rfl (lv_at hl 0 rfl) ?_
      refine lv_iconst (v := (0 : Int32)) hx hb d_ru_begin_60 (by decide) ?_
      replace h := bs h
      obtain ⟨w5, hw5, h⟩ := h
      refine pf_ru_58 hx hb hts hown hK hG hW rfl rfl hw5 d_ru_begin_61 (fun H locs hW => ?_)
      cases h
      exact wo_vret hx hb hr hlk hW d_ru_begin_64
    · rw [if_neg c2] at h
      refine lv_aload_n hx hb d_ru_begin_36 rfl (lv_at hl 0 rfl) ?_
      replace h := bs h
      obtain ⟨x6, hx6, h⟩ := h
      refine gf_ru_19 hx hb hts hown hK hG hW (gN_s hx6) d_ru_begin_37 ?_
      refine lv_iload_n hx hb d_ru_begin_40 rfl (lv_at hl 1 rfl) ?_
      refine lv_iconst (v := (0 : Int32)) hx hb d_ru_begin_41 (by decide) ?_
      replace h := bs h
      obtain ⟨w7, hw7, h⟩ := h
      refine wo_iast hx hb hK hW (t := 0) rfl hw7 d_ru_begin_42 (fun H locs hW => ?_)
      refine lv_iinc (v := (y1 + (1 : Int32))) (lv' := [(1, .int (y1 + (1 : Int32))), (0, .ref y0)]) hx hb d_ru_begin_43 hl (k := 1) rfl rfl (by decide) rfl (fun ls hl => ?_)
      refine lv_goto (tgt := 30) hx hb d_ru_begin_46 (by decide) ?_
      exact ih y0 (y1 + (1 : Int32)) w7 h _ _ _ hW (lv_sub hl [1, 0] rfl)
set_option maxHeartbeats 4000000 in
set_option maxRecDepth 100000 in
theorem j_ru_begin_2 {p : Program} {l : Launch} {e : Env} {s : State} {m : MethodId} {args : Array Value} {below : List Frame} {meth : Method} {c : Code} {D : va_G} {cA : Nat → ClassId} {base : Nat} {w' : WW} (C : cx b_ru_begin (none) 2 y_ru_begin.cls "begin" p s m args meth c D cA base)   : ∀ n : Nat, ∀ (y0 : Nat) (y1 : Int32) (w : WW), f_ru_begin_2 n y0 y1 w = some w' → ∀ (H : Heap) (locs : List Loc) (ls : Array Slot), wo_S D cls cA base s w H locs → lv_has ls 2 [(0, .ref y0), (1, .int y1)] → W p l e rm_ru_begin s m args below meth c H locs 0 0 (MQ below (wo_Q D cls cA base none w') args s rm_ru_begin.cells rm_ru_begin.slots (wo_B base)) (F0 m 2 ls []) := by
  obtain ⟨hx, hb, hr, hml, hown, hts, hlk, hnm, hK, hG⟩ := id C
  intro n
  induction n with
  | zero => intro y0 y1 w h; cases h
  | succ n ih =>
    intro y0 y1 w h H locs ls hW hl
    rw [f_ru_begin_2] at h
    refine lv_iload_n hx hb d_ru_begin_2 rfl (lv_at hl 1 rfl) ?_
    refine lv_bipush (v := (6 : Int32)) hx hb d_ru_begin_3 (by decide) ?_
    refine lv_icmp_ge (tgt := 28) hx hb d_ru_begin_5 (by decide) (fun c1 => ?_) (fun c1 => ?_)
    · rw [if_pos c1] at h
      refine lv_iconst (v := (0 : Int32)) hx hb d_ru_begin_28 (by decide) ?_
      refine lv_istore_n (lv' := [(1, .int (0 : Int32)), (0, .ref y0)]) hx hb d_ru_begin_29 rfl hl (by decide) rfl (fun ls hl => ?_)
      exact j_ru_begin_30 C KK y0 (0 : Int32) w h _ _ _ hW (lv_sub hl [1, 0] rfl)
    · rw [if_neg c1] at h
      refine lv_aload_n hx hb d_ru_begin_8 rfl (lv_at hl 0 rfl) ?_
      replace h := bs h
      obtain ⟨x8, hx8, h⟩ := h
      refine gf_ru_9 hx hb hts hown hK hG hW (gN_s hx8) d_ru_begin_9 ?_
      refine lv_iload_n hx hb d_ru_begin_12 rfl (lv_at hl 1 rfl) ?_
      refine lv_iconst (v := (0 : Int32)) hx hb d_ru_begin_13 (by decide) ?_
      replace h := bs h
      obtain ⟨w9, hw9, h⟩ := h
      refine wo_iast hx hb hK hW (t := 0) rfl hw9 d_ru_begin_14 (fun H locs hW => ?_)
      refine lv_aload_n hx hb d_ru_begin_15 rfl (lv_at hl 0 rfl) ?_
      replace h := bs h
      obtain ⟨x10, hx10, h⟩ := h
      refine gf_ru_15 hx hb hts hown hK hG hW (gN_s hx10) d_ru_begin_16 ?_
      refine lv_iload_n hx hb d_ru_begin_19 rfl (lv_at hl 1 rfl) ?_
      refine lv_iconst (v := (1 : Int32)) hx hb d_ru_begin_20 (by decide) ?_
      replace h := bs h
      obtain ⟨w11, hw11, h⟩ := h
      refine wo_zast hx hb hK hW (t := 2) rfl hw11 d_ru_begin_21 (fun H locs hW => ?_)
      refine lv_iinc (v := (y1 + (1 : Int32))) (lv' := [(1, .int (y1 + (1 : Int32))), (0, .ref y0)]) hx hb d_ru_begin_22 hl (k := 1) rfl rfl (by decide) rfl (fun ls hl => ?_)
      refine lv_goto (tgt := 2) hx hb d_ru_begin_25 (by decide) ?_
      exact ih y0 (y1 + (1 : Int32)) w11 h _ _ _ hW (lv_sub hl [1, 0] rfl)
set_option maxHeartbeats 4000000 in
set_option maxRecDepth 100000 in
theorem c_ru_begin (l : Launch) (D : va_G) (cA : Nat → ClassId) (base : Nat) {a0 : Nat} {w w' : WW} (h : f_ru_begin a0 w = some w') : mt l D cls (wo_tys cA) cA base y_ru_begin (Cond.code y_ru_begin b_ru_begin 2 (none) :: gt) rm_ru_begin [.ref a0] w none w' rm_ru_begin.cells rm_ru_begin.slots := by
  refine mt_start (by decide) (Nat.le_of_ble_eq_true rfl) ?_
  intro p e s m below meth c ls hx hb hr hml hown hts hlk hnm hK hG hW hl
  have C : cx b_ru_begin (none) 2 y_ru_begin.cls "begin" p s m [.ref a0].toArray meth c D cA base := ⟨hx, hb, hr, hml, hown, hts, hlk, hnm, hK, hG⟩
  have hl : lv_has ls 2 [(0, .ref a0)] := hl
  unfold f_ru_begin at h
  replace h := its h
  obtain ⟨-, h⟩ := h
  refine lv_iconst (v := (0 : Int32)) hx hb d_ru_begin_0 (by decide) ?_
  refine lv_istore_n (lv' := [(1, .int (0 : Int32)), (0, .ref a0)]) hx hb d_ru_begin_1 rfl hl (by decide) rfl (fun ls hl => ?_)
  exact j_ru_begin_2 C KK a0 (0 : Int32) w h _ _ _ hW (lv_sub hl [1, 0] rfl)
