/-! Methods as functions, and their contracts (by wip/gen/run.py). -/
abbrev b_ru_mayBegin : ByteArray := prog_6_method_6_code
def y_ru_mayBegin : MethodName := ⟨"AlarmForge$Runner", "mayBegin", "()Z"⟩
def rm_ru_mayBegin : Room := { frames := 0, cells := 0, slots := 0, locals := 0 }
theorem d_ru_mayBegin_0 : decode b_ru_mayBegin 0 = .ok (.aload_n 0, 1) := by decide +kernel
theorem d_ru_mayBegin_1 : decode b_ru_mayBegin 1 = .ok (.getfield 52, 3) := by decide +kernel
theorem d_ru_mayBegin_4 : decode b_ru_mayBegin 4 = .ok (.aload_n 0, 1) := by decide +kernel
theorem d_ru_mayBegin_5 : decode b_ru_mayBegin 5 = .ok (.getfield 36, 3) := by decide +kernel
theorem d_ru_mayBegin_8 : decode b_ru_mayBegin 8 = .ok (.if_icmp .lt (5), 3) := by decide +kernel
theorem d_ru_mayBegin_11 : decode b_ru_mayBegin 11 = .ok (.iconst 0, 1) := by decide +kernel
theorem d_ru_mayBegin_12 : decode b_ru_mayBegin 12 = .ok (.ireturn, 1) := by decide +kernel
theorem d_ru_mayBegin_13 : decode b_ru_mayBegin 13 = .ok (.aload_n 0, 1) := by decide +kernel
theorem d_ru_mayBegin_14 : decode b_ru_mayBegin 14 = .ok (.dup, 1) := by decide +kernel
theorem d_ru_mayBegin_15 : decode b_ru_mayBegin 15 = .ok (.getfield 52, 3) := by decide +kernel
theorem d_ru_mayBegin_18 : decode b_ru_mayBegin 18 = .ok (.iconst 1, 1) := by decide +kernel
theorem d_ru_mayBegin_19 : decode b_ru_mayBegin 19 = .ok (.iadd, 1) := by decide +kernel
theorem d_ru_mayBegin_20 : decode b_ru_mayBegin 20 = .ok (.putfield 52, 3) := by decide +kernel
theorem d_ru_mayBegin_23 : decode b_ru_mayBegin 23 = .ok (.iconst 1, 1) := by decide +kernel
theorem d_ru_mayBegin_24 : decode b_ru_mayBegin 24 = .ok (.ireturn, 1) := by decide +kernel
def f_ru_mayBegin (a0 : Nat) (w : WW) : Option (Int32 × WW) :=
  if kb w a0 5 = true then
    (gI w a0 5 8).bind fun x1 =>
    (gI w a0 5 7).bind fun x2 =>
    if x1 < x2 then
      (gI w a0 5 8).bind fun x4 =>
      (pv w a0 5 8 (.int (x4 + (1 : Int32)))).bind fun w5 =>
      if (1 : Int32) = 0 ∨ (1 : Int32) = 1 then some ((1 : Int32), w5) else none
    else
      if (0 : Int32) = 0 ∨ (0 : Int32) = 1 then some ((0 : Int32), w) else none
  else none
theorem kb_ru_mayBegin {a0 : Nat}  {w : WW} {r : (Int32 × WW)} (h : f_ru_mayBegin a0 w = some r) : kb w a0 5 = true := (its h).1
set_option maxHeartbeats 4000000 in
set_option maxRecDepth 100000 in
theorem c_ru_mayBegin (l : Launch) (D : va_G) (cA : Nat → ClassId) (base : Nat) {a0 : Nat} {w w' : WW} {r : Int32} (h : f_ru_mayBegin a0 w = some (r, w')) : mt l D cls (wo_tys cA) cA base y_ru_mayBegin (Cond.code y_ru_mayBegin b_ru_mayBegin 1 (some .boolean) :: gt) rm_ru_mayBegin [.ref a0] w (some (.int r)) w' rm_ru_mayBegin.cells rm_ru_mayBegin.slots := by
  refine mt_start (by decide) (Nat.le_of_ble_eq_true rfl) ?_
  intro p e s m below meth c ls hx hb hr hml hown hts hlk hnm hK hG hW hl
  have C : cx b_ru_mayBegin (some .boolean) 1 y_ru_mayBegin.cls "mayBegin" p s m [.ref a0].toArray meth c D cA base := ⟨hx, hb, hr, hml, hown, hts, hlk, hnm, hK, hG⟩
  have hl : lv_has ls 1 [(0, .ref a0)] := hl
  unfold f_ru_mayBegin at h
  replace h := its h
  obtain ⟨-, h⟩ := h
  refine lv_aload_n hx hb d_ru_mayBegin_0 rfl (lv_at hl 0 rfl) ?_
  replace h := bs h
  obtain ⟨x1, hx1, h⟩ := h
  refine gf_ru_52 hx hb hts hown hK hG hW (gI_s hx1) d_ru_mayBegin_1 ?_
  refine lv_aload_n hx hb d_ru_mayBegin_4 rfl (lv_at hl 0 rfl) ?_
  replace h := bs h
  obtain ⟨x2, hx2, h⟩ := h
  refine gf_ru_36 hx hb hts hown hK hG hW (gI_s hx2) d_ru_mayBegin_5 ?_
  refine lv_icmp_lt (tgt := 13) hx hb d_ru_mayBegin_8 (by decide) (fun c3 => ?_) (fun c3 => ?_)
  · rw [if_pos c3] at h
    refine lv_aload_n hx hb d_ru_mayBegin_13 rfl (lv_at hl 0 rfl) ?_
    refine lv_dup hx hb d_ru_mayBegin_14 rfl ?_
    replace h := bs h
    obtain ⟨x4, hx4, h⟩ := h
    refine gf_ru_52 hx hb hts hown hK hG hW (gI_s hx4) d_ru_mayBegin_15 ?_
    refine lv_iconst (v := (1 : Int32)) hx hb d_ru_mayBegin_18 (by decide) ?_
    refine lv_iadd hx hb d_ru_mayBegin_19 ?_
    replace h := bs h
    obtain ⟨w5, hw5, h⟩ := h
    refine pf_ru_52 hx hb hts hown hK hG hW rfl rfl hw5 d_ru_mayBegin_20 (fun H locs hW => ?_)
    refine lv_iconst (v := (1 : Int32)) hx hb d_ru_mayBegin_23 (by decide) ?_
    replace h := its h
    obtain ⟨c6, h⟩ := h
    cases h
    exact wo_zret hx hb hr hlk hW c6 d_ru_mayBegin_24
  · rw [if_neg c3] at h
    refine lv_iconst (v := (0 : Int32)) hx hb d_ru_mayBegin_11 (by decide) ?_
    replace h := its h
    obtain ⟨c7, h⟩ := h
    cases h
    exact wo_zret hx hb hr hlk hW c7 d_ru_mayBegin_12
abbrev b_pg_growthOf : ByteArray := prog_4_method_5_code
def y_pg_growthOf : MethodName := ⟨"AlarmForge$Program", "growthOf", "(I)I"⟩
def rm_pg_growthOf : Room := { frames := 0, cells := 0, slots := 0, locals := 0 }
theorem d_pg_growthOf_0 : decode b_pg_growthOf 0 = .ok (.aload_n 0, 1) := by decide +kernel
theorem d_pg_growthOf_1 : decode b_pg_growthOf 1 = .ok (.getfield 18, 3) := by decide +kernel
theorem d_pg_growthOf_4 : decode b_pg_growthOf 4 = .ok (.iload_n 1, 1) := by decide +kernel
theorem d_pg_growthOf_5 : decode b_pg_growthOf 5 = .ok (.iaload, 1) := by decide +kernel
theorem d_pg_growthOf_6 : decode b_pg_growthOf 6 = .ok (.istore_n 2, 1) := by decide +kernel
theorem d_pg_growthOf_7 : decode b_pg_growthOf 7 = .ok (.iload_n 2, 1) := by decide +kernel
theorem d_pg_growthOf_8 : decode b_pg_growthOf 8 = .ok (.iconst 1, 1) := by decide +kernel
theorem d_pg_growthOf_9 : decode b_pg_growthOf 9 = .ok (.if_icmp .eq (8), 3) := by decide +kernel
theorem d_pg_growthOf_12 : decode b_pg_growthOf 12 = .ok (.iload_n 2, 1) := by decide +kernel
theorem d_pg_growthOf_13 : decode b_pg_growthOf 13 = .ok (.iconst 2, 1) := by decide +kernel
theorem d_pg_growthOf_14 : decode b_pg_growthOf 14 = .ok (.if_icmp .ne (5), 3) := by decide +kernel
theorem d_pg_growthOf_17 : decode b_pg_growthOf 17 = .ok (.iconst 1, 1) := by decide +kernel
theorem d_pg_growthOf_18 : decode b_pg_growthOf 18 = .ok (.ireturn, 1) := by decide +kernel
theorem d_pg_growthOf_19 : decode b_pg_growthOf 19 = .ok (.iload_n 2, 1) := by decide +kernel
theorem d_pg_growthOf_20 : decode b_pg_growthOf 20 = .ok (.iconst 3, 1) := by decide +kernel
theorem d_pg_growthOf_21 : decode b_pg_growthOf 21 = .ok (.if_icmp .eq (10), 3) := by decide +kernel
theorem d_pg_growthOf_24 : decode b_pg_growthOf 24 = .ok (.iload_n 2, 1) := by decide +kernel
theorem d_pg_growthOf_25 : decode b_pg_growthOf 25 = .ok (.sipush (259), 3) := by decide +kernel
theorem d_pg_growthOf_28 : decode b_pg_growthOf 28 = .ok (.if_icmp .ne (7), 3) := by decide +kernel
theorem d_pg_growthOf_31 : decode b_pg_growthOf 31 = .ok (.iconst 0, 1) := by decide +kernel
theorem d_pg_growthOf_32 : decode b_pg_growthOf 32 = .ok (.goto (4), 3) := by decide +kernel
theorem d_pg_growthOf_35 : decode b_pg_growthOf 35 = .ok (.iconst (-1), 1) := by decide +kernel
theorem d_pg_growthOf_36 : decode b_pg_growthOf 36 = .ok (.ireturn, 1) := by decide +kernel
def f_pg_growthOf_17   (w : WW) : Option (Int32 × WW) :=
  some ((1 : Int32), w)
def f_pg_growthOf_36  (z0 : Int32) (w : WW) : Option (Int32 × WW) :=
  some (z0, w)
def f_pg_growthOf_31   (w : WW) : Option (Int32 × WW) :=
  f_pg_growthOf_36 (0 : Int32) w
def f_pg_growthOf (a0 : Nat) (a1 : Int32) (w : WW) : Option (Int32 × WW) :=
  if kb w a0 3 = true then
    (gN w a0 3 2).bind fun x1 =>
    (rI w x1 0 a1).bind fun x2 =>
    if x2 = (1 : Int32) then
      f_pg_growthOf_17 w
    else
      if x2 = (2 : Int32) then
        f_pg_growthOf_17 w
      else
        if x2 = (3 : Int32) then
          f_pg_growthOf_31 w
        else
          if x2 = (259 : Int32) then
            f_pg_growthOf_31 w
          else
            f_pg_growthOf_36 (-1 : Int32) w
  else none
theorem kb_pg_growthOf {a0 : Nat} {a1 : Int32} {w : WW} {r : (Int32 × WW)} (h : f_pg_growthOf a0 a1 w = some r) : kb w a0 3 = true := (its h).1
set_option maxHeartbeats 4000000 in
set_option maxRecDepth 100000 in
theorem j_pg_growthOf_17 {p : Program} {l : Launch} {e : Env} {s : State} {m : MethodId} {args : Array Value} {below : List Frame} {meth : Method} {c : Code} {D : va_G} {cA : Nat → ClassId} {base : Nat} {r : Int32} {w' : WW} (C : cx b_pg_growthOf (some .int) 3 y_pg_growthOf.cls "growthOf" p s m args meth c D cA base)   : ∀  (w : WW), f_pg_growthOf_17  w = some (r, w') → ∀ (H : Heap) (locs : List Loc) (ls : Array Slot), wo_S D cls cA base s w H locs → lv_has ls 3 [] → W p l e rm_pg_growthOf s m args below meth c H locs 0 0 (MQ below (wo_Q D cls cA base (some (.int r)) w') args s rm_pg_growthOf.cells rm_pg_growthOf.slots (wo_B base)) (F0 m 17 ls []) := by
  obtain ⟨hx, hb, hr, hml, hown, hts, hlk, hnm, hK, hG⟩ := id C
  intro  w h H locs ls hW hl
  unfold f_pg_growthOf_17 at h
  refine lv_iconst (v := (1 : Int32)) hx hb d_pg_growthOf_17 (by decide) ?_
  cases h
  exact wo_iret hx hb hr hlk hW d_pg_growthOf_18
set_option maxHeartbeats 4000000 in
set_option maxRecDepth 100000 in
theorem j_pg_growthOf_36 {p : Program} {l : Launch} {e : Env} {s : State} {m : MethodId} {args : Array Value} {below : List Frame} {meth : Method} {c : Code} {D : va_G} {cA : Nat → ClassId} {base : Nat} {r : Int32} {w' : WW} (C : cx b_pg_growthOf (some .int) 3 y_pg_growthOf.cls "growthOf" p s m args meth c D cA base)   : ∀ (z0 : Int32) (w : WW), f_pg_growthOf_36 z0 w = some (r, w') → ∀ (H : Heap) (locs : List Loc) (ls : Array Slot), wo_S D cls cA base s w H locs → lv_has ls 3 [] → W p l e rm_pg_growthOf s m args below meth c H locs 0 0 (MQ below (wo_Q D cls cA base (some (.int r)) w') args s rm_pg_growthOf.cells rm_pg_growthOf.slots (wo_B base)) (F0 m 36 ls [.int z0]) := by
  obtain ⟨hx, hb, hr, hml, hown, hts, hlk, hnm, hK, hG⟩ := id C
  intro z0 w h H locs ls hW hl
  unfold f_pg_growthOf_36 at h
  cases h
  exact wo_iret hx hb hr hlk hW d_pg_growthOf_36
set_option maxHeartbeats 4000000 in
set_option maxRecDepth 100000 in
theorem j_pg_growthOf_31 {p : Program} {l : Launch} {e : Env} {s : State} {m : MethodId} {args : Array Value} {below : List Frame} {meth : Method} {c : Code} {D : va_G} {cA : Nat → ClassId} {base : Nat} {r : Int32} {w' : WW} (C : cx b_pg_growthOf (some .int) 3 y_pg_growthOf.cls "growthOf" p s m args meth c D cA base)   : ∀  (w : WW), f_pg_growthOf_31  w = some (r, w') → ∀ (H : Heap) (locs : List Loc) (ls : Array Slot), wo_S D cls cA base s w H locs → lv_has ls 3 [] → W p l e rm_pg_growthOf s m args below meth c H locs 0 0 (MQ below (wo_Q D cls cA base (some (.int r)) w') args s rm_pg_growthOf.cells rm_pg_growthOf.slots (wo_B base)) (F0 m 31 ls []) := by
  obtain ⟨hx, hb, hr, hml, hown, hts, hlk, hnm, hK, hG⟩ := id C
  intro  w h H locs ls hW hl
  unfold f_pg_growthOf_31 at h
  refine lv_iconst (v := (0 : Int32)) hx hb d_pg_growthOf_31 (by decide) ?_
  refine lv_goto (tgt := 36) hx hb d_pg_growthOf_32 (by decide) ?_
  exact j_pg_growthOf_36 C (0 : Int32) w h _ _ _ hW (lv_sub hl [] rfl)
set_option maxHeartbeats 4000000 in
set_option maxRecDepth 100000 in
theorem c_pg_growthOf (l : Launch) (D : va_G) (cA : Nat → ClassId) (base : Nat) {a0 : Nat} {a1 : Int32} {w w' : WW} {r : Int32} (h : f_pg_growthOf a0 a1 w = some (r, w')) : mt l D cls (wo_tys cA) cA base y_pg_growthOf (Cond.code y_pg_growthOf b_pg_growthOf 3 (some .int) :: gt) rm_pg_growthOf [.ref a0, .int a1] w (some (.int r)) w' rm_pg_growthOf.cells rm_pg_growthOf.slots := by
  refine mt_start (by decide) (Nat.le_of_ble_eq_true rfl) ?_
  intro p e s m below meth c ls hx hb hr hml hown hts hlk hnm hK hG hW hl
  have C : cx b_pg_growthOf (some .int) 3 y_pg_growthOf.cls "growthOf" p s m [.ref a0, .int a1].toArray meth c D cA base := ⟨hx, hb, hr, hml, hown, hts, hlk, hnm, hK, hG⟩
  have hl : lv_has ls 3 [(0, .ref a0), (1, .int a1)] := hl
  unfold f_pg_growthOf at h
  replace h := its h
  obtain ⟨-, h⟩ := h
  refine lv_aload_n hx hb d_pg_growthOf_0 rfl (lv_at hl 0 rfl) ?_
  replace h := bs h
  obtain ⟨x1, hx1, h⟩ := h
  refine gf_pg_18 hx hb hts hown hK hG hW (gN_s hx1) d_pg_growthOf_1 ?_
  refine lv_iload_n hx hb d_pg_growthOf_4 rfl (lv_at hl 1 rfl) ?_
  replace h := bs h
  obtain ⟨x2, hx2, h⟩ := h
  refine wo_iald hx hb hK hW (t := 0) rfl hx2 d_pg_growthOf_5 ?_
  refine lv_istore_n (lv' := [(2, .int x2), (0, .ref a0), (1, .int a1)]) hx hb d_pg_growthOf_6 rfl hl (by decide) rfl (fun ls hl => ?_)
  refine lv_iload_n hx hb d_pg_growthOf_7 rfl (lv_at hl 0 rfl) ?_
  refine lv_iconst (v := (1 : Int32)) hx hb d_pg_growthOf_8 (by decide) ?_
  refine lv_icmp_eq (tgt := 17) hx hb d_pg_growthOf_9 (by decide) (fun c3 => ?_) (fun c3 => ?_)
  · rw [if_pos c3] at h
    exact j_pg_growthOf_17 C w h _ _ _ hW (lv_sub hl [] rfl)
  · rw [if_neg c3] at h
    refine lv_iload_n hx hb d_pg_growthOf_12 rfl (lv_at hl 0 rfl) ?_
    refine lv_iconst (v := (2 : Int32)) hx hb d_pg_growthOf_13 (by decide) ?_
    refine lv_icmp_ne (tgt := 19) hx hb d_pg_growthOf_14 (by decide) (fun c4 => ?_) (fun c4 => ?_)
    · rw [if_neg c4] at h
      refine lv_iload_n hx hb d_pg_growthOf_19 rfl (lv_at hl 0 rfl) ?_
      refine lv_iconst (v := (3 : Int32)) hx hb d_pg_growthOf_20 (by decide) ?_
      refine lv_icmp_eq (tgt := 31) hx hb d_pg_growthOf_21 (by decide) (fun c5 => ?_) (fun c5 => ?_)
      · rw [if_pos c5] at h
        exact j_pg_growthOf_31 C w h _ _ _ hW (lv_sub hl [] rfl)
      · rw [if_neg c5] at h
        refine lv_iload_n hx hb d_pg_growthOf_24 rfl (lv_at hl 0 rfl) ?_
        refine lv_sipush (v := (259 : Int32)) hx hb d_pg_growthOf_25 (by decide) ?_
        refine lv_icmp_ne (tgt := 35) hx hb d_pg_growthOf_28 (by decide) (fun c6 => ?_) (fun c6 => ?_)
        · rw [if_neg c6] at h
          refine lv_iconst (v := (-1 : Int32)) hx hb d_pg_growthOf_35 (by decide) ?_
          exact j_pg_growthOf_36 C (-1 : Int32) w h _ _ _ hW (lv_sub hl [] rfl)
        · rw [if_pos c6] at h
          exact j_pg_growthOf_31 C w h _ _ _ hW (lv_sub hl [] rfl)
    · rw [if_pos c4] at h
      exact j_pg_growthOf_17 C w h _ _ _ hW (lv_sub hl [] rfl)
abbrev b_ru_combine : ByteArray := prog_6_method_17_code
def y_ru_combine : MethodName := ⟨"AlarmForge$Runner", "combine", "(IJJ)J"⟩
def rm_ru_combine : Room := { frames := 0, cells := 0, slots := 0, locals := 0 }
theorem d_ru_combine_0 : decode b_ru_combine 0 = .ok (.iload_n 1, 1) := by decide +kernel
theorem d_ru_combine_1 : decode b_ru_combine 1 = .ok (.bipush (43), 2) := by decide +kernel
theorem d_ru_combine_3 : decode b_ru_combine 3 = .ok (.if_icmp .ne (8), 3) := by decide +kernel
theorem d_ru_combine_6 : decode b_ru_combine 6 = .ok (.lload_n 2, 1) := by decide +kernel
theorem d_ru_combine_7 : decode b_ru_combine 7 = .ok (.lload 4, 2) := by decide +kernel
theorem d_ru_combine_9 : decode b_ru_combine 9 = .ok (.ladd, 1) := by decide +kernel
theorem d_ru_combine_10 : decode b_ru_combine 10 = .ok (.lreturn, 1) := by decide +kernel
theorem d_ru_combine_11 : decode b_ru_combine 11 = .ok (.iload_n 1, 1) := by decide +kernel
theorem d_ru_combine_12 : decode b_ru_combine 12 = .ok (.bipush (45), 2) := by decide +kernel
theorem d_ru_combine_14 : decode b_ru_combine 14 = .ok (.if_icmp .ne (10), 3) := by decide +kernel
theorem d_ru_combine_17 : decode b_ru_combine 17 = .ok (.lload_n 2, 1) := by decide +kernel
theorem d_ru_combine_18 : decode b_ru_combine 18 = .ok (.lload 4, 2) := by decide +kernel
theorem d_ru_combine_20 : decode b_ru_combine 20 = .ok (.lsub, 1) := by decide +kernel
theorem d_ru_combine_21 : decode b_ru_combine 21 = .ok (.goto (7), 3) := by decide +kernel
theorem d_ru_combine_24 : decode b_ru_combine 24 = .ok (.lload_n 2, 1) := by decide +kernel
theorem d_ru_combine_25 : decode b_ru_combine 25 = .ok (.lload 4, 2) := by decide +kernel
theorem d_ru_combine_27 : decode b_ru_combine 27 = .ok (.lmul, 1) := by decide +kernel
theorem d_ru_combine_28 : decode b_ru_combine 28 = .ok (.lreturn, 1) := by decide +kernel
def f_ru_combine_28  (z0 : Int64) (w : WW) : Option (Int64 × WW) :=
  some (z0, w)
def f_ru_combine (a0 : Nat) (a1 : Int32) (a2 : Int64) (a4 : Int64) (w : WW) : Option (Int64 × WW) :=
  if kb w a0 5 = true then
    if a1 = (43 : Int32) then
      some ((a2 + a4), w)
    else
      if a1 = (45 : Int32) then
        f_ru_combine_28 (a2 - a4) w
      else
        f_ru_combine_28 (a2 * a4) w
  else none
theorem kb_ru_combine {a0 : Nat} {a1 : Int32} {a2 : Int64} {a4 : Int64} {w : WW} {r : (Int64 × WW)} (h : f_ru_combine a0 a1 a2 a4 w = some r) : kb w a0 5 = true := (its h).1
set_option maxHeartbeats 4000000 in
set_option maxRecDepth 100000 in
theorem j_ru_combine_28 {p : Program} {l : Launch} {e : Env} {s : State} {m : MethodId} {args : Array Value} {below : List Frame} {meth : Method} {c : Code} {D : va_G} {cA : Nat → ClassId} {base : Nat} {r : Int64} {w' : WW} (C : cx b_ru_combine (some .long) 6 y_ru_combine.cls "combine" p s m args meth c D cA base)   : ∀ (z0 : Int64) (w : WW), f_ru_combine_28 z0 w = some (r, w') → ∀ (H : Heap) (locs : List Loc) (ls : Array Slot), wo_S D cls cA base s w H locs → lv_has ls 6 [] → W p l e rm_ru_combine s m args below meth c H locs 0 0 (MQ below (wo_Q D cls cA base (some (.long r)) w') args s rm_ru_combine.cells rm_ru_combine.slots (wo_B base)) (F0 m 28 ls [.long z0]) := by
  obtain ⟨hx, hb, hr, hml, hown, hts, hlk, hnm, hK, hG⟩ := id C
  intro z0 w h H locs ls hW hl
  unfold f_ru_combine_28 at h
  cases h
  exact wo_lret hx hb hr hlk hW d_ru_combine_28
set_option maxHeartbeats 4000000 in
set_option maxRecDepth 100000 in
theorem c_ru_combine (l : Launch) (D : va_G) (cA : Nat → ClassId) (base : Nat) {a0 : Nat} {a1 : Int32} {a2 : Int64} {a4 : Int64} {w w' : WW} {r : Int64} (h : f_ru_combine a0 a1 a2 a4 w = some (r, w')) : mt l D cls (wo_tys cA) cA base y_ru_combine (Cond.code y_ru_combine b_ru_combine 6 (some .long) :: gt) rm_ru_combine [.ref a0, .int a1, .long a2, .long a4] w (some (.long r)) w' rm_ru_combine.cells rm_ru_combine.slots := by
  refine mt_start (by decide) (Nat.le_of_ble_eq_true rfl) ?_
  intro p e s m below meth c ls hx hb hr hml hown hts hlk hnm hK hG hW hl
  have C : cx b_ru_combine (some .long) 6 y_ru_combine.cls "combine" p s m [.ref a0, .int a1, .long a2, .long a4].toArray meth c D cA base := ⟨hx, hb, hr, hml, hown, hts, hlk, hnm, hK, hG⟩
  have hl : lv_has ls 6 [(0, .ref a0), (1, .int a1), (2, .long a2), (4, .long a4)] := hl
  unfold f_ru_combine at h
  replace h := its h
  obtain ⟨-, h⟩ := h
  refine lv_iload_n hx hb d_ru_combine_0 rfl (lv_at hl 1 rfl) ?_
  refine lv_bipush (v := (43 : Int32)) hx hb d_ru_combine_1 (by decide) ?_
  refine lv_icmp_ne (tgt := 11) hx hb d_ru_combine_3 (by decide) (fun c1 => ?_) (fun c1 => ?_)
  · rw [if_neg c1] at h
    refine lv_iload_n hx hb d_ru_combine_11 rfl (lv_at hl 1 rfl) ?_
    refine lv_bipush (v := (45 : Int32)) hx hb d_ru_combine_12 (by decide) ?_
    refine lv_icmp_ne (tgt := 24) hx hb d_ru_combine_14 (by decide) (fun c2 => ?_) (fun c2 => ?_)
    · rw [if_neg c2] at h
      refine lv_lload_n hx hb d_ru_combine_24 rfl (lv_at hl 2 rfl) ?_
      refine lv_lload hx hb d_ru_combine_25 (lv_at hl 3 rfl) ?_
      refine lv_lmul hx hb d_ru_combine_27 ?_
      exact j_ru_combine_28 C (a2 * a4) w h _ _ _ hW (lv_sub hl [] rfl)
    · rw [if_pos c2] at h
      refine lv_lload_n hx hb d_ru_combine_17 rfl (lv_at hl 2 rfl) ?_
      refine lv_lload hx hb d_ru_combine_18 (lv_at hl 3 rfl) ?_
      refine lv_lsub hx hb d_ru_combine_20 ?_
      refine lv_goto (tgt := 28) hx hb d_ru_combine_21 (by decide) ?_
      exact j_ru_combine_28 C (a2 - a4) w h _ _ _ hW (lv_sub hl [] rfl)
  · rw [if_pos c1] at h
    refine lv_lload_n hx hb d_ru_combine_6 rfl (lv_at hl 2 rfl) ?_
    refine lv_lload hx hb d_ru_combine_7 (lv_at hl 3 rfl) ?_
    refine lv_ladd hx hb d_ru_combine_9 ?_
    cases h
    exact wo_lret hx hb hr hlk hW d_ru_combine_10
abbrev b_ru_assign : ByteArray := prog_6_method_9_code
def y_ru_assign : MethodName := ⟨"AlarmForge$Runner", "assign", "(II)V"⟩
def rm_ru_assign : Room := { frames := 0, cells := 0, slots := 0, locals := 0 }
theorem d_ru_assign_0 : decode b_ru_assign 0 = .ok (.aload_n 0, 1) := by decide +kernel
theorem d_ru_assign_1 : decode b_ru_assign 1 = .ok (.getfield 9, 3) := by decide +kernel
theorem d_ru_assign_4 : decode b_ru_assign 4 = .ok (.iload_n 1, 1) := by decide +kernel
theorem d_ru_assign_5 : decode b_ru_assign 5 = .ok (.iload_n 2, 1) := by decide +kernel
theorem d_ru_assign_6 : decode b_ru_assign 6 = .ok (.iastore, 1) := by decide +kernel
theorem d_ru_assign_7 : decode b_ru_assign 7 = .ok (.aload_n 0, 1) := by decide +kernel
theorem d_ru_assign_8 : decode b_ru_assign 8 = .ok (.getfield 15, 3) := by decide +kernel
theorem d_ru_assign_11 : decode b_ru_assign 11 = .ok (.iload_n 1, 1) := by decide +kernel
theorem d_ru_assign_12 : decode b_ru_assign 12 = .ok (.iconst 0, 1) := by decide +kernel
theorem d_ru_assign_13 : decode b_ru_assign 13 = .ok (.bastore, 1) := by decide +kernel
theorem d_ru_assign_14 : decode b_ru_assign 14 = .ok (.return_, 1) := by decide +kernel
def f_ru_assign (a0 : Nat) (a1 : Int32) (a2 : Int32) (w : WW) : Option WW :=
  if kb w a0 5 = true then
    (gN w a0 5 0).bind fun x1 =>
    (sI w x1 0 a1 a2).bind fun w2 =>
    (gN w2 a0 5 1).bind fun x3 =>
    (sI w2 x3 2 a1 (vp_nar .boolean (0 : Int32))).bind fun w4 =>
    some w4
  else none
theorem kb_ru_assign {a0 : Nat} {a1 : Int32} {a2 : Int32} {w : WW} {r : WW} (h : f_ru_assign a0 a1 a2 w = some r) : kb w a0 5 = true := (its h).1
set_option maxHeartbeats 4000000 in
set_option maxRecDepth 100000 in
theorem c_ru_assign (l : Launch) (D : va_G) (cA : Nat → ClassId) (base : Nat) {a0 : Nat} {a1 : Int32} {a2 : Int32} {w w' : WW} (h : f_ru_assign a0 a1 a2 w = some w') : mt l D cls (wo_tys cA) cA base y_ru_assign (Cond.code y_ru_assign b_ru_assign 3 (none) :: gt) rm_ru_assign [.ref a0, .int a1, .int a2] w none w' rm_ru_assign.cells rm_ru_assign.slots := by
  refine mt_start (by decide) (Nat.le_of_ble_eq_true rfl) ?_
  intro p e s m below meth c ls hx hb hr hml hown hts hlk hnm hK hG hW hl
  have C : cx b_ru_assign (none) 3 y_ru_assign.cls "assign" p s m [.ref a0, .int a1, .int a2].toArray meth c D cA base := ⟨hx, hb, hr, hml, hown, hts, hlk, hnm, hK, hG⟩
  have hl : lv_has ls 3 [(0, .ref a0), (1, .int a1), (2, .int a2)] := hl
  unfold f_ru_assign at h
  replace h := its h
  obtain ⟨-, h⟩ := h
  refine lv_aload_n hx hb d_ru_assign_0 rfl (lv_at hl 0 rfl) ?_
  replace h := bs h
  obtain ⟨x1, hx1, h⟩ := h
  refine gf_ru_9 hx hb hts hown hK hG hW (gN_s hx1) d_ru_assign_1 ?_
  refine lv_iload_n hx hb d_ru_assign_4 rfl (lv_at hl 1 rfl) ?_
  refine lv_iload_n hx hb d_ru_assign_5 rfl (lv_at hl 2 rfl) ?_
  replace h := bs h
  obtain ⟨w2, hw2, h⟩ := h
  refine wo_iast hx hb hK hW (t := 0) rfl hw2 d_ru_assign_6 (fun H locs hW => ?_)
  refine lv_aload_n hx hb d_ru_assign_7 rfl (lv_at hl 0 rfl) ?_
  replace h := bs h
  obtain ⟨x3, hx3, h⟩ := h
  refine gf_ru_15 hx hb hts hown hK hG hW (gN_s hx3) d_ru_assign_8 ?_
  refine lv_iload_n hx hb d_ru_assign_11 rfl (lv_at hl 1 rfl) ?_
  refine lv_iconst (v := (0 : Int32)) hx hb d_ru_assign_12 (by decide) ?_
  replace h := bs h
  obtain ⟨w4, hw4, h⟩ := h
  refine wo_zast hx hb hK hW (t := 2) rfl hw4 d_ru_assign_13 (fun H locs hW => ?_)
  cases h
  exact wo_vret hx hb hr hlk hW d_ru_assign_14
abbrev b_ru_nextInput : ByteArray := prog_6_method_10_code
def y_ru_nextInput : MethodName := ⟨"AlarmForge$Runner", "nextInput", "()I"⟩
def rm_ru_nextInput : Room := { frames := 0, cells := 0, slots := 0, locals := 0 }
theorem d_ru_nextInput_0 : decode b_ru_nextInput 0 = .ok (.aload_n 0, 1) := by decide +kernel
theorem d_ru_nextInput_1 : decode b_ru_nextInput 1 = .ok (.getfield 55, 3) := by decide +kernel
theorem d_ru_nextInput_4 : decode b_ru_nextInput 4 = .ok (.aload_n 0, 1) := by decide +kernel
theorem d_ru_nextInput_5 : decode b_ru_nextInput 5 = .ok (.getfield 28, 3) := by decide +kernel
theorem d_ru_nextInput_8 : decode b_ru_nextInput 8 = .ok (.if_icmp .lt (5), 3) := by decide +kernel
theorem d_ru_nextInput_11 : decode b_ru_nextInput 11 = .ok (.iconst 0, 1) := by decide +kernel
theorem d_ru_nextInput_12 : decode b_ru_nextInput 12 = .ok (.ireturn, 1) := by decide +kernel
theorem d_ru_nextInput_13 : decode b_ru_nextInput 13 = .ok (.aload_n 0, 1) := by decide +kernel
theorem d_ru_nextInput_14 : decode b_ru_nextInput 14 = .ok (.dup, 1) := by decide +kernel
theorem d_ru_nextInput_15 : decode b_ru_nextInput 15 = .ok (.getfield 55, 3) := by decide +kernel
theorem d_ru_nextInput_18 : decode b_ru_nextInput 18 = .ok (.iconst 1, 1) := by decide +kernel
theorem d_ru_nextInput_19 : decode b_ru_nextInput 19 = .ok (.iadd, 1) := by decide +kernel
theorem d_ru_nextInput_20 : decode b_ru_nextInput 20 = .ok (.putfield 55, 3) := by decide +kernel
theorem d_ru_nextInput_23 : decode b_ru_nextInput 23 = .ok (.aload_n 0, 1) := by decide +kernel
theorem d_ru_nextInput_24 : decode b_ru_nextInput 24 = .ok (.getfield 25, 3) := by decide +kernel
theorem d_ru_nextInput_27 : decode b_ru_nextInput 27 = .ok (.aload_n 0, 1) := by decide +kernel
theorem d_ru_nextInput_28 : decode b_ru_nextInput 28 = .ok (.getfield 55, 3) := by decide +kernel
theorem d_ru_nextInput_31 : decode b_ru_nextInput 31 = .ok (.iconst 1, 1) := by decide +kernel
theorem d_ru_nextInput_32 : decode b_ru_nextInput 32 = .ok (.isub, 1) := by decide +kernel
theorem d_ru_nextInput_33 : decode b_ru_nextInput 33 = .ok (.iaload, 1) := by decide +kernel
theorem d_ru_nextInput_34 : decode b_ru_nextInput 34 = .ok (.ireturn, 1) := by decide +kernel
def f_ru_nextInput (a0 : Nat) (w : WW) : Option (Int32 × WW) :=
  if kb w a0 5 = true then
    (gI w a0 5 9).bind fun x1 =>
    (gI w a0 5 5).bind fun x2 =>
    if x1 < x2 then
      (gI w a0 5 9).bind fun x4 =>
      (pv w a0 5 9 (.int (x4 + (1 : Int32)))).bind fun w5 =>
      (gN w5 a0 5 4).bind fun x6 =>
      (gI w5 a0 5 9).bind fun x7 =>
      (rI w5 x6 0 (x7 - (1 : Int32))).bind fun x8 =>
      some (x8, w5)
    else
      some ((0 : Int32), w)
  else none
theorem kb_ru_nextInput {a0 : Nat}  {w : WW} {r : (Int32 × WW)} (h : f_ru_nextInput a0 w = some r) : kb w a0 5 = true := (its h).1
set_option maxHeartbeats 4000000 in
set_option maxRecDepth 100000 in
theorem c_ru_nextInput (l : Launch) (D : va_G) (cA : Nat → ClassId) (base : Nat) {a0 : Nat} {w w' : WW} {r : Int32} (h : f_ru_nextInput a0 w = some (r, w')) : mt l D cls (wo_tys cA) cA base y_ru_nextInput (Cond.code y_ru_nextInput b_ru_nextInput 1 (some .int) :: gt) rm_ru_nextInput [.ref a0] w (some (.int r)) w' rm_ru_nextInput.cells rm_ru_nextInput.slots := by
  refine mt_start (by decide) (Nat.le_of_ble_eq_true rfl) ?_
  intro p e s m below meth c ls hx hb hr hml hown hts hlk hnm hK hG hW hl
  have C : cx b_ru_nextInput (some .int) 1 y_ru_nextInput.cls "nextInput" p s m [.ref a0].toArray meth c D cA base := ⟨hx, hb, hr, hml, hown, hts, hlk, hnm, hK, hG⟩
  have hl : lv_has ls 1 [(0, .ref a0)] := hl
  unfold f_ru_nextInput at h
  replace h := its h
  obtain ⟨-, h⟩ := h
  refine lv_aload_n hx hb d_ru_nextInput_0 rfl (lv_at hl 0 rfl) ?_
  replace h := bs h
  obtain ⟨x1, hx1, h⟩ := h
  refine gf_ru_55 hx hb hts hown hK hG hW (gI_s hx1) d_ru_nextInput_1 ?_
  refine lv_aload_n hx hb d_ru_nextInput_4 rfl (lv_at hl 0 rfl) ?_
  replace h := bs h
  obtain ⟨x2, hx2, h⟩ := h
  refine gf_ru_28 hx hb hts hown hK hG hW (gI_s hx2) d_ru_nextInput_5 ?_
  refine lv_icmp_lt (tgt := 13) hx hb d_ru_nextInput_8 (by decide) (fun c3 => ?_) (fun c3 => ?_)
  · rw [if_pos c3] at h
    refine lv_aload_n hx hb d_ru_nextInput_13 rfl (lv_at hl 0 rfl) ?_
    refine lv_dup hx hb d_ru_nextInput_14 rfl ?_
    replace h := bs h
    obtain ⟨x4, hx4, h⟩ := h
    refine gf_ru_55 hx hb hts hown hK hG hW (gI_s hx4) d_ru_nextInput_15 ?_
    refine lv_iconst (v := (1 : Int32)) hx hb d_ru_nextInput_18 (by decide) ?_
    refine lv_iadd hx hb d_ru_nextInput_19 ?_
    replace h := bs h
    obtain ⟨w5, hw5, h⟩ := h
    refine pf_ru_55 hx hb hts hown hK hG hW rfl rfl hw5 d_ru_nextInput_20 (fun H locs hW => ?_)
    refine lv_aload_n hx hb d_ru_nextInput_23 rfl (lv_at hl 0 rfl) ?_
    replace h := bs h
    obtain ⟨x6, hx6, h⟩ := h
    refine gf_ru_25 hx hb hts hown hK hG hW (gN_s hx6) d_ru_nextInput_24 ?_
    refine lv_aload_n hx hb d_ru_nextInput_27 rfl (lv_at hl 0 rfl) ?_
    replace h := bs h
    obtain ⟨x7, hx7, h⟩ := h
    refine gf_ru_55 hx hb hts hown hK hG hW (gI_s hx7) d_ru_nextInput_28 ?_
    refine lv_iconst (v := (1 : Int32)) hx hb d_ru_nextInput_31 (by decide) ?_
    refine lv_isub hx hb d_ru_nextInput_32 ?_
    replace h := bs h
    obtain ⟨x8, hx8, h⟩ := h
    refine wo_iald hx hb hK hW (t := 0) rfl hx8 d_ru_nextInput_33 ?_
    cases h
    exact wo_iret hx hb hr hlk hW d_ru_nextInput_34
  · rw [if_neg c3] at h
    refine lv_iconst (v := (0 : Int32)) hx hb d_ru_nextInput_11 (by decide) ?_
    cases h
    exact wo_iret hx hb hr hlk hW d_ru_nextInput_12
abbrev b_va_setNothing : ByteArray := prog_9_method_2_code
def y_va_setNothing : MethodName := ⟨"AlarmForge$Value", "setNothing", "()V"⟩
def rm_va_setNothing : Room := { frames := 0, cells := 0, slots := 0, locals := 0 }
theorem d_va_setNothing_0 : decode b_va_setNothing 0 = .ok (.aload_n 0, 1) := by decide +kernel
theorem d_va_setNothing_1 : decode b_va_setNothing 1 = .ok (.iconst 1, 1) := by decide +kernel
theorem d_va_setNothing_2 : decode b_va_setNothing 2 = .ok (.putfield 9, 3) := by decide +kernel
theorem d_va_setNothing_5 : decode b_va_setNothing 5 = .ok (.return_, 1) := by decide +kernel
def f_va_setNothing (a0 : Nat) (w : WW) : Option WW :=
  if kb w a0 8 = true then
    if (1 : Int32) = 0 ∨ (1 : Int32) = 1 then
      (pv w a0 8 0 (.int (1 : Int32))).bind fun w1 =>
      some w1
    else none
  else none
theorem kb_va_setNothing {a0 : Nat}  {w : WW} {r : WW} (h : f_va_setNothing a0 w = some r) : kb w a0 8 = true := (its h).1
set_option maxHeartbeats 4000000 in
set_option maxRecDepth 100000 in
theorem c_va_setNothing (l : Launch) (D : va_G) (cA : Nat → ClassId) (base : Nat) {a0 : Nat} {w w' : WW} (h : f_va_setNothing a0 w = some w') : mt l D cls (wo_tys cA) cA base y_va_setNothing (Cond.code y_va_setNothing b_va_setNothing 1 (none) :: gt) rm_va_setNothing [.ref a0] w none w' rm_va_setNothing.cells rm_va_setNothing.slots := by
  refine mt_start (by decide) (Nat.le_of_ble_eq_true rfl) ?_
  intro p e s m below meth c ls hx hb hr hml hown hts hlk hnm hK hG hW hl
  have C : cx b_va_setNothing (none) 1 y_va_setNothing.cls "setNothing" p s m [.ref a0].toArray meth c D cA base := ⟨hx, hb, hr, hml, hown, hts, hlk, hnm, hK, hG⟩
  have hl : lv_has ls 1 [(0, .ref a0)] := hl
  unfold f_va_setNothing at h
  replace h := its h
  obtain ⟨-, h⟩ := h
  refine lv_aload_n hx hb d_va_setNothing_0 rfl (lv_at hl 0 rfl) ?_
  refine lv_iconst (v := (1 : Int32)) hx hb d_va_setNothing_1 (by decide) ?_
  replace h := its h
  obtain ⟨c2, h⟩ := h
  replace h := bs h
  obtain ⟨w1, hw1, h⟩ := h
  refine pf_va_9 hx hb hts hown hK hG hW (z_n c2) (z_f c2) hw1 d_va_setNothing_2 (fun H locs hW => ?_)
  cases h
  exact wo_vret hx hb hr hlk hW d_va_setNothing_5
abbrev b_va_setOne : ByteArray := prog_9_method_3_code
def y_va_setOne : MethodName := ⟨"AlarmForge$Value", "setOne", "(J)V"⟩
def rm_va_setOne : Room := { frames := 0, cells := 0, slots := 0, locals := 0 }
theorem d_va_setOne_0 : decode b_va_setOne 0 = .ok (.aload_n 0, 1) := by decide +kernel
theorem d_va_setOne_1 : decode b_va_setOne 1 = .ok (.iconst 0, 1) := by decide +kernel
theorem d_va_setOne_2 : decode b_va_setOne 2 = .ok (.putfield 9, 3) := by decide +kernel
theorem d_va_setOne_5 : decode b_va_setOne 5 = .ok (.aload_n 0, 1) := by decide +kernel
theorem d_va_setOne_6 : decode b_va_setOne 6 = .ok (.lload_n 1, 1) := by decide +kernel
theorem d_va_setOne_7 : decode b_va_setOne 7 = .ok (.putfield 15, 3) := by decide +kernel
theorem d_va_setOne_10 : decode b_va_setOne 10 = .ok (.aload_n 0, 1) := by decide +kernel
theorem d_va_setOne_11 : decode b_va_setOne 11 = .ok (.lload_n 1, 1) := by decide +kernel
theorem d_va_setOne_12 : decode b_va_setOne 12 = .ok (.putfield 19, 3) := by decide +kernel
theorem d_va_setOne_15 : decode b_va_setOne 15 = .ok (.aload_n 0, 1) := by decide +kernel
theorem d_va_setOne_16 : decode b_va_setOne 16 = .ok (.lconst 0, 1) := by decide +kernel
theorem d_va_setOne_17 : decode b_va_setOne 17 = .ok (.putfield 22, 3) := by decide +kernel
theorem d_va_setOne_20 : decode b_va_setOne 20 = .ok (.aload_n 0, 1) := by decide +kernel
theorem d_va_setOne_21 : decode b_va_setOne 21 = .ok (.lload_n 1, 1) := by decide +kernel
theorem d_va_setOne_22 : decode b_va_setOne 22 = .ok (.putfield 25, 3) := by decide +kernel
theorem d_va_setOne_25 : decode b_va_setOne 25 = .ok (.return_, 1) := by decide +kernel
def f_va_setOne (a0 : Nat) (a1 : Int64) (w : WW) : Option WW :=
  if kb w a0 8 = true then
    if (0 : Int32) = 0 ∨ (0 : Int32) = 1 then
      (pv w a0 8 0 (.int (0 : Int32))).bind fun w1 =>
      (pv w1 a0 8 1 (.long a1)).bind fun w3 =>
      (pv w3 a0 8 2 (.long a1)).bind fun w4 =>
      (pv w4 a0 8 3 (.long (0 : Int64))).bind fun w5 =>
      (pv w5 a0 8 4 (.long a1)).bind fun w6 =>
      some w6
    else none
  else none
theorem kb_va_setOne {a0 : Nat} {a1 : Int64} {w : WW} {r : WW} (h : f_va_setOne a0 a1 w = some r) : kb w a0 8 = true := (its h).1
set_option maxHeartbeats 4000000 in
set_option maxRecDepth 100000 in
theorem c_va_setOne (l : Launch) (D : va_G) (cA : Nat → ClassId) (base : Nat) {a0 : Nat} {a1 : Int64} {w w' : WW} (h : f_va_setOne a0 a1 w = some w') : mt l D cls (wo_tys cA) cA base y_va_setOne (Cond.code y_va_setOne b_va_setOne 3 (none) :: gt) rm_va_setOne [.ref a0, .long a1] w none w' rm_va_setOne.cells rm_va_setOne.slots := by
  refine mt_start (by decide) (Nat.le_of_ble_eq_true rfl) ?_
  intro p e s m below meth c ls hx hb hr hml hown hts hlk hnm hK hG hW hl
  have C : cx b_va_setOne (none) 3 y_va_setOne.cls "setOne" p s m [.ref a0, .long a1].toArray meth c D cA base := ⟨hx, hb, hr, hml, hown, hts, hlk, hnm, hK, hG⟩
  have hl : lv_has ls 3 [(0, .ref a0), (1, .long a1)] := hl
  unfold f_va_setOne at h
  replace h := its h
  obtain ⟨-, h⟩ := h
  refine lv_aload_n hx hb d_va_setOne_0 rfl (lv_at hl 0 rfl) ?_
  refine lv_iconst (v := (0 : Int32)) hx hb d_va_setOne_1 (by decide) ?_
  replace h := its h
  obtain ⟨c2, h⟩ := h
  replace h := bs h
  obtain ⟨w1, hw1, h⟩ := h
  refine pf_va_9 hx hb hts hown hK hG hW (z_n c2) (z_f c2) hw1 d_va_setOne_2 (fun H locs hW => ?_)
  refine lv_aload_n hx hb d_va_setOne_5 rfl (lv_at hl 0 rfl) ?_
  refine lv_lload_n hx hb d_va_setOne_6 rfl (lv_at hl 1 rfl) ?_
  replace h := bs h
  obtain ⟨w3, hw3, h⟩ := h
  refine pf_va_15 hx hb hts hown hK hG hW rfl rfl hw3 d_va_setOne_7 (fun H locs hW => ?_)
  refine lv_aload_n hx hb d_va_setOne_10 rfl (lv_at hl 0 rfl) ?_
  refine lv_lload_n hx hb d_va_setOne_11 rfl (lv_at hl 1 rfl) ?_
  replace h := bs h
  obtain ⟨w4, hw4, h⟩ := h
  refine pf_va_19 hx hb hts hown hK hG hW rfl rfl hw4 d_va_setOne_12 (fun H locs hW => ?_)
  refine lv_aload_n hx hb d_va_setOne_15 rfl (lv_at hl 0 rfl) ?_
  refine lv_lconst (v := (0 : Int64)) hx hb d_va_setOne_16 (by decide) ?_
  replace h := bs h
  obtain ⟨w5, hw5, h⟩ := h
  refine pf_va_22 hx hb hts hown hK hG hW rfl rfl hw5 d_va_setOne_17 (fun H locs hW => ?_)
  refine lv_aload_n hx hb d_va_setOne_20 rfl (lv_at hl 0 rfl) ?_
  refine lv_lload_n hx hb d_va_setOne_21 rfl (lv_at hl 1 rfl) ?_
  replace h := bs h
  obtain ⟨w6, hw6, h⟩ := h
  refine pf_va_25 hx hb hts hown hK hG hW rfl rfl hw6 d_va_setOne_22 (fun H locs hW => ?_)
  cases h
  exact wo_vret hx hb hr hlk hW d_va_setOne_25
theorem cv_sa_26 {p : Program} {l : Launch} {e : Env} {R : Room} {s : State} {m : MethodId} {args : Array Value} {below : List Frame} {meth : Method} {c : Code} {H : Heap} {locs : List Loc} {cells slots : Nat} {Q : State → Prop} {D : va_G} {cA : Nat → ClassId} {base : Nat} {w w' : WW} {cc : ByteArray} {pc nL : Nat} {ls : Array Slot} {rest st0 As : List Value} {ov : Option Value} {b : Nat} (hx : p.tables.exec = Jvm.exec) (hb : c.code = cc) (hml : c.maxLocals = nL) (hown : s.vm.findClass Rc_sa = some m.cls) (hts : ∀ w ∈ gt, w.before args s = true) (hK : va_K D cls (wo_tys cA) s) (hG : wo_G base s) (hW : wo_S D cls cA base s w H locs) (hM : mt l D cls (wo_tys cA) cA base y_va_setNothing (Cond.code y_va_setNothing b_va_setNothing 1 (none) :: gt) rm_va_setNothing (.ref b :: As) w ov w' rm_va_setNothing.cells rm_va_setNothing.slots) (hkb : kb w b 8 = true) (hR : rm_va_setNothing.frames + 1 ≤ R.frames ∧ 8 + (1 + 11) + rm_va_setNothing.locals ≤ R.locals) (hf : cells + rm_va_setNothing.cells ≤ R.cells ∧ slots + rm_va_setNothing.slots ≤ R.slots) (hn : As.length = 0) (hsz : ls.size = nL) (hst : st0 = As.reverse ++ .ref b :: rest) (hcat : (rest.map fun v => v.category).sum ≤ 8) (hdg : decode cc pc = .ok (.invokevirtual 26, 3)) (kk : ∀ (H1 : Heap) (locs1 : List Loc), wo_S D cls cA base s w' H1 locs1 → W p l e R s m args below meth c H1 locs1 (cells + rm_va_setNothing.cells) (slots + rm_va_setNothing.slots) Q (F0 m (pc + 3) ls (ov.toList ++ rest))) : W p l e R s m args below meth c H locs cells slots Q (F0 m pc ls st0) :=
  wo_callV (C := Rc_va) hx hb hml hown hts hK hG hW hM hkb rfl (gt_of (i := 897) (by decide +kernel) (by decide +kernel)) (gt_of (i := 898) (by decide +kernel) (by decide +kernel)) (gt_of (i := 899) (by decide +kernel) (by decide +kernel)) (gt_of (i := 9) (by decide +kernel) (by decide +kernel)) (gt_of (i := 900) (by decide +kernel) (by decide +kernel)) (by decide +kernel) hR hf hn hsz hst hcat hdg kk
theorem cv_sa_29 {p : Program} {l : Launch} {e : Env} {R : Room} {s : State} {m : MethodId} {args : Array Value} {below : List Frame} {meth : Method} {c : Code} {H : Heap} {locs : List Loc} {cells slots : Nat} {Q : State → Prop} {D : va_G} {cA : Nat → ClassId} {base : Nat} {w w' : WW} {cc : ByteArray} {pc nL : Nat} {ls : Array Slot} {rest st0 As : List Value} {ov : Option Value} {b : Nat} (hx : p.tables.exec = Jvm.exec) (hb : c.code = cc) (hml : c.maxLocals = nL) (hown : s.vm.findClass Rc_sa = some m.cls) (hts : ∀ w ∈ gt, w.before args s = true) (hK : va_K D cls (wo_tys cA) s) (hG : wo_G base s) (hW : wo_S D cls cA base s w H locs) (hM : mt l D cls (wo_tys cA) cA base y_va_setOne (Cond.code y_va_setOne b_va_setOne 3 (none) :: gt) rm_va_setOne (.ref b :: As) w ov w' rm_va_setOne.cells rm_va_setOne.slots) (hkb : kb w b 8 = true) (hR : rm_va_setOne.frames + 1 ≤ R.frames ∧ 8 + (3 + 11) + rm_va_setOne.locals ≤ R.locals) (hf : cells + rm_va_setOne.cells ≤ R.cells ∧ slots + rm_va_setOne.slots ≤ R.slots) (hn : As.length = 1) (hsz : ls.size = nL) (hst : st0 = As.reverse ++ .ref b :: rest) (hcat : (rest.map fun v => v.category).sum ≤ 8) (hdg : decode cc pc = .ok (.invokevirtual 29, 3)) (kk : ∀ (H1 : Heap) (locs1 : List Loc), wo_S D cls cA base s w' H1 locs1 → W p l e R s m args below meth c H1 locs1 (cells + rm_va_setOne.cells) (slots + rm_va_setOne.slots) Q (F0 m (pc + 3) ls (ov.toList ++ rest))) : W p l e R s m args below meth c H locs cells slots Q (F0 m pc ls st0) :=
  wo_callV (C := Rc_va) hx hb hml hown hts hK hG hW hM hkb rfl (gt_of (i := 901) (by decide +kernel) (by decide +kernel)) (gt_of (i := 902) (by decide +kernel) (by decide +kernel)) (gt_of (i := 903) (by decide +kernel) (by decide +kernel)) (gt_of (i := 9) (by decide +kernel) (by decide +kernel)) (gt_of (i := 904) (by decide +kernel) (by decide +kernel)) (by decide +kernel) hR hf hn hsz hst hcat hdg kk
abbrev b_sa_setFirst : ByteArray := prog_7_method_2_code
def y_sa_setFirst : MethodName := ⟨"AlarmForge$State", "setFirst", "()V"⟩
def rm_sa_setFirst : Room := { frames := 1, cells := 0, slots := 0, locals := 22 }
theorem d_sa_setFirst_0 : decode b_sa_setFirst 0 = .ok (.aload_n 0, 1) := by decide +kernel
theorem d_sa_setFirst_1 : decode b_sa_setFirst 1 = .ok (.iconst 0, 1) := by decide +kernel
theorem d_sa_setFirst_2 : decode b_sa_setFirst 2 = .ok (.putfield 22, 3) := by decide +kernel
theorem d_sa_setFirst_5 : decode b_sa_setFirst 5 = .ok (.iconst 0, 1) := by decide +kernel
theorem d_sa_setFirst_6 : decode b_sa_setFirst 6 = .ok (.istore_n 1, 1) := by decide +kernel
theorem d_sa_setFirst_7 : decode b_sa_setFirst 7 = .ok (.iload_n 1, 1) := by decide +kernel
theorem d_sa_setFirst_8 : decode b_sa_setFirst 8 = .ok (.bipush (6), 2) := by decide +kernel
theorem d_sa_setFirst_10 : decode b_sa_setFirst 10 = .ok (.if_icmp .ge (25), 3) := by decide +kernel
theorem d_sa_setFirst_13 : decode b_sa_setFirst 13 = .ok (.aload_n 0, 1) := by decide +kernel
theorem d_sa_setFirst_14 : decode b_sa_setFirst 14 = .ok (.getfield 11, 3) := by decide +kernel
theorem d_sa_setFirst_17 : decode b_sa_setFirst 17 = .ok (.iload_n 1, 1) := by decide +kernel
theorem d_sa_setFirst_18 : decode b_sa_setFirst 18 = .ok (.aaload, 1) := by decide +kernel
theorem d_sa_setFirst_19 : decode b_sa_setFirst 19 = .ok (.invokevirtual 26, 3) := by decide +kernel
theorem d_sa_setFirst_22 : decode b_sa_setFirst 22 = .ok (.aload_n 0, 1) := by decide +kernel
theorem d_sa_setFirst_23 : decode b_sa_setFirst 23 = .ok (.getfield 18, 3) := by decide +kernel
theorem d_sa_setFirst_26 : decode b_sa_setFirst 26 = .ok (.iload_n 1, 1) := by decide +kernel
theorem d_sa_setFirst_27 : decode b_sa_setFirst 27 = .ok (.iconst 1, 1) := by decide +kernel
theorem d_sa_setFirst_28 : decode b_sa_setFirst 28 = .ok (.bastore, 1) := by decide +kernel
theorem d_sa_setFirst_29 : decode b_sa_setFirst 29 = .ok (.iinc 1 (1), 3) := by decide +kernel
theorem d_sa_setFirst_32 : decode b_sa_setFirst 32 = .ok (.goto (-25), 3) := by decide +kernel
theorem d_sa_setFirst_35 : decode b_sa_setFirst 35 = .ok (.iconst 0, 1) := by decide +kernel
theorem d_sa_setFirst_36 : decode b_sa_setFirst 36 = .ok (.istore_n 1, 1) := by decide +kernel
theorem d_sa_setFirst_37 : decode b_sa_setFirst 37 = .ok (.iload_n 1, 1) := by decide +kernel
theorem d_sa_setFirst_38 : decode b_sa_setFirst 38 = .ok (.bipush (8), 2) := by decide +kernel
theorem d_sa_setFirst_40 : decode b_sa_setFirst 40 = .ok (.if_icmp .ge (22), 3) := by decide +kernel
theorem d_sa_setFirst_43 : decode b_sa_setFirst 43 = .ok (.aload_n 0, 1) := by decide +kernel
theorem d_sa_setFirst_44 : decode b_sa_setFirst 44 = .ok (.getfield 11, 3) := by decide +kernel
theorem d_sa_setFirst_47 : decode b_sa_setFirst 47 = .ok (.bipush (6), 2) := by decide +kernel
theorem d_sa_setFirst_49 : decode b_sa_setFirst 49 = .ok (.iload_n 1, 1) := by decide +kernel
theorem d_sa_setFirst_50 : decode b_sa_setFirst 50 = .ok (.iadd, 1) := by decide +kernel
theorem d_sa_setFirst_51 : decode b_sa_setFirst 51 = .ok (.aaload, 1) := by decide +kernel
theorem d_sa_setFirst_52 : decode b_sa_setFirst 52 = .ok (.lconst 0, 1) := by decide +kernel
theorem d_sa_setFirst_53 : decode b_sa_setFirst 53 = .ok (.invokevirtual 29, 3) := by decide +kernel
theorem d_sa_setFirst_56 : decode b_sa_setFirst 56 = .ok (.iinc 1 (1), 3) := by decide +kernel
theorem d_sa_setFirst_59 : decode b_sa_setFirst 59 = .ok (.goto (-22), 3) := by decide +kernel
theorem d_sa_setFirst_62 : decode b_sa_setFirst 62 = .ok (.return_, 1) := by decide +kernel
def f_sa_setFirst_37  : Nat → Nat → Int32 → WW → Option WW
  | 0, _, _, _ => none
  | n + 1, y0, y1, w =>
    if (8 : Int32) ≤ y1 then
      some w
    else
      (gN w y0 7 1).bind fun x5 =>
      (rN w x5 4 ((6 : Int32) + y1)).bind fun x6 =>
      (f_va_setOne x6 (0 : Int64) w).bind fun w7 =>
      f_sa_setFirst_37 n y0 (y1 + (1 : Int32)) w7
def f_sa_setFirst_7  : Nat → Nat → Int32 → WW → Option WW
  | 0, _, _, _ => none
  | n + 1, y0, y1, w =>
    if (6 : Int32) ≤ y1 then
      f_sa_setFirst_37 KK y0 (0 : Int32) w
    else
      (gN w y0 7 1).bind fun x8 =>
      (rN w x8 4 y1).bind fun x9 =>
      (f_va_setNothing x9 w).bind fun w10 =>
      (gN w10 y0 7 2).bind fun x11 =>
      (sI w10 x11 2 y1 (vp_nar .boolean (1 : Int32))).bind fun w12 =>
      f_sa_setFirst_7 n y0 (y1 + (1 : Int32)) w12
def f_sa_setFirst (a0 : Nat) (w : WW) : Option WW :=
  if kb w a0 7 = true then
    if (0 : Int32) = 0 ∨ (0 : Int32) = 1 then
      (pv w a0 7 0 (.int (0 : Int32))).bind fun w1 =>
      f_sa_setFirst_7 KK a0 (0 : Int32) w1
    else none
  else none
theorem kb_sa_setFirst {a0 : Nat}  {w : WW} {r : WW} (h : f_sa_setFirst a0 w = some r) : kb w a0 7 = true := (its h).1
set_option maxHeartbeats 4000000 in
set_option maxRecDepth 100000 in
theorem j_sa_setFirst_37 {p : Program} {l : Launch} {e : Env} {s : State} {m : MethodId} {args : Array Value} {below : List Frame} {meth : Method} {c : Code} {D : va_G} {cA : Nat → ClassId} {base : Nat} {w' : WW} (C : cx b_sa_setFirst (none) 2 y_sa_setFirst.cls "setFirst" p s m args meth c D cA base)   : ∀ n : Nat, ∀ (y0 : Nat) (y1 : Int32) (w : WW), f_sa_setFirst_37 n y0 y1 w = some w' → ∀ (H : Heap) (locs : List Loc) (ls : Array Slot), wo_S D cls cA base s w H locs → lv_has ls 2 [(0, .ref y0), (1, .int y1)] → W p l e rm_sa_setFirst s m args below meth c H locs 0 0 (MQ below (wo_Q D cls cA base none w') args s rm_sa_setFirst.cells rm_sa_setFirst.slots (wo_B base)) (F0 m 37 ls []) := by
  obtain ⟨hx, hb, hr, hml, hown, hts, hlk, hnm, hK, hG⟩ := id C
  intro n
  induction n with
  | zero => intro y0 y1 w h; cases h
  | succ n ih =>
    intro y0 y1 w h H locs ls hW hl
    rw [f_sa_setFirst_37] at h
    refine lv_iload_n hx hb d_sa_setFirst_37 rfl (lv_at hl 1 rfl) ?_
    refine lv_bipush (v := (8 : Int32)) hx hb d_sa_setFirst_38 (by decide) ?_
    refine lv_icmp_ge (tgt := 62) hx hb d_sa_setFirst_40 (by decide) (fun c4 => ?_) (fun c4 => ?_)
    · rw [if_pos c4] at h
      cases h
      exact wo_vret hx hb hr hlk hW d_sa_setFirst_62
    · rw [if_neg c4] at h
      refine lv_aload_n hx hb d_sa_setFirst_43 rfl (lv_at hl 0 rfl) ?_
      replace h := bs h
      obtain ⟨x5, hx5, h⟩ := h
      refine gf_sa_11 hx hb hts hown hK hG hW (gN_s hx5) d_sa_setFirst_44 ?_
      refine lv_bipush (v := (6 : Int32)) hx hb d_sa_setFirst_47 (by decide) ?_
      refine lv_iload_n hx hb d_sa_setFirst_49 rfl (lv_at hl 1 rfl) ?_
      refine lv_iadd hx hb d_sa_setFirst_50 ?_
      replace h := bs h
      obtain ⟨x6, hx6, h⟩ := h
      refine wo_aald hx hb hK hW (t := 4) rfl (rN_s hx6) d_sa_setFirst_51 ?_
      refine lv_lconst (v := (0 : Int64)) hx hb d_sa_setFirst_52 (by decide) ?_
      replace h := bs h
      obtain ⟨w7, hw7, h⟩ := h
      refine cv_sa_29 (As := [.long (0 : Int64)]) (rest := []) hx hb hml hown hts hK hG hW (c_va_setOne l D cA base hw7) (kb_va_setOne hw7) ⟨Nat.le_of_ble_eq_true rfl, Nat.le_of_ble_eq_true rfl⟩ ⟨Nat.le_of_ble_eq_true rfl, Nat.le_of_ble_eq_true rfl⟩ rfl hl.1 rfl (Nat.le_of_ble_eq_true rfl) d_sa_setFirst_53 (fun H locs hW => ?_)
      refine lv_iinc (v := (y1 + (1 : Int32))) (lv' := [(1, .int (y1 + (1 : Int32))), (0, .ref y0)]) hx hb d_sa_setFirst_56 hl (k := 1) rfl rfl (by decide) rfl (fun ls hl => ?_)
      refine lv_goto (tgt := 37) hx hb d_sa_setFirst_59 (by decide) ?_
      exact ih y0 (y1 + (1 : Int32)) w7 h _ _ _ hW (lv_sub hl [1, 0] rfl)
set_option maxHeartbeats 4000000 in
set_option maxRecDepth 100000 in
theorem j_sa_setFirst_7 {p : Program} {l : Launch} {e : Env} {s : State} {m : MethodId} {args : Array Value} {below : List Frame} {meth : Method} {c : Code} {D : va_G} {cA : Nat → ClassId} {base : Nat} {w' : WW} (C : cx b_sa_setFirst (none) 2 y_sa_setFirst.cls "setFirst" p s m args meth c D cA base)   : ∀ n : Nat, ∀ (y0 : Nat) (y1 : Int32) (w : WW), f_sa_setFirst_7 n y0 y1 w = some w' → ∀ (H : Heap) (locs : List Loc) (ls : Array Slot), wo_S D cls cA base s w H locs → lv_has ls 2 [(0, .ref y0), (1, .int y1)] → W p l e rm_sa_setFirst s m args below meth c H locs 0 0 (MQ below (wo_Q D cls cA base none w') args s rm_sa_setFirst.cells rm_sa_setFirst.slots (wo_B base)) (F0 m 7 ls []) := by
  obtain ⟨hx, hb, hr, hml, hown, hts, hlk, hnm, hK, hG⟩ := id C
  intro n
  induction n with
  | zero => intro y0 y1 w h; cases h
  | succ n ih =>
    intro y0 y1 w h H locs ls hW hl
    rw [f_sa_setFirst_7] at h
    refine lv_iload_n hx hb d_sa_setFirst_7 rfl (lv_at hl 1 rfl) ?_
    refine lv_bipush (v := (6 : Int32)) hx hb d_sa_setFirst_8 (by decide) ?_
    refine lv_icmp_ge (tgt := 35) hx hb d_sa_setFirst_10 (by decide) (fun c3 => ?_) (fun c3 => ?_)
    · rw [if_pos c3] at h
      refine lv_iconst (v := (0 : Int32)) hx hb d_sa_setFirst_35 (by decide) ?_
      refine lv_istore_n (lv' := [(1, .int (0 : Int32)), (0, .ref y0)]) hx hb d_sa_setFirst_36 rfl hl (by decide) rfl (fun ls hl => ?_)
      exact j_sa_setFirst_37 C KK y0 (0 : Int32) w h _ _ _ hW (lv_sub hl [1, 0] rfl)
    · rw [if_neg c3] at h
      refine lv_aload_n hx hb d_sa_setFirst_13 rfl (lv_at hl 0 rfl) ?_
      replace h := bs h
      obtain ⟨x8, hx8, h⟩ := h
      refine gf_sa_11 hx hb hts hown hK hG hW (gN_s hx8) d_sa_setFirst_14 ?_
      refine lv_iload_n hx hb d_sa_setFirst_17 rfl (lv_at hl 1 rfl) ?_
      replace h := bs h
      obtain ⟨x9, hx9, h⟩ := h
      refine wo_aald hx hb hK hW (t := 4) rfl (rN_s hx9) d_sa_setFirst_18 ?_
      replace h := bs h
      obtain ⟨w10, hw10, h⟩ := h
      refine cv_sa_26 (As := []) (rest := []) hx hb hml hown hts hK hG hW (c_va_setNothing l D cA base hw10) (kb_va_setNothing hw10) ⟨Nat.le_of_ble_eq_true rfl, Nat.le_of_ble_eq_true rfl⟩ ⟨Nat.le_of_ble_eq_true rfl, Nat.le_of_ble_eq_true rfl⟩ rfl hl.1 rfl (Nat.le_of_ble_eq_true rfl) d_sa_setFirst_19 (fun H locs hW => ?_)
      refine lv_aload_n hx hb d_sa_setFirst_22 rfl (lv_at hl 0 rfl) ?_
      replace h := bs h
      obtain ⟨x11, hx11, h⟩ := h
      refine gf_sa_18 hx hb hts hown hK hG hW (gN_s hx11) d_sa_setFirst_23 ?_
      refine lv_iload_n hx hb d_sa_setFirst_26 rfl (lv_at hl 1 rfl) ?_
      refine lv_iconst (v := (1 : Int32)) hx hb d_sa_setFirst_27 (by decide) ?_
      replace h := bs h
      obtain ⟨w12, hw12, h⟩ := h
      refine wo_zast hx hb hK hW (t := 2) rfl hw12 d_sa_setFirst_28 (fun H locs hW => ?_)
      refine lv_iinc (v := (y1 + (1 : Int32))) (lv' := [(1, .int (y1 + (1 : Int32))), (0, .ref y0)]) hx hb d_sa_setFirst_29 hl (k := 1) rfl rfl (by decide) rfl (fun ls hl => ?_)
      refine lv_goto (tgt := 7) hx hb d_sa_setFirst_32 (by decide) ?_
      exact ih y0 (y1 + (1 : Int32)) w12 h _ _ _ hW (lv_sub hl [1, 0] rfl)
set_option maxHeartbeats 4000000 in
set_option maxRecDepth 100000 in
theorem c_sa_setFirst (l : Launch) (D : va_G) (cA : Nat → ClassId) (base : Nat) {a0 : Nat} {w w' : WW} (h : f_sa_setFirst a0 w = some w') : mt l D cls (wo_tys cA) cA base y_sa_setFirst (Cond.code y_sa_setFirst b_sa_setFirst 2 (none) :: gt) rm_sa_setFirst [.ref a0] w none w' rm_sa_setFirst.cells rm_sa_setFirst.slots := by
  refine mt_start (by decide) (Nat.le_of_ble_eq_true rfl) ?_
  intro p e s m below meth c ls hx hb hr hml hown hts hlk hnm hK hG hW hl
  have C : cx b_sa_setFirst (none) 2 y_sa_setFirst.cls "setFirst" p s m [.ref a0].toArray meth c D cA base := ⟨hx, hb, hr, hml, hown, hts, hlk, hnm, hK, hG⟩
  have hl : lv_has ls 2 [(0, .ref a0)] := hl
  unfold f_sa_setFirst at h
  replace h := its h
  obtain ⟨-, h⟩ := h
  refine lv_aload_n hx hb d_sa_setFirst_0 rfl (lv_at hl 0 rfl) ?_
  refine lv_iconst (v := (0 : Int32)) hx hb d_sa_setFirst_1 (by decide) ?_
  replace h := its h
  obtain ⟨c2, h⟩ := h
  replace h := bs h
  obtain ⟨w1, hw1, h⟩ := h
  refine pf_sa_22 hx hb hts hown hK hG hW (z_n c2) (z_f c2) hw1 d_sa_setFirst_2 (fun H locs hW => ?_)
  refine lv_iconst (v := (0 : Int32)) hx hb d_sa_setFirst_5 (by decide) ?_
  refine lv_istore_n (lv' := [(1, .int (0 : Int32)), (0, .ref a0)]) hx hb d_sa_setFirst_6 rfl hl (by decide) rfl (fun ls hl => ?_)
  exact j_sa_setFirst_7 C KK a0 (0 : Int32) w1 h _ _ _ hW (lv_sub hl [1, 0] rfl)
abbrev b_va_copy : ByteArray := prog_9_method_5_code
def y_va_copy : MethodName := ⟨"AlarmForge$Value", "copy", "(LAlarmForge$Value;)V"⟩
def rm_va_copy : Room := { frames := 0, cells := 0, slots := 0, locals := 0 }
theorem d_va_copy_0 : decode b_va_copy 0 = .ok (.aload_n 0, 1) := by decide +kernel
theorem d_va_copy_1 : decode b_va_copy 1 = .ok (.aload_n 1, 1) := by decide +kernel
theorem d_va_copy_2 : decode b_va_copy 2 = .ok (.getfield 9, 3) := by decide +kernel
theorem d_va_copy_5 : decode b_va_copy 5 = .ok (.putfield 9, 3) := by decide +kernel
theorem d_va_copy_8 : decode b_va_copy 8 = .ok (.aload_n 0, 1) := by decide +kernel
theorem d_va_copy_9 : decode b_va_copy 9 = .ok (.aload_n 1, 1) := by decide +kernel
theorem d_va_copy_10 : decode b_va_copy 10 = .ok (.getfield 15, 3) := by decide +kernel
theorem d_va_copy_13 : decode b_va_copy 13 = .ok (.putfield 15, 3) := by decide +kernel
theorem d_va_copy_16 : decode b_va_copy 16 = .ok (.aload_n 0, 1) := by decide +kernel
theorem d_va_copy_17 : decode b_va_copy 17 = .ok (.aload_n 1, 1) := by decide +kernel
theorem d_va_copy_18 : decode b_va_copy 18 = .ok (.getfield 19, 3) := by decide +kernel
theorem d_va_copy_21 : decode b_va_copy 21 = .ok (.putfield 19, 3) := by decide +kernel
theorem d_va_copy_24 : decode b_va_copy 24 = .ok (.aload_n 0, 1) := by decide +kernel
theorem d_va_copy_25 : decode b_va_copy 25 = .ok (.aload_n 1, 1) := by decide +kernel
theorem d_va_copy_26 : decode b_va_copy 26 = .ok (.getfield 22, 3) := by decide +kernel
theorem d_va_copy_29 : decode b_va_copy 29 = .ok (.putfield 22, 3) := by decide +kernel
theorem d_va_copy_32 : decode b_va_copy 32 = .ok (.aload_n 0, 1) := by decide +kernel
theorem d_va_copy_33 : decode b_va_copy 33 = .ok (.aload_n 1, 1) := by decide +kernel
theorem d_va_copy_34 : decode b_va_copy 34 = .ok (.getfield 25, 3) := by decide +kernel
theorem d_va_copy_37 : decode b_va_copy 37 = .ok (.putfield 25, 3) := by decide +kernel
theorem d_va_copy_40 : decode b_va_copy 40 = .ok (.return_, 1) := by decide +kernel
def f_va_copy (a0 : Nat) (a1 : Nat) (w : WW) : Option WW :=
  if kb w a0 8 = true then
    (gI w a1 8 0).bind fun x1 =>
    if x1 = 0 ∨ x1 = 1 then
      (pv w a0 8 0 (.int x1)).bind fun w2 =>
      (gL w2 a1 8 1).bind fun x4 =>
      (pv w2 a0 8 1 (.long x4)).bind fun w5 =>
      (gL w5 a1 8 2).bind fun x6 =>
      (pv w5 a0 8 2 (.long x6)).bind fun w7 =>
      (gL w7 a1 8 3).bind fun x8 =>
      (pv w7 a0 8 3 (.long x8)).bind fun w9 =>
      (gL w9 a1 8 4).bind fun x10 =>
      (pv w9 a0 8 4 (.long x10)).bind fun w11 =>
      some w11
    else none
  else none
theorem kb_va_copy {a0 a1 : Nat}  {w : WW} {r : WW} (h : f_va_copy a0 a1 w = some r) : kb w a0 8 = true := (its h).1
set_option maxHeartbeats 4000000 in
set_option maxRecDepth 100000 in
theorem c_va_copy (l : Launch) (D : va_G) (cA : Nat → ClassId) (base : Nat) {a0 : Nat} {a1 : Nat} {w w' : WW} (h : f_va_copy a0 a1 w = some w') : mt l D cls (wo_tys cA) cA base y_va_copy (Cond.code y_va_copy b_va_copy 2 (none) :: gt) rm_va_copy [.ref a0, .ref a1] w none w' rm_va_copy.cells rm_va_copy.slots := by
  refine mt_start (by decide) (Nat.le_of_ble_eq_true rfl) ?_
  intro p e s m below meth c ls hx hb hr hml hown hts hlk hnm hK hG hW hl
  have C : cx b_va_copy (none) 2 y_va_copy.cls "copy" p s m [.ref a0, .ref a1].toArray meth c D cA base := ⟨hx, hb, hr, hml, hown, hts, hlk, hnm, hK, hG⟩
  have hl : lv_has ls 2 [(0, .ref a0), (1, .ref a1)] := hl
  unfold f_va_copy at h
  replace h := its h
  obtain ⟨-, h⟩ := h
  refine lv_aload_n hx hb d_va_copy_0 rfl (lv_at hl 0 rfl) ?_
  refine lv_aload_n hx hb d_va_copy_1 rfl (lv_at hl 1 rfl) ?_
  replace h := bs h
  obtain ⟨x1, hx1, h⟩ := h
  refine gf_va_9 hx hb hts hown hK hG hW (gI_s hx1) d_va_copy_2 ?_
  replace h := its h
  obtain ⟨c3, h⟩ := h
  replace h := bs h
  obtain ⟨w2, hw2, h⟩ := h
  refine pf_va_9 hx hb hts hown hK hG hW (z_n c3) (z_f c3) hw2 d_va_copy_5 (fun H locs hW => ?_)
  refine lv_aload_n hx hb d_va_copy_8 rfl (lv_at hl 0 rfl) ?_
  refine lv_aload_n hx hb d_va_copy_9 rfl (lv_at hl 1 rfl) ?_
  replace h := bs h
  obtain ⟨x4, hx4, h⟩ := h
  refine gf_va_15 hx hb hts hown hK hG hW (gL_s hx4) d_va_copy_10 ?_
  replace h := bs h
  obtain ⟨w5, hw5, h⟩ := h
  refine pf_va_15 hx hb hts hown hK hG hW rfl rfl hw5 d_va_copy_13 (fun H locs hW => ?_)
  refine lv_aload_n hx hb d_va_copy_16 rfl (lv_at hl 0 rfl) ?_
  refine lv_aload_n hx hb d_va_copy_17 rfl (lv_at hl 1 rfl) ?_
  replace h := bs h
  obtain ⟨x6, hx6, h⟩ := h
  refine gf_va_19 hx hb hts hown hK hG hW (gL_s hx6) d_va_copy_18 ?_
  replace h := bs h
  obtain ⟨w7, hw7, h⟩ := h
  refine pf_va_19 hx hb hts hown hK hG hW rfl rfl hw7 d_va_copy_21 (fun H locs hW => ?_)
  refine lv_aload_n hx hb d_va_copy_24 rfl (lv_at hl 0 rfl) ?_
  refine lv_aload_n hx hb d_va_copy_25 rfl (lv_at hl 1 rfl) ?_
  replace h := bs h
  obtain ⟨x8, hx8, h⟩ := h
  refine gf_va_22 hx hb hts hown hK hG hW (gL_s hx8) d_va_copy_26 ?_
  replace h := bs h
  obtain ⟨w9, hw9, h⟩ := h
  refine pf_va_22 hx hb hts hown hK hG hW rfl rfl hw9 d_va_copy_29 (fun H locs hW => ?_)
  refine lv_aload_n hx hb d_va_copy_32 rfl (lv_at hl 0 rfl) ?_
  refine lv_aload_n hx hb d_va_copy_33 rfl (lv_at hl 1 rfl) ?_
  replace h := bs h
  obtain ⟨x10, hx10, h⟩ := h
  refine gf_va_25 hx hb hts hown hK hG hW (gL_s hx10) d_va_copy_34 ?_
  replace h := bs h
  obtain ⟨w11, hw11, h⟩ := h
  refine pf_va_25 hx hb hts hown hK hG hW rfl rfl hw11 d_va_copy_37 (fun H locs hW => ?_)
  cases h
  exact wo_vret hx hb hr hlk hW d_va_copy_40
abbrev b_an_warnIf : ByteArray := prog_2_method_3_code
def y_an_warnIf : MethodName := ⟨"AlarmForge$Analyser", "warnIf", "(ZII)V"⟩
def rm_an_warnIf : Room := { frames := 0, cells := 0, slots := 0, locals := 0 }
theorem d_an_warnIf_0 : decode b_an_warnIf 0 = .ok (.iconst 1, 1) := by decide +kernel
theorem d_an_warnIf_1 : decode b_an_warnIf 1 = .ok (.iload_n 2, 1) := by decide +kernel
theorem d_an_warnIf_2 : decode b_an_warnIf 2 = .ok (.ishl, 1) := by decide +kernel
theorem d_an_warnIf_3 : decode b_an_warnIf 3 = .ok (.istore 4, 2) := by decide +kernel
theorem d_an_warnIf_5 : decode b_an_warnIf 5 = .ok (.iload_n 1, 1) := by decide +kernel
theorem d_an_warnIf_6 : decode b_an_warnIf 6 = .ok (.ifCond .eq (43), 3) := by decide +kernel
theorem d_an_warnIf_9 : decode b_an_warnIf 9 = .ok (.aload_n 0, 1) := by decide +kernel
theorem d_an_warnIf_10 : decode b_an_warnIf 10 = .ok (.getfield 50, 3) := by decide +kernel
theorem d_an_warnIf_13 : decode b_an_warnIf 13 = .ok (.ifCond .eq (36), 3) := by decide +kernel
theorem d_an_warnIf_16 : decode b_an_warnIf 16 = .ok (.aload_n 0, 1) := by decide +kernel
theorem d_an_warnIf_17 : decode b_an_warnIf 17 = .ok (.getfield 29, 3) := by decide +kernel
theorem d_an_warnIf_20 : decode b_an_warnIf 20 = .ok (.iload_n 3, 1) := by decide +kernel
theorem d_an_warnIf_21 : decode b_an_warnIf 21 = .ok (.iaload, 1) := by decide +kernel
theorem d_an_warnIf_22 : decode b_an_warnIf 22 = .ok (.iload 4, 2) := by decide +kernel
theorem d_an_warnIf_24 : decode b_an_warnIf 24 = .ok (.iand, 1) := by decide +kernel
theorem d_an_warnIf_25 : decode b_an_warnIf 25 = .ok (.ifCond .ne (24), 3) := by decide +kernel
theorem d_an_warnIf_28 : decode b_an_warnIf 28 = .ok (.aload_n 0, 1) := by decide +kernel
theorem d_an_warnIf_29 : decode b_an_warnIf 29 = .ok (.getfield 29, 3) := by decide +kernel
theorem d_an_warnIf_32 : decode b_an_warnIf 32 = .ok (.iload_n 3, 1) := by decide +kernel
theorem d_an_warnIf_33 : decode b_an_warnIf 33 = .ok (.dup2, 1) := by decide +kernel
theorem d_an_warnIf_34 : decode b_an_warnIf 34 = .ok (.iaload, 1) := by decide +kernel
theorem d_an_warnIf_35 : decode b_an_warnIf 35 = .ok (.iload 4, 2) := by decide +kernel
theorem d_an_warnIf_37 : decode b_an_warnIf 37 = .ok (.ior, 1) := by decide +kernel
theorem d_an_warnIf_38 : decode b_an_warnIf 38 = .ok (.iastore, 1) := by decide +kernel
theorem d_an_warnIf_39 : decode b_an_warnIf 39 = .ok (.aload_n 0, 1) := by decide +kernel
theorem d_an_warnIf_40 : decode b_an_warnIf 40 = .ok (.dup, 1) := by decide +kernel
theorem d_an_warnIf_41 : decode b_an_warnIf 41 = .ok (.getfield 47, 3) := by decide +kernel
theorem d_an_warnIf_44 : decode b_an_warnIf 44 = .ok (.iconst 1, 1) := by decide +kernel
theorem d_an_warnIf_45 : decode b_an_warnIf 45 = .ok (.iadd, 1) := by decide +kernel
theorem d_an_warnIf_46 : decode b_an_warnIf 46 = .ok (.putfield 47, 3) := by decide +kernel
theorem d_an_warnIf_49 : decode b_an_warnIf 49 = .ok (.return_, 1) := by decide +kernel
def f_an_warnIf_49   (w : WW) : Option WW :=
  some w
def f_an_warnIf (a0 : Nat) (a1 : Int32) (a2 : Int32) (a3 : Int32) (w : WW) : Option WW :=
  if kb w a0 6 = true then
    if a1 = 0 then
      f_an_warnIf_49 w
    else
      (gI w a0 6 7).bind fun x2 =>
      if x2 = 0 then
        f_an_warnIf_49 w
      else
        (gN w a0 6 3).bind fun x4 =>
        (rI w x4 0 a3).bind fun x5 =>
        if (x5 &&& ((1 : Int32) <<< (a2 &&& 31))) = 0 then
          (gN w a0 6 3).bind fun x7 =>
          (rI w x7 0 a3).bind fun x8 =>
          (sI w x7 0 a3 (x8 ||| ((1 : Int32) <<< (a2 &&& 31)))).bind fun w9 =>
          (gI w9 a0 6 10).bind fun x10 =>
          (pv w9 a0 6 10 (.int (x10 + (1 : Int32)))).bind fun w11 =>
          f_an_warnIf_49 w11
        else
          f_an_warnIf_49 w
  else none
theorem kb_an_warnIf {a0 : Nat} {a1 : Int32} {a2 : Int32} {a3 : Int32} {w : WW} {r : WW} (h : f_an_warnIf a0 a1 a2 a3 w = some r) : kb w a0 6 = true := (its h).1
set_option maxHeartbeats 4000000 in
set_option maxRecDepth 100000 in
theorem j_an_warnIf_49 {p : Program} {l : Launch} {e : Env} {s : State} {m : MethodId} {args : Array Value} {below : List Frame} {meth : Method} {c : Code} {D : va_G} {cA : Nat → ClassId} {base : Nat} {w' : WW} (C : cx b_an_warnIf (none) 5 y_an_warnIf.cls "warnIf" p s m args meth c D cA base)   : ∀  (w : WW), f_an_warnIf_49  w = some w' → ∀ (H : Heap) (locs : List Loc) (ls : Array Slot), wo_S D cls cA base s w H locs → lv_has ls 5 [] → W p l e rm_an_warnIf s m args below meth c H locs 0 0 (MQ below (wo_Q D cls cA base none w') args s rm_an_warnIf.cells rm_an_warnIf.slots (wo_B base)) (F0 m 49 ls []) := by
  obtain ⟨hx, hb, hr, hml, hown, hts, hlk, hnm, hK, hG⟩ := id C
  intro  w h H locs ls hW hl
  unfold f_an_warnIf_49 at h
  cases h
  exact wo_vret hx hb hr hlk hW d_an_warnIf_49
set_option maxHeartbeats 4000000 in
set_option maxRecDepth 100000 in
theorem c_an_warnIf (l : Launch) (D : va_G) (cA : Nat → ClassId) (base : Nat) {a0 : Nat} {a1 : Int32} {a2 : Int32} {a3 : Int32} {w w' : WW} (h : f_an_warnIf a0 a1 a2 a3 w = some w') : mt l D cls (wo_tys cA) cA base y_an_warnIf (Cond.code y_an_warnIf b_an_warnIf 5 (none) :: gt) rm_an_warnIf [.ref a0, .int a1, .int a2, .int a3] w none w' rm_an_warnIf.cells rm_an_warnIf.slots := by
  refine mt_start (by decide) (Nat.le_of_ble_eq_true rfl) ?_
  intro p e s m below meth c ls hx hb hr hml hown hts hlk hnm hK hG hW hl
  have C : cx b_an_warnIf (none) 5 y_an_warnIf.cls "warnIf" p s m [.ref a0, .int a1, .int a2, .int a3].toArray meth c D cA base := ⟨hx, hb, hr, hml, hown, hts, hlk, hnm, hK, hG⟩
  have hl : lv_has ls 5 [(0, .ref a0), (1, .int a1), (2, .int a2), (3, .int a3)] := hl
  unfold f_an_warnIf at h
  replace h := its h
  obtain ⟨-, h⟩ := h
  refine lv_iconst (v := (1 : Int32)) hx hb d_an_warnIf_0 (by decide) ?_
  refine lv_iload_n hx hb d_an_warnIf_1 rfl (lv_at hl 2 rfl) ?_
  refine lv_ishl hx hb d_an_warnIf_2 ?_
  refine lv_istore (lv' := [(4, .int ((1 : Int32) <<< (a2 &&& 31))), (0, .ref a0), (1, .int a1), (2, .int a2), (3, .int a3)]) hx hb d_an_warnIf_3 hl (by decide) rfl (fun ls hl => ?_)
  refine lv_iload_n hx hb d_an_warnIf_5 rfl (lv_at hl 2 rfl) ?_
  refine lv_if_eq (tgt := 49) hx hb d_an_warnIf_6 (by decide) (fun c1 => ?_) (fun c1 => ?_)
  · rw [if_pos c1] at h
    exact j_an_warnIf_49 C w h _ _ _ hW (lv_sub hl [] rfl)
  · rw [if_neg c1] at h
    refine lv_aload_n hx hb d_an_warnIf_9 rfl (lv_at hl 1 rfl) ?_
    replace h := bs h
    obtain ⟨x2, hx2, h⟩ := h
    refine gf_an_50 hx hb hts hown hK hG hW (gI_s hx2) d_an_warnIf_10 ?_
    refine lv_if_eq (tgt := 49) hx hb d_an_warnIf_13 (by decide) (fun c3 => ?_) (fun c3 => ?_)
    · rw [if_pos c3] at h
      exact j_an_warnIf_49 C w h _ _ _ hW (lv_sub hl [] rfl)
    · rw [if_neg c3] at h
      refine lv_aload_n hx hb d_an_warnIf_16 rfl (lv_at hl 1 rfl) ?_
      replace h := bs h
      obtain ⟨x4, hx4, h⟩ := h
      refine gf_an_29 hx hb hts hown hK hG hW (gN_s hx4) d_an_warnIf_17 ?_
      refine lv_iload_n hx hb d_an_warnIf_20 rfl (lv_at hl 4 rfl) ?_
      replace h := bs h
      obtain ⟨x5, hx5, h⟩ := h
      refine wo_iald hx hb hK hW (t := 0) rfl hx5 d_an_warnIf_21 ?_
      refine lv_iload hx hb d_an_warnIf_22 (lv_at hl 0 rfl) ?_
      refine lv_iand hx hb d_an_warnIf_24 ?_
      refine lv_if_ne (tgt := 49) hx hb d_an_warnIf_25 (by decide) (fun c6 => ?_) (fun c6 => ?_)
      · rw [if_neg c6] at h
        exact j_an_warnIf_49 C w h _ _ _ hW (lv_sub hl [] rfl)
      · rw [if_pos c6] at h
        refine lv_aload_n hx hb d_an_warnIf_28 rfl (lv_at hl 1 rfl) ?_
        replace h := bs h
        obtain ⟨x7, hx7, h⟩ := h
        refine gf_an_29 hx hb hts hown hK hG hW (gN_s hx7) d_an_warnIf_29 ?_
        refine lv_iload_n hx hb d_an_warnIf_32 rfl (lv_at hl 4 rfl) ?_
        refine lv_dup2_11 hx hb d_an_warnIf_33 rfl rfl ?_
        replace h := bs h
        obtain ⟨x8, hx8, h⟩ := h
        refine wo_iald hx hb hK hW (t := 0) rfl hx8 d_an_warnIf_34 ?_
        refine lv_iload hx hb d_an_warnIf_35 (lv_at hl 0 rfl) ?_
        refine lv_ior hx hb d_an_warnIf_37 ?_
        replace h := bs h
        obtain ⟨w9, hw9, h⟩ := h
        refine wo_iast hx hb hK hW (t := 0) rfl hw9 d_an_warnIf_38 (fun H locs hW => ?_)
        refine lv_aload_n hx hb d_an_warnIf_39 rfl (lv_at hl 1 rfl) ?_
        refine lv_dup hx hb d_an_warnIf_40 rfl ?_
        replace h := bs h
        obtain ⟨x10, hx10, h⟩ := h
        refine gf_an_47 hx hb hts hown hK hG hW (gI_s hx10) d_an_warnIf_41 ?_
        refine lv_iconst (v := (1 : Int32)) hx hb d_an_warnIf_44 (by decide) ?_
        refine lv_iadd hx hb d_an_warnIf_45 ?_
        replace h := bs h
        obtain ⟨w11, hw11, h⟩ := h
        refine pf_an_47 hx hb hts hown hK hG hW rfl rfl hw11 d_an_warnIf_46 (fun H locs hW => ?_)
        exact j_an_warnIf_49 C w11 h _ _ _ hW (lv_sub hl [] rfl)
abbrev b_va_goesBeyondCells : ByteArray := prog_9_method_9_code
def y_va_goesBeyondCells : MethodName := ⟨"AlarmForge$Value", "goesBeyondCells", "()Z"⟩
def rm_va_goesBeyondCells : Room := { frames := 0, cells := 0, slots := 0, locals := 0 }
theorem d_va_goesBeyondCells_0 : decode b_va_goesBeyondCells 0 = .ok (.aload_n 0, 1) := by decide +kernel
theorem d_va_goesBeyondCells_1 : decode b_va_goesBeyondCells 1 = .ok (.getfield 15, 3) := by decide +kernel
theorem d_va_goesBeyondCells_4 : decode b_va_goesBeyondCells 4 = .ok (.lconst 0, 1) := by decide +kernel
theorem d_va_goesBeyondCells_5 : decode b_va_goesBeyondCells 5 = .ok (.lcmp, 1) := by decide +kernel
theorem d_va_goesBeyondCells_6 : decode b_va_goesBeyondCells 6 = .ok (.ifCond .lt (14), 3) := by decide +kernel
theorem d_va_goesBeyondCells_9 : decode b_va_goesBeyondCells 9 = .ok (.aload_n 0, 1) := by decide +kernel
theorem d_va_goesBeyondCells_10 : decode b_va_goesBeyondCells 10 = .ok (.getfield 19, 3) := by decide +kernel
theorem d_va_goesBeyondCells_13 : decode b_va_goesBeyondCells 13 = .ok (.ldc2_w 38, 3) := by decide +kernel
theorem d_va_goesBeyondCells_16 : decode b_va_goesBeyondCells 16 = .ok (.lcmp, 1) := by decide +kernel
theorem d_va_goesBeyondCells_17 : decode b_va_goesBeyondCells 17 = .ok (.ifCond .lt (7), 3) := by decide +kernel
theorem d_va_goesBeyondCells_20 : decode b_va_goesBeyondCells 20 = .ok (.iconst 1, 1) := by decide +kernel
theorem d_va_goesBeyondCells_21 : decode b_va_goesBeyondCells 21 = .ok (.goto (4), 3) := by decide +kernel
theorem d_va_goesBeyondCells_24 : decode b_va_goesBeyondCells 24 = .ok (.iconst 0, 1) := by decide +kernel
theorem d_va_goesBeyondCells_25 : decode b_va_goesBeyondCells 25 = .ok (.ireturn, 1) := by decide +kernel
def f_va_goesBeyondCells_25  (z0 : Int32) (w : WW) : Option (Int32 × WW) :=
  if z0 = 0 ∨ z0 = 1 then some (z0, w) else none
def f_va_goesBeyondCells_20   (w : WW) : Option (Int32 × WW) :=
  f_va_goesBeyondCells_25 (1 : Int32) w
def f_va_goesBeyondCells (a0 : Nat) (w : WW) : Option (Int32 × WW) :=
  if kb w a0 8 = true then
    (gL w a0 8 1).bind fun x1 =>
    if x1 < (0 : Int64) then
      f_va_goesBeyondCells_20 w
    else
      (gL w a0 8 2).bind fun x4 =>
      if x4 < (4 : Int64) then
        f_va_goesBeyondCells_25 (0 : Int32) w
      else
        f_va_goesBeyondCells_20 w
  else none
theorem kb_va_goesBeyondCells {a0 : Nat}  {w : WW} {r : (Int32 × WW)} (h : f_va_goesBeyondCells a0 w = some r) : kb w a0 8 = true := (its h).1
set_option maxHeartbeats 4000000 in
set_option maxRecDepth 100000 in
theorem j_va_goesBeyondCells_25 {p : Program} {l : Launch} {e : Env} {s : State} {m : MethodId} {args : Array Value} {below : List Frame} {meth : Method} {c : Code} {D : va_G} {cA : Nat → ClassId} {base : Nat} {r : Int32} {w' : WW} (C : cx b_va_goesBeyondCells (some .boolean) 1 y_va_goesBeyondCells.cls "goesBeyondCells" p s m args meth c D cA base)   : ∀ (z0 : Int32) (w : WW), f_va_goesBeyondCells_25 z0 w = some (r, w') → ∀ (H : Heap) (locs : List Loc) (ls : Array Slot), wo_S D cls cA base s w H locs → lv_has ls 1 [] → W p l e rm_va_goesBeyondCells s m args below meth c H locs 0 0 (MQ below (wo_Q D cls cA base (some (.int r)) w') args s rm_va_goesBeyondCells.cells rm_va_goesBeyondCells.slots (wo_B base)) (F0 m 25 ls [.int z0]) := by
  obtain ⟨hx, hb, hr, hml, hown, hts, hlk, hnm, hK, hG⟩ := id C
  intro z0 w h H locs ls hW hl
  unfold f_va_goesBeyondCells_25 at h
  replace h := its h
  obtain ⟨c3, h⟩ := h
  cases h
  exact wo_zret hx hb hr hlk hW c3 d_va_goesBeyondCells_25
set_option maxHeartbeats 4000000 in
set_option maxRecDepth 100000 in
theorem j_va_goesBeyondCells_20 {p : Program} {l : Launch} {e : Env} {s : State} {m : MethodId} {args : Array Value} {below : List Frame} {meth : Method} {c : Code} {D : va_G} {cA : Nat → ClassId} {base : Nat} {r : Int32} {w' : WW} (C : cx b_va_goesBeyondCells (some .boolean) 1 y_va_goesBeyondCells.cls "goesBeyondCells" p s m args meth c D cA base)   : ∀  (w : WW), f_va_goesBeyondCells_20  w = some (r, w') → ∀ (H : Heap) (locs : List Loc) (ls : Array Slot), wo_S D cls cA base s w H locs → lv_has ls 1 [] → W p l e rm_va_goesBeyondCells s m args below meth c H locs 0 0 (MQ below (wo_Q D cls cA base (some (.int r)) w') args s rm_va_goesBeyondCells.cells rm_va_goesBeyondCells.slots (wo_B base)) (F0 m 20 ls []) := by
  obtain ⟨hx, hb, hr, hml, hown, hts, hlk, hnm, hK, hG⟩ := id C
  intro  w h H locs ls hW hl
  unfold f_va_goesBeyondCells_20 at h
  refine lv_iconst (v := (1 : Int32)) hx hb d_va_goesBeyondCells_20 (by decide) ?_
  refine lv_goto (tgt := 25) hx hb d_va_goesBeyondCells_21 (by decide) ?_
  exact j_va_goesBeyondCells_25 C (1 : Int32) w h _ _ _ hW (lv_sub hl [] rfl)
set_option maxHeartbeats 4000000 in
set_option maxRecDepth 100000 in
theorem c_va_goesBeyondCells (l : Launch) (D : va_G) (cA : Nat → ClassId) (base : Nat) {a0 : Nat} {w w' : WW} {r : Int32} (h : f_va_goesBeyondCells a0 w = some (r, w')) : mt l D cls (wo_tys cA) cA base y_va_goesBeyondCells (Cond.code y_va_goesBeyondCells b_va_goesBeyondCells 1 (some .boolean) :: gt) rm_va_goesBeyondCells [.ref a0] w (some (.int r)) w' rm_va_goesBeyondCells.cells rm_va_goesBeyondCells.slots := by
  refine mt_start (by decide) (Nat.le_of_ble_eq_true rfl) ?_
  intro p e s m below meth c ls hx hb hr hml hown hts hlk hnm hK hG hW hl
  have C : cx b_va_goesBeyondCells (some .boolean) 1 y_va_goesBeyondCells.cls "goesBeyondCells" p s m [.ref a0].toArray meth c D cA base := ⟨hx, hb, hr, hml, hown, hts, hlk, hnm, hK, hG⟩
  have hl : lv_has ls 1 [(0, .ref a0)] := hl
  unfold f_va_goesBeyondCells at h
  replace h := its h
  obtain ⟨-, h⟩ := h
  refine lv_aload_n hx hb d_va_goesBeyondCells_0 rfl (lv_at hl 0 rfl) ?_
  replace h := bs h
  obtain ⟨x1, hx1, h⟩ := h
  refine gf_va_15 hx hb hts hown hK hG hW (gL_s hx1) d_va_goesBeyondCells_1 ?_
  refine lv_lconst (v := (0 : Int64)) hx hb d_va_goesBeyondCells_4 (by decide) ?_
  refine lc_lt (tgt := 20) hx hb d_va_goesBeyondCells_5 d_va_goesBeyondCells_6 (by decide) (fun c2 => ?_) (fun c2 => ?_)
  · rw [if_pos c2] at h
    exact j_va_goesBeyondCells_20 C w h _ _ _ hW (lv_sub hl [] rfl)
  · rw [if_neg c2] at h
    refine lv_aload_n hx hb d_va_goesBeyondCells_9 rfl (lv_at hl 0 rfl) ?_
    replace h := bs h
    obtain ⟨x4, hx4, h⟩ := h
    refine gf_va_19 hx hb hts hown hK hG hW (gL_s hx4) d_va_goesBeyondCells_10 ?_
    refine lv_ldc2 (own := Rc_va) (v := (4 : Int64)) hx hb hown (hts (.constantLong "AlarmForge$Value" 38 (4 : Int64)) (gt_of (i := 939) (by decide +kernel) (by decide +kernel))) d_va_goesBeyondCells_13 ?_
    refine lc_lt (tgt := 24) hx hb d_va_goesBeyondCells_16 d_va_goesBeyondCells_17 (by decide) (fun c5 => ?_) (fun c5 => ?_)
    · rw [if_pos c5] at h
      refine lv_iconst (v := (0 : Int32)) hx hb d_va_goesBeyondCells_24 (by decide) ?_
      exact j_va_goesBeyondCells_25 C (0 : Int32) w h _ _ _ hW (lv_sub hl [] rfl)
    · rw [if_neg c5] at h
      exact j_va_goesBeyondCells_20 C w h _ _ _ hW (lv_sub hl [] rfl)
abbrev b_ma_floorMod : ByteArray := prog_18_method_52_code
def y_ma_floorMod : MethodName := ⟨"java/lang/Math", "floorMod", "(JJ)J"⟩
def rm_ma_floorMod : Room := { frames := 0, cells := 0, slots := 0, locals := 0 }
theorem d_ma_floorMod_0 : decode b_ma_floorMod 0 = .ok (.lload_n 0, 1) := by decide +kernel
theorem d_ma_floorMod_1 : decode b_ma_floorMod 1 = .ok (.lload_n 2, 1) := by decide +kernel
theorem d_ma_floorMod_2 : decode b_ma_floorMod 2 = .ok (.lrem, 1) := by decide +kernel
theorem d_ma_floorMod_3 : decode b_ma_floorMod 3 = .ok (.lstore 4, 2) := by decide +kernel
theorem d_ma_floorMod_5 : decode b_ma_floorMod 5 = .ok (.lload_n 0, 1) := by decide +kernel
theorem d_ma_floorMod_6 : decode b_ma_floorMod 6 = .ok (.lload_n 2, 1) := by decide +kernel
theorem d_ma_floorMod_7 : decode b_ma_floorMod 7 = .ok (.lxor, 1) := by decide +kernel
theorem d_ma_floorMod_8 : decode b_ma_floorMod 8 = .ok (.lconst 0, 1) := by decide +kernel
theorem d_ma_floorMod_9 : decode b_ma_floorMod 9 = .ok (.lcmp, 1) := by decide +kernel
theorem d_ma_floorMod_10 : decode b_ma_floorMod 10 = .ok (.ifCond .ge (15), 3) := by decide +kernel
theorem d_ma_floorMod_13 : decode b_ma_floorMod 13 = .ok (.lload 4, 2) := by decide +kernel
theorem d_ma_floorMod_15 : decode b_ma_floorMod 15 = .ok (.lconst 0, 1) := by decide +kernel
theorem d_ma_floorMod_16 : decode b_ma_floorMod 16 = .ok (.lcmp, 1) := by decide +kernel
theorem d_ma_floorMod_17 : decode b_ma_floorMod 17 = .ok (.ifCond .eq (8), 3) := by decide +kernel
theorem d_ma_floorMod_20 : decode b_ma_floorMod 20 = .ok (.lload 4, 2) := by decide +kernel
theorem d_ma_floorMod_22 : decode b_ma_floorMod 22 = .ok (.lload_n 2, 1) := by decide +kernel
theorem d_ma_floorMod_23 : decode b_ma_floorMod 23 = .ok (.ladd, 1) := by decide +kernel
theorem d_ma_floorMod_24 : decode b_ma_floorMod 24 = .ok (.lreturn, 1) := by decide +kernel
theorem d_ma_floorMod_25 : decode b_ma_floorMod 25 = .ok (.lload 4, 2) := by decide +kernel
theorem d_ma_floorMod_27 : decode b_ma_floorMod 27 = .ok (.lreturn, 1) := by decide +kernel
def f_ma_floorMod_25  (y4 : Int64) (w : WW) : Option (Int64 × WW) :=
  some (y4, w)
def f_ma_floorMod (a0 : Int64) (a2 : Int64) (w : WW) : Option (Int64 × WW) :=
  if ¬ a2 = 0 then
    if (0 : Int64) ≤ (a0 ^^^ a2) then
      f_ma_floorMod_25 (a0 - a0 / a2 * a2) w
    else
      if (a0 - a0 / a2 * a2) = (0 : Int64) then
        f_ma_floorMod_25 (a0 - a0 / a2 * a2) w
      else
        some (((a0 - a0 / a2 * a2) + a2), w)
  else none
set_option maxHeartbeats 4000000 in
set_option maxRecDepth 100000 in
theorem j_ma_floorMod_25 {p : Program} {l : Launch} {e : Env} {s : State} {m : MethodId} {args : Array Value} {below : List Frame} {meth : Method} {c : Code} {D : va_G} {cA : Nat → ClassId} {base : Nat} {r : Int64} {w' : WW} (C : cx b_ma_floorMod (some .long) 6 y_ma_floorMod.cls "floorMod" p s m args meth c D cA base)   : ∀ (y4 : Int64) (w : WW), f_ma_floorMod_25 y4 w = some (r, w') → ∀ (H : Heap) (locs : List Loc) (ls : Array Slot), wo_S D cls cA base s w H locs → lv_has ls 6 [(4, .long y4)] → W p l e rm_ma_floorMod s m args below meth c H locs 0 0 (MQ below (wo_Q D cls cA base (some (.long r)) w') args s rm_ma_floorMod.cells rm_ma_floorMod.slots (wo_B base)) (F0 m 25 ls []) := by
  obtain ⟨hx, hb, hr, hml, hown, hts, hlk, hnm, hK, hG⟩ := id C
  intro y4 w h H locs ls hW hl
  unfold f_ma_floorMod_25 at h
  refine lv_lload hx hb d_ma_floorMod_25 (lv_at hl 0 rfl) ?_
  cases h
  exact wo_lret hx hb hr hlk hW d_ma_floorMod_27
set_option maxHeartbeats 4000000 in
set_option maxRecDepth 100000 in
theorem c_ma_floorMod (l : Launch) (D : va_G) (cA : Nat → ClassId) (base : Nat) {a0 : Int64} {a2 : Int64} {w w' : WW} {r : Int64} (h : f_ma_floorMod a0 a2 w = some (r, w')) : mt l D cls (wo_tys cA) cA base y_ma_floorMod (Cond.code y_ma_floorMod b_ma_floorMod 6 (some .long) :: gt) rm_ma_floorMod [.long a0, .long a2] w (some (.long r)) w' rm_ma_floorMod.cells rm_ma_floorMod.slots := by
  refine mt_startF (by decide +kernel) (Nat.le_of_ble_eq_true rfl) ?_
  intro p e s m below meth c ls hx hb hr hml hown hts hlk hnm hK hG hW hl
  have C : cx b_ma_floorMod (some .long) 6 y_ma_floorMod.cls "floorMod" p s m [.long a0, .long a2].toArray meth c D cA base := ⟨hx, hb, hr, hml, hown, hts, hlk, hnm, hK, hG⟩
  have hl : lv_has ls 6 [(0, .long a0), (2, .long a2)] := hl
  unfold f_ma_floorMod at h
  refine lv_lload_n hx hb d_ma_floorMod_0 rfl (lv_at hl 0 rfl) ?_
  refine lv_lload_n hx hb d_ma_floorMod_1 rfl (lv_at hl 1 rfl) ?_
  replace h := its h
  obtain ⟨c1, h⟩ := h
  refine lv_lrem hx hb d_ma_floorMod_2 c1 ?_
  refine lv_lstore (lv' := [(4, .long (a0 - a0 / a2 * a2)), (0, .long a0), (2, .long a2)]) hx hb d_ma_floorMod_3 hl (by decide) rfl (fun ls hl => ?_)
  refine lv_lload_n hx hb d_ma_floorMod_5 rfl (lv_at hl 1 rfl) ?_
  refine lv_lload_n hx hb d_ma_floorMod_6 rfl (lv_at hl 2 rfl) ?_
  refine lv_lxor hx hb d_ma_floorMod_7 ?_
  refine lv_lconst (v := (0 : Int64)) hx hb d_ma_floorMod_8 (by decide) ?_
  refine lc_ge (tgt := 25) hx hb d_ma_floorMod_9 d_ma_floorMod_10 (by decide) (fun c2 => ?_) (fun c2 => ?_)
  · rw [if_pos c2] at h
    exact j_ma_floorMod_25 C (a0 - a0 / a2 * a2) w h _ _ _ hW (lv_sub hl [0] rfl)
  · rw [if_neg c2] at h
    refine lv_lload hx hb d_ma_floorMod_13 (lv_at hl 0 rfl) ?_
    refine lv_lconst (v := (0 : Int64)) hx hb d_ma_floorMod_15 (by decide) ?_
    refine lc_eq (tgt := 25) hx hb d_ma_floorMod_16 d_ma_floorMod_17 (by decide) (fun c3 => ?_) (fun c3 => ?_)
    · rw [if_pos c3] at h
      exact j_ma_floorMod_25 C (a0 - a0 / a2 * a2) w h _ _ _ hW (lv_sub hl [0] rfl)
    · rw [if_neg c3] at h
      refine lv_lload hx hb d_ma_floorMod_20 (lv_at hl 0 rfl) ?_
      refine lv_lload_n hx hb d_ma_floorMod_22 rfl (lv_at hl 2 rfl) ?_
      refine lv_ladd hx hb d_ma_floorMod_23 ?_
      cases h
      exact wo_lret hx hb hr hlk hW d_ma_floorMod_24
theorem cs_va_32 {p : Program} {l : Launch} {e : Env} {R : Room} {s : State} {m : MethodId} {args : Array Value} {below : List Frame} {meth : Method} {c : Code} {H : Heap} {locs : List Loc} {cells slots : Nat} {Q : State → Prop} {D : va_G} {cA : Nat → ClassId} {base : Nat} {w w' : WW} {cc : ByteArray} {pc nL : Nat} {ls : Array Slot} {rest st0 As : List Value} {ov : Option Value} (hx : p.tables.exec = Jvm.exec) (hb : c.code = cc) (hml : c.maxLocals = nL) (hown : s.vm.findClass Rc_va = some m.cls) (hts : ∀ w ∈ gt, w.before args s = true) (hK : va_K D cls (wo_tys cA) s) (hG : wo_G base s) (hW : wo_S D cls cA base s w H locs) (hM : mt l D cls (wo_tys cA) cA base y_ma_floorMod (Cond.code y_ma_floorMod b_ma_floorMod 6 (some .long) :: gt) rm_ma_floorMod (As) w ov w' rm_ma_floorMod.cells rm_ma_floorMod.slots) (hR : rm_ma_floorMod.frames + 1 ≤ R.frames ∧ 8 + (6 + 11) + rm_ma_floorMod.locals ≤ R.locals) (hf : cells + rm_ma_floorMod.cells ≤ R.cells ∧ slots + rm_ma_floorMod.slots ≤ R.slots) (hn : As.length = 2) (hsz : ls.size = nL) (hst : st0 = As.reverse ++ rest) (hcat : (rest.map fun v => v.category).sum ≤ 8) (hdg : decode cc pc = .ok (.invokestatic 32, 3)) (kk : ∀ (H1 : Heap) (locs1 : List Loc), wo_S D cls cA base s w' H1 locs1 → W p l e R s m args below meth c H1 locs1 (cells + rm_ma_floorMod.cells) (slots + rm_ma_floorMod.slots) Q (F0 m (pc + 3) ls (ov.toList ++ rest))) : W p l e R s m args below meth c H locs cells slots Q (F0 m pc ls st0) :=
  wo_callS hx hb hml hown hts hK hG hW hM (gt_of (i := 945) (by decide +kernel) (by decide +kernel)) (gt_of (i := 946) (by decide +kernel) (by decide +kernel)) (gt_of (i := 20) (by decide +kernel) (by decide +kernel)) (gt_of (i := 947) (by decide +kernel) (by decide +kernel)) (by decide +kernel) hR hf hn hsz hst hcat hdg kk
abbrev b_va_has : ByteArray := prog_9_method_8_code
def y_va_has : MethodName := ⟨"AlarmForge$Value", "has", "(J)Z"⟩
def rm_va_has : Room := { frames := 1, cells := 0, slots := 0, locals := 25 }
theorem d_va_has_0 : decode b_va_has 0 = .ok (.aload_n 0, 1) := by decide +kernel
theorem d_va_has_1 : decode b_va_has 1 = .ok (.getfield 9, 3) := by decide +kernel
theorem d_va_has_4 : decode b_va_has 4 = .ok (.ifCond .ne (52), 3) := by decide +kernel
theorem d_va_has_7 : decode b_va_has 7 = .ok (.lload_n 1, 1) := by decide +kernel
theorem d_va_has_8 : decode b_va_has 8 = .ok (.aload_n 0, 1) := by decide +kernel
theorem d_va_has_9 : decode b_va_has 9 = .ok (.getfield 15, 3) := by decide +kernel
theorem d_va_has_12 : decode b_va_has 12 = .ok (.lcmp, 1) := by decide +kernel
theorem d_va_has_13 : decode b_va_has 13 = .ok (.ifCond .lt (43), 3) := by decide +kernel
theorem d_va_has_16 : decode b_va_has 16 = .ok (.lload_n 1, 1) := by decide +kernel
theorem d_va_has_17 : decode b_va_has 17 = .ok (.aload_n 0, 1) := by decide +kernel
theorem d_va_has_18 : decode b_va_has 18 = .ok (.getfield 19, 3) := by decide +kernel
theorem d_va_has_21 : decode b_va_has 21 = .ok (.lcmp, 1) := by decide +kernel
theorem d_va_has_22 : decode b_va_has 22 = .ok (.ifCond .gt (34), 3) := by decide +kernel
theorem d_va_has_25 : decode b_va_has 25 = .ok (.aload_n 0, 1) := by decide +kernel
theorem d_va_has_26 : decode b_va_has 26 = .ok (.getfield 22, 3) := by decide +kernel
theorem d_va_has_29 : decode b_va_has 29 = .ok (.lconst 0, 1) := by decide +kernel
theorem d_va_has_30 : decode b_va_has 30 = .ok (.lcmp, 1) := by decide +kernel
theorem d_va_has_31 : decode b_va_has 31 = .ok (.ifCond .eq (21), 3) := by decide +kernel
theorem d_va_has_34 : decode b_va_has 34 = .ok (.lload_n 1, 1) := by decide +kernel
theorem d_va_has_35 : decode b_va_has 35 = .ok (.aload_n 0, 1) := by decide +kernel
theorem d_va_has_36 : decode b_va_has 36 = .ok (.getfield 25, 3) := by decide +kernel
theorem d_va_has_39 : decode b_va_has 39 = .ok (.lsub, 1) := by decide +kernel
theorem d_va_has_40 : decode b_va_has 40 = .ok (.aload_n 0, 1) := by decide +kernel
theorem d_va_has_41 : decode b_va_has 41 = .ok (.getfield 22, 3) := by decide +kernel
theorem d_va_has_44 : decode b_va_has 44 = .ok (.invokestatic 32, 3) := by decide +kernel
theorem d_va_has_47 : decode b_va_has 47 = .ok (.lconst 0, 1) := by decide +kernel
theorem d_va_has_48 : decode b_va_has 48 = .ok (.lcmp, 1) := by decide +kernel
theorem d_va_has_49 : decode b_va_has 49 = .ok (.ifCond .ne (7), 3) := by decide +kernel
theorem d_va_has_52 : decode b_va_has 52 = .ok (.iconst 1, 1) := by decide +kernel
theorem d_va_has_53 : decode b_va_has 53 = .ok (.goto (4), 3) := by decide +kernel
theorem d_va_has_56 : decode b_va_has 56 = .ok (.iconst 0, 1) := by decide +kernel
theorem d_va_has_57 : decode b_va_has 57 = .ok (.ireturn, 1) := by decide +kernel
def f_va_has_57  (z0 : Int32) (w : WW) : Option (Int32 × WW) :=
  if z0 = 0 ∨ z0 = 1 then some (z0, w) else none
def f_va_has_56   (w : WW) : Option (Int32 × WW) :=
  f_va_has_57 (0 : Int32) w
def f_va_has_52   (w : WW) : Option (Int32 × WW) :=
  f_va_has_57 (1 : Int32) w
def f_va_has (a0 : Nat) (a1 : Int64) (w : WW) : Option (Int32 × WW) :=
  if kb w a0 8 = true then
    (gI w a0 8 0).bind fun x1 =>
    if x1 = 0 then
      (gL w a0 8 1).bind fun x4 =>
      if a1 < x4 then
        f_va_has_56 w
      else
        (gL w a0 8 2).bind fun x6 =>
        if x6 < a1 then
          f_va_has_56 w
        else
          (gL w a0 8 3).bind fun x8 =>
          if x8 = (0 : Int64) then
            f_va_has_52 w
          else
            (gL w a0 8 4).bind fun x10 =>
            (gL w a0 8 3).bind fun x11 =>
            bd2 (f_ma_floorMod (a1 - x10) x11 w) fun x13 w12 =>
            if x13 = (0 : Int64) then
              f_va_has_52 w12
            else
              f_va_has_56 w12
    else
      f_va_has_56 w
  else none
theorem kb_va_has {a0 : Nat} {a1 : Int64} {w : WW} {r : (Int32 × WW)} (h : f_va_has a0 a1 w = some r) : kb w a0 8 = true := (its h).1
set_option maxHeartbeats 4000000 in
set_option maxRecDepth 100000 in
theorem j_va_has_57 {p : Program} {l : Launch} {e : Env} {s : State} {m : MethodId} {args : Array Value} {below : List Frame} {meth : Method} {c : Code} {D : va_G} {cA : Nat → ClassId} {base : Nat} {r : Int32} {w' : WW} (C : cx b_va_has (some .boolean) 3 y_va_has.cls "has" p s m args meth c D cA base)   : ∀ (z0 : Int32) (w : WW), f_va_has_57 z0 w = some (r, w') → ∀ (H : Heap) (locs : List Loc) (ls : Array Slot), wo_S D cls cA base s w H locs → lv_has ls 3 [] → W p l e rm_va_has s m args below meth c H locs 0 0 (MQ below (wo_Q D cls cA base (some (.int r)) w') args s rm_va_has.cells rm_va_has.slots (wo_B base)) (F0 m 57 ls [.int z0]) := by
  obtain ⟨hx, hb, hr, hml, hown, hts, hlk, hnm, hK, hG⟩ := id C
  intro z0 w h H locs ls hW hl
  unfold f_va_has_57 at h
  replace h := its h
  obtain ⟨c3, h⟩ := h
  cases h
  exact wo_zret hx hb hr hlk hW c3 d_va_has_57
set_option maxHeartbeats 4000000 in
set_option maxRecDepth 100000 in
theorem j_va_has_56 {p : Program} {l : Launch} {e : Env} {s : State} {m : MethodId} {args : Array Value} {below : List Frame} {meth : Method} {c : Code} {D : va_G} {cA : Nat → ClassId} {base : Nat} {r : Int32} {w' : WW} (C : cx b_va_has (some .boolean) 3 y_va_has.cls "has" p s m args meth c D cA base)   : ∀  (w : WW), f_va_has_56  w = some (r, w') → ∀ (H : Heap) (locs : List Loc) (ls : Array Slot), wo_S D cls cA base s w H locs → lv_has ls 3 [] → W p l e rm_va_has s m args below meth c H locs 0 0 (MQ below (wo_Q D cls cA base (some (.int r)) w') args s rm_va_has.cells rm_va_has.slots (wo_B base)) (F0 m 56 ls []) := by
  obtain ⟨hx, hb, hr, hml, hown, hts, hlk, hnm, hK, hG⟩ := id C
  intro  w h H locs ls hW hl
  unfold f_va_has_56 at h
  refine lv_iconst (v := (0 : Int32)) hx hb d_va_has_56 (by decide) ?_
  exact j_va_has_57 C (0 : Int32) w h _ _ _ hW (lv_sub hl [] rfl)
set_option maxHeartbeats 4000000 in
set_option maxRecDepth 100000 in
theorem j_va_has_52 {p : Program} {l : Launch} {e : Env} {s : State} {m : MethodId} {args : Array Value} {below : List Frame} {meth : Method} {c : Code} {D : va_G} {cA : Nat → ClassId} {base : Nat} {r : Int32} {w' : WW} (C : cx b_va_has (some .boolean) 3 y_va_has.cls "has" p s m args meth c D cA base)   : ∀  (w : WW), f_va_has_52  w = some (r, w') → ∀ (H : Heap) (locs : List Loc) (ls : Array Slot), wo_S D cls cA base s w H locs → lv_has ls 3 [] → W p l e rm_va_has s m args below meth c H locs 0 0 (MQ below (wo_Q D cls cA base (some (.int r)) w') args s rm_va_has.cells rm_va_has.slots (wo_B base)) (F0 m 52 ls []) := by
  obtain ⟨hx, hb, hr, hml, hown, hts, hlk, hnm, hK, hG⟩ := id C
  intro  w h H locs ls hW hl
  unfold f_va_has_52 at h
  refine lv_iconst (v := (1 : Int32)) hx hb d_va_has_52 (by decide) ?_
  refine lv_goto (tgt := 57) hx hb d_va_has_53 (by decide) ?_
  exact j_va_has_57 C (1 : Int32) w h _ _ _ hW (lv_sub hl [] rfl)
set_option maxHeartbeats 4000000 in
set_option maxRecDepth 100000 in
theorem c_va_has (l : Launch) (D : va_G) (cA : Nat → ClassId) (base : Nat) {a0 : Nat} {a1 : Int64} {w w' : WW} {r : Int32} (h : f_va_has a0 a1 w = some (r, w')) : mt l D cls (wo_tys cA) cA base y_va_has (Cond.code y_va_has b_va_has 3 (some .boolean) :: gt) rm_va_has [.ref a0, .long a1] w (some (.int r)) w' rm_va_has.cells rm_va_has.slots := by
  refine mt_start (by decide) (Nat.le_of_ble_eq_true rfl) ?_
  intro p e s m below meth c ls hx hb hr hml hown hts hlk hnm hK hG hW hl
  have C : cx b_va_has (some .boolean) 3 y_va_has.cls "has" p s m [.ref a0, .long a1].toArray meth c D cA base := ⟨hx, hb, hr, hml, hown, hts, hlk, hnm, hK, hG⟩
  have hl : lv_has ls 3 [(0, .ref a0), (1, .long a1)] := hl
  unfold f_va_has at h
  replace h := its h
  obtain ⟨-, h⟩ := h
  refine lv_aload_n hx hb d_va_has_0 rfl (lv_at hl 0 rfl) ?_
  replace h := bs h
  obtain ⟨x1, hx1, h⟩ := h
  refine gf_va_9 hx hb hts hown hK hG hW (gI_s hx1) d_va_has_1 ?_
  refine lv_if_ne (tgt := 56) hx hb d_va_has_4 (by decide) (fun c2 => ?_) (fun c2 => ?_)
  · rw [if_neg c2] at h
    exact j_va_has_56 C w h _ _ _ hW (lv_sub hl [] rfl)
  · rw [if_pos c2] at h
    refine lv_lload_n hx hb d_va_has_7 rfl (lv_at hl 1 rfl) ?_
    refine lv_aload_n hx hb d_va_has_8 rfl (lv_at hl 0 rfl) ?_
    replace h := bs h
    obtain ⟨x4, hx4, h⟩ := h
    refine gf_va_15 hx hb hts hown hK hG hW (gL_s hx4) d_va_has_9 ?_
    refine lc_lt (tgt := 56) hx hb d_va_has_12 d_va_has_13 (by decide) (fun c5 => ?_) (fun c5 => ?_)
    · rw [if_pos c5] at h
      exact j_va_has_56 C w h _ _ _ hW (lv_sub hl [] rfl)
    · rw [if_neg c5] at h
      refine lv_lload_n hx hb d_va_has_16 rfl (lv_at hl 1 rfl) ?_
      refine lv_aload_n hx hb d_va_has_17 rfl (lv_at hl 0 rfl) ?_
      replace h := bs h
      obtain ⟨x6, hx6, h⟩ := h
      refine gf_va_19 hx hb hts hown hK hG hW (gL_s hx6) d_va_has_18 ?_
      refine lc_gt (tgt := 56) hx hb d_va_has_21 d_va_has_22 (by decide) (fun c7 => ?_) (fun c7 => ?_)
      · rw [if_pos c7] at h
        exact j_va_has_56 C w h _ _ _ hW (lv_sub hl [] rfl)
      · rw [if_neg c7] at h
        refine lv_aload_n hx hb d_va_has_25 rfl (lv_at hl 0 rfl) ?_
        replace h := bs h
        obtain ⟨x8, hx8, h⟩ := h
        refine gf_va_22 hx hb hts hown hK hG hW (gL_s hx8) d_va_has_26 ?_
        refine lv_lconst (v := (0 : Int64)) hx hb d_va_has_29 (by decide) ?_
        refine lc_eq (tgt := 52) hx hb d_va_has_30 d_va_has_31 (by decide) (fun c9 => ?_) (fun c9 => ?_)
        · rw [if_pos c9] at h
          exact j_va_has_52 C w h _ _ _ hW (lv_sub hl [] rfl)
        · rw [if_neg c9] at h
          refine lv_lload_n hx hb d_va_has_34 rfl (lv_at hl 1 rfl) ?_
          refine lv_aload_n hx hb d_va_has_35 rfl (lv_at hl 0 rfl) ?_
          replace h := bs h
          obtain ⟨x10, hx10, h⟩ := h
          refine gf_va_25 hx hb hts hown hK hG hW (gL_s hx10) d_va_has_36 ?_
          refine lv_lsub hx hb d_va_has_39 ?_
          refine lv_aload_n hx hb d_va_has_40 rfl (lv_at hl 0 rfl) ?_
          replace h := bs h
          obtain ⟨x11, hx11, h⟩ := h
          refine gf_va_22 hx hb hts hown hK hG hW (gL_s hx11) d_va_has_41 ?_
          replace h := bs2 h
          obtain ⟨x13, w12, hw12, h⟩ := h
          refine cs_va_32 (As := [.long (a1 - x10), .long x11]) (rest := []) hx hb hml hown hts hK hG hW (c_ma_floorMod l D cA base hw12) ⟨Nat.le_of_ble_eq_true rfl, Nat.le_of_ble_eq_true rfl⟩ ⟨Nat.le_of_ble_eq_true rfl, Nat.le_of_ble_eq_true rfl⟩ rfl hl.1 rfl (Nat.le_of_ble_eq_true rfl) d_va_has_44 (fun H locs hW => ?_)
          refine lv_lconst (v := (0 : Int64)) hx hb d_va_has_47 (by decide) ?_
          refine lc_ne (tgt := 56) hx hb d_va_has_48 d_va_has_49 (by decide) (fun c14 => ?_) (fun c14 => ?_)
          · rw [if_neg c14] at h
            exact j_va_has_56 C w12 h _ _ _ hW (lv_sub hl [] rfl)
          · rw [if_pos c14] at h
            exact j_va_has_52 C w12 h _ _ _ hW (lv_sub hl [] rfl)
abbrev b_ma_min_JJ : ByteArray := prog_18_method_70_code
def y_ma_min_JJ : MethodName := ⟨"java/lang/Math", "min", "(JJ)J"⟩
def rm_ma_min_JJ : Room := { frames := 0, cells := 0, slots := 0, locals := 0 }
theorem d_ma_min_JJ_0 : decode b_ma_min_JJ 0 = .ok (.lload_n 0, 1) := by decide +kernel
theorem d_ma_min_JJ_1 : decode b_ma_min_JJ 1 = .ok (.lload_n 2, 1) := by decide +kernel
theorem d_ma_min_JJ_2 : decode b_ma_min_JJ 2 = .ok (.lcmp, 1) := by decide +kernel
theorem d_ma_min_JJ_3 : decode b_ma_min_JJ 3 = .ok (.ifCond .gt (7), 3) := by decide +kernel
theorem d_ma_min_JJ_6 : decode b_ma_min_JJ 6 = .ok (.lload_n 0, 1) := by decide +kernel
theorem d_ma_min_JJ_7 : decode b_ma_min_JJ 7 = .ok (.goto (4), 3) := by decide +kernel
theorem d_ma_min_JJ_10 : decode b_ma_min_JJ 10 = .ok (.lload_n 2, 1) := by decide +kernel
theorem d_ma_min_JJ_11 : decode b_ma_min_JJ 11 = .ok (.lreturn, 1) := by decide +kernel
def f_ma_min_JJ_11  (z0 : Int64) (w : WW) : Option (Int64 × WW) :=
  some (z0, w)
def f_ma_min_JJ (a0 : Int64) (a2 : Int64) (w : WW) : Option (Int64 × WW) :=
  if a2 < a0 then
    f_ma_min_JJ_11 a2 w
  else
    f_ma_min_JJ_11 a0 w
set_option maxHeartbeats 4000000 in
set_option maxRecDepth 100000 in
theorem j_ma_min_JJ_11 {p : Program} {l : Launch} {e : Env} {s : State} {m : MethodId} {args : Array Value} {below : List Frame} {meth : Method} {c : Code} {D : va_G} {cA : Nat → ClassId} {base : Nat} {r : Int64} {w' : WW} (C : cx b_ma_min_JJ (some .long) 4 y_ma_min_JJ.cls "min" p s m args meth c D cA base)   : ∀ (z0 : Int64) (w : WW), f_ma_min_JJ_11 z0 w = some (r, w') → ∀ (H : Heap) (locs : List Loc) (ls : Array Slot), wo_S D cls cA base s w H locs → lv_has ls 4 [] → W p l e rm_ma_min_JJ s m args below meth c H locs 0 0 (MQ below (wo_Q D cls cA base (some (.long r)) w') args s rm_ma_min_JJ.cells rm_ma_min_JJ.slots (wo_B base)) (F0 m 11 ls [.long z0]) := by
  obtain ⟨hx, hb, hr, hml, hown, hts, hlk, hnm, hK, hG⟩ := id C
  intro z0 w h H locs ls hW hl
  unfold f_ma_min_JJ_11 at h
  cases h
  exact wo_lret hx hb hr hlk hW d_ma_min_JJ_11
set_option maxHeartbeats 4000000 in
set_option maxRecDepth 100000 in
theorem c_ma_min_JJ (l : Launch) (D : va_G) (cA : Nat → ClassId) (base : Nat) {a0 : Int64} {a2 : Int64} {w w' : WW} {r : Int64} (h : f_ma_min_JJ a0 a2 w = some (r, w')) : mt l D cls (wo_tys cA) cA base y_ma_min_JJ (Cond.code y_ma_min_JJ b_ma_min_JJ 4 (some .long) :: gt) rm_ma_min_JJ [.long a0, .long a2] w (some (.long r)) w' rm_ma_min_JJ.cells rm_ma_min_JJ.slots := by
  refine mt_startF (by decide +kernel) (Nat.le_of_ble_eq_true rfl) ?_
  intro p e s m below meth c ls hx hb hr hml hown hts hlk hnm hK hG hW hl
  have C : cx b_ma_min_JJ (some .long) 4 y_ma_min_JJ.cls "min" p s m [.long a0, .long a2].toArray meth c D cA base := ⟨hx, hb, hr, hml, hown, hts, hlk, hnm, hK, hG⟩
  have hl : lv_has ls 4 [(0, .long a0), (2, .long a2)] := hl
  unfold f_ma_min_JJ at h
  refine lv_lload_n hx hb d_ma_min_JJ_0 rfl (lv_at hl 0 rfl) ?_
  refine lv_lload_n hx hb d_ma_min_JJ_1 rfl (lv_at hl 1 rfl) ?_
  refine lc_gt (tgt := 10) hx hb d_ma_min_JJ_2 d_ma_min_JJ_3 (by decide) (fun c1 => ?_) (fun c1 => ?_)
  · rw [if_pos c1] at h
    refine lv_lload_n hx hb d_ma_min_JJ_10 rfl (lv_at hl 1 rfl) ?_
    exact j_ma_min_JJ_11 C a2 w h _ _ _ hW (lv_sub hl [] rfl)
  · rw [if_neg c1] at h
    refine lv_lload_n hx hb d_ma_min_JJ_6 rfl (lv_at hl 0 rfl) ?_
    refine lv_goto (tgt := 11) hx hb d_ma_min_JJ_7 (by decide) ?_
    exact j_ma_min_JJ_11 C a0 w h _ _ _ hW (lv_sub hl [] rfl)
abbrev b_ma_max_JJ : ByteArray := prog_18_method_66_code
def y_ma_max_JJ : MethodName := ⟨"java/lang/Math", "max", "(JJ)J"⟩
def rm_ma_max_JJ : Room := { frames := 0, cells := 0, slots := 0, locals := 0 }
theorem d_ma_max_JJ_0 : decode b_ma_max_JJ 0 = .ok (.lload_n 0, 1) := by decide +kernel
theorem d_ma_max_JJ_1 : decode b_ma_max_JJ 1 = .ok (.lload_n 2, 1) := by decide +kernel
theorem d_ma_max_JJ_2 : decode b_ma_max_JJ 2 = .ok (.lcmp, 1) := by decide +kernel
theorem d_ma_max_JJ_3 : decode b_ma_max_JJ 3 = .ok (.ifCond .lt (7), 3) := by decide +kernel
theorem d_ma_max_JJ_6 : decode b_ma_max_JJ 6 = .ok (.lload_n 0, 1) := by decide +kernel
theorem d_ma_max_JJ_7 : decode b_ma_max_JJ 7 = .ok (.goto (4), 3) := by decide +kernel
theorem d_ma_max_JJ_10 : decode b_ma_max_JJ 10 = .ok (.lload_n 2, 1) := by decide +kernel
theorem d_ma_max_JJ_11 : decode b_ma_max_JJ 11 = .ok (.lreturn, 1) := by decide +kernel
def f_ma_max_JJ_11  (z0 : Int64) (w : WW) : Option (Int64 × WW) :=
  some (z0, w)
def f_ma_max_JJ (a0 : Int64) (a2 : Int64) (w : WW) : Option (Int64 × WW) :=
  if a0 < a2 then
    f_ma_max_JJ_11 a2 w
  else
    f_ma_max_JJ_11 a0 w
set_option maxHeartbeats 4000000 in
set_option maxRecDepth 100000 in
theorem j_ma_max_JJ_11 {p : Program} {l : Launch} {e : Env} {s : State} {m : MethodId} {args : Array Value} {below : List Frame} {meth : Method} {c : Code} {D : va_G} {cA : Nat → ClassId} {base : Nat} {r : Int64} {w' : WW} (C : cx b_ma_max_JJ (some .long) 4 y_ma_max_JJ.cls "max" p s m args meth c D cA base)   : ∀ (z0 : Int64) (w : WW), f_ma_max_JJ_11 z0 w = some (r, w') → ∀ (H : Heap) (locs : List Loc) (ls : Array Slot), wo_S D cls cA base s w H locs → lv_has ls 4 [] → W p l e rm_ma_max_JJ s m args below meth c H locs 0 0 (MQ below (wo_Q D cls cA base (some (.long r)) w') args s rm_ma_max_JJ.cells rm_ma_max_JJ.slots (wo_B base)) (F0 m 11 ls [.long z0]) := by
  obtain ⟨hx, hb, hr, hml, hown, hts, hlk, hnm, hK, hG⟩ := id C
  intro z0 w h H locs ls hW hl
  unfold f_ma_max_JJ_11 at h
  cases h
  exact wo_lret hx hb hr hlk hW d_ma_max_JJ_11
set_option maxHeartbeats 4000000 in
set_option maxRecDepth 100000 in
theorem c_ma_max_JJ (l : Launch) (D : va_G) (cA : Nat → ClassId) (base : Nat) {a0 : Int64} {a2 : Int64} {w w' : WW} {r : Int64} (h : f_ma_max_JJ a0 a2 w = some (r, w')) : mt l D cls (wo_tys cA) cA base y_ma_max_JJ (Cond.code y_ma_max_JJ b_ma_max_JJ 4 (some .long) :: gt) rm_ma_max_JJ [.long a0, .long a2] w (some (.long r)) w' rm_ma_max_JJ.cells rm_ma_max_JJ.slots := by
  refine mt_startF (by decide +kernel) (Nat.le_of_ble_eq_true rfl) ?_
  intro p e s m below meth c ls hx hb hr hml hown hts hlk hnm hK hG hW hl
  have C : cx b_ma_max_JJ (some .long) 4 y_ma_max_JJ.cls "max" p s m [.long a0, .long a2].toArray meth c D cA base := ⟨hx, hb, hr, hml, hown, hts, hlk, hnm, hK, hG⟩
  have hl : lv_has ls 4 [(0, .long a0), (2, .long a2)] := hl
  unfold f_ma_max_JJ at h
  refine lv_lload_n hx hb d_ma_max_JJ_0 rfl (lv_at hl 0 rfl) ?_
  refine lv_lload_n hx hb d_ma_max_JJ_1 rfl (lv_at hl 1 rfl) ?_
  refine lc_lt (tgt := 10) hx hb d_ma_max_JJ_2 d_ma_max_JJ_3 (by decide) (fun c1 => ?_) (fun c1 => ?_)
  · rw [if_pos c1] at h
    refine lv_lload_n hx hb d_ma_max_JJ_10 rfl (lv_at hl 1 rfl) ?_
    exact j_ma_max_JJ_11 C a2 w h _ _ _ hW (lv_sub hl [] rfl)
  · rw [if_neg c1] at h
    refine lv_lload_n hx hb d_ma_max_JJ_6 rfl (lv_at hl 0 rfl) ?_
    refine lv_goto (tgt := 11) hx hb d_ma_max_JJ_7 (by decide) ?_
    exact j_ma_max_JJ_11 C a0 w h _ _ _ hW (lv_sub hl [] rfl)
abbrev b_ma_abs : ByteArray := prog_18_method_61_code
def y_ma_abs : MethodName := ⟨"java/lang/Math", "abs", "(J)J"⟩
def rm_ma_abs : Room := { frames := 0, cells := 0, slots := 0, locals := 0 }
theorem d_ma_abs_0 : decode b_ma_abs 0 = .ok (.lload_n 0, 1) := by decide +kernel
theorem d_ma_abs_1 : decode b_ma_abs 1 = .ok (.lconst 0, 1) := by decide +kernel
theorem d_ma_abs_2 : decode b_ma_abs 2 = .ok (.lcmp, 1) := by decide +kernel
theorem d_ma_abs_3 : decode b_ma_abs 3 = .ok (.ifCond .ge (8), 3) := by decide +kernel
theorem d_ma_abs_6 : decode b_ma_abs 6 = .ok (.lload_n 0, 1) := by decide +kernel
theorem d_ma_abs_7 : decode b_ma_abs 7 = .ok (.lneg, 1) := by decide +kernel
theorem d_ma_abs_8 : decode b_ma_abs 8 = .ok (.goto (4), 3) := by decide +kernel
theorem d_ma_abs_11 : decode b_ma_abs 11 = .ok (.lload_n 0, 1) := by decide +kernel
theorem d_ma_abs_12 : decode b_ma_abs 12 = .ok (.lreturn, 1) := by decide +kernel
def f_ma_abs_12  (z0 : Int64) (w : WW) : Option (Int64 × WW) :=
  some (z0, w)
def f_ma_abs (a0 : Int64) (w : WW) : Option (Int64 × WW) :=
  if (0 : Int64) ≤ a0 then
    f_ma_abs_12 a0 w
  else
    f_ma_abs_12 (-a0) w
set_option maxHeartbeats 4000000 in
set_option maxRecDepth 100000 in
theorem j_ma_abs_12 {p : Program} {l : Launch} {e : Env} {s : State} {m : MethodId} {args : Array Value} {below : List Frame} {meth : Method} {c : Code} {D : va_G} {cA : Nat → ClassId} {base : Nat} {r : Int64} {w' : WW} (C : cx b_ma_abs (some .long) 2 y_ma_abs.cls "abs" p s m args meth c D cA base)   : ∀ (z0 : Int64) (w : WW), f_ma_abs_12 z0 w = some (r, w') → ∀ (H : Heap) (locs : List Loc) (ls : Array Slot), wo_S D cls cA base s w H locs → lv_has ls 2 [] → W p l e rm_ma_abs s m args below meth c H locs 0 0 (MQ below (wo_Q D cls cA base (some (.long r)) w') args s rm_ma_abs.cells rm_ma_abs.slots (wo_B base)) (F0 m 12 ls [.long z0]) := by
  obtain ⟨hx, hb, hr, hml, hown, hts, hlk, hnm, hK, hG⟩ := id C
  intro z0 w h H locs ls hW hl
  unfold f_ma_abs_12 at h
  cases h
  exact wo_lret hx hb hr hlk hW d_ma_abs_12
set_option maxHeartbeats 4000000 in
set_option maxRecDepth 100000 in
theorem c_ma_abs (l : Launch) (D : va_G) (cA : Nat → ClassId) (base : Nat) {a0 : Int64} {w w' : WW} {r : Int64} (h : f_ma_abs a0 w = some (r, w')) : mt l D cls (wo_tys cA) cA base y_ma_abs (Cond.code y_ma_abs b_ma_abs 2 (some .long) :: gt) rm_ma_abs [.long a0] w (some (.long r)) w' rm_ma_abs.cells rm_ma_abs.slots := by
  refine mt_startF (by decide +kernel) (Nat.le_of_ble_eq_true rfl) ?_
  intro p e s m below meth c ls hx hb hr hml hown hts hlk hnm hK hG hW hl
  have C : cx b_ma_abs (some .long) 2 y_ma_abs.cls "abs" p s m [.long a0].toArray meth c D cA base := ⟨hx, hb, hr, hml, hown, hts, hlk, hnm, hK, hG⟩
  have hl : lv_has ls 2 [(0, .long a0)] := hl
  unfold f_ma_abs at h
  refine lv_lload_n hx hb d_ma_abs_0 rfl (lv_at hl 0 rfl) ?_
  refine lv_lconst (v := (0 : Int64)) hx hb d_ma_abs_1 (by decide) ?_
  refine lc_ge (tgt := 11) hx hb d_ma_abs_2 d_ma_abs_3 (by decide) (fun c1 => ?_) (fun c1 => ?_)
  · rw [if_pos c1] at h
    refine lv_lload_n hx hb d_ma_abs_11 rfl (lv_at hl 0 rfl) ?_
    exact j_ma_abs_12 C a0 w h _ _ _ hW (lv_sub hl [] rfl)
  · rw [if_neg c1] at h
    refine lv_lload_n hx hb d_ma_abs_6 rfl (lv_at hl 0 rfl) ?_
    refine lv_lneg hx hb d_ma_abs_7 ?_
    refine lv_goto (tgt := 12) hx hb d_ma_abs_8 (by decide) ?_
    exact j_ma_abs_12 C (-a0) w h _ _ _ hW (lv_sub hl [] rfl)
theorem cs_va_40 {p : Program} {l : Launch} {e : Env} {R : Room} {s : State} {m : MethodId} {args : Array Value} {below : List Frame} {meth : Method} {c : Code} {H : Heap} {locs : List Loc} {cells slots : Nat} {Q : State → Prop} {D : va_G} {cA : Nat → ClassId} {base : Nat} {w w' : WW} {cc : ByteArray} {pc nL : Nat} {ls : Array Slot} {rest st0 As : List Value} {ov : Option Value} (hx : p.tables.exec = Jvm.exec) (hb : c.code = cc) (hml : c.maxLocals = nL) (hown : s.vm.findClass Rc_va = some m.cls) (hts : ∀ w ∈ gt, w.before args s = true) (hK : va_K D cls (wo_tys cA) s) (hG : wo_G base s) (hW : wo_S D cls cA base s w H locs) (hM : mt l D cls (wo_tys cA) cA base y_ma_abs (Cond.code y_ma_abs b_ma_abs 2 (some .long) :: gt) rm_ma_abs (As) w ov w' rm_ma_abs.cells rm_ma_abs.slots) (hR : rm_ma_abs.frames + 1 ≤ R.frames ∧ 8 + (2 + 11) + rm_ma_abs.locals ≤ R.locals) (hf : cells + rm_ma_abs.cells ≤ R.cells ∧ slots + rm_ma_abs.slots ≤ R.slots) (hn : As.length = 1) (hsz : ls.size = nL) (hst : st0 = As.reverse ++ rest) (hcat : (rest.map fun v => v.category).sum ≤ 8) (hdg : decode cc pc = .ok (.invokestatic 40, 3)) (kk : ∀ (H1 : Heap) (locs1 : List Loc), wo_S D cls cA base s w' H1 locs1 → W p l e R s m args below meth c H1 locs1 (cells + rm_ma_abs.cells) (slots + rm_ma_abs.slots) Q (F0 m (pc + 3) ls (ov.toList ++ rest))) : W p l e R s m args below meth c H locs cells slots Q (F0 m pc ls st0) :=
  wo_callS hx hb hml hown hts hK hG hW hM (gt_of (i := 962) (by decide +kernel) (by decide +kernel)) (gt_of (i := 963) (by decide +kernel) (by decide +kernel)) (gt_of (i := 20) (by decide +kernel) (by decide +kernel)) (gt_of (i := 964) (by decide +kernel) (by decide +kernel)) (by decide +kernel) hR hf hn hsz hst hcat hdg kk
abbrev b_va_commonDivisor : ByteArray := prog_9_method_11_code
def y_va_commonDivisor : MethodName := ⟨"AlarmForge$Value", "commonDivisor", "(JJ)J"⟩
def rm_va_commonDivisor : Room := { frames := 1, cells := 0, slots := 0, locals := 21 }
theorem d_va_commonDivisor_0 : decode b_va_commonDivisor 0 = .ok (.lload_n 0, 1) := by decide +kernel
theorem d_va_commonDivisor_1 : decode b_va_commonDivisor 1 = .ok (.invokestatic 40, 3) := by decide +kernel
theorem d_va_commonDivisor_4 : decode b_va_commonDivisor 4 = .ok (.lstore 4, 2) := by decide +kernel
theorem d_va_commonDivisor_6 : decode b_va_commonDivisor 6 = .ok (.lload_n 2, 1) := by decide +kernel
theorem d_va_commonDivisor_7 : decode b_va_commonDivisor 7 = .ok (.invokestatic 40, 3) := by decide +kernel
theorem d_va_commonDivisor_10 : decode b_va_commonDivisor 10 = .ok (.lstore 6, 2) := by decide +kernel
theorem d_va_commonDivisor_12 : decode b_va_commonDivisor 12 = .ok (.iconst 0, 1) := by decide +kernel
theorem d_va_commonDivisor_13 : decode b_va_commonDivisor 13 = .ok (.istore 8, 2) := by decide +kernel
theorem d_va_commonDivisor_15 : decode b_va_commonDivisor 15 = .ok (.iload 8, 2) := by decide +kernel
theorem d_va_commonDivisor_17 : decode b_va_commonDivisor 17 = .ok (.bipush (100), 2) := by decide +kernel
theorem d_va_commonDivisor_19 : decode b_va_commonDivisor 19 = .ok (.if_icmp .ge (31), 3) := by decide +kernel
theorem d_va_commonDivisor_22 : decode b_va_commonDivisor 22 = .ok (.lload 6, 2) := by decide +kernel
theorem d_va_commonDivisor_24 : decode b_va_commonDivisor 24 = .ok (.lconst 0, 1) := by decide +kernel
theorem d_va_commonDivisor_25 : decode b_va_commonDivisor 25 = .ok (.lcmp, 1) := by decide +kernel
theorem d_va_commonDivisor_26 : decode b_va_commonDivisor 26 = .ok (.ifCond .eq (24), 3) := by decide +kernel
theorem d_va_commonDivisor_29 : decode b_va_commonDivisor 29 = .ok (.lload 4, 2) := by decide +kernel
theorem d_va_commonDivisor_31 : decode b_va_commonDivisor 31 = .ok (.lload 6, 2) := by decide +kernel
theorem d_va_commonDivisor_33 : decode b_va_commonDivisor 33 = .ok (.lrem, 1) := by decide +kernel
theorem d_va_commonDivisor_34 : decode b_va_commonDivisor 34 = .ok (.lstore 9, 2) := by decide +kernel
theorem d_va_commonDivisor_36 : decode b_va_commonDivisor 36 = .ok (.lload 6, 2) := by decide +kernel
theorem d_va_commonDivisor_38 : decode b_va_commonDivisor 38 = .ok (.lstore 4, 2) := by decide +kernel
theorem d_va_commonDivisor_40 : decode b_va_commonDivisor 40 = .ok (.lload 9, 2) := by decide +kernel
theorem d_va_commonDivisor_42 : decode b_va_commonDivisor 42 = .ok (.lstore 6, 2) := by decide +kernel
theorem d_va_commonDivisor_44 : decode b_va_commonDivisor 44 = .ok (.iinc 8 (1), 3) := by decide +kernel
theorem d_va_commonDivisor_47 : decode b_va_commonDivisor 47 = .ok (.goto (-32), 3) := by decide +kernel
theorem d_va_commonDivisor_50 : decode b_va_commonDivisor 50 = .ok (.lload 4, 2) := by decide +kernel
theorem d_va_commonDivisor_52 : decode b_va_commonDivisor 52 = .ok (.lreturn, 1) := by decide +kernel
def f_va_commonDivisor_50  (y4 : Int64) (w : WW) : Option (Int64 × WW) :=
  some (y4, w)
def f_va_commonDivisor_15  : Nat → Int64 → Int64 → Int32 → WW → Option (Int64 × WW)
  | 0, _, _, _, _ => none
  | n + 1, y4, y6, y8, w =>
    if (100 : Int32) ≤ y8 then
      f_va_commonDivisor_50 y4 w
    else
      if y6 = (0 : Int64) then
        f_va_commonDivisor_50 y4 w
      else
        if ¬ y6 = 0 then
          f_va_commonDivisor_15 n y6 (y4 - y4 / y6 * y6) (y8 + (1 : Int32)) w
        else none
def f_va_commonDivisor (a0 : Int64) (a2 : Int64) (w : WW) : Option (Int64 × WW) :=
  bd2 (f_ma_abs a0 w) fun x2 w1 =>
  bd2 (f_ma_abs a2 w1) fun x4 w3 =>
  f_va_commonDivisor_15 KK x2 x4 (0 : Int32) w3
set_option maxHeartbeats 4000000 in
set_option maxRecDepth 100000 in
theorem j_va_commonDivisor_50 {p : Program} {l : Launch} {e : Env} {s : State} {m : MethodId} {args : Array Value} {below : List Frame} {meth : Method} {c : Code} {D : va_G} {cA : Nat → ClassId} {base : Nat} {r : Int64} {w' : WW} (C : cx b_va_commonDivisor (some .long) 11 y_va_commonDivisor.cls "commonDivisor" p s m args meth c D cA base)   : ∀ (y4 : Int64) (w : WW), f_va_commonDivisor_50 y4 w = some (r, w') → ∀ (H : Heap) (locs : List Loc) (ls : Array Slot), wo_S D cls cA base s w H locs → lv_has ls 11 [(4, .long y4)] → W p l e rm_va_commonDivisor s m args below meth c H locs 0 0 (MQ below (wo_Q D cls cA base (some (.long r)) w') args s rm_va_commonDivisor.cells rm_va_commonDivisor.slots (wo_B base)) (F0 m 50 ls []) := by
  obtain ⟨hx, hb, hr, hml, hown, hts, hlk, hnm, hK, hG⟩ := id C
  intro y4 w h H locs ls hW hl
  unfold f_va_commonDivisor_50 at h
  refine lv_lload hx hb d_va_commonDivisor_50 (lv_at hl 0 rfl) ?_
  cases h
  exact wo_lret hx hb hr hlk hW d_va_commonDivisor_52
set_option maxHeartbeats 4000000 in
set_option maxRecDepth 100000 in
theorem j_va_commonDivisor_15 {p : Program} {l : Launch} {e : Env} {s : State} {m : MethodId} {args : Array Value} {below : List Frame} {meth : Method} {c : Code} {D : va_G} {cA : Nat → ClassId} {base : Nat} {r : Int64} {w' : WW} (C : cx b_va_commonDivisor (some .long) 11 y_va_commonDivisor.cls "commonDivisor" p s m args meth c D cA base)   : ∀ n : Nat, ∀ (y4 : Int64) (y6 : Int64) (y8 : Int32) (w : WW), f_va_commonDivisor_15 n y4 y6 y8 w = some (r, w') → ∀ (H : Heap) (locs : List Loc) (ls : Array Slot), wo_S D cls cA base s w H locs → lv_has ls 11 [(4, .long y4), (6, .long y6), (8, .int y8)] → W p l e rm_va_commonDivisor s m args below meth c H locs 0 0 (MQ below (wo_Q D cls cA base (some (.long r)) w') args s rm_va_commonDivisor.cells rm_va_commonDivisor.slots (wo_B base)) (F0 m 15 ls []) := by
  obtain ⟨hx, hb, hr, hml, hown, hts, hlk, hnm, hK, hG⟩ := id C
  intro n
  induction n with
  | zero => intro y4 y6 y8 w h; cases h
  | succ n ih =>
    intro y4 y6 y8 w h H locs ls hW hl
    rw [f_va_commonDivisor_15] at h
    refine lv_iload hx hb d_va_commonDivisor_15 (lv_at hl 2 rfl) ?_
    refine lv_bipush (v := (100 : Int32)) hx hb d_va_commonDivisor_17 (by decide) ?_
    refine lv_icmp_ge (tgt := 50) hx hb d_va_commonDivisor_19 (by decide) (fun c5 => ?_) (fun c5 => ?_)
    · rw [if_pos c5] at h
      exact j_va_commonDivisor_50 C y4 w h _ _ _ hW (lv_sub hl [0] rfl)
    · rw [if_neg c5] at h
      refine lv_lload hx hb d_va_commonDivisor_22 (lv_at hl 1 rfl) ?_
      refine lv_lconst (v := (0 : Int64)) hx hb d_va_commonDivisor_24 (by decide) ?_
      refine lc_eq (tgt := 50) hx hb d_va_commonDivisor_25 d_va_commonDivisor_26 (by decide) (fun c6 => ?_) (fun c6 => ?_)
      · rw [if_pos c6] at h
        exact j_va_commonDivisor_50 C y4 w h _ _ _ hW (lv_sub hl [0] rfl)
      · rw [if_neg c6] at h
        refine lv_lload hx hb d_va_commonDivisor_29 (lv_at hl 0 rfl) ?_
        refine lv_lload hx hb d_va_commonDivisor_31 (lv_at hl 1 rfl) ?_
        replace h := its h
        obtain ⟨c7, h⟩ := h
        refine lv_lrem hx hb d_va_commonDivisor_33 c7 ?_
        refine lv_lstore (lv' := [(9, .long (y4 - y4 / y6 * y6)), (4, .long y4), (6, .long y6), (8, .int y8)]) hx hb d_va_commonDivisor_34 hl (by decide) rfl (fun ls hl => ?_)
        refine lv_lload hx hb d_va_commonDivisor_36 (lv_at hl 2 rfl) ?_
        refine lv_lstore (lv' := [(4, .long y6), (9, .long (y4 - y4 / y6 * y6)), (6, .long y6), (8, .int y8)]) hx hb d_va_commonDivisor_38 hl (by decide) rfl (fun ls hl => ?_)
        refine lv_lload hx hb d_va_commonDivisor_40 (lv_at hl 1 rfl) ?_
        refine lv_lstore (lv' := [(6, .long (y4 - y4 / y6 * y6)), (4, .long y6), (9, .long (y4 - y4 / y6 * y6)), (8, .int y8)]) hx hb d_va_commonDivisor_42 hl (by decide) rfl (fun ls hl => ?_)
        refine lv_iinc (v := (y8 + (1 : Int32))) (lv' := [(8, .int (y8 + (1 : Int32))), (6, .long (y4 - y4 / y6 * y6)), (4, .long y6), (9, .long (y4 - y4 / y6 * y6))]) hx hb d_va_commonDivisor_44 hl (k := 3) rfl rfl (by decide) rfl (fun ls hl => ?_)
        refine lv_goto (tgt := 15) hx hb d_va_commonDivisor_47 (by decide) ?_
        exact ih y6 (y4 - y4 / y6 * y6) (y8 + (1 : Int32)) w h _ _ _ hW (lv_sub hl [2, 1, 0] rfl)
set_option maxHeartbeats 4000000 in
set_option maxRecDepth 100000 in
theorem c_va_commonDivisor (l : Launch) (D : va_G) (cA : Nat → ClassId) (base : Nat) {a0 : Int64} {a2 : Int64} {w w' : WW} {r : Int64} (h : f_va_commonDivisor a0 a2 w = some (r, w')) : mt l D cls (wo_tys cA) cA base y_va_commonDivisor (Cond.code y_va_commonDivisor b_va_commonDivisor 11 (some .long) :: gt) rm_va_commonDivisor [.long a0, .long a2] w (some (.long r)) w' rm_va_commonDivisor.cells rm_va_commonDivisor.slots := by
  refine mt_start (by decide) (Nat.le_of_ble_eq_true rfl) ?_
  intro p e s m below meth c ls hx hb hr hml hown hts hlk hnm hK hG hW hl
  have C : cx b_va_commonDivisor (some .long) 11 y_va_commonDivisor.cls "commonDivisor" p s m [.long a0, .long a2].toArray meth c D cA base := ⟨hx, hb, hr, hml, hown, hts, hlk, hnm, hK, hG⟩
  have hl : lv_has ls 11 [(0, .long a0), (2, .long a2)] := hl
  unfold f_va_commonDivisor at h
  refine lv_lload_n hx hb d_va_commonDivisor_0 rfl (lv_at hl 0 rfl) ?_
  replace h := bs2 h
  obtain ⟨x2, w1, hw1, h⟩ := h
  refine cs_va_40 (As := [.long a0]) (rest := []) hx hb hml hown hts hK hG hW (c_ma_abs l D cA base hw1) ⟨Nat.le_of_ble_eq_true rfl, Nat.le_of_ble_eq_true rfl⟩ ⟨Nat.le_of_ble_eq_true rfl, Nat.le_of_ble_eq_true rfl⟩ rfl hl.1 rfl (Nat.le_of_ble_eq_true rfl) d_va_commonDivisor_1 (fun H locs hW => ?_)
  refine lv_lstore (lv' := [(4, .long x2), (0, .long a0), (2, .long a2)]) hx hb d_va_commonDivisor_4 hl (by decide) rfl (fun ls hl => ?_)
  refine lv_lload_n hx hb d_va_commonDivisor_6 rfl (lv_at hl 2 rfl) ?_
  replace h := bs2 h
  obtain ⟨x4, w3, hw3, h⟩ := h
  refine cs_va_40 (As := [.long a2]) (rest := []) hx hb hml hown hts hK hG hW (c_ma_abs l D cA base hw3) ⟨Nat.le_of_ble_eq_true rfl, Nat.le_of_ble_eq_true rfl⟩ ⟨Nat.le_of_ble_eq_true rfl, Nat.le_of_ble_eq_true rfl⟩ rfl hl.1 rfl (Nat.le_of_ble_eq_true rfl) d_va_commonDivisor_7 (fun H locs hW => ?_)
  refine lv_lstore (lv' := [(6, .long x4), (4, .long x2), (0, .long a0), (2, .long a2)]) hx hb d_va_commonDivisor_10 hl (by decide) rfl (fun ls hl => ?_)
  refine lv_iconst (v := (0 : Int32)) hx hb d_va_commonDivisor_12 (by decide) ?_
  refine lv_istore (lv' := [(8, .int (0 : Int32)), (6, .long x4), (4, .long x2), (0, .long a0), (2, .long a2)]) hx hb d_va_commonDivisor_13 hl (by decide) rfl (fun ls hl => ?_)
  exact j_va_commonDivisor_15 C KK x2 x4 (0 : Int32) w3 h _ _ _ hW (lv_sub hl [2, 1, 0] rfl)
abbrev b_va_restBy : ByteArray := prog_9_method_10_code
def y_va_restBy : MethodName := ⟨"AlarmForge$Value", "restBy", "(JJ)J"⟩
def rm_va_restBy : Room := { frames := 1, cells := 0, slots := 0, locals := 25 }
theorem d_va_restBy_0 : decode b_va_restBy 0 = .ok (.lload_n 2, 1) := by decide +kernel
theorem d_va_restBy_1 : decode b_va_restBy 1 = .ok (.lconst 0, 1) := by decide +kernel
theorem d_va_restBy_2 : decode b_va_restBy 2 = .ok (.lcmp, 1) := by decide +kernel
theorem d_va_restBy_3 : decode b_va_restBy 3 = .ok (.ifCond .ne (7), 3) := by decide +kernel
theorem d_va_restBy_6 : decode b_va_restBy 6 = .ok (.lload_n 0, 1) := by decide +kernel
theorem d_va_restBy_7 : decode b_va_restBy 7 = .ok (.goto (8), 3) := by decide +kernel
theorem d_va_restBy_10 : decode b_va_restBy 10 = .ok (.lload_n 0, 1) := by decide +kernel
theorem d_va_restBy_11 : decode b_va_restBy 11 = .ok (.lload_n 2, 1) := by decide +kernel
theorem d_va_restBy_12 : decode b_va_restBy 12 = .ok (.invokestatic 32, 3) := by decide +kernel
theorem d_va_restBy_15 : decode b_va_restBy 15 = .ok (.lreturn, 1) := by decide +kernel
def f_va_restBy_15  (z0 : Int64) (w : WW) : Option (Int64 × WW) :=
  some (z0, w)
def f_va_restBy (a0 : Int64) (a2 : Int64) (w : WW) : Option (Int64 × WW) :=
  if a2 = (0 : Int64) then
    f_va_restBy_15 a0 w
  else
    bd2 (f_ma_floorMod a0 a2 w) fun x3 w2 =>
    f_va_restBy_15 x3 w2
set_option maxHeartbeats 4000000 in
set_option maxRecDepth 100000 in
theorem j_va_restBy_15 {p : Program} {l : Launch} {e : Env} {s : State} {m : MethodId} {args : Array Value} {below : List Frame} {meth : Method} {c : Code} {D : va_G} {cA : Nat → ClassId} {base : Nat} {r : Int64} {w' : WW} (C : cx b_va_restBy (some .long) 4 y_va_restBy.cls "restBy" p s m args meth c D cA base)   : ∀ (z0 : Int64) (w : WW), f_va_restBy_15 z0 w = some (r, w') → ∀ (H : Heap) (locs : List Loc) (ls : Array Slot), wo_S D cls cA base s w H locs → lv_has ls 4 [] → W p l e rm_va_restBy s m args below meth c H locs 0 0 (MQ below (wo_Q D cls cA base (some (.long r)) w') args s rm_va_restBy.cells rm_va_restBy.slots (wo_B base)) (F0 m 15 ls [.long z0]) := by
  obtain ⟨hx, hb, hr, hml, hown, hts, hlk, hnm, hK, hG⟩ := id C
  intro z0 w h H locs ls hW hl
  unfold f_va_restBy_15 at h
  cases h
  exact wo_lret hx hb hr hlk hW d_va_restBy_15
set_option maxHeartbeats 4000000 in
set_option maxRecDepth 100000 in
theorem c_va_restBy (l : Launch) (D : va_G) (cA : Nat → ClassId) (base : Nat) {a0 : Int64} {a2 : Int64} {w w' : WW} {r : Int64} (h : f_va_restBy a0 a2 w = some (r, w')) : mt l D cls (wo_tys cA) cA base y_va_restBy (Cond.code y_va_restBy b_va_restBy 4 (some .long) :: gt) rm_va_restBy [.long a0, .long a2] w (some (.long r)) w' rm_va_restBy.cells rm_va_restBy.slots := by
  refine mt_start (by decide) (Nat.le_of_ble_eq_true rfl) ?_
  intro p e s m below meth c ls hx hb hr hml hown hts hlk hnm hK hG hW hl
  have C : cx b_va_restBy (some .long) 4 y_va_restBy.cls "restBy" p s m [.long a0, .long a2].toArray meth c D cA base := ⟨hx, hb, hr, hml, hown, hts, hlk, hnm, hK, hG⟩
  have hl : lv_has ls 4 [(0, .long a0), (2, .long a2)] := hl
  unfold f_va_restBy at h
  refine lv_lload_n hx hb d_va_restBy_0 rfl (lv_at hl 1 rfl) ?_
  refine lv_lconst (v := (0 : Int64)) hx hb d_va_restBy_1 (by decide) ?_
  refine lc_ne (tgt := 10) hx hb d_va_restBy_2 d_va_restBy_3 (by decide) (fun c1 => ?_) (fun c1 => ?_)
  · rw [if_neg c1] at h
    refine lv_lload_n hx hb d_va_restBy_10 rfl (lv_at hl 0 rfl) ?_
    refine lv_lload_n hx hb d_va_restBy_11 rfl (lv_at hl 1 rfl) ?_
    replace h := bs2 h
    obtain ⟨x3, w2, hw2, h⟩ := h
    refine cs_va_32 (As := [.long a0, .long a2]) (rest := []) hx hb hml hown hts hK hG hW (c_ma_floorMod l D cA base hw2) ⟨Nat.le_of_ble_eq_true rfl, Nat.le_of_ble_eq_true rfl⟩ ⟨Nat.le_of_ble_eq_true rfl, Nat.le_of_ble_eq_true rfl⟩ rfl hl.1 rfl (Nat.le_of_ble_eq_true rfl) d_va_restBy_12 (fun H locs hW => ?_)
    exact j_va_restBy_15 C x3 w2 h _ _ _ hW (lv_sub hl [] rfl)
  · rw [if_pos c1] at h
    refine lv_lload_n hx hb d_va_restBy_6 rfl (lv_at hl 0 rfl) ?_
    refine lv_goto (tgt := 15) hx hb d_va_restBy_7 (by decide) ?_
    exact j_va_restBy_15 C a0 w h _ _ _ hW (lv_sub hl [] rfl)
theorem cs_va_44 {p : Program} {l : Launch} {e : Env} {R : Room} {s : State} {m : MethodId} {args : Array Value} {below : List Frame} {meth : Method} {c : Code} {H : Heap} {locs : List Loc} {cells slots : Nat} {Q : State → Prop} {D : va_G} {cA : Nat → ClassId} {base : Nat} {w w' : WW} {cc : ByteArray} {pc nL : Nat} {ls : Array Slot} {rest st0 As : List Value} {ov : Option Value} (hx : p.tables.exec = Jvm.exec) (hb : c.code = cc) (hml : c.maxLocals = nL) (hown : s.vm.findClass Rc_va = some m.cls) (hts : ∀ w ∈ gt, w.before args s = true) (hK : va_K D cls (wo_tys cA) s) (hG : wo_G base s) (hW : wo_S D cls cA base s w H locs) (hM : mt l D cls (wo_tys cA) cA base y_ma_max_JJ (Cond.code y_ma_max_JJ b_ma_max_JJ 4 (some .long) :: gt) rm_ma_max_JJ (As) w ov w' rm_ma_max_JJ.cells rm_ma_max_JJ.slots) (hR : rm_ma_max_JJ.frames + 1 ≤ R.frames ∧ 8 + (4 + 11) + rm_ma_max_JJ.locals ≤ R.locals) (hf : cells + rm_ma_max_JJ.cells ≤ R.cells ∧ slots + rm_ma_max_JJ.slots ≤ R.slots) (hn : As.length = 2) (hsz : ls.size = nL) (hst : st0 = As.reverse ++ rest) (hcat : (rest.map fun v => v.category).sum ≤ 8) (hdg : decode cc pc = .ok (.invokestatic 44, 3)) (kk : ∀ (H1 : Heap) (locs1 : List Loc), wo_S D cls cA base s w' H1 locs1 → W p l e R s m args below meth c H1 locs1 (cells + rm_ma_max_JJ.cells) (slots + rm_ma_max_JJ.slots) Q (F0 m (pc + 3) ls (ov.toList ++ rest))) : W p l e R s m args below meth c H locs cells slots Q (F0 m pc ls st0) :=
  wo_callS hx hb hml hown hts hK hG hW hM (gt_of (i := 956) (by decide +kernel) (by decide +kernel)) (gt_of (i := 957) (by decide +kernel) (by decide +kernel)) (gt_of (i := 20) (by decide +kernel) (by decide +kernel)) (gt_of (i := 958) (by decide +kernel) (by decide +kernel)) (by decide +kernel) hR hf hn hsz hst hcat hdg kk
theorem cs_va_47 {p : Program} {l : Launch} {e : Env} {R : Room} {s : State} {m : MethodId} {args : Array Value} {below : List Frame} {meth : Method} {c : Code} {H : Heap} {locs : List Loc} {cells slots : Nat} {Q : State → Prop} {D : va_G} {cA : Nat → ClassId} {base : Nat} {w w' : WW} {cc : ByteArray} {pc nL : Nat} {ls : Array Slot} {rest st0 As : List Value} {ov : Option Value} (hx : p.tables.exec = Jvm.exec) (hb : c.code = cc) (hml : c.maxLocals = nL) (hown : s.vm.findClass Rc_va = some m.cls) (hts : ∀ w ∈ gt, w.before args s = true) (hK : va_K D cls (wo_tys cA) s) (hG : wo_G base s) (hW : wo_S D cls cA base s w H locs) (hM : mt l D cls (wo_tys cA) cA base y_ma_min_JJ (Cond.code y_ma_min_JJ b_ma_min_JJ 4 (some .long) :: gt) rm_ma_min_JJ (As) w ov w' rm_ma_min_JJ.cells rm_ma_min_JJ.slots) (hR : rm_ma_min_JJ.frames + 1 ≤ R.frames ∧ 8 + (4 + 11) + rm_ma_min_JJ.locals ≤ R.locals) (hf : cells + rm_ma_min_JJ.cells ≤ R.cells ∧ slots + rm_ma_min_JJ.slots ≤ R.slots) (hn : As.length = 2) (hsz : ls.size = nL) (hst : st0 = As.reverse ++ rest) (hcat : (rest.map fun v => v.category).sum ≤ 8) (hdg : decode cc pc = .ok (.invokestatic 47, 3)) (kk : ∀ (H1 : Heap) (locs1 : List Loc), wo_S D cls cA base s w' H1 locs1 → W p l e R s m args below meth c H1 locs1 (cells + rm_ma_min_JJ.cells) (slots + rm_ma_min_JJ.slots) Q (F0 m (pc + 3) ls (ov.toList ++ rest))) : W p l e R s m args below meth c H locs cells slots Q (F0 m pc ls st0) :=
  wo_callS hx hb hml hown hts hK hG hW hM (gt_of (i := 953) (by decide +kernel) (by decide +kernel)) (gt_of (i := 954) (by decide +kernel) (by decide +kernel)) (gt_of (i := 20) (by decide +kernel) (by decide +kernel)) (gt_of (i := 955) (by decide +kernel) (by decide +kernel)) (by decide +kernel) hR hf hn hsz hst hcat hdg kk
abbrev b_va_putTight : ByteArray := prog_9_method_12_code
def y_va_putTight : MethodName := ⟨"AlarmForge$Value", "putTight", "()Z"⟩
def rm_va_putTight : Room := { frames := 1, cells := 0, slots := 0, locals := 25 }
theorem d_va_putTight_0 : decode b_va_putTight 0 = .ok (.aload_n 0, 1) := by decide +kernel
theorem d_va_putTight_1 : decode b_va_putTight 1 = .ok (.getfield 15, 3) := by decide +kernel
theorem d_va_putTight_4 : decode b_va_putTight 4 = .ok (.ldc2_w 28, 3) := by decide +kernel
theorem d_va_putTight_7 : decode b_va_putTight 7 = .ok (.lcmp, 1) := by decide +kernel
theorem d_va_putTight_8 : decode b_va_putTight 8 = .ok (.ifCond .lt (14), 3) := by decide +kernel
theorem d_va_putTight_11 : decode b_va_putTight 11 = .ok (.aload_n 0, 1) := by decide +kernel
theorem d_va_putTight_12 : decode b_va_putTight 12 = .ok (.getfield 19, 3) := by decide +kernel
theorem d_va_putTight_15 : decode b_va_putTight 15 = .ok (.ldc2_w 30, 3) := by decide +kernel
theorem d_va_putTight_18 : decode b_va_putTight 18 = .ok (.lcmp, 1) := by decide +kernel
theorem d_va_putTight_19 : decode b_va_putTight 19 = .ok (.ifCond .le (7), 3) := by decide +kernel
theorem d_va_putTight_22 : decode b_va_putTight 22 = .ok (.iconst 1, 1) := by decide +kernel
theorem d_va_putTight_23 : decode b_va_putTight 23 = .ok (.goto (4), 3) := by decide +kernel
theorem d_va_putTight_26 : decode b_va_putTight 26 = .ok (.iconst 0, 1) := by decide +kernel
theorem d_va_putTight_27 : decode b_va_putTight 27 = .ok (.istore_n 1, 1) := by decide +kernel
theorem d_va_putTight_28 : decode b_va_putTight 28 = .ok (.aload_n 0, 1) := by decide +kernel
theorem d_va_putTight_29 : decode b_va_putTight 29 = .ok (.aload_n 0, 1) := by decide +kernel
theorem d_va_putTight_30 : decode b_va_putTight 30 = .ok (.getfield 15, 3) := by decide +kernel
theorem d_va_putTight_33 : decode b_va_putTight 33 = .ok (.ldc2_w 28, 3) := by decide +kernel
theorem d_va_putTight_36 : decode b_va_putTight 36 = .ok (.invokestatic 44, 3) := by decide +kernel
theorem d_va_putTight_39 : decode b_va_putTight 39 = .ok (.putfield 15, 3) := by decide +kernel
theorem d_va_putTight_42 : decode b_va_putTight 42 = .ok (.aload_n 0, 1) := by decide +kernel
theorem d_va_putTight_43 : decode b_va_putTight 43 = .ok (.aload_n 0, 1) := by decide +kernel
theorem d_va_putTight_44 : decode b_va_putTight 44 = .ok (.getfield 19, 3) := by decide +kernel
theorem d_va_putTight_47 : decode b_va_putTight 47 = .ok (.ldc2_w 30, 3) := by decide +kernel
theorem d_va_putTight_50 : decode b_va_putTight 50 = .ok (.invokestatic 47, 3) := by decide +kernel
theorem d_va_putTight_53 : decode b_va_putTight 53 = .ok (.putfield 19, 3) := by decide +kernel
theorem d_va_putTight_56 : decode b_va_putTight 56 = .ok (.aload_n 0, 1) := by decide +kernel
theorem d_va_putTight_57 : decode b_va_putTight 57 = .ok (.getfield 22, 3) := by decide +kernel
theorem d_va_putTight_60 : decode b_va_putTight 60 = .ok (.ldc2_w 50, 3) := by decide +kernel
theorem d_va_putTight_63 : decode b_va_putTight 63 = .ok (.lcmp, 1) := by decide +kernel
theorem d_va_putTight_64 : decode b_va_putTight 64 = .ok (.ifCond .le (13), 3) := by decide +kernel
theorem d_va_putTight_67 : decode b_va_putTight 67 = .ok (.aload_n 0, 1) := by decide +kernel
theorem d_va_putTight_68 : decode b_va_putTight 68 = .ok (.lconst 1, 1) := by decide +kernel
theorem d_va_putTight_69 : decode b_va_putTight 69 = .ok (.putfield 22, 3) := by decide +kernel
theorem d_va_putTight_72 : decode b_va_putTight 72 = .ok (.aload_n 0, 1) := by decide +kernel
theorem d_va_putTight_73 : decode b_va_putTight 73 = .ok (.lconst 0, 1) := by decide +kernel
theorem d_va_putTight_74 : decode b_va_putTight 74 = .ok (.putfield 25, 3) := by decide +kernel
theorem d_va_putTight_77 : decode b_va_putTight 77 = .ok (.aload_n 0, 1) := by decide +kernel
theorem d_va_putTight_78 : decode b_va_putTight 78 = .ok (.getfield 22, 3) := by decide +kernel
theorem d_va_putTight_81 : decode b_va_putTight 81 = .ok (.lconst 0, 1) := by decide +kernel
theorem d_va_putTight_82 : decode b_va_putTight 82 = .ok (.lcmp, 1) := by decide +kernel
theorem d_va_putTight_83 : decode b_va_putTight 83 = .ok (.ifCond .ne (61), 3) := by decide +kernel
theorem d_va_putTight_86 : decode b_va_putTight 86 = .ok (.aload_n 0, 1) := by decide +kernel
theorem d_va_putTight_87 : decode b_va_putTight 87 = .ok (.aload_n 0, 1) := by decide +kernel
theorem d_va_putTight_88 : decode b_va_putTight 88 = .ok (.getfield 9, 3) := by decide +kernel
theorem d_va_putTight_91 : decode b_va_putTight 91 = .ok (.ifCond .ne (27), 3) := by decide +kernel
theorem d_va_putTight_94 : decode b_va_putTight 94 = .ok (.aload_n 0, 1) := by decide +kernel
theorem d_va_putTight_95 : decode b_va_putTight 95 = .ok (.getfield 25, 3) := by decide +kernel
theorem d_va_putTight_98 : decode b_va_putTight 98 = .ok (.aload_n 0, 1) := by decide +kernel
theorem d_va_putTight_99 : decode b_va_putTight 99 = .ok (.getfield 15, 3) := by decide +kernel
theorem d_va_putTight_102 : decode b_va_putTight 102 = .ok (.lcmp, 1) := by decide +kernel
theorem d_va_putTight_103 : decode b_va_putTight 103 = .ok (.ifCond .lt (15), 3) := by decide +kernel
theorem d_va_putTight_106 : decode b_va_putTight 106 = .ok (.aload_n 0, 1) := by decide +kernel
theorem d_va_putTight_107 : decode b_va_putTight 107 = .ok (.getfield 25, 3) := by decide +kernel
theorem d_va_putTight_110 : decode b_va_putTight 110 = .ok (.aload_n 0, 1) := by decide +kernel
theorem d_va_putTight_111 : decode b_va_putTight 111 = .ok (.getfield 19, 3) := by decide +kernel
theorem d_va_putTight_114 : decode b_va_putTight 114 = .ok (.lcmp, 1) := by decide +kernel
theorem d_va_putTight_115 : decode b_va_putTight 115 = .ok (.ifCond .le (7), 3) := by decide +kernel
theorem d_va_putTight_118 : decode b_va_putTight 118 = .ok (.iconst 1, 1) := by decide +kernel
theorem d_va_putTight_119 : decode b_va_putTight 119 = .ok (.goto (4), 3) := by decide +kernel
theorem d_va_putTight_122 : decode b_va_putTight 122 = .ok (.iconst 0, 1) := by decide +kernel
theorem d_va_putTight_123 : decode b_va_putTight 123 = .ok (.putfield 9, 3) := by decide +kernel
theorem d_va_putTight_126 : decode b_va_putTight 126 = .ok (.aload_n 0, 1) := by decide +kernel
theorem d_va_putTight_127 : decode b_va_putTight 127 = .ok (.aload_n 0, 1) := by decide +kernel
theorem d_va_putTight_128 : decode b_va_putTight 128 = .ok (.getfield 25, 3) := by decide +kernel
theorem d_va_putTight_131 : decode b_va_putTight 131 = .ok (.putfield 15, 3) := by decide +kernel
theorem d_va_putTight_134 : decode b_va_putTight 134 = .ok (.aload_n 0, 1) := by decide +kernel
theorem d_va_putTight_135 : decode b_va_putTight 135 = .ok (.aload_n 0, 1) := by decide +kernel
theorem d_va_putTight_136 : decode b_va_putTight 136 = .ok (.getfield 25, 3) := by decide +kernel
theorem d_va_putTight_139 : decode b_va_putTight 139 = .ok (.putfield 19, 3) := by decide +kernel
theorem d_va_putTight_142 : decode b_va_putTight 142 = .ok (.iload_n 1, 1) := by decide +kernel
theorem d_va_putTight_143 : decode b_va_putTight 143 = .ok (.ireturn, 1) := by decide +kernel
theorem d_va_putTight_144 : decode b_va_putTight 144 = .ok (.aload_n 0, 1) := by decide +kernel
theorem d_va_putTight_145 : decode b_va_putTight 145 = .ok (.dup, 1) := by decide +kernel
theorem d_va_putTight_146 : decode b_va_putTight 146 = .ok (.getfield 15, 3) := by decide +kernel
theorem d_va_putTight_149 : decode b_va_putTight 149 = .ok (.aload_n 0, 1) := by decide +kernel
theorem d_va_putTight_150 : decode b_va_putTight 150 = .ok (.getfield 25, 3) := by decide +kernel
theorem d_va_putTight_153 : decode b_va_putTight 153 = .ok (.aload_n 0, 1) := by decide +kernel
theorem d_va_putTight_154 : decode b_va_putTight 154 = .ok (.getfield 15, 3) := by decide +kernel
theorem d_va_putTight_157 : decode b_va_putTight 157 = .ok (.lsub, 1) := by decide +kernel
theorem d_va_putTight_158 : decode b_va_putTight 158 = .ok (.aload_n 0, 1) := by decide +kernel
theorem d_va_putTight_159 : decode b_va_putTight 159 = .ok (.getfield 22, 3) := by decide +kernel
theorem d_va_putTight_162 : decode b_va_putTight 162 = .ok (.invokestatic 32, 3) := by decide +kernel
theorem d_va_putTight_165 : decode b_va_putTight 165 = .ok (.ladd, 1) := by decide +kernel
theorem d_va_putTight_166 : decode b_va_putTight 166 = .ok (.putfield 15, 3) := by decide +kernel
theorem d_va_putTight_169 : decode b_va_putTight 169 = .ok (.aload_n 0, 1) := by decide +kernel
theorem d_va_putTight_170 : decode b_va_putTight 170 = .ok (.dup, 1) := by decide +kernel
theorem d_va_putTight_171 : decode b_va_putTight 171 = .ok (.getfield 19, 3) := by decide +kernel
theorem d_va_putTight_174 : decode b_va_putTight 174 = .ok (.aload_n 0, 1) := by decide +kernel
theorem d_va_putTight_175 : decode b_va_putTight 175 = .ok (.getfield 19, 3) := by decide +kernel
theorem d_va_putTight_178 : decode b_va_putTight 178 = .ok (.aload_n 0, 1) := by decide +kernel
theorem d_va_putTight_179 : decode b_va_putTight 179 = .ok (.getfield 25, 3) := by decide +kernel
theorem d_va_putTight_182 : decode b_va_putTight 182 = .ok (.lsub, 1) := by decide +kernel
theorem d_va_putTight_183 : decode b_va_putTight 183 = .ok (.aload_n 0, 1) := by decide +kernel
theorem d_va_putTight_184 : decode b_va_putTight 184 = .ok (.getfield 22, 3) := by decide +kernel
theorem d_va_putTight_187 : decode b_va_putTight 187 = .ok (.invokestatic 32, 3) := by decide +kernel
theorem d_va_putTight_190 : decode b_va_putTight 190 = .ok (.lsub, 1) := by decide +kernel
theorem d_va_putTight_191 : decode b_va_putTight 191 = .ok (.putfield 19, 3) := by decide +kernel
theorem d_va_putTight_194 : decode b_va_putTight 194 = .ok (.aload_n 0, 1) := by decide +kernel
theorem d_va_putTight_195 : decode b_va_putTight 195 = .ok (.aload_n 0, 1) := by decide +kernel
theorem d_va_putTight_196 : decode b_va_putTight 196 = .ok (.getfield 9, 3) := by decide +kernel
theorem d_va_putTight_199 : decode b_va_putTight 199 = .ok (.ifCond .ne (15), 3) := by decide +kernel
theorem d_va_putTight_202 : decode b_va_putTight 202 = .ok (.aload_n 0, 1) := by decide +kernel
theorem d_va_putTight_203 : decode b_va_putTight 203 = .ok (.getfield 15, 3) := by decide +kernel
theorem d_va_putTight_206 : decode b_va_putTight 206 = .ok (.aload_n 0, 1) := by decide +kernel
theorem d_va_putTight_207 : decode b_va_putTight 207 = .ok (.getfield 19, 3) := by decide +kernel
theorem d_va_putTight_210 : decode b_va_putTight 210 = .ok (.lcmp, 1) := by decide +kernel
theorem d_va_putTight_211 : decode b_va_putTight 211 = .ok (.ifCond .le (7), 3) := by decide +kernel
theorem d_va_putTight_214 : decode b_va_putTight 214 = .ok (.iconst 1, 1) := by decide +kernel
theorem d_va_putTight_215 : decode b_va_putTight 215 = .ok (.goto (4), 3) := by decide +kernel
theorem d_va_putTight_218 : decode b_va_putTight 218 = .ok (.iconst 0, 1) := by decide +kernel
theorem d_va_putTight_219 : decode b_va_putTight 219 = .ok (.putfield 9, 3) := by decide +kernel
theorem d_va_putTight_222 : decode b_va_putTight 222 = .ok (.aload_n 0, 1) := by decide +kernel
theorem d_va_putTight_223 : decode b_va_putTight 223 = .ok (.getfield 15, 3) := by decide +kernel
theorem d_va_putTight_226 : decode b_va_putTight 226 = .ok (.aload_n 0, 1) := by decide +kernel
theorem d_va_putTight_227 : decode b_va_putTight 227 = .ok (.getfield 19, 3) := by decide +kernel
theorem d_va_putTight_230 : decode b_va_putTight 230 = .ok (.lcmp, 1) := by decide +kernel
theorem d_va_putTight_231 : decode b_va_putTight 231 = .ok (.ifCond .ne (16), 3) := by decide +kernel
theorem d_va_putTight_234 : decode b_va_putTight 234 = .ok (.aload_n 0, 1) := by decide +kernel
theorem d_va_putTight_235 : decode b_va_putTight 235 = .ok (.lconst 0, 1) := by decide +kernel
theorem d_va_putTight_236 : decode b_va_putTight 236 = .ok (.putfield 22, 3) := by decide +kernel
theorem d_va_putTight_239 : decode b_va_putTight 239 = .ok (.aload_n 0, 1) := by decide +kernel
theorem d_va_putTight_240 : decode b_va_putTight 240 = .ok (.aload_n 0, 1) := by decide +kernel
theorem d_va_putTight_241 : decode b_va_putTight 241 = .ok (.getfield 15, 3) := by decide +kernel
theorem d_va_putTight_244 : decode b_va_putTight 244 = .ok (.putfield 25, 3) := by decide +kernel
theorem d_va_putTight_247 : decode b_va_putTight 247 = .ok (.iload_n 1, 1) := by decide +kernel
theorem d_va_putTight_248 : decode b_va_putTight 248 = .ok (.ireturn, 1) := by decide +kernel
def f_va_putTight_247  (y1 : Int32) (w : WW) : Option (Int32 × WW) :=
  if y1 = 0 ∨ y1 = 1 then some (y1, w) else none
def f_va_putTight_219  (y0 : Nat) (y1 : Int32) (z0 : Nat) (z1 : Int32) (w : WW) : Option (Int32 × WW) :=
  if z1 = 0 ∨ z1 = 1 then
    (pv w z0 8 0 (.int z1)).bind fun w31 =>
    (gL w31 y0 8 1).bind fun x33 =>
    (gL w31 y0 8 2).bind fun x34 =>
    if x33 = x34 then
      (pv w31 y0 8 3 (.long (0 : Int64))).bind fun w37 =>
      (gL w37 y0 8 1).bind fun x38 =>
      (pv w37 y0 8 4 (.long x38)).bind fun w39 =>
      f_va_putTight_247 y1 w39
    else
      f_va_putTight_247 y1 w31
  else none
def f_va_putTight_214  (y0 : Nat) (y1 : Int32) (z0 : Nat) (w : WW) : Option (Int32 × WW) :=
  f_va_putTight_219 y0 y1 z0 (1 : Int32) w
def f_va_putTight_123  (y0 : Nat) (y1 : Int32) (z0 : Nat) (z1 : Int32) (w : WW) : Option (Int32 × WW) :=
  if z1 = 0 ∨ z1 = 1 then
    (pv w z0 8 0 (.int z1)).bind fun w45 =>
    (gL w45 y0 8 4).bind fun x47 =>
    (pv w45 y0 8 1 (.long x47)).bind fun w48 =>
    (gL w48 y0 8 4).bind fun x49 =>
    (pv w48 y0 8 2 (.long x49)).bind fun w50 =>
    if y1 = 0 ∨ y1 = 1 then some (y1, w50) else none
  else none
def f_va_putTight_118  (y0 : Nat) (y1 : Int32) (z0 : Nat) (w : WW) : Option (Int32 × WW) :=
  f_va_putTight_123 y0 y1 z0 (1 : Int32) w
def f_va_putTight_77  (y0 : Nat) (y1 : Int32) (w : WW) : Option (Int32 × WW) :=
  (gL w y0 8 3).bind fun x13 =>
  if x13 = (0 : Int64) then
    (gI w y0 8 0).bind fun x43 =>
    if x43 = 0 then
      (gL w y0 8 4).bind fun x52 =>
      (gL w y0 8 1).bind fun x53 =>
      if x52 < x53 then
        f_va_putTight_118 y0 y1 y0 w
      else
        (gL w y0 8 4).bind fun x55 =>
        (gL w y0 8 2).bind fun x56 =>
        if x55 ≤ x56 then
          f_va_putTight_123 y0 y1 y0 (0 : Int32) w
        else
          f_va_putTight_118 y0 y1 y0 w
    else
      f_va_putTight_118 y0 y1 y0 w
  else
    (gL w y0 8 1).bind fun x15 =>
    (gL w y0 8 4).bind fun x16 =>
    (gL w y0 8 1).bind fun x17 =>
    (gL w y0 8 3).bind fun x18 =>
    bd2 (f_ma_floorMod (x16 - x17) x18 w) fun x20 w19 =>
    (pv w19 y0 8 1 (.long (x15 + x20))).bind fun w21 =>
    (gL w21 y0 8 2).bind fun x22 =>
    (gL w21 y0 8 2).bind fun x23 =>
    (gL w21 y0 8 4).bind fun x24 =>
    (gL w21 y0 8 3).bind fun x25 =>
    bd2 (f_ma_floorMod (x23 - x24) x25 w21) fun x27 w26 =>
    (pv w26 y0 8 2 (.long (x22 - x27))).bind fun w28 =>
    (gI w28 y0 8 0).bind fun x29 =>
    if x29 = 0 then
      (gL w28 y0 8 1).bind fun x40 =>
      (gL w28 y0 8 2).bind fun x41 =>
      if x40 ≤ x41 then
        f_va_putTight_219 y0 y1 y0 (0 : Int32) w28
      else
        f_va_putTight_214 y0 y1 y0 w28
    else
      f_va_putTight_214 y0 y1 y0 w28
def f_va_putTight_27  (y0 : Nat) (z0 : Int32) (w : WW) : Option (Int32 × WW) :=
  (gL w y0 8 1).bind fun x3 =>
  bd2 (f_ma_max_JJ x3 (-2147483648 : Int64) w) fun x5 w4 =>
  (pv w4 y0 8 1 (.long x5)).bind fun w6 =>
  (gL w6 y0 8 2).bind fun x7 =>
  bd2 (f_ma_min_JJ x7 (2147483647 : Int64) w6) fun x9 w8 =>
  (pv w8 y0 8 2 (.long x9)).bind fun w10 =>
  (gL w10 y0 8 3).bind fun x11 =>
  if x11 ≤ (65536 : Int64) then
    f_va_putTight_77 y0 z0 w10
  else
    (pv w10 y0 8 3 (.long (1 : Int64))).bind fun w58 =>
    (pv w58 y0 8 4 (.long (0 : Int64))).bind fun w59 =>
    f_va_putTight_77 y0 z0 w59
def f_va_putTight_22  (y0 : Nat) (w : WW) : Option (Int32 × WW) :=
  f_va_putTight_27 y0 (1 : Int32) w
def f_va_putTight (a0 : Nat) (w : WW) : Option (Int32 × WW) :=
  if kb w a0 8 = true then
    (gL w a0 8 1).bind fun x1 =>
    if x1 < (-2147483648 : Int64) then
      f_va_putTight_22 a0 w
    else
      (gL w a0 8 2).bind fun x60 =>
      if x60 ≤ (2147483647 : Int64) then
        f_va_putTight_27 a0 (0 : Int32) w
      else
        f_va_putTight_22 a0 w
  else none
theorem kb_va_putTight {a0 : Nat}  {w : WW} {r : (Int32 × WW)} (h : f_va_putTight a0 w = some r) : kb w a0 8 = true := (its h).1
set_option maxHeartbeats 4000000 in
set_option maxRecDepth 100000 in
theorem j_va_putTight_247 {p : Program} {l : Launch} {e : Env} {s : State} {m : MethodId} {args : Array Value} {below : List Frame} {meth : Method} {c : Code} {D : va_G} {cA : Nat → ClassId} {base : Nat} {r : Int32} {w' : WW} (C : cx b_va_putTight (some .boolean) 2 y_va_putTight.cls "putTight" p s m args meth c D cA base)   : ∀ (y1 : Int32) (w : WW), f_va_putTight_247 y1 w = some (r, w') → ∀ (H : Heap) (locs : List Loc) (ls : Array Slot), wo_S D cls cA base s w H locs → lv_has ls 2 [(1, .int y1)] → W p l e rm_va_putTight s m args below meth c H locs 0 0 (MQ below (wo_Q D cls cA base (some (.int r)) w') args s rm_va_putTight.cells rm_va_putTight.slots (wo_B base)) (F0 m 247 ls []) := by
  obtain ⟨hx, hb, hr, hml, hown, hts, hlk, hnm, hK, hG⟩ := id C
  intro y1 w h H locs ls hW hl
  unfold f_va_putTight_247 at h
  refine lv_iload_n hx hb d_va_putTight_247 rfl (lv_at hl 0 rfl) ?_
  replace h := its h
  obtain ⟨c36, h⟩ := h
  cases h
  exact wo_zret hx hb hr hlk hW c36 d_va_putTight_248
set_option maxHeartbeats 4000000 in
set_option maxRecDepth 100000 in
theorem j_va_putTight_219 {p : Program} {l : Launch} {e : Env} {s : State} {m : MethodId} {args : Array Value} {below : List Frame} {meth : Method} {c : Code} {D : va_G} {cA : Nat → ClassId} {base : Nat} {r : Int32} {w' : WW} (C : cx b_va_putTight (some .boolean) 2 y_va_putTight.cls "putTight" p s m args meth c D cA base)   : ∀ (y0 : Nat) (y1 : Int32) (z0 : Nat) (z1 : Int32) (w : WW), f_va_putTight_219 y0 y1 z0 z1 w = some (r, w') → ∀ (H : Heap) (locs : List Loc) (ls : Array Slot), wo_S D cls cA base s w H locs → lv_has ls 2 [(0, .ref y0), (1, .int y1)] → W p l e rm_va_putTight s m args below meth c H locs 0 0 (MQ below (wo_Q D cls cA base (some (.int r)) w') args s rm_va_putTight.cells rm_va_putTight.slots (wo_B base)) (F0 m 219 ls [.int z1, .ref z0]) := by
  obtain ⟨hx, hb, hr, hml, hown, hts, hlk, hnm, hK, hG⟩ := id C
  intro y0 y1 z0 z1 w h H locs ls hW hl
  unfold f_va_putTight_219 at h
  replace h := its h
  obtain ⟨c32, h⟩ := h
  replace h := bs h
  obtain ⟨w31, hw31, h⟩ := h
  refine pf_va_9 hx hb hts hown hK hG hW (z_n c32) (z_f c32) hw31 d_va_putTight_219 (fun H locs hW => ?_)
  refine lv_aload_n hx hb d_va_putTight_222 rfl (lv_at hl 0 rfl) ?_
  replace h := bs h
  obtain ⟨x33, hx33, h⟩ := h
  refine gf_va_15 hx hb hts hown hK hG hW (gL_s hx33) d_va_putTight_223 ?_
  refine lv_aload_n hx hb d_va_putTight_226 rfl (lv_at hl 0 rfl) ?_
  replace h := bs h
  obtain ⟨x34, hx34, h⟩ := h
  refine gf_va_19 hx hb hts hown hK hG hW (gL_s hx34) d_va_putTight_227 ?_
  refine lc_ne (tgt := 247) hx hb d_va_putTight_230 d_va_putTight_231 (by decide) (fun c35 => ?_) (fun c35 => ?_)
  · rw [if_neg c35] at h
    exact j_va_putTight_247 C y1 w31 h _ _ _ hW (lv_sub hl [1] rfl)
  · rw [if_pos c35] at h
    refine lv_aload_n hx hb d_va_putTight_234 rfl (lv_at hl 0 rfl) ?_
    refine lv_lconst (v := (0 : Int64)) hx hb d_va_putTight_235 (by decide) ?_
    replace h := bs h
    obtain ⟨w37, hw37, h⟩ := h
    refine pf_va_22 hx hb hts hown hK hG hW rfl rfl hw37 d_va_putTight_236 (fun H locs hW => ?_)
    refine lv_aload_n hx hb d_va_putTight_239 rfl (lv_at hl 0 rfl) ?_
    refine lv_aload_n hx hb d_va_putTight_240 rfl (lv_at hl 0 rfl) ?_
    replace h := bs h
    obtain ⟨x38, hx38, h⟩ := h
    refine gf_va_15 hx hb hts hown hK hG hW (gL_s hx38) d_va_putTight_241 ?_
    replace h := bs h
    obtain ⟨w39, hw39, h⟩ := h
    refine pf_va_25 hx hb hts hown hK hG hW rfl rfl hw39 d_va_putTight_244 (fun H locs hW => ?_)
    exact j_va_putTight_247 C y1 w39 h _ _ _ hW (lv_sub hl [1] rfl)
set_option maxHeartbeats 4000000 in
set_option maxRecDepth 100000 in
theorem j_va_putTight_214 {p : Program} {l : Launch} {e : Env} {s : State} {m : MethodId} {args : Array Value} {below : List Frame} {meth : Method} {c : Code} {D : va_G} {cA : Nat → ClassId} {base : Nat} {r : Int32} {w' : WW} (C : cx b_va_putTight (some .boolean) 2 y_va_putTight.cls "putTight" p s m args meth c D cA base)   : ∀ (y0 : Nat) (y1 : Int32) (z0 : Nat) (w : WW), f_va_putTight_214 y0 y1 z0 w = some (r, w') → ∀ (H : Heap) (locs : List Loc) (ls : Array Slot), wo_S D cls cA base s w H locs → lv_has ls 2 [(0, .ref y0), (1, .int y1)] → W p l e rm_va_putTight s m args below meth c H locs 0 0 (MQ below (wo_Q D cls cA base (some (.int r)) w') args s rm_va_putTight.cells rm_va_putTight.slots (wo_B base)) (F0 m 214 ls [.ref z0]) := by
  obtain ⟨hx, hb, hr, hml, hown, hts, hlk, hnm, hK, hG⟩ := id C
  intro y0 y1 z0 w h H locs ls hW hl
  unfold f_va_putTight_214 at h
  refine lv_iconst (v := (1 : Int32)) hx hb d_va_putTight_214 (by decide) ?_
  refine lv_goto (tgt := 219) hx hb d_va_putTight_215 (by decide) ?_
  exact j_va_putTight_219 C y0 y1 z0 (1 : Int32) w h _ _ _ hW (lv_sub hl [0, 1] rfl)
set_option maxHeartbeats 4000000 in
set_option maxRecDepth 100000 in
theorem j_va_putTight_123 {p : Program} {l : Launch} {e : Env} {s : State} {m : MethodId} {args : Array Value} {below : List Frame} {meth : Method} {c : Code} {D : va_G} {cA : Nat → ClassId} {base : Nat} {r : Int32} {w' : WW} (C : cx b_va_putTight (some .boolean) 2 y_va_putTight.cls "putTight" p s m args meth c D cA base)   : ∀ (y0 : Nat) (y1 : Int32) (z0 : Nat) (z1 : Int32) (w : WW), f_va_putTight_123 y0 y1 z0 z1 w = some (r, w') → ∀ (H : Heap) (locs : List Loc) (ls : Array Slot), wo_S D cls cA base s w H locs → lv_has ls 2 [(0, .ref y0), (1, .int y1)] → W p l e rm_va_putTight s m args below meth c H locs 0 0 (MQ below (wo_Q D cls cA base (some (.int r)) w') args s rm_va_putTight.cells rm_va_putTight.slots (wo_B base)) (F0 m 123 ls [.int z1, .ref z0]) := by
  obtain ⟨hx, hb, hr, hml, hown, hts, hlk, hnm, hK, hG⟩ := id C
  intro y0 y1 z0 z1 w h H locs ls hW hl
  unfold f_va_putTight_123 at h
  replace h := its h
  obtain ⟨c46, h⟩ := h
  replace h := bs h
  obtain ⟨w45, hw45, h⟩ := h
  refine pf_va_9 hx hb hts hown hK hG hW (z_n c46) (z_f c46) hw45 d_va_putTight_123 (fun H locs hW => ?_)
  refine lv_aload_n hx hb d_va_putTight_126 rfl (lv_at hl 0 rfl) ?_
  refine lv_aload_n hx hb d_va_putTight_127 rfl (lv_at hl 0 rfl) ?_
  replace h := bs h
  obtain ⟨x47, hx47, h⟩ := h
  refine gf_va_25 hx hb hts hown hK hG hW (gL_s hx47) d_va_putTight_128 ?_
  replace h := bs h
  obtain ⟨w48, hw48, h⟩ := h
  refine pf_va_15 hx hb hts hown hK hG hW rfl rfl hw48 d_va_putTight_131 (fun H locs hW => ?_)
  refine lv_aload_n hx hb d_va_putTight_134 rfl (lv_at hl 0 rfl) ?_
  refine lv_aload_n hx hb d_va_putTight_135 rfl (lv_at hl 0 rfl) ?_
  replace h := bs h
  obtain ⟨x49, hx49, h⟩ := h
  refine gf_va_25 hx hb hts hown hK hG hW (gL_s hx49) d_va_putTight_136 ?_
  replace h := bs h
  obtain ⟨w50, hw50, h⟩ := h
  refine pf_va_19 hx hb hts hown hK hG hW rfl rfl hw50 d_va_putTight_139 (fun H locs hW => ?_)
  refine lv_iload_n hx hb d_va_putTight_142 rfl (lv_at hl 1 rfl) ?_
  replace h := its h
  obtain ⟨c51, h⟩ := h
  cases h
  exact wo_zret hx hb hr hlk hW c51 d_va_putTight_143
set_option maxHeartbeats 4000000 in
set_option maxRecDepth 100000 in
theorem j_va_putTight_118 {p : Program} {l : Launch} {e : Env} {s : State} {m : MethodId} {args : Array Value} {below : List Frame} {meth : Method} {c : Code} {D : va_G} {cA : Nat → ClassId} {base : Nat} {r : Int32} {w' : WW} (C : cx b_va_putTight (some .boolean) 2 y_va_putTight.cls "putTight" p s m args meth c D cA base)   : ∀ (y0 : Nat) (y1 : Int32) (z0 : Nat) (w : WW), f_va_putTight_118 y0 y1 z0 w = some (r, w') → ∀ (H : Heap) (locs : List Loc) (ls : Array Slot), wo_S D cls cA base s w H locs → lv_has ls 2 [(0, .ref y0), (1, .int y1)] → W p l e rm_va_putTight s m args below meth c H locs 0 0 (MQ below (wo_Q D cls cA base (some (.int r)) w') args s rm_va_putTight.cells rm_va_putTight.slots (wo_B base)) (F0 m 118 ls [.ref z0]) := by
  obtain ⟨hx, hb, hr, hml, hown, hts, hlk, hnm, hK, hG⟩ := id C
  intro y0 y1 z0 w h H locs ls hW hl
  unfold f_va_putTight_118 at h
  refine lv_iconst (v := (1 : Int32)) hx hb d_va_putTight_118 (by decide) ?_
  refine lv_goto (tgt := 123) hx hb d_va_putTight_119 (by decide) ?_
  exact j_va_putTight_123 C y0 y1 z0 (1 : Int32) w h _ _ _ hW (lv_sub hl [0, 1] rfl)
set_option maxHeartbeats 4000000 in
set_option maxRecDepth 100000 in
theorem j_va_putTight_77 {p : Program} {l : Launch} {e : Env} {s : State} {m : MethodId} {args : Array Value} {below : List Frame} {meth : Method} {c : Code} {D : va_G} {cA : Nat → ClassId} {base : Nat} {r : Int32} {w' : WW} (C : cx b_va_putTight (some .boolean) 2 y_va_putTight.cls "putTight" p s m args meth c D cA base)   : ∀ (y0 : Nat) (y1 : Int32) (w : WW), f_va_putTight_77 y0 y1 w = some (r, w') → ∀ (H : Heap) (locs : List Loc) (ls : Array Slot), wo_S D cls cA base s w H locs → lv_has ls 2 [(0, .ref y0), (1, .int y1)] → W p l e rm_va_putTight s m args below meth c H locs 0 0 (MQ below (wo_Q D cls cA base (some (.int r)) w') args s rm_va_putTight.cells rm_va_putTight.slots (wo_B base)) (F0 m 77 ls []) := by
  obtain ⟨hx, hb, hr, hml, hown, hts, hlk, hnm, hK, hG⟩ := id C
  intro y0 y1 w h H locs ls hW hl
  unfold f_va_putTight_77 at h
  refine lv_aload_n hx hb d_va_putTight_77 rfl (lv_at hl 0 rfl) ?_
  replace h := bs h
  obtain ⟨x13, hx13, h⟩ := h
  refine gf_va_22 hx hb hts hown hK hG hW (gL_s hx13) d_va_putTight_78 ?_
  refine lv_lconst (v := (0 : Int64)) hx hb d_va_putTight_81 (by decide) ?_
  refine lc_ne (tgt := 144) hx hb d_va_putTight_82 d_va_putTight_83 (by decide) (fun c14 => ?_) (fun c14 => ?_)
  · rw [if_neg c14] at h
    refine lv_aload_n hx hb d_va_putTight_144 rfl (lv_at hl 0 rfl) ?_
    refine lv_dup hx hb d_va_putTight_145 rfl ?_
    replace h := bs h
    obtain ⟨x15, hx15, h⟩ := h
    refine gf_va_15 hx hb hts hown hK hG hW (gL_s hx15) d_va_putTight_146 ?_
    refine lv_aload_n hx hb d_va_putTight_149 rfl (lv_at hl 0 rfl) ?_
    replace h := bs h
    obtain ⟨x16, hx16, h⟩ := h
    refine gf_va_25 hx hb hts hown hK hG hW (gL_s hx16) d_va_putTight_150 ?_
    refine lv_aload_n hx hb d_va_putTight_153 rfl (lv_at hl 0 rfl) ?_
    replace h := bs h
    obtain ⟨x17, hx17, h⟩ := h
    refine gf_va_15 hx hb hts hown hK hG hW (gL_s hx17) d_va_putTight_154 ?_
    refine lv_lsub hx hb d_va_putTight_157 ?_
    refine lv_aload_n hx hb d_va_putTight_158 rfl (lv_at hl 0 rfl) ?_
    replace h := bs h
    obtain ⟨x18, hx18, h⟩ := h
    refine gf_va_22 hx hb hts hown hK hG hW (gL_s hx18) d_va_putTight_159 ?_
    replace h := bs2 h
    obtain ⟨x20, w19, hw19, h⟩ := h
    refine cs_va_32 (As := [.long (x16 - x17), .long x18]) (rest := [.long x15, .ref y0]) hx hb hml hown hts hK hG hW (c_ma_floorMod l D cA base hw19) ⟨Nat.le_of_ble_eq_true rfl, Nat.le_of_ble_eq_true rfl⟩ ⟨Nat.le_of_ble_eq_true rfl, Nat.le_of_ble_eq_true rfl⟩ rfl hl.1 rfl (Nat.le_of_ble_eq_true rfl) d_va_putTight_162 (fun H locs hW => ?_)
    refine lv_ladd hx hb d_va_putTight_165 ?_
    replace h := bs h
    obtain ⟨w21, hw21, h⟩ := h
    refine pf_va_15 hx hb hts hown hK hG hW rfl rfl hw21 d_va_putTight_166 (fun H locs hW => ?_)
    refine lv_aload_n hx hb d_va_putTight_169 rfl (lv_at hl 0 rfl) ?_
    refine lv_dup hx hb d_va_putTight_170 rfl ?_
    replace h := bs h
    obtain ⟨x22, hx22, h⟩ := h
    refine gf_va_19 hx hb hts hown hK hG hW (gL_s hx22) d_va_putTight_171 ?_
    refine lv_aload_n hx hb d_va_putTight_174 rfl (lv_at hl 0 rfl) ?_
    replace h := bs h
    obtain ⟨x23, hx23, h⟩ := h
    refine gf_va_19 hx hb hts hown hK hG hW (gL_s hx23) d_va_putTight_175 ?_
    refine lv_aload_n hx hb d_va_putTight_178 rfl (lv_at hl 0 rfl) ?_
    replace h := bs h
    obtain ⟨x24, hx24, h⟩ := h
    refine gf_va_25 hx hb hts hown hK hG hW (gL_s hx24) d_va_putTight_179 ?_
    refine lv_lsub hx hb d_va_putTight_182 ?_
    refine lv_aload_n hx hb d_va_putTight_183 rfl (lv_at hl 0 rfl) ?_
    replace h := bs h
    obtain ⟨x25, hx25, h⟩ := h
    refine gf_va_22 hx hb hts hown hK hG hW (gL_s hx25) d_va_putTight_184 ?_
    replace h := bs2 h
    obtain ⟨x27, w26, hw26, h⟩ := h
    refine cs_va_32 (As := [.long (x23 - x24), .long x25]) (rest := [.long x22, .ref y0]) hx hb hml hown hts hK hG hW (c_ma_floorMod l D cA base hw26) ⟨Nat.le_of_ble_eq_true rfl, Nat.le_of_ble_eq_true rfl⟩ ⟨Nat.le_of_ble_eq_true rfl, Nat.le_of_ble_eq_true rfl⟩ rfl hl.1 rfl (Nat.le_of_ble_eq_true rfl) d_va_putTight_187 (fun H locs hW => ?_)
    refine lv_lsub hx hb d_va_putTight_190 ?_
    replace h := bs h
    obtain ⟨w28, hw28, h⟩ := h
    refine pf_va_19 hx hb hts hown hK hG hW rfl rfl hw28 d_va_putTight_191 (fun H locs hW => ?_)
    refine lv_aload_n hx hb d_va_putTight_194 rfl (lv_at hl 0 rfl) ?_
    refine lv_aload_n hx hb d_va_putTight_195 rfl (lv_at hl 0 rfl) ?_
    replace h := bs h
    obtain ⟨x29, hx29, h⟩ := h
    refine gf_va_9 hx hb hts hown hK hG hW (gI_s hx29) d_va_putTight_196 ?_
    refine lv_if_ne (tgt := 214) hx hb d_va_putTight_199 (by decide) (fun c30 => ?_) (fun c30 => ?_)
    · rw [if_neg c30] at h
      exact j_va_putTight_214 C y0 y1 y0 w28 h _ _ _ hW (lv_sub hl [0, 1] rfl)
    · rw [if_pos c30] at h
      refine lv_aload_n hx hb d_va_putTight_202 rfl (lv_at hl 0 rfl) ?_
      replace h := bs h
      obtain ⟨x40, hx40, h⟩ := h
      refine gf_va_15 hx hb hts hown hK hG hW (gL_s hx40) d_va_putTight_203 ?_
      refine lv_aload_n hx hb d_va_putTight_206 rfl (lv_at hl 0 rfl) ?_
      replace h := bs h
      obtain ⟨x41, hx41, h⟩ := h
      refine gf_va_19 hx hb hts hown hK hG hW (gL_s hx41) d_va_putTight_207 ?_
      refine lc_le (tgt := 218) hx hb d_va_putTight_210 d_va_putTight_211 (by decide) (fun c42 => ?_) (fun c42 => ?_)
      · rw [if_pos c42] at h
        refine lv_iconst (v := (0 : Int32)) hx hb d_va_putTight_218 (by decide) ?_
        exact j_va_putTight_219 C y0 y1 y0 (0 : Int32) w28 h _ _ _ hW (lv_sub hl [0, 1] rfl)
      · rw [if_neg c42] at h
        exact j_va_putTight_214 C y0 y1 y0 w28 h _ _ _ hW (lv_sub hl [0, 1] rfl)
  · rw [if_pos c14] at h
    refine lv_aload_n hx hb d_va_putTight_86 rfl (lv_at hl 0 rfl) ?_
    refine lv_aload_n hx hb d_va_putTight_87 rfl (lv_at hl 0 rfl) ?_
    replace h := bs h
    obtain ⟨x43, hx43, h⟩ := h
    refine gf_va_9 hx hb hts hown hK hG hW (gI_s hx43) d_va_putTight_88 ?_
    refine lv_if_ne (tgt := 118) hx hb d_va_putTight_91 (by decide) (fun c44 => ?_) (fun c44 => ?_)
    · rw [if_neg c44] at h
      exact j_va_putTight_118 C y0 y1 y0 w h _ _ _ hW (lv_sub hl [0, 1] rfl)
    · rw [if_pos c44] at h
      refine lv_aload_n hx hb d_va_putTight_94 rfl (lv_at hl 0 rfl) ?_
      replace h := bs h
      obtain ⟨x52, hx52, h⟩ := h
      refine gf_va_25 hx hb hts hown hK hG hW (gL_s hx52) d_va_putTight_95 ?_
      refine lv_aload_n hx hb d_va_putTight_98 rfl (lv_at hl 0 rfl) ?_
      replace h := bs h
      obtain ⟨x53, hx53, h⟩ := h
      refine gf_va_15 hx hb hts hown hK hG hW (gL_s hx53) d_va_putTight_99 ?_
      refine lc_lt (tgt := 118) hx hb d_va_putTight_102 d_va_putTight_103 (by decide) (fun c54 => ?_) (fun c54 => ?_)
      · rw [if_pos c54] at h
        exact j_va_putTight_118 C y0 y1 y0 w h _ _ _ hW (lv_sub hl [0, 1] rfl)
      · rw [if_neg c54] at h
        refine lv_aload_n hx hb d_va_putTight_106 rfl (lv_at hl 0 rfl) ?_
        replace h := bs h
        obtain ⟨x55, hx55, h⟩ := h
        refine gf_va_25 hx hb hts hown hK hG hW (gL_s hx55) d_va_putTight_107 ?_
        refine lv_aload_n hx hb d_va_putTight_110 rfl (lv_at hl 0 rfl) ?_
        replace h := bs h
        obtain ⟨x56, hx56, h⟩ := h
        refine gf_va_19 hx hb hts hown hK hG hW (gL_s hx56) d_va_putTight_111 ?_
        refine lc_le (tgt := 122) hx hb d_va_putTight_114 d_va_putTight_115 (by decide) (fun c57 => ?_) (fun c57 => ?_)
        · rw [if_pos c57] at h
          refine lv_iconst (v := (0 : Int32)) hx hb d_va_putTight_122 (by decide) ?_
          exact j_va_putTight_123 C y0 y1 y0 (0 : Int32) w h _ _ _ hW (lv_sub hl [0, 1] rfl)
        · rw [if_neg c57] at h
          exact j_va_putTight_118 C y0 y1 y0 w h _ _ _ hW (lv_sub hl [0, 1] rfl)
set_option maxHeartbeats 4000000 in
set_option maxRecDepth 100000 in
theorem j_va_putTight_27 {p : Program} {l : Launch} {e : Env} {s : State} {m : MethodId} {args : Array Value} {below : List Frame} {meth : Method} {c : Code} {D : va_G} {cA : Nat → ClassId} {base : Nat} {r : Int32} {w' : WW} (C : cx b_va_putTight (some .boolean) 2 y_va_putTight.cls "putTight" p s m args meth c D cA base)   : ∀ (y0 : Nat) (z0 : Int32) (w : WW), f_va_putTight_27 y0 z0 w = some (r, w') → ∀ (H : Heap) (locs : List Loc) (ls : Array Slot), wo_S D cls cA base s w H locs → lv_has ls 2 [(0, .ref y0)] → W p l e rm_va_putTight s m args below meth c H locs 0 0 (MQ below (wo_Q D cls cA base (some (.int r)) w') args s rm_va_putTight.cells rm_va_putTight.slots (wo_B base)) (F0 m 27 ls [.int z0]) := by
  obtain ⟨hx, hb, hr, hml, hown, hts, hlk, hnm, hK, hG⟩ := id C
  intro y0 z0 w h H locs ls hW hl
  unfold f_va_putTight_27 at h
  refine lv_istore_n (lv' := [(1, .int z0), (0, .ref y0)]) hx hb d_va_putTight_27 rfl hl (by decide) rfl (fun ls hl => ?_)
  refine lv_aload_n hx hb d_va_putTight_28 rfl (lv_at hl 1 rfl) ?_
  refine lv_aload_n hx hb d_va_putTight_29 rfl (lv_at hl 1 rfl) ?_
  replace h := bs h
  obtain ⟨x3, hx3, h⟩ := h
  refine gf_va_15 hx hb hts hown hK hG hW (gL_s hx3) d_va_putTight_30 ?_
  refine lv_ldc2 (own := Rc_va) (v := (-2147483648 : Int64)) hx hb hown (hts (.constantLong "AlarmForge$Value" 28 (-2147483648 : Int64)) (gt_of (i := 972) (by decide +kernel) (by decide +kernel))) d_va_putTight_33 ?_
  replace h := bs2 h
  obtain ⟨x5, w4, hw4, h⟩ := h
  refine cs_va_44 (As := [.long x3, .long (-2147483648 : Int64)]) (rest := [.ref y0]) hx hb hml hown hts hK hG hW (c_ma_max_JJ l D cA base hw4) ⟨Nat.le_of_ble_eq_true rfl, Nat.le_of_ble_eq_true rfl⟩ ⟨Nat.le_of_ble_eq_true rfl, Nat.le_of_ble_eq_true rfl⟩ rfl hl.1 rfl (Nat.le_of_ble_eq_true rfl) d_va_putTight_36 (fun H locs hW => ?_)
  replace h := bs h
  obtain ⟨w6, hw6, h⟩ := h
  refine pf_va_15 hx hb hts hown hK hG hW rfl rfl hw6 d_va_putTight_39 (fun H locs hW => ?_)
  refine lv_aload_n hx hb d_va_putTight_42 rfl (lv_at hl 1 rfl) ?_
  refine lv_aload_n hx hb d_va_putTight_43 rfl (lv_at hl 1 rfl) ?_
  replace h := bs h
  obtain ⟨x7, hx7, h⟩ := h
  refine gf_va_19 hx hb hts hown hK hG hW (gL_s hx7) d_va_putTight_44 ?_
  refine lv_ldc2 (own := Rc_va) (v := (2147483647 : Int64)) hx hb hown (hts (.constantLong "AlarmForge$Value" 30 (2147483647 : Int64)) (gt_of (i := 973) (by decide +kernel) (by decide +kernel))) d_va_putTight_47 ?_
  replace h := bs2 h
  obtain ⟨x9, w8, hw8, h⟩ := h
  refine cs_va_47 (As := [.long x7, .long (2147483647 : Int64)]) (rest := [.ref y0]) hx hb hml hown hts hK hG hW (c_ma_min_JJ l D cA base hw8) ⟨Nat.le_of_ble_eq_true rfl, Nat.le_of_ble_eq_true rfl⟩ ⟨Nat.le_of_ble_eq_true rfl, Nat.le_of_ble_eq_true rfl⟩ rfl hl.1 rfl (Nat.le_of_ble_eq_true rfl) d_va_putTight_50 (fun H locs hW => ?_)
  replace h := bs h
  obtain ⟨w10, hw10, h⟩ := h
  refine pf_va_19 hx hb hts hown hK hG hW rfl rfl hw10 d_va_putTight_53 (fun H locs hW => ?_)
  refine lv_aload_n hx hb d_va_putTight_56 rfl (lv_at hl 1 rfl) ?_
  replace h := bs h
  obtain ⟨x11, hx11, h⟩ := h
  refine gf_va_22 hx hb hts hown hK hG hW (gL_s hx11) d_va_putTight_57 ?_
  refine lv_ldc2 (own := Rc_va) (v := (65536 : Int64)) hx hb hown (hts (.constantLong "AlarmForge$Value" 50 (65536 : Int64)) (gt_of (i := 974) (by decide +kernel) (by decide +kernel))) d_va_putTight_60 ?_
  refine lc_le (tgt := 77) hx hb d_va_putTight_63 d_va_putTight_64 (by decide) (fun c12 => ?_) (fun c12 => ?_)
  · rw [if_pos c12] at h
    exact j_va_putTight_77 C y0 z0 w10 h _ _ _ hW (lv_sub hl [1, 0] rfl)
  · rw [if_neg c12] at h
    refine lv_aload_n hx hb d_va_putTight_67 rfl (lv_at hl 1 rfl) ?_
    refine lv_lconst (v := (1 : Int64)) hx hb d_va_putTight_68 (by decide) ?_
    replace h := bs h
    obtain ⟨w58, hw58, h⟩ := h
    refine pf_va_22 hx hb hts hown hK hG hW rfl rfl hw58 d_va_putTight_69 (fun H locs hW => ?_)
    refine lv_aload_n hx hb d_va_putTight_72 rfl (lv_at hl 1 rfl) ?_
    refine lv_lconst (v := (0 : Int64)) hx hb d_va_putTight_73 (by decide) ?_
    replace h := bs h
    obtain ⟨w59, hw59, h⟩ := h
    refine pf_va_25 hx hb hts hown hK hG hW rfl rfl hw59 d_va_putTight_74 (fun H locs hW => ?_)
    exact j_va_putTight_77 C y0 z0 w59 h _ _ _ hW (lv_sub hl [1, 0] rfl)
set_option maxHeartbeats 4000000 in
set_option maxRecDepth 100000 in
theorem j_va_putTight_22 {p : Program} {l : Launch} {e : Env} {s : State} {m : MethodId} {args : Array Value} {below : List Frame} {meth : Method} {c : Code} {D : va_G} {cA : Nat → ClassId} {base : Nat} {r : Int32} {w' : WW} (C : cx b_va_putTight (some .boolean) 2 y_va_putTight.cls "putTight" p s m args meth c D cA base)   : ∀ (y0 : Nat) (w : WW), f_va_putTight_22 y0 w = some (r, w') → ∀ (H : Heap) (locs : List Loc) (ls : Array Slot), wo_S D cls cA base s w H locs → lv_has ls 2 [(0, .ref y0)] → W p l e rm_va_putTight s m args below meth c H locs 0 0 (MQ below (wo_Q D cls cA base (some (.int r)) w') args s rm_va_putTight.cells rm_va_putTight.slots (wo_B base)) (F0 m 22 ls []) := by
  obtain ⟨hx, hb, hr, hml, hown, hts, hlk, hnm, hK, hG⟩ := id C
  intro y0 w h H locs ls hW hl
  unfold f_va_putTight_22 at h
  refine lv_iconst (v := (1 : Int32)) hx hb d_va_putTight_22 (by decide) ?_
  refine lv_goto (tgt := 27) hx hb d_va_putTight_23 (by decide) ?_
  exact j_va_putTight_27 C y0 (1 : Int32) w h _ _ _ hW (lv_sub hl [0] rfl)
set_option maxHeartbeats 4000000 in
set_option maxRecDepth 100000 in
theorem c_va_putTight (l : Launch) (D : va_G) (cA : Nat → ClassId) (base : Nat) {a0 : Nat} {w w' : WW} {r : Int32} (h : f_va_putTight a0 w = some (r, w')) : mt l D cls (wo_tys cA) cA base y_va_putTight (Cond.code y_va_putTight b_va_putTight 2 (some .boolean) :: gt) rm_va_putTight [.ref a0] w (some (.int r)) w' rm_va_putTight.cells rm_va_putTight.slots := by
  refine mt_start (by decide) (Nat.le_of_ble_eq_true rfl) ?_
  intro p e s m below meth c ls hx hb hr hml hown hts hlk hnm hK hG hW hl
  have C : cx b_va_putTight (some .boolean) 2 y_va_putTight.cls "putTight" p s m [.ref a0].toArray meth c D cA base := ⟨hx, hb, hr, hml, hown, hts, hlk, hnm, hK, hG⟩
  have hl : lv_has ls 2 [(0, .ref a0)] := hl
  unfold f_va_putTight at h
  replace h := its h
  obtain ⟨-, h⟩ := h
  refine lv_aload_n hx hb d_va_putTight_0 rfl (lv_at hl 0 rfl) ?_
  replace h := bs h
  obtain ⟨x1, hx1, h⟩ := h
  refine gf_va_15 hx hb hts hown hK hG hW (gL_s hx1) d_va_putTight_1 ?_
  refine lv_ldc2 (own := Rc_va) (v := (-2147483648 : Int64)) hx hb hown (hts (.constantLong "AlarmForge$Value" 28 (-2147483648 : Int64)) (gt_of (i := 972) (by decide +kernel) (by decide +kernel))) d_va_putTight_4 ?_
  refine lc_lt (tgt := 22) hx hb d_va_putTight_7 d_va_putTight_8 (by decide) (fun c2 => ?_) (fun c2 => ?_)
  · rw [if_pos c2] at h
    exact j_va_putTight_22 C a0 w h _ _ _ hW (lv_sub hl [0] rfl)
  · rw [if_neg c2] at h
    refine lv_aload_n hx hb d_va_putTight_11 rfl (lv_at hl 0 rfl) ?_
    replace h := bs h
    obtain ⟨x60, hx60, h⟩ := h
    refine gf_va_19 hx hb hts hown hK hG hW (gL_s hx60) d_va_putTight_12 ?_
    refine lv_ldc2 (own := Rc_va) (v := (2147483647 : Int64)) hx hb hown (hts (.constantLong "AlarmForge$Value" 30 (2147483647 : Int64)) (gt_of (i := 973) (by decide +kernel) (by decide +kernel))) d_va_putTight_15 ?_
    refine lc_le (tgt := 26) hx hb d_va_putTight_18 d_va_putTight_19 (by decide) (fun c61 => ?_) (fun c61 => ?_)
    · rw [if_pos c61] at h
      refine lv_iconst (v := (0 : Int32)) hx hb d_va_putTight_26 (by decide) ?_
      exact j_va_putTight_27 C a0 (0 : Int32) w h _ _ _ hW (lv_sub hl [0] rfl)
    · rw [if_neg c61] at h
      exact j_va_putTight_22 C a0 w h _ _ _ hW (lv_sub hl [0] rfl)
