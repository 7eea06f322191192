/-! Methods as functions, and their contracts (by wip/gen/run.py). -/
abbrev b_pa_beginsFactor : ByteArray := prog_3_method_18_code
def y_pa_beginsFactor : MethodName := ⟨"AlarmForge$Parser", "beginsFactor", "(I)Z"⟩
def rm_pa_beginsFactor : Room := { frames := 0, cells := 0, slots := 0, locals := 0 }
theorem d_pa_beginsFactor_0 : decode b_pa_beginsFactor 0 = .ok (.iload_n 0, 1) := by decide +kernel
theorem d_pa_beginsFactor_1 : decode b_pa_beginsFactor 1 = .ok (.iconst 1, 1) := by decide +kernel
theorem d_pa_beginsFactor_2 : decode b_pa_beginsFactor 2 = .ok (.if_icmp .eq (25), 3) := by decide +kernel
theorem d_pa_beginsFactor_5 : decode b_pa_beginsFactor 5 = .ok (.iload_n 0, 1) := by decide +kernel
theorem d_pa_beginsFactor_6 : decode b_pa_beginsFactor 6 = .ok (.iconst 2, 1) := by decide +kernel
theorem d_pa_beginsFactor_7 : decode b_pa_beginsFactor 7 = .ok (.if_icmp .eq (20), 3) := by decide +kernel
theorem d_pa_beginsFactor_10 : decode b_pa_beginsFactor 10 = .ok (.iload_n 0, 1) := by decide +kernel
theorem d_pa_beginsFactor_11 : decode b_pa_beginsFactor 11 = .ok (.iconst 3, 1) := by decide +kernel
theorem d_pa_beginsFactor_12 : decode b_pa_beginsFactor 12 = .ok (.if_icmp .eq (15), 3) := by decide +kernel
theorem d_pa_beginsFactor_15 : decode b_pa_beginsFactor 15 = .ok (.iload_n 0, 1) := by decide +kernel
theorem d_pa_beginsFactor_16 : decode b_pa_beginsFactor 16 = .ok (.bipush (45), 2) := by decide +kernel
theorem d_pa_beginsFactor_18 : decode b_pa_beginsFactor 18 = .ok (.if_icmp .eq (9), 3) := by decide +kernel
theorem d_pa_beginsFactor_21 : decode b_pa_beginsFactor 21 = .ok (.iload_n 0, 1) := by decide +kernel
theorem d_pa_beginsFactor_22 : decode b_pa_beginsFactor 22 = .ok (.bipush (40), 2) := by decide +kernel
theorem d_pa_beginsFactor_24 : decode b_pa_beginsFactor 24 = .ok (.if_icmp .ne (7), 3) := by decide +kernel
theorem d_pa_beginsFactor_27 : decode b_pa_beginsFactor 27 = .ok (.iconst 1, 1) := by decide +kernel
theorem d_pa_beginsFactor_28 : decode b_pa_beginsFactor 28 = .ok (.goto (4), 3) := by decide +kernel
theorem d_pa_beginsFactor_31 : decode b_pa_beginsFactor 31 = .ok (.iconst 0, 1) := by decide +kernel
theorem d_pa_beginsFactor_32 : decode b_pa_beginsFactor 32 = .ok (.ireturn, 1) := by decide +kernel
def f_pa_beginsFactor_32  (z0 : Int32) (w : WW) : Option (Int32 × WW) :=
  if z0 = 0 ∨ z0 = 1 then some (z0, w) else none
def f_pa_beginsFactor_27   (w : WW) : Option (Int32 × WW) :=
  f_pa_beginsFactor_32 (1 : Int32) w
def f_pa_beginsFactor (a0 : Int32) (w : WW) : Option (Int32 × WW) :=
  if a0 = (1 : Int32) then
    f_pa_beginsFactor_27 w
  else
    if a0 = (2 : Int32) then
      f_pa_beginsFactor_27 w
    else
      if a0 = (3 : Int32) then
        f_pa_beginsFactor_27 w
      else
        if a0 = (45 : Int32) then
          f_pa_beginsFactor_27 w
        else
          if a0 = (40 : Int32) then
            f_pa_beginsFactor_27 w
          else
            f_pa_beginsFactor_32 (0 : Int32) w
set_option maxHeartbeats 4000000 in
set_option maxRecDepth 100000 in
theorem j_pa_beginsFactor_32 {p : Program} {l : Launch} {e : Env} {s : State} {m : MethodId} {args : Array Value} {below : List Frame} {meth : Method} {c : Code} {D : va_G} {cA : Nat → ClassId} {base : Nat} {r : Int32} {w' : WW} (C : cx b_pa_beginsFactor (some .boolean) 1 y_pa_beginsFactor.cls "beginsFactor" p s m args meth c D cA base)   : ∀ (z0 : Int32) (w : WW), f_pa_beginsFactor_32 z0 w = some (r, w') → ∀ (H : Heap) (locs : List Loc) (ls : Array Slot), wo_S D cls cA base s w H locs → lv_has ls 1 [] → W p l e rm_pa_beginsFactor s m args below meth c H locs 0 0 (MQ below (wo_Q D cls cA base (some (.int r)) w') args s rm_pa_beginsFactor.cells rm_pa_beginsFactor.slots (wo_B base)) (F0 m 32 ls [.int z0]) := by
  obtain ⟨hx, hb, hr, hml, hown, hts, hlk, hnm, hK, hG⟩ := id C
  intro z0 w h H locs ls hW hl
  unfold f_pa_beginsFactor_32 at h
  replace h := its h
  obtain ⟨c2, h⟩ := h
  cases h
  exact wo_zret hx hb hr hlk hW c2 d_pa_beginsFactor_32
set_option maxHeartbeats 4000000 in
set_option maxRecDepth 100000 in
theorem j_pa_beginsFactor_27 {p : Program} {l : Launch} {e : Env} {s : State} {m : MethodId} {args : Array Value} {below : List Frame} {meth : Method} {c : Code} {D : va_G} {cA : Nat → ClassId} {base : Nat} {r : Int32} {w' : WW} (C : cx b_pa_beginsFactor (some .boolean) 1 y_pa_beginsFactor.cls "beginsFactor" p s m args meth c D cA base)   : ∀  (w : WW), f_pa_beginsFactor_27  w = some (r, w') → ∀ (H : Heap) (locs : List Loc) (ls : Array Slot), wo_S D cls cA base s w H locs → lv_has ls 1 [] → W p l e rm_pa_beginsFactor s m args below meth c H locs 0 0 (MQ below (wo_Q D cls cA base (some (.int r)) w') args s rm_pa_beginsFactor.cells rm_pa_beginsFactor.slots (wo_B base)) (F0 m 27 ls []) := by
  obtain ⟨hx, hb, hr, hml, hown, hts, hlk, hnm, hK, hG⟩ := id C
  intro  w h H locs ls hW hl
  unfold f_pa_beginsFactor_27 at h
  refine lv_iconst (v := (1 : Int32)) hx hb d_pa_beginsFactor_27 (by decide) ?_
  refine lv_goto (tgt := 32) hx hb d_pa_beginsFactor_28 (by decide) ?_
  exact j_pa_beginsFactor_32 C (1 : Int32) w h _ _ _ hW (lv_sub hl [] rfl)
set_option maxHeartbeats 4000000 in
set_option maxRecDepth 100000 in
theorem c_pa_beginsFactor (l : Launch) (D : va_G) (cA : Nat → ClassId) (base : Nat) {a0 : Int32} {w w' : WW} {r : Int32} (h : f_pa_beginsFactor a0 w = some (r, w')) : mt l D cls (wo_tys cA) cA base y_pa_beginsFactor (Cond.code y_pa_beginsFactor b_pa_beginsFactor 1 (some .boolean) :: gt) rm_pa_beginsFactor [.int a0] w (some (.int r)) w' rm_pa_beginsFactor.cells rm_pa_beginsFactor.slots := by
  refine mt_start (by decide) (Nat.le_of_ble_eq_true rfl) ?_
  intro p e s m below meth c ls hx hb hr hml hown hts hlk hnm hK hG hW hl
  have C : cx b_pa_beginsFactor (some .boolean) 1 y_pa_beginsFactor.cls "beginsFactor" p s m [.int a0].toArray meth c D cA base := ⟨hx, hb, hr, hml, hown, hts, hlk, hnm, hK, hG⟩
  have hl : lv_has ls 1 [(0, .int a0)] := hl
  unfold f_pa_beginsFactor at h
  refine lv_iload_n hx hb d_pa_beginsFactor_0 rfl (lv_at hl 0 rfl) ?_
  refine lv_iconst (v := (1 : Int32)) hx hb d_pa_beginsFactor_1 (by decide) ?_
  refine lv_icmp_eq (tgt := 27) hx hb d_pa_beginsFactor_2 (by decide) (fun c1 => ?_) (fun c1 => ?_)
  · rw [if_pos c1] at h
    exact j_pa_beginsFactor_27 C w h _ _ _ hW (lv_sub hl [] rfl)
  · rw [if_neg c1] at h
    refine lv_iload_n hx hb d_pa_beginsFactor_5 rfl (lv_at hl 0 rfl) ?_
    refine lv_iconst (v := (2 : Int32)) hx hb d_pa_beginsFactor_6 (by decide) ?_
    refine lv_icmp_eq (tgt := 27) hx hb d_pa_beginsFactor_7 (by decide) (fun c3 => ?_) (fun c3 => ?_)
    · rw [if_pos c3] at h
      exact j_pa_beginsFactor_27 C w h _ _ _ hW (lv_sub hl [] rfl)
    · rw [if_neg c3] at h
      refine lv_iload_n hx hb d_pa_beginsFactor_10 rfl (lv_at hl 0 rfl) ?_
      refine lv_iconst (v := (3 : Int32)) hx hb d_pa_beginsFactor_11 (by decide) ?_
      refine lv_icmp_eq (tgt := 27) hx hb d_pa_beginsFactor_12 (by decide) (fun c4 => ?_) (fun c4 => ?_)
      · rw [if_pos c4] at h
        exact j_pa_beginsFactor_27 C w h _ _ _ hW (lv_sub hl [] rfl)
      · rw [if_neg c4] at h
        refine lv_iload_n hx hb d_pa_beginsFactor_15 rfl (lv_at hl 0 rfl) ?_
        refine lv_bipush (v := (45 : Int32)) hx hb d_pa_beginsFactor_16 (by decide) ?_
        refine lv_icmp_eq (tgt := 27) hx hb d_pa_beginsFactor_18 (by decide) (fun c5 => ?_) (fun c5 => ?_)
        · rw [if_pos c5] at h
          exact j_pa_beginsFactor_27 C w h _ _ _ hW (lv_sub hl [] rfl)
        · rw [if_neg c5] at h
          refine lv_iload_n hx hb d_pa_beginsFactor_21 rfl (lv_at hl 0 rfl) ?_
          refine lv_bipush (v := (40 : Int32)) hx hb d_pa_beginsFactor_22 (by decide) ?_
          refine lv_icmp_ne (tgt := 31) hx hb d_pa_beginsFactor_24 (by decide) (fun c6 => ?_) (fun c6 => ?_)
          · rw [if_neg c6] at h
            refine lv_iconst (v := (0 : Int32)) hx hb d_pa_beginsFactor_31 (by decide) ?_
            exact j_pa_beginsFactor_32 C (0 : Int32) w h _ _ _ hW (lv_sub hl [] rfl)
          · rw [if_pos c6] at h
            exact j_pa_beginsFactor_27 C w h _ _ _ hW (lv_sub hl [] rfl)
abbrev b_pg_addStep : ByteArray := prog_4_method_6_code
def y_pg_addStep : MethodName := ⟨"AlarmForge$Program", "addStep", "(III)V"⟩
def rm_pg_addStep : Room := { frames := 0, cells := 0, slots := 0, locals := 0 }
theorem d_pg_addStep_0 : decode b_pg_addStep 0 = .ok (.aload_n 0, 1) := by decide +kernel
theorem d_pg_addStep_1 : decode b_pg_addStep 1 = .ok (.getfield 32, 3) := by decide +kernel
theorem d_pg_addStep_4 : decode b_pg_addStep 4 = .ok (.sipush (200), 3) := by decide +kernel
theorem d_pg_addStep_7 : decode b_pg_addStep 7 = .ok (.if_icmp .ge (43), 3) := by decide +kernel
theorem d_pg_addStep_10 : decode b_pg_addStep 10 = .ok (.aload_n 0, 1) := by decide +kernel
theorem d_pg_addStep_11 : decode b_pg_addStep 11 = .ok (.getfield 18, 3) := by decide +kernel
theorem d_pg_addStep_14 : decode b_pg_addStep 14 = .ok (.aload_n 0, 1) := by decide +kernel
theorem d_pg_addStep_15 : decode b_pg_addStep 15 = .ok (.getfield 32, 3) := by decide +kernel
theorem d_pg_addStep_18 : decode b_pg_addStep 18 = .ok (.iload_n 1, 1) := by decide +kernel
theorem d_pg_addStep_19 : decode b_pg_addStep 19 = .ok (.iastore, 1) := by decide +kernel
theorem d_pg_addStep_20 : decode b_pg_addStep 20 = .ok (.aload_n 0, 1) := by decide +kernel
theorem d_pg_addStep_21 : decode b_pg_addStep 21 = .ok (.getfield 22, 3) := by decide +kernel
theorem d_pg_addStep_24 : decode b_pg_addStep 24 = .ok (.aload_n 0, 1) := by decide +kernel
theorem d_pg_addStep_25 : decode b_pg_addStep 25 = .ok (.getfield 32, 3) := by decide +kernel
theorem d_pg_addStep_28 : decode b_pg_addStep 28 = .ok (.iload_n 2, 1) := by decide +kernel
theorem d_pg_addStep_29 : decode b_pg_addStep 29 = .ok (.iastore, 1) := by decide +kernel
theorem d_pg_addStep_30 : decode b_pg_addStep 30 = .ok (.aload_n 0, 1) := by decide +kernel
theorem d_pg_addStep_31 : decode b_pg_addStep 31 = .ok (.getfield 25, 3) := by decide +kernel
theorem d_pg_addStep_34 : decode b_pg_addStep 34 = .ok (.aload_n 0, 1) := by decide +kernel
theorem d_pg_addStep_35 : decode b_pg_addStep 35 = .ok (.getfield 32, 3) := by decide +kernel
theorem d_pg_addStep_38 : decode b_pg_addStep 38 = .ok (.iload_n 3, 1) := by decide +kernel
theorem d_pg_addStep_39 : decode b_pg_addStep 39 = .ok (.iastore, 1) := by decide +kernel
theorem d_pg_addStep_40 : decode b_pg_addStep 40 = .ok (.aload_n 0, 1) := by decide +kernel
theorem d_pg_addStep_41 : decode b_pg_addStep 41 = .ok (.dup, 1) := by decide +kernel
theorem d_pg_addStep_42 : decode b_pg_addStep 42 = .ok (.getfield 32, 3) := by decide +kernel
theorem d_pg_addStep_45 : decode b_pg_addStep 45 = .ok (.iconst 1, 1) := by decide +kernel
theorem d_pg_addStep_46 : decode b_pg_addStep 46 = .ok (.iadd, 1) := by decide +kernel
theorem d_pg_addStep_47 : decode b_pg_addStep 47 = .ok (.putfield 32, 3) := by decide +kernel
theorem d_pg_addStep_50 : decode b_pg_addStep 50 = .ok (.return_, 1) := by decide +kernel
def f_pg_addStep_50   (w : WW) : Option WW :=
  some w
def f_pg_addStep (a0 : Nat) (a1 : Int32) (a2 : Int32) (a3 : Int32) (w : WW) : Option WW :=
  if kb w a0 3 = true then
    (gI w a0 3 5).bind fun x1 =>
    if (200 : Int32) ≤ x1 then
      f_pg_addStep_50 w
    else
      (gN w a0 3 2).bind fun x3 =>
      (gI w a0 3 5).bind fun x4 =>
      (sI w x3 0 x4 a1).bind fun w5 =>
      (gN w5 a0 3 3).bind fun x6 =>
      (gI w5 a0 3 5).bind fun x7 =>
      (sI w5 x6 0 x7 a2).bind fun w8 =>
      (gN w8 a0 3 4).bind fun x9 =>
      (gI w8 a0 3 5).bind fun x10 =>
      (sI w8 x9 0 x10 a3).bind fun w11 =>
      (gI w11 a0 3 5).bind fun x12 =>
      (pv w11 a0 3 5 (.int (x12 + (1 : Int32)))).bind fun w13 =>
      f_pg_addStep_50 w13
  else none
theorem kb_pg_addStep {a0 : Nat} {a1 : Int32} {a2 : Int32} {a3 : Int32} {w : WW} {r : WW} (h : f_pg_addStep a0 a1 a2 a3 w = some r) : kb w a0 3 = true := (its h).1
set_option maxHeartbeats 4000000 in
set_option maxRecDepth 100000 in
theorem j_pg_addStep_50 {p : Program} {l : Launch} {e : Env} {s : State} {m : MethodId} {args : Array Value} {below : List Frame} {meth : Method} {c : Code} {D : va_G} {cA : Nat → ClassId} {base : Nat} {w' : WW} (C : cx b_pg_addStep (none) 4 y_pg_addStep.cls "addStep" p s m args meth c D cA base)   : ∀  (w : WW), f_pg_addStep_50  w = some w' → ∀ (H : Heap) (locs : List Loc) (ls : Array Slot), wo_S D cls cA base s w H locs → lv_has ls 4 [] → W p l e rm_pg_addStep s m args below meth c H locs 0 0 (MQ below (wo_Q D cls cA base none w') args s rm_pg_addStep.cells rm_pg_addStep.slots (wo_B base)) (F0 m 50 ls []) := by
  obtain ⟨hx, hb, hr, hml, hown, hts, hlk, hnm, hK, hG⟩ := id C
  intro  w h H locs ls hW hl
  unfold f_pg_addStep_50 at h
  cases h
  exact wo_vret hx hb hr hlk hW d_pg_addStep_50
set_option maxHeartbeats 4000000 in
set_option maxRecDepth 100000 in
theorem c_pg_addStep (l : Launch) (D : va_G) (cA : Nat → ClassId) (base : Nat) {a0 : Nat} {a1 : Int32} {a2 : Int32} {a3 : Int32} {w w' : WW} (h : f_pg_addStep a0 a1 a2 a3 w = some w') : mt l D cls (wo_tys cA) cA base y_pg_addStep (Cond.code y_pg_addStep b_pg_addStep 4 (none) :: gt) rm_pg_addStep [.ref a0, .int a1, .int a2, .int a3] w none w' rm_pg_addStep.cells rm_pg_addStep.slots := by
  refine mt_start (by decide) (Nat.le_of_ble_eq_true rfl) ?_
  intro p e s m below meth c ls hx hb hr hml hown hts hlk hnm hK hG hW hl
  have C : cx b_pg_addStep (none) 4 y_pg_addStep.cls "addStep" p s m [.ref a0, .int a1, .int a2, .int a3].toArray meth c D cA base := ⟨hx, hb, hr, hml, hown, hts, hlk, hnm, hK, hG⟩
  have hl : lv_has ls 4 [(0, .ref a0), (1, .int a1), (2, .int a2), (3, .int a3)] := hl
  unfold f_pg_addStep at h
  replace h := its h
  obtain ⟨-, h⟩ := h
  refine lv_aload_n hx hb d_pg_addStep_0 rfl (lv_at hl 0 rfl) ?_
  replace h := bs h
  obtain ⟨x1, hx1, h⟩ := h
  refine gf_pg_32 hx hb hts hown hK hG hW (gI_s hx1) d_pg_addStep_1 ?_
  refine lv_sipush (v := (200 : Int32)) hx hb d_pg_addStep_4 (by decide) ?_
  refine lv_icmp_ge (tgt := 50) hx hb d_pg_addStep_7 (by decide) (fun c2 => ?_) (fun c2 => ?_)
  · rw [if_pos c2] at h
    exact j_pg_addStep_50 C w h _ _ _ hW (lv_sub hl [] rfl)
  · rw [if_neg c2] at h
    refine lv_aload_n hx hb d_pg_addStep_10 rfl (lv_at hl 0 rfl) ?_
    replace h := bs h
    obtain ⟨x3, hx3, h⟩ := h
    refine gf_pg_18 hx hb hts hown hK hG hW (gN_s hx3) d_pg_addStep_11 ?_
    refine lv_aload_n hx hb d_pg_addStep_14 rfl (lv_at hl 0 rfl) ?_
    replace h := bs h
    obtain ⟨x4, hx4, h⟩ := h
    refine gf_pg_32 hx hb hts hown hK hG hW (gI_s hx4) d_pg_addStep_15 ?_
    refine lv_iload_n hx hb d_pg_addStep_18 rfl (lv_at hl 1 rfl) ?_
    replace h := bs h
    obtain ⟨w5, hw5, h⟩ := h
    refine wo_iast hx hb hK hW (t := 0) rfl hw5 d_pg_addStep_19 (fun H locs hW => ?_)
    refine lv_aload_n hx hb d_pg_addStep_20 rfl (lv_at hl 0 rfl) ?_
    replace h := bs h
    obtain ⟨x6, hx6, h⟩ := h
    refine gf_pg_22 hx hb hts hown hK hG hW (gN_s hx6) d_pg_addStep_21 ?_
    refine lv_aload_n hx hb d_pg_addStep_24 rfl (lv_at hl 0 rfl) ?_
    replace h := bs h
    obtain ⟨x7, hx7, h⟩ := h
    refine gf_pg_32 hx hb hts hown hK hG hW (gI_s hx7) d_pg_addStep_25 ?_
    refine lv_iload_n hx hb d_pg_addStep_28 rfl (lv_at hl 2 rfl) ?_
    replace h := bs h
    obtain ⟨w8, hw8, h⟩ := h
    refine wo_iast hx hb hK hW (t := 0) rfl hw8 d_pg_addStep_29 (fun H locs hW => ?_)
    refine lv_aload_n hx hb d_pg_addStep_30 rfl (lv_at hl 0 rfl) ?_
    replace h := bs h
    obtain ⟨x9, hx9, h⟩ := h
    refine gf_pg_25 hx hb hts hown hK hG hW (gN_s hx9) d_pg_addStep_31 ?_
    refine lv_aload_n hx hb d_pg_addStep_34 rfl (lv_at hl 0 rfl) ?_
    replace h := bs h
    obtain ⟨x10, hx10, h⟩ := h
    refine gf_pg_32 hx hb hts hown hK hG hW (gI_s hx10) d_pg_addStep_35 ?_
    refine lv_iload_n hx hb d_pg_addStep_38 rfl (lv_at hl 3 rfl) ?_
    replace h := bs h
    obtain ⟨w11, hw11, h⟩ := h
    refine wo_iast hx hb hK hW (t := 0) rfl hw11 d_pg_addStep_39 (fun H locs hW => ?_)
    refine lv_aload_n hx hb d_pg_addStep_40 rfl (lv_at hl 0 rfl) ?_
    refine lv_dup hx hb d_pg_addStep_41 rfl ?_
    replace h := bs h
    obtain ⟨x12, hx12, h⟩ := h
    refine gf_pg_32 hx hb hts hown hK hG hW (gI_s hx12) d_pg_addStep_42 ?_
    refine lv_iconst (v := (1 : Int32)) hx hb d_pg_addStep_45 (by decide) ?_
    refine lv_iadd hx hb d_pg_addStep_46 ?_
    replace h := bs h
    obtain ⟨w13, hw13, h⟩ := h
    refine pf_pg_32 hx hb hts hown hK hG hW rfl rfl hw13 d_pg_addStep_47 (fun H locs hW => ?_)
    exact j_pg_addStep_50 C w13 h _ _ _ hW (lv_sub hl [] rfl)
abbrev b_pa_isProductSign : ByteArray := prog_3_method_17_code
def y_pa_isProductSign : MethodName := ⟨"AlarmForge$Parser", "isProductSign", "(I)Z"⟩
def rm_pa_isProductSign : Room := { frames := 0, cells := 0, slots := 0, locals := 0 }
theorem d_pa_isProductSign_0 : decode b_pa_isProductSign 0 = .ok (.iload_n 0, 1) := by decide +kernel
theorem d_pa_isProductSign_1 : decode b_pa_isProductSign 1 = .ok (.bipush (42), 2) := by decide +kernel
theorem d_pa_isProductSign_3 : decode b_pa_isProductSign 3 = .ok (.if_icmp .eq (15), 3) := by decide +kernel
theorem d_pa_isProductSign_6 : decode b_pa_isProductSign 6 = .ok (.iload_n 0, 1) := by decide +kernel
theorem d_pa_isProductSign_7 : decode b_pa_isProductSign 7 = .ok (.bipush (47), 2) := by decide +kernel
theorem d_pa_isProductSign_9 : decode b_pa_isProductSign 9 = .ok (.if_icmp .eq (9), 3) := by decide +kernel
theorem d_pa_isProductSign_12 : decode b_pa_isProductSign 12 = .ok (.iload_n 0, 1) := by decide +kernel
theorem d_pa_isProductSign_13 : decode b_pa_isProductSign 13 = .ok (.bipush (37), 2) := by decide +kernel
theorem d_pa_isProductSign_15 : decode b_pa_isProductSign 15 = .ok (.if_icmp .ne (7), 3) := by decide +kernel
theorem d_pa_isProductSign_18 : decode b_pa_isProductSign 18 = .ok (.iconst 1, 1) := by decide +kernel
theorem d_pa_isProductSign_19 : decode b_pa_isProductSign 19 = .ok (.goto (4), 3) := by decide +kernel
theorem d_pa_isProductSign_22 : decode b_pa_isProductSign 22 = .ok (.iconst 0, 1) := by decide +kernel
theorem d_pa_isProductSign_23 : decode b_pa_isProductSign 23 = .ok (.ireturn, 1) := by decide +kernel
def f_pa_isProductSign_23  (z0 : Int32) (w : WW) : Option (Int32 × WW) :=
  if z0 = 0 ∨ z0 = 1 then some (z0, w) else none
def f_pa_isProductSign_18   (w : WW) : Option (Int32 × WW) :=
  f_pa_isProductSign_23 (1 : Int32) w
def f_pa_isProductSign (a0 : Int32) (w : WW) : Option (Int32 × WW) :=
  if a0 = (42 : Int32) then
    f_pa_isProductSign_18 w
  else
    if a0 = (47 : Int32) then
      f_pa_isProductSign_18 w
    else
      if a0 = (37 : Int32) then
        f_pa_isProductSign_18 w
      else
        f_pa_isProductSign_23 (0 : Int32) w
set_option maxHeartbeats 4000000 in
set_option maxRecDepth 100000 in
theorem j_pa_isProductSign_23 {p : Program} {l : Launch} {e : Env} {s : State} {m : MethodId} {args : Array Value} {below : List Frame} {meth : Method} {c : Code} {D : va_G} {cA : Nat → ClassId} {base : Nat} {r : Int32} {w' : WW} (C : cx b_pa_isProductSign (some .boolean) 1 y_pa_isProductSign.cls "isProductSign" p s m args meth c D cA base)   : ∀ (z0 : Int32) (w : WW), f_pa_isProductSign_23 z0 w = some (r, w') → ∀ (H : Heap) (locs : List Loc) (ls : Array Slot), wo_S D cls cA base s w H locs → lv_has ls 1 [] → W p l e rm_pa_isProductSign s m args below meth c H locs 0 0 (MQ below (wo_Q D cls cA base (some (.int r)) w') args s rm_pa_isProductSign.cells rm_pa_isProductSign.slots (wo_B base)) (F0 m 23 ls [.int z0]) := by
  obtain ⟨hx, hb, hr, hml, hown, hts, hlk, hnm, hK, hG⟩ := id C
  intro z0 w h H locs ls hW hl
  unfold f_pa_isProductSign_23 at h
  replace h := its h
  obtain ⟨c2, h⟩ := h
  cases h
  exact wo_zret hx hb hr hlk hW c2 d_pa_isProductSign_23
set_option maxHeartbeats 4000000 in
set_option maxRecDepth 100000 in
theorem j_pa_isProductSign_18 {p : Program} {l : Launch} {e : Env} {s : State} {m : MethodId} {args : Array Value} {below : List Frame} {meth : Method} {c : Code} {D : va_G} {cA : Nat → ClassId} {base : Nat} {r : Int32} {w' : WW} (C : cx b_pa_isProductSign (some .boolean) 1 y_pa_isProductSign.cls "isProductSign" p s m args meth c D cA base)   : ∀  (w : WW), f_pa_isProductSign_18  w = some (r, w') → ∀ (H : Heap) (locs : List Loc) (ls : Array Slot), wo_S D cls cA base s w H locs → lv_has ls 1 [] → W p l e rm_pa_isProductSign s m args below meth c H locs 0 0 (MQ below (wo_Q D cls cA base (some (.int r)) w') args s rm_pa_isProductSign.cells rm_pa_isProductSign.slots (wo_B base)) (F0 m 18 ls []) := by
  obtain ⟨hx, hb, hr, hml, hown, hts, hlk, hnm, hK, hG⟩ := id C
  intro  w h H locs ls hW hl
  unfold f_pa_isProductSign_18 at h
  refine lv_iconst (v := (1 : Int32)) hx hb d_pa_isProductSign_18 (by decide) ?_
  refine lv_goto (tgt := 23) hx hb d_pa_isProductSign_19 (by decide) ?_
  exact j_pa_isProductSign_23 C (1 : Int32) w h _ _ _ hW (lv_sub hl [] rfl)
set_option maxHeartbeats 4000000 in
set_option maxRecDepth 100000 in
theorem c_pa_isProductSign (l : Launch) (D : va_G) (cA : Nat → ClassId) (base : Nat) {a0 : Int32} {w w' : WW} {r : Int32} (h : f_pa_isProductSign a0 w = some (r, w')) : mt l D cls (wo_tys cA) cA base y_pa_isProductSign (Cond.code y_pa_isProductSign b_pa_isProductSign 1 (some .boolean) :: gt) rm_pa_isProductSign [.int a0] w (some (.int r)) w' rm_pa_isProductSign.cells rm_pa_isProductSign.slots := by
  refine mt_start (by decide) (Nat.le_of_ble_eq_true rfl) ?_
  intro p e s m below meth c ls hx hb hr hml hown hts hlk hnm hK hG hW hl
  have C : cx b_pa_isProductSign (some .boolean) 1 y_pa_isProductSign.cls "isProductSign" p s m [.int a0].toArray meth c D cA base := ⟨hx, hb, hr, hml, hown, hts, hlk, hnm, hK, hG⟩
  have hl : lv_has ls 1 [(0, .int a0)] := hl
  unfold f_pa_isProductSign at h
  refine lv_iload_n hx hb d_pa_isProductSign_0 rfl (lv_at hl 0 rfl) ?_
  refine lv_bipush (v := (42 : Int32)) hx hb d_pa_isProductSign_1 (by decide) ?_
  refine lv_icmp_eq (tgt := 18) hx hb d_pa_isProductSign_3 (by decide) (fun c1 => ?_) (fun c1 => ?_)
  · rw [if_pos c1] at h
    exact j_pa_isProductSign_18 C w h _ _ _ hW (lv_sub hl [] rfl)
  · rw [if_neg c1] at h
    refine lv_iload_n hx hb d_pa_isProductSign_6 rfl (lv_at hl 0 rfl) ?_
    refine lv_bipush (v := (47 : Int32)) hx hb d_pa_isProductSign_7 (by decide) ?_
    refine lv_icmp_eq (tgt := 18) hx hb d_pa_isProductSign_9 (by decide) (fun c3 => ?_) (fun c3 => ?_)
    · rw [if_pos c3] at h
      exact j_pa_isProductSign_18 C w h _ _ _ hW (lv_sub hl [] rfl)
    · rw [if_neg c3] at h
      refine lv_iload_n hx hb d_pa_isProductSign_12 rfl (lv_at hl 0 rfl) ?_
      refine lv_bipush (v := (37 : Int32)) hx hb d_pa_isProductSign_13 (by decide) ?_
      refine lv_icmp_ne (tgt := 22) hx hb d_pa_isProductSign_15 (by decide) (fun c4 => ?_) (fun c4 => ?_)
      · rw [if_neg c4] at h
        refine lv_iconst (v := (0 : Int32)) hx hb d_pa_isProductSign_22 (by decide) ?_
        exact j_pa_isProductSign_23 C (0 : Int32) w h _ _ _ hW (lv_sub hl [] rfl)
      · rw [if_pos c4] at h
        exact j_pa_isProductSign_18 C w h _ _ _ hW (lv_sub hl [] rfl)
theorem xv_pa_108 {p : Program} {l : Launch} {e : Env} {R : Room} {s : State} {m : MethodId} {args : Array Value} {below : List Frame} {meth : Method} {c : Code} {H : Heap} {locs : List Loc} {cells slots : Nat} {Q : State → Prop} {D : va_G} {cA : Nat → ClassId} {base : Nat} {w w' : WW} {cc : ByteArray} {pc nL : Nat} {ls : Array Slot} {rest st0 As : List Value} {E : String} {b : Nat} (hx : p.tables.exec = Jvm.exec) (hb : c.code = cc) (hml : c.maxLocals = nL) (hown : s.vm.findClass Rc_pa = some m.cls) (hts : ∀ w ∈ gt, w.before args s = true) (hK : va_K D cls (wo_tys cA) s) (hG : wo_G base s) (hW : wo_S D cls cA base s w H locs) (hM : xt l D cls (wo_tys cA) cA base y_pa_take (Cond.code y_pa_take b_pa_take 2 (none) :: gt) rx_pa_take (.ref b :: As) w E w' rx_pa_take.cells rx_pa_take.slots) (hkb : kb w b 2 = true) (hR : rx_pa_take.frames + 1 ≤ R.frames ∧ 8 + (2 + 11) + rx_pa_take.locals ≤ R.locals) (hf : cells + rx_pa_take.cells ≤ R.cells ∧ slots + rx_pa_take.slots ≤ R.slots) (hn : As.length = 1) (hsz : ls.size = nL) (hst : st0 = As.reverse ++ .ref b :: rest) (hcat : (rest.map fun v => v.category).sum ≤ 8) (hdg : decode cc pc = .ok (.invokevirtual 108, 3)) (kk : ∀ (H1 : Heap) (locs1 : List Loc) (q : Addr) (ce : Cell), wo_S D cls cA base s w' H1 locs1 → H1[q]? = some ce → ce.vm = .none → s.vm.findClass E = some ce.cls → XW p l e R s m args below meth c H1 locs1 (cells + rx_pa_take.cells) (slots + rx_pa_take.slots) Q (F0 m pc ls rest) q) : W p l e R s m args below meth c H locs cells slots Q (F0 m pc ls st0) :=
  wo_xcallV (C := Rc_pa) hx hb hml hown hts hK hG hW hM hkb rfl (gt_of (i := 682) (by decide +kernel) (by decide +kernel)) (gt_of (i := 684) (by decide +kernel) (by decide +kernel)) (gt_sel (i := 13) (by decide +kernel) (by decide +kernel)) (gt_of (i := 2) (by decide +kernel) (by decide +kernel)) (gt_of (i := 685) (by decide +kernel) (by decide +kernel)) (by decide +kernel) hR hf hn hsz hst hcat hdg kk
theorem cv_pa_108 {p : Program} {l : Launch} {e : Env} {R : Room} {s : State} {m : MethodId} {args : Array Value} {below : List Frame} {meth : Method} {c : Code} {H : Heap} {locs : List Loc} {cells slots : Nat} {Q : State → Prop} {D : va_G} {cA : Nat → ClassId} {base : Nat} {w w' : WW} {cc : ByteArray} {pc nL : Nat} {ls : Array Slot} {rest st0 As : List Value} {ov : Option Value} {b : Nat} (hx : p.tables.exec = Jvm.exec) (hb : c.code = cc) (hml : c.maxLocals = nL) (hown : s.vm.findClass Rc_pa = some m.cls) (hts : ∀ w ∈ gt, w.before args s = true) (hK : va_K D cls (wo_tys cA) s) (hG : wo_G base s) (hW : wo_S D cls cA base s w H locs) (hM : mt l D cls (wo_tys cA) cA base y_pa_take (Cond.code y_pa_take b_pa_take 2 (none) :: gt) rm_pa_take (.ref b :: As) w ov w' rm_pa_take.cells rm_pa_take.slots) (hkb : kb w b 2 = true) (hR : rm_pa_take.frames + 1 ≤ R.frames ∧ 8 + (2 + 11) + rm_pa_take.locals ≤ R.locals) (hf : cells + rm_pa_take.cells ≤ R.cells ∧ slots + rm_pa_take.slots ≤ R.slots) (hn : As.length = 1) (hsz : ls.size = nL) (hst : st0 = As.reverse ++ .ref b :: rest) (hcat : (rest.map fun v => v.category).sum ≤ 8) (hdg : decode cc pc = .ok (.invokevirtual 108, 3)) (kk : ∀ (H1 : Heap) (locs1 : List Loc), wo_S D cls cA base s w' H1 locs1 → W p l e R s m args below meth c H1 locs1 (cells + rm_pa_take.cells) (slots + rm_pa_take.slots) Q (F0 m (pc + 3) ls (ov.toList ++ rest))) : W p l e R s m args below meth c H locs cells slots Q (F0 m pc ls st0) :=
  wo_callV (C := Rc_pa) hx hb hml hown hts hK hG hW hM hkb rfl (gt_of (i := 682) (by decide +kernel) (by decide +kernel)) (gt_of (i := 684) (by decide +kernel) (by decide +kernel)) (gt_sel (i := 13) (by decide +kernel) (by decide +kernel)) (gt_of (i := 2) (by decide +kernel) (by decide +kernel)) (gt_of (i := 685) (by decide +kernel) (by decide +kernel)) (by decide +kernel) hR hf hn hsz hst hcat hdg kk
abbrev b_pa_readBlock : ByteArray := prog_3_method_14_code
def y_pa_readBlock : MethodName := ⟨"AlarmForge$Parser", "readBlock", "(I)LAlarmForge$Statement;"⟩
def rm_pa_readBlock : Room := { frames := 8, cells := 0, slots := 0, locals := 142 }
def rx_pa_readBlock : Room := { frames := 8, cells := 1, slots := 6, locals := 142 }
theorem d_pa_readBlock_0 : decode b_pa_readBlock 0 = .ok (.aload_n 0, 1) := by decide +kernel
theorem d_pa_readBlock_1 : decode b_pa_readBlock 1 = .ok (.iload_n 1, 1) := by decide +kernel
theorem d_pa_readBlock_2 : decode b_pa_readBlock 2 = .ok (.iconst 3, 1) := by decide +kernel
theorem d_pa_readBlock_3 : decode b_pa_readBlock 3 = .ok (.if_icmp .gt (7), 3) := by decide +kernel
theorem d_pa_readBlock_6 : decode b_pa_readBlock 6 = .ok (.iconst 1, 1) := by decide +kernel
theorem d_pa_readBlock_7 : decode b_pa_readBlock 7 = .ok (.goto (4), 3) := by decide +kernel
theorem d_pa_readBlock_10 : decode b_pa_readBlock 10 = .ok (.iconst 0, 1) := by decide +kernel
theorem d_pa_readBlock_11 : decode b_pa_readBlock 11 = .ok (.invokevirtual 59, 3) := by decide +kernel
theorem d_pa_readBlock_14 : decode b_pa_readBlock 14 = .ok (.aload_n 0, 1) := by decide +kernel
theorem d_pa_readBlock_15 : decode b_pa_readBlock 15 = .ok (.bipush (123), 2) := by decide +kernel
theorem d_pa_readBlock_17 : decode b_pa_readBlock 17 = .ok (.invokevirtual 108, 3) := by decide +kernel
theorem d_pa_readBlock_20 : decode b_pa_readBlock 20 = .ok (.aload_n 0, 1) := by decide +kernel
theorem d_pa_readBlock_21 : decode b_pa_readBlock 21 = .ok (.bipush (125), 2) := by decide +kernel
theorem d_pa_readBlock_23 : decode b_pa_readBlock 23 = .ok (.iload_n 1, 1) := by decide +kernel
theorem d_pa_readBlock_24 : decode b_pa_readBlock 24 = .ok (.invokevirtual 37, 3) := by decide +kernel
theorem d_pa_readBlock_27 : decode b_pa_readBlock 27 = .ok (.astore_n 2, 1) := by decide +kernel
theorem d_pa_readBlock_28 : decode b_pa_readBlock 28 = .ok (.aload_n 0, 1) := by decide +kernel
theorem d_pa_readBlock_29 : decode b_pa_readBlock 29 = .ok (.bipush (125), 2) := by decide +kernel
theorem d_pa_readBlock_31 : decode b_pa_readBlock 31 = .ok (.invokevirtual 108, 3) := by decide +kernel
theorem d_pa_readBlock_34 : decode b_pa_readBlock 34 = .ok (.aload_n 2, 1) := by decide +kernel
theorem d_pa_readBlock_35 : decode b_pa_readBlock 35 = .ok (.areturn, 1) := by decide +kernel
def f_pa_readBlock_11  (y0 : Nat) (y1 : Int32) (z0 : Nat) (z1 : Int32) (w : WW) : Option ((Option Nat ⊕ String) × WW) :=
  bdx (f_pa_need z0 z1 w) fun x3 w2 =>
  bdx (f_pa_take y0 (123 : Int32) w2) fun x5 w4 =>
  bdx (f_pa_readStatements y0 (125 : Int32) y1 w4) fun x7 w6 =>
  bdx (f_pa_take y0 (125 : Int32) w6) fun x9 w8 =>
  some (.inl x7, w8)
def f_pa_readBlock (a0 : Nat) (a1 : Int32) (w : WW) : Option ((Option Nat ⊕ String) × WW) :=
  if kb w a0 2 = true then
    if (3 : Int32) < a1 then
      f_pa_readBlock_11 a0 a1 a0 (0 : Int32) w
    else
      f_pa_readBlock_11 a0 a1 a0 (1 : Int32) w
  else none
theorem kb_pa_readBlock {a0 : Nat} {a1 : Int32} {w : WW} {r : ((Option Nat ⊕ String) × WW)} (h : f_pa_readBlock a0 a1 w = some r) : kb w a0 2 = true := (its h).1
set_option maxHeartbeats 4000000 in
set_option maxRecDepth 100000 in
theorem j_pa_readBlock_11 {p : Program} {l : Launch} {e : Env} {s : State} {m : MethodId} {args : Array Value} {below : List Frame} {meth : Method} {c : Code} {D : va_G} {cA : Nat → ClassId} {base : Nat} {r : Option Nat} {w' : WW} (C : cx b_pa_readBlock (some (.object "AlarmForge$Statement")) 3 y_pa_readBlock.cls "readBlock" p s m args meth c D cA base)   : ∀ (y0 : Nat) (y1 : Int32) (z0 : Nat) (z1 : Int32) (w : WW), f_pa_readBlock_11 y0 y1 z0 z1 w = some (.inl r, w') → ∀ (H : Heap) (locs : List Loc) (ls : Array Slot), wo_S D cls cA base s w H locs → lv_has ls 3 [(0, .ref y0), (1, .int y1)] → W p l e rm_pa_readBlock s m args below meth c H locs 0 0 (MQ below (wo_Q D cls cA base (some (va_rf r)) w') args s rm_pa_readBlock.cells rm_pa_readBlock.slots (wo_B base)) (F0 m 11 ls [.int z1, .ref z0]) := by
  obtain ⟨hx, hb, hr, hml, hown, hts, hlk, hnm, hK, hG⟩ := id C
  intro y0 y1 z0 z1 w h H locs ls hW hl
  unfold f_pa_readBlock_11 at h
  replace h := bsx h
  obtain ⟨x3, w2, hw2, h⟩ := h
  refine cv_pa_59 (As := [.int z1]) (rest := []) hx hb hml hown hts hK hG hW (c_pa_need l D cA base hw2) (kb_pa_need hw2) ⟨Nat.le_of_ble_eq_true rfl, Nat.le_of_ble_eq_true rfl⟩ ⟨Nat.le_of_ble_eq_true rfl, Nat.le_of_ble_eq_true rfl⟩ rfl hl.1 rfl (Nat.le_of_ble_eq_true rfl) d_pa_readBlock_11 (fun H locs hW => ?_)
  refine lv_aload_n hx hb d_pa_readBlock_14 rfl (lv_at hl 0 rfl) ?_
  refine lv_bipush (v := (123 : Int32)) hx hb d_pa_readBlock_15 (by decide) ?_
  replace h := bsx h
  obtain ⟨x5, w4, hw4, h⟩ := h
  refine cv_pa_108 (As := [.int (123 : Int32)]) (rest := []) hx hb hml hown hts hK hG hW (c_pa_take l D cA base hw4) (kb_pa_take hw4) ⟨Nat.le_of_ble_eq_true rfl, Nat.le_of_ble_eq_true rfl⟩ ⟨Nat.le_of_ble_eq_true rfl, Nat.le_of_ble_eq_true rfl⟩ rfl hl.1 rfl (Nat.le_of_ble_eq_true rfl) d_pa_readBlock_17 (fun H locs hW => ?_)
  refine lv_aload_n hx hb d_pa_readBlock_20 rfl (lv_at hl 0 rfl) ?_
  refine lv_bipush (v := (125 : Int32)) hx hb d_pa_readBlock_21 (by decide) ?_
  refine lv_iload_n hx hb d_pa_readBlock_23 rfl (lv_at hl 1 rfl) ?_
  replace h := bsx h
  obtain ⟨x7, w6, hw6, h⟩ := h
  refine cv_pa_37 (As := [.int (125 : Int32), .int y1]) (rest := []) hx hb hml hown hts hK hG hW (c_pa_readStatements l D cA base hw6) (kb_pa_readStatements hw6) ⟨Nat.le_of_ble_eq_true rfl, Nat.le_of_ble_eq_true rfl⟩ ⟨Nat.le_of_ble_eq_true rfl, Nat.le_of_ble_eq_true rfl⟩ rfl hl.1 rfl (Nat.le_of_ble_eq_true rfl) d_pa_readBlock_24 (fun H locs hW => ?_)
  refine wo_astore_n (lv' := [(2, va_rf x7), (0, .ref y0), (1, .int y1)]) hx hb d_pa_readBlock_27 rfl hl (by decide) rfl (fun ls hl => ?_)
  refine lv_aload_n hx hb d_pa_readBlock_28 rfl (lv_at hl 1 rfl) ?_
  refine lv_bipush (v := (125 : Int32)) hx hb d_pa_readBlock_29 (by decide) ?_
  replace h := bsx h
  obtain ⟨x9, w8, hw8, h⟩ := h
  refine cv_pa_108 (As := [.int (125 : Int32)]) (rest := []) hx hb hml hown hts hK hG hW (c_pa_take l D cA base hw8) (kb_pa_take hw8) ⟨Nat.le_of_ble_eq_true rfl, Nat.le_of_ble_eq_true rfl⟩ ⟨Nat.le_of_ble_eq_true rfl, Nat.le_of_ble_eq_true rfl⟩ rfl hl.1 rfl (Nat.le_of_ble_eq_true rfl) d_pa_readBlock_31 (fun H locs hW => ?_)
  refine wo_aload_n hx hb d_pa_readBlock_34 rfl (lv_at hl 0 rfl) ?_
  cases h
  exact wo_aret hx hb hr hlk hW d_pa_readBlock_35
set_option maxHeartbeats 4000000 in
set_option maxRecDepth 100000 in
theorem c_pa_readBlock (l : Launch) (D : va_G) (cA : Nat → ClassId) (base : Nat) {a0 : Nat} {a1 : Int32} {w w' : WW} {r : Option Nat} (h : f_pa_readBlock a0 a1 w = some (.inl r, w')) : mt l D cls (wo_tys cA) cA base y_pa_readBlock (Cond.code y_pa_readBlock b_pa_readBlock 3 (some (.object "AlarmForge$Statement")) :: gt) rm_pa_readBlock [.ref a0, .int a1] w (some (va_rf r)) w' rm_pa_readBlock.cells rm_pa_readBlock.slots := by
  refine mt_start (by decide) (Nat.le_of_ble_eq_true rfl) ?_
  intro p e s m below meth c ls hx hb hr hml hown hts hlk hnm hK hG hW hl
  have C : cx b_pa_readBlock (some (.object "AlarmForge$Statement")) 3 y_pa_readBlock.cls "readBlock" p s m [.ref a0, .int a1].toArray meth c D cA base := ⟨hx, hb, hr, hml, hown, hts, hlk, hnm, hK, hG⟩
  have hl : lv_has ls 3 [(0, .ref a0), (1, .int a1)] := hl
  unfold f_pa_readBlock at h
  replace h := its h
  obtain ⟨-, h⟩ := h
  refine lv_aload_n hx hb d_pa_readBlock_0 rfl (lv_at hl 0 rfl) ?_
  refine lv_iload_n hx hb d_pa_readBlock_1 rfl (lv_at hl 1 rfl) ?_
  refine lv_iconst (v := (3 : Int32)) hx hb d_pa_readBlock_2 (by decide) ?_
  refine lv_icmp_gt (tgt := 10) hx hb d_pa_readBlock_3 (by decide) (fun c1 => ?_) (fun c1 => ?_)
  · rw [if_pos c1] at h
    refine lv_iconst (v := (0 : Int32)) hx hb d_pa_readBlock_10 (by decide) ?_
    exact j_pa_readBlock_11 C a0 a1 a0 (0 : Int32) w h _ _ _ hW (lv_sub hl [0, 1] rfl)
  · rw [if_neg c1] at h
    refine lv_iconst (v := (1 : Int32)) hx hb d_pa_readBlock_6 (by decide) ?_
    refine lv_goto (tgt := 11) hx hb d_pa_readBlock_7 (by decide) ?_
    exact j_pa_readBlock_11 C a0 a1 a0 (1 : Int32) w h _ _ _ hW (lv_sub hl [0, 1] rfl)
set_option maxHeartbeats 4000000 in
set_option maxRecDepth 100000 in
theorem jx_pa_readBlock_11 {p : Program} {l : Launch} {e : Env} {s : State} {m : MethodId} {args : Array Value} {below : List Frame} {meth : Method} {c : Code} {D : va_G} {cA : Nat → ClassId} {base : Nat} {E : String} {w' : WW} (C : cx b_pa_readBlock (some (.object "AlarmForge$Statement")) 3 y_pa_readBlock.cls "readBlock" p s m args meth c D cA base ∧ (∀ x ∈ c.exceptionTable.toList, ∀ k : Nat, covers x k = false) ∧ l.stackTraces = false)   : ∀ (y0 : Nat) (y1 : Int32) (z0 : Nat) (z1 : Int32) (w : WW), f_pa_readBlock_11 y0 y1 z0 z1 w = some (.inr E, w') → ∀ (H : Heap) (locs : List Loc) (ls : Array Slot), wo_S D cls cA base s w H locs → lv_has ls 3 [(0, .ref y0), (1, .int y1)] → W p l e rx_pa_readBlock s m args below meth c H locs 0 0 (XQ below (wo_X D cls cA base E w' rx_pa_readBlock.cells rx_pa_readBlock.slots) args s) (F0 m 11 ls [.int z1, .ref z0]) := by
  obtain ⟨hx, hb, hr, hml, hown, hts, hlk, hnm, hK, hG⟩ := id C.1
  have hnt := C.2.1
  have hst := C.2.2
  intro y0 y1 z0 z1 w h H locs ls hW hl
  unfold f_pa_readBlock_11 at h
  rcases bsy h with hw2 | ⟨x3, w2, hw2, hnw2⟩
  · exact xv_pa_59 (As := [.int z1]) (rest := []) hx hb hml hown hts hK hG hW (x_pa_need l hst D cA base hw2) (kb_pa_need hw2) ⟨Nat.le_of_ble_eq_true rfl, Nat.le_of_ble_eq_true rfl⟩ ⟨Nat.le_of_ble_eq_true rfl, Nat.le_of_ble_eq_true rfl⟩ rfl hl.1 rfl (Nat.le_of_ble_eq_true rfl) d_pa_readBlock_11 (fun H locs q ce hW h1 h2 h3 => wo_xout hnt hlk hW h1 h2 h3 (Nat.le_of_ble_eq_true rfl) (Nat.le_of_ble_eq_true rfl))
  clear h
  have h := hnw2
  clear hnw2
  refine cv_pa_59 (As := [.int z1]) (rest := []) hx hb hml hown hts hK hG hW (c_pa_need l D cA base hw2) (kb_pa_need hw2) ⟨Nat.le_of_ble_eq_true rfl, Nat.le_of_ble_eq_true rfl⟩ ⟨Nat.le_of_ble_eq_true rfl, Nat.le_of_ble_eq_true rfl⟩ rfl hl.1 rfl (Nat.le_of_ble_eq_true rfl) d_pa_readBlock_11 (fun H locs hW => ?_)
  refine lv_aload_n hx hb d_pa_readBlock_14 rfl (lv_at hl 0 rfl) ?_
  refine lv_bipush (v := (123 : Int32)) hx hb d_pa_readBlock_15 (by decide) ?_
  rcases bsy h with hw4 | ⟨x5, w4, hw4, hnw4⟩
  · exact xv_pa_108 (As := [.int (123 : Int32)]) (rest := []) hx hb hml hown hts hK hG hW (x_pa_take l hst D cA base hw4) (kb_pa_take hw4) ⟨Nat.le_of_ble_eq_true rfl, Nat.le_of_ble_eq_true rfl⟩ ⟨Nat.le_of_ble_eq_true rfl, Nat.le_of_ble_eq_true rfl⟩ rfl hl.1 rfl (Nat.le_of_ble_eq_true rfl) d_pa_readBlock_17 (fun H locs q ce hW h1 h2 h3 => wo_xout hnt hlk hW h1 h2 h3 (Nat.le_of_ble_eq_true rfl) (Nat.le_of_ble_eq_true rfl))
  clear h
  have h := hnw4
  clear hnw4
  refine cv_pa_108 (As := [.int (123 : Int32)]) (rest := []) hx hb hml hown hts hK hG hW (c_pa_take l D cA base hw4) (kb_pa_take hw4) ⟨Nat.le_of_ble_eq_true rfl, Nat.le_of_ble_eq_true rfl⟩ ⟨Nat.le_of_ble_eq_true rfl, Nat.le_of_ble_eq_true rfl⟩ rfl hl.1 rfl (Nat.le_of_ble_eq_true rfl) d_pa_readBlock_17 (fun H locs hW => ?_)
  refine lv_aload_n hx hb d_pa_readBlock_20 rfl (lv_at hl 0 rfl) ?_
  refine lv_bipush (v := (125 : Int32)) hx hb d_pa_readBlock_21 (by decide) ?_
  refine lv_iload_n hx hb d_pa_readBlock_23 rfl (lv_at hl 1 rfl) ?_
  rcases bsy h with hw6 | ⟨x7, w6, hw6, hnw6⟩
  · exact xv_pa_37 (As := [.int (125 : Int32), .int y1]) (rest := []) hx hb hml hown hts hK hG hW (x_pa_readStatements l hst D cA base hw6) (kb_pa_readStatements hw6) ⟨Nat.le_of_ble_eq_true rfl, Nat.le_of_ble_eq_true rfl⟩ ⟨Nat.le_of_ble_eq_true rfl, Nat.le_of_ble_eq_true rfl⟩ rfl hl.1 rfl (Nat.le_of_ble_eq_true rfl) d_pa_readBlock_24 (fun H locs q ce hW h1 h2 h3 => wo_xout hnt hlk hW h1 h2 h3 (Nat.le_of_ble_eq_true rfl) (Nat.le_of_ble_eq_true rfl))
  clear h
  have h := hnw6
  clear hnw6
  refine cv_pa_37 (As := [.int (125 : Int32), .int y1]) (rest := []) hx hb hml hown hts hK hG hW (c_pa_readStatements l D cA base hw6) (kb_pa_readStatements hw6) ⟨Nat.le_of_ble_eq_true rfl, Nat.le_of_ble_eq_true rfl⟩ ⟨Nat.le_of_ble_eq_true rfl, Nat.le_of_ble_eq_true rfl⟩ rfl hl.1 rfl (Nat.le_of_ble_eq_true rfl) d_pa_readBlock_24 (fun H locs hW => ?_)
  refine wo_astore_n (lv' := [(2, va_rf x7), (0, .ref y0), (1, .int y1)]) hx hb d_pa_readBlock_27 rfl hl (by decide) rfl (fun ls hl => ?_)
  refine lv_aload_n hx hb d_pa_readBlock_28 rfl (lv_at hl 1 rfl) ?_
  refine lv_bipush (v := (125 : Int32)) hx hb d_pa_readBlock_29 (by decide) ?_
  rcases bsy h with hw8 | ⟨x9, w8, hw8, hnw8⟩
  · exact xv_pa_108 (As := [.int (125 : Int32)]) (rest := []) hx hb hml hown hts hK hG hW (x_pa_take l hst D cA base hw8) (kb_pa_take hw8) ⟨Nat.le_of_ble_eq_true rfl, Nat.le_of_ble_eq_true rfl⟩ ⟨Nat.le_of_ble_eq_true rfl, Nat.le_of_ble_eq_true rfl⟩ rfl hl.1 rfl (Nat.le_of_ble_eq_true rfl) d_pa_readBlock_31 (fun H locs q ce hW h1 h2 h3 => wo_xout hnt hlk hW h1 h2 h3 (Nat.le_of_ble_eq_true rfl) (Nat.le_of_ble_eq_true rfl))
  clear h
  have h := hnw8
  clear hnw8
  refine cv_pa_108 (As := [.int (125 : Int32)]) (rest := []) hx hb hml hown hts hK hG hW (c_pa_take l D cA base hw8) (kb_pa_take hw8) ⟨Nat.le_of_ble_eq_true rfl, Nat.le_of_ble_eq_true rfl⟩ ⟨Nat.le_of_ble_eq_true rfl, Nat.le_of_ble_eq_true rfl⟩ rfl hl.1 rfl (Nat.le_of_ble_eq_true rfl) d_pa_readBlock_31 (fun H locs hW => ?_)
  refine wo_aload_n hx hb d_pa_readBlock_34 rfl (lv_at hl 0 rfl) ?_
  cases h
set_option maxHeartbeats 4000000 in
set_option maxRecDepth 100000 in
theorem x_pa_readBlock (l : Launch) (hst : l.stackTraces = false) (D : va_G) (cA : Nat → ClassId) (base : Nat) {a0 : Nat} {a1 : Int32} {w w' : WW} {E : String} (h : f_pa_readBlock a0 a1 w = some (.inr E, w')) : xt l D cls (wo_tys cA) cA base y_pa_readBlock (Cond.code y_pa_readBlock b_pa_readBlock 3 (some (.object "AlarmForge$Statement")) :: gt) rx_pa_readBlock [.ref a0, .int a1] w E w' rx_pa_readBlock.cells rx_pa_readBlock.slots := by
  refine xt_start (by decide) (Nat.le_of_ble_eq_true rfl) ?_
  intro p e s m below meth c ls hx hb hr hml hown hts hlk hnm hK hG hW hl hnt
  have C : cx b_pa_readBlock (some (.object "AlarmForge$Statement")) 3 y_pa_readBlock.cls "readBlock" p s m [.ref a0, .int a1].toArray meth c D cA base ∧ (∀ x ∈ c.exceptionTable.toList, ∀ k : Nat, covers x k = false) ∧ l.stackTraces = false := ⟨⟨hx, hb, hr, hml, hown, hts, hlk, hnm, hK, hG⟩, hnt, hst⟩
  have hl : lv_has ls 3 [(0, .ref a0), (1, .int a1)] := hl
  unfold f_pa_readBlock at h
  replace h := its h
  obtain ⟨-, h⟩ := h
  refine lv_aload_n hx hb d_pa_readBlock_0 rfl (lv_at hl 0 rfl) ?_
  refine lv_iload_n hx hb d_pa_readBlock_1 rfl (lv_at hl 1 rfl) ?_
  refine lv_iconst (v := (3 : Int32)) hx hb d_pa_readBlock_2 (by decide) ?_
  refine lv_icmp_gt (tgt := 10) hx hb d_pa_readBlock_3 (by decide) (fun c1 => ?_) (fun c1 => ?_)
  · rw [if_pos c1] at h
    refine lv_iconst (v := (0 : Int32)) hx hb d_pa_readBlock_10 (by decide) ?_
    exact jx_pa_readBlock_11 C a0 a1 a0 (0 : Int32) w h _ _ _ hW (lv_sub hl [0, 1] rfl)
  · rw [if_neg c1] at h
    refine lv_iconst (v := (1 : Int32)) hx hb d_pa_readBlock_6 (by decide) ?_
    refine lv_goto (tgt := 11) hx hb d_pa_readBlock_7 (by decide) ?_
    exact jx_pa_readBlock_11 C a0 a1 a0 (1 : Int32) w h _ _ _ hW (lv_sub hl [0, 1] rfl)
theorem xv_pa_134 {p : Program} {l : Launch} {e : Env} {R : Room} {s : State} {m : MethodId} {args : Array Value} {below : List Frame} {meth : Method} {c : Code} {H : Heap} {locs : List Loc} {cells slots : Nat} {Q : State → Prop} {D : va_G} {cA : Nat → ClassId} {base : Nat} {w w' : WW} {cc : ByteArray} {pc nL : Nat} {ls : Array Slot} {rest st0 As : List Value} {E : String} {b : Nat} (hx : p.tables.exec = Jvm.exec) (hb : c.code = cc) (hml : c.maxLocals = nL) (hown : s.vm.findClass Rc_pa = some m.cls) (hts : ∀ w ∈ gt, w.before args s = true) (hK : va_K D cls (wo_tys cA) s) (hG : wo_G base s) (hW : wo_S D cls cA base s w H locs) (hM : xt l D cls (wo_tys cA) cA base y_pa_readBlock (Cond.code y_pa_readBlock b_pa_readBlock 3 (some (.object "AlarmForge$Statement")) :: gt) rx_pa_readBlock (.ref b :: As) w E w' rx_pa_readBlock.cells rx_pa_readBlock.slots) (hkb : kb w b 2 = true) (hR : rx_pa_readBlock.frames + 1 ≤ R.frames ∧ 8 + (3 + 11) + rx_pa_readBlock.locals ≤ R.locals) (hf : cells + rx_pa_readBlock.cells ≤ R.cells ∧ slots + rx_pa_readBlock.slots ≤ R.slots) (hn : As.length = 1) (hsz : ls.size = nL) (hst : st0 = As.reverse ++ .ref b :: rest) (hcat : (rest.map fun v => v.category).sum ≤ 8) (hdg : decode cc pc = .ok (.invokevirtual 134, 3)) (kk : ∀ (H1 : Heap) (locs1 : List Loc) (q : Addr) (ce : Cell), wo_S D cls cA base s w' H1 locs1 → H1[q]? = some ce → ce.vm = .none → s.vm.findClass E = some ce.cls → XW p l e R s m args below meth c H1 locs1 (cells + rx_pa_readBlock.cells) (slots + rx_pa_readBlock.slots) Q (F0 m pc ls rest) q) : W p l e R s m args below meth c H locs cells slots Q (F0 m pc ls st0) :=
  wo_xcallV (C := Rc_pa) hx hb hml hown hts hK hG hW hM hkb rfl (gt_of (i := 721) (by decide +kernel) (by decide +kernel)) (gt_of (i := 723) (by decide +kernel) (by decide +kernel)) (gt_sel (i := 20) (by decide +kernel) (by decide +kernel)) (gt_of (i := 2) (by decide +kernel) (by decide +kernel)) (gt_of (i := 724) (by decide +kernel) (by decide +kernel)) (by decide +kernel) hR hf hn hsz hst hcat hdg kk
theorem cv_pa_134 {p : Program} {l : Launch} {e : Env} {R : Room} {s : State} {m : MethodId} {args : Array Value} {below : List Frame} {meth : Method} {c : Code} {H : Heap} {locs : List Loc} {cells slots : Nat} {Q : State → Prop} {D : va_G} {cA : Nat → ClassId} {base : Nat} {w w' : WW} {cc : ByteArray} {pc nL : Nat} {ls : Array Slot} {rest st0 As : List Value} {ov : Option Value} {b : Nat} (hx : p.tables.exec = Jvm.exec) (hb : c.code = cc) (hml : c.maxLocals = nL) (hown : s.vm.findClass Rc_pa = some m.cls) (hts : ∀ w ∈ gt, w.before args s = true) (hK : va_K D cls (wo_tys cA) s) (hG : wo_G base s) (hW : wo_S D cls cA base s w H locs) (hM : mt l D cls (wo_tys cA) cA base y_pa_readBlock (Cond.code y_pa_readBlock b_pa_readBlock 3 (some (.object "AlarmForge$Statement")) :: gt) rm_pa_readBlock (.ref b :: As) w ov w' rm_pa_readBlock.cells rm_pa_readBlock.slots) (hkb : kb w b 2 = true) (hR : rm_pa_readBlock.frames + 1 ≤ R.frames ∧ 8 + (3 + 11) + rm_pa_readBlock.locals ≤ R.locals) (hf : cells + rm_pa_readBlock.cells ≤ R.cells ∧ slots + rm_pa_readBlock.slots ≤ R.slots) (hn : As.length = 1) (hsz : ls.size = nL) (hst : st0 = As.reverse ++ .ref b :: rest) (hcat : (rest.map fun v => v.category).sum ≤ 8) (hdg : decode cc pc = .ok (.invokevirtual 134, 3)) (kk : ∀ (H1 : Heap) (locs1 : List Loc), wo_S D cls cA base s w' H1 locs1 → W p l e R s m args below meth c H1 locs1 (cells + rm_pa_readBlock.cells) (slots + rm_pa_readBlock.slots) Q (F0 m (pc + 3) ls (ov.toList ++ rest))) : W p l e R s m args below meth c H locs cells slots Q (F0 m pc ls st0) :=
  wo_callV (C := Rc_pa) hx hb hml hown hts hK hG hW hM hkb rfl (gt_of (i := 721) (by decide +kernel) (by decide +kernel)) (gt_of (i := 723) (by decide +kernel) (by decide +kernel)) (gt_sel (i := 20) (by decide +kernel) (by decide +kernel)) (gt_of (i := 2) (by decide +kernel) (by decide +kernel)) (gt_of (i := 724) (by decide +kernel) (by decide +kernel)) (by decide +kernel) hR hf hn hsz hst hcat hdg kk
abbrev b_pa_readRest : ByteArray := prog_3_method_13_code
def y_pa_readRest : MethodName := ⟨"AlarmForge$Parser", "readRest", "(LAlarmForge$Statement;I)V"⟩
def rm_pa_readRest : Room := { frames := 9, cells := 0, slots := 0, locals := 164 }
def rx_pa_readRest : Room := { frames := 9, cells := 1, slots := 6, locals := 164 }
theorem d_pa_readRest_0 : decode b_pa_readRest 0 = .ok (.aload_n 1, 1) := by decide +kernel
theorem d_pa_readRest_1 : decode b_pa_readRest 1 = .ok (.getfield 112, 3) := by decide +kernel
theorem d_pa_readRest_4 : decode b_pa_readRest 4 = .ok (.bipush (7), 2) := by decide +kernel
theorem d_pa_readRest_6 : decode b_pa_readRest 6 = .ok (.if_icmp .ne (10), 3) := by decide +kernel
theorem d_pa_readRest_9 : decode b_pa_readRest 9 = .ok (.aload_n 0, 1) := by decide +kernel
theorem d_pa_readRest_10 : decode b_pa_readRest 10 = .ok (.bipush (59), 2) := by decide +kernel
theorem d_pa_readRest_12 : decode b_pa_readRest 12 = .ok (.invokevirtual 108, 3) := by decide +kernel
theorem d_pa_readRest_15 : decode b_pa_readRest 15 = .ok (.return_, 1) := by decide +kernel
theorem d_pa_readRest_16 : decode b_pa_readRest 16 = .ok (.aload_n 1, 1) := by decide +kernel
theorem d_pa_readRest_17 : decode b_pa_readRest 17 = .ok (.aload_n 0, 1) := by decide +kernel
theorem d_pa_readRest_18 : decode b_pa_readRest 18 = .ok (.iload_n 2, 1) := by decide +kernel
theorem d_pa_readRest_19 : decode b_pa_readRest 19 = .ok (.iconst 1, 1) := by decide +kernel
theorem d_pa_readRest_20 : decode b_pa_readRest 20 = .ok (.iadd, 1) := by decide +kernel
theorem d_pa_readRest_21 : decode b_pa_readRest 21 = .ok (.invokevirtual 134, 3) := by decide +kernel
theorem d_pa_readRest_24 : decode b_pa_readRest 24 = .ok (.putfield 137, 3) := by decide +kernel
theorem d_pa_readRest_27 : decode b_pa_readRest 27 = .ok (.aload_n 1, 1) := by decide +kernel
theorem d_pa_readRest_28 : decode b_pa_readRest 28 = .ok (.getfield 112, 3) := by decide +kernel
theorem d_pa_readRest_31 : decode b_pa_readRest 31 = .ok (.iconst 4, 1) := by decide +kernel
theorem d_pa_readRest_32 : decode b_pa_readRest 32 = .ok (.if_icmp .ne (26), 3) := by decide +kernel
theorem d_pa_readRest_35 : decode b_pa_readRest 35 = .ok (.aload_n 0, 1) := by decide +kernel
theorem d_pa_readRest_36 : decode b_pa_readRest 36 = .ok (.invokevirtual 55, 3) := by decide +kernel
theorem d_pa_readRest_39 : decode b_pa_readRest 39 = .ok (.iconst 5, 1) := by decide +kernel
theorem d_pa_readRest_40 : decode b_pa_readRest 40 = .ok (.if_icmp .ne (18), 3) := by decide +kernel
theorem d_pa_readRest_43 : decode b_pa_readRest 43 = .ok (.aload_n 0, 1) := by decide +kernel
theorem d_pa_readRest_44 : decode b_pa_readRest 44 = .ok (.invokevirtual 63, 3) := by decide +kernel
theorem d_pa_readRest_47 : decode b_pa_readRest 47 = .ok (.aload_n 1, 1) := by decide +kernel
theorem d_pa_readRest_48 : decode b_pa_readRest 48 = .ok (.aload_n 0, 1) := by decide +kernel
theorem d_pa_readRest_49 : decode b_pa_readRest 49 = .ok (.iload_n 2, 1) := by decide +kernel
theorem d_pa_readRest_50 : decode b_pa_readRest 50 = .ok (.iconst 1, 1) := by decide +kernel
theorem d_pa_readRest_51 : decode b_pa_readRest 51 = .ok (.iadd, 1) := by decide +kernel
theorem d_pa_readRest_52 : decode b_pa_readRest 52 = .ok (.invokevirtual 134, 3) := by decide +kernel
theorem d_pa_readRest_55 : decode b_pa_readRest 55 = .ok (.putfield 140, 3) := by decide +kernel
theorem d_pa_readRest_58 : decode b_pa_readRest 58 = .ok (.return_, 1) := by decide +kernel
def f_pa_readRest_58   (w : WW) : Option ((Unit ⊕ String) × WW) :=
  some (.inl (), w)
def f_pa_readRest (a0 : Nat) (a1 : Option Nat) (a2 : Int32) (w : WW) : Option ((Unit ⊕ String) × WW) :=
  if kb w a0 2 = true then
    a1.bind fun x1 =>
    (gI w x1 4 0).bind fun x2 =>
    if x2 = (7 : Int32) then
      bdx (f_pa_take a0 (59 : Int32) w) fun x17 w16 =>
      some (.inl (), w16)
    else
      bdx (f_pa_readBlock a0 (a2 + (1 : Int32)) w) fun x5 w4 =>
      (pv w4 x1 4 7 (va_rf x5)).bind fun w6 =>
      (gI w6 x1 4 0).bind fun x7 =>
      if x7 = (4 : Int32) then
        bd2 (f_pa_kindHere a0 w6) fun x10 w9 =>
        if x10 = (5 : Int32) then
          (f_pa_advance a0 w9).bind fun w12 =>
          bdx (f_pa_readBlock a0 (a2 + (1 : Int32)) w12) fun x14 w13 =>
          (pv w13 x1 4 8 (va_rf x14)).bind fun w15 =>
          f_pa_readRest_58 w15
        else
          f_pa_readRest_58 w9
      else
        f_pa_readRest_58 w6
  else none
theorem kb_pa_readRest {a0 : Nat} {a1 : Option Nat} {a2 : Int32} {w : WW} {r : ((Unit ⊕ String) × WW)} (h : f_pa_readRest a0 a1 a2 w = some r) : kb w a0 2 = true := (its h).1
set_option maxHeartbeats 4000000 in
set_option maxRecDepth 100000 in
theorem j_pa_readRest_58 {p : Program} {l : Launch} {e : Env} {s : State} {m : MethodId} {args : Array Value} {below : List Frame} {meth : Method} {c : Code} {D : va_G} {cA : Nat → ClassId} {base : Nat} {w' : WW} (C : cx b_pa_readRest (none) 3 y_pa_readRest.cls "readRest" p s m args meth c D cA base)   : ∀  (w : WW), f_pa_readRest_58  w = some (.inl (), w') → ∀ (H : Heap) (locs : List Loc) (ls : Array Slot), wo_S D cls cA base s w H locs → lv_has ls 3 [] → W p l e rm_pa_readRest s m args below meth c H locs 0 0 (MQ below (wo_Q D cls cA base none w') args s rm_pa_readRest.cells rm_pa_readRest.slots (wo_B base)) (F0 m 58 ls []) := by
  obtain ⟨hx, hb, hr, hml, hown, hts, hlk, hnm, hK, hG⟩ := id C
  intro  w h H locs ls hW hl
  unfold f_pa_readRest_58 at h
  cases h
  exact wo_vret hx hb hr hlk hW d_pa_readRest_58
set_option maxHeartbeats 4000000 in
set_option maxRecDepth 100000 in
theorem c_pa_readRest (l : Launch) (D : va_G) (cA : Nat → ClassId) (base : Nat) {a0 : Nat} {a1 : Option Nat} {a2 : Int32} {w w' : WW} (h : f_pa_readRest a0 a1 a2 w = some (.inl (), w')) : mt l D cls (wo_tys cA) cA base y_pa_readRest (Cond.code y_pa_readRest b_pa_readRest 3 (none) :: gt) rm_pa_readRest [.ref a0, va_rf a1, .int a2] w none w' rm_pa_readRest.cells rm_pa_readRest.slots := by
  refine mt_start (by decide) (by simp only [lg_sl_0, lg_sl_1, lg_sl_2, lg_sl_3, lg_sl_rf]; decide) ?_
  intro p e s m below meth c ls hx hb hr hml hown hts hlk hnm hK hG hW hl
  have C : cx b_pa_readRest (none) 3 y_pa_readRest.cls "readRest" p s m [.ref a0, va_rf a1, .int a2].toArray meth c D cA base := ⟨hx, hb, hr, hml, hown, hts, hlk, hnm, hK, hG⟩
  have hl : lv_has ls 3 [(0, .ref a0), (1, va_rf a1), (2, .int a2)] := by simp only [lv_args_0, lv_args_1, lv_args_2, lv_args_3, lv_args_rf] at hl; exact hl
  unfold f_pa_readRest at h
  replace h := its h
  obtain ⟨-, h⟩ := h
  refine wo_aload_n hx hb d_pa_readRest_0 rfl (lv_at hl 1 rfl) ?_
  replace h := bs h
  obtain ⟨x1, ex1, h⟩ := h
  subst ex1
  replace h := bs h
  obtain ⟨x2, hx2, h⟩ := h
  refine gf_pa_112 hx hb hts hown hK hG hW (gI_s hx2) d_pa_readRest_1 ?_
  have hl : lv_has ls 3 [(0, .ref a0), (1, .ref x1), (2, .int a2)] := hl
  refine lv_bipush (v := (7 : Int32)) hx hb d_pa_readRest_4 (by decide) ?_
  refine lv_icmp_ne (tgt := 16) hx hb d_pa_readRest_6 (by decide) (fun c3 => ?_) (fun c3 => ?_)
  · rw [if_neg c3] at h
    refine lv_aload_n hx hb d_pa_readRest_16 rfl (lv_at hl 1 rfl) ?_
    refine lv_aload_n hx hb d_pa_readRest_17 rfl (lv_at hl 0 rfl) ?_
    refine lv_iload_n hx hb d_pa_readRest_18 rfl (lv_at hl 2 rfl) ?_
    refine lv_iconst (v := (1 : Int32)) hx hb d_pa_readRest_19 (by decide) ?_
    refine lv_iadd hx hb d_pa_readRest_20 ?_
    replace h := bsx h
    obtain ⟨x5, w4, hw4, h⟩ := h
    refine cv_pa_134 (As := [.int (a2 + (1 : Int32))]) (rest := [.ref x1]) hx hb hml hown hts hK hG hW (c_pa_readBlock l D cA base hw4) (kb_pa_readBlock hw4) ⟨Nat.le_of_ble_eq_true rfl, Nat.le_of_ble_eq_true rfl⟩ ⟨Nat.le_of_ble_eq_true rfl, Nat.le_of_ble_eq_true rfl⟩ rfl hl.1 rfl (Nat.le_of_ble_eq_true rfl) d_pa_readRest_21 (fun H locs hW => ?_)
    replace h := bs h
    obtain ⟨w6, hw6, h⟩ := h
    refine pf_pa_137 hx hb hts hown hK hG hW (rf_n _ _) (rf_f _ _) hw6 d_pa_readRest_24 (fun H locs hW => ?_)
    refine lv_aload_n hx hb d_pa_readRest_27 rfl (lv_at hl 1 rfl) ?_
    replace h := bs h
    obtain ⟨x7, hx7, h⟩ := h
    refine gf_pa_112 hx hb hts hown hK hG hW (gI_s hx7) d_pa_readRest_28 ?_
    refine lv_iconst (v := (4 : Int32)) hx hb d_pa_readRest_31 (by decide) ?_
    refine lv_icmp_ne (tgt := 58) hx hb d_pa_readRest_32 (by decide) (fun c8 => ?_) (fun c8 => ?_)
    · rw [if_neg c8] at h
      exact j_pa_readRest_58 C w6 h _ _ _ hW (lv_sub hl [] rfl)
    · rw [if_pos c8] at h
      refine lv_aload_n hx hb d_pa_readRest_35 rfl (lv_at hl 0 rfl) ?_
      replace h := bs2 h
      obtain ⟨x10, w9, hw9, h⟩ := h
      refine cv_pa_55 (As := []) (rest := []) hx hb hml hown hts hK hG hW (c_pa_kindHere l D cA base hw9) (kb_pa_kindHere hw9) ⟨Nat.le_of_ble_eq_true rfl, Nat.le_of_ble_eq_true rfl⟩ ⟨Nat.le_of_ble_eq_true rfl, Nat.le_of_ble_eq_true rfl⟩ rfl hl.1 rfl (Nat.le_of_ble_eq_true rfl) d_pa_readRest_36 (fun H locs hW => ?_)
      refine lv_iconst (v := (5 : Int32)) hx hb d_pa_readRest_39 (by decide) ?_
      refine lv_icmp_ne (tgt := 58) hx hb d_pa_readRest_40 (by decide) (fun c11 => ?_) (fun c11 => ?_)
      · rw [if_neg c11] at h
        exact j_pa_readRest_58 C w9 h _ _ _ hW (lv_sub hl [] rfl)
      · rw [if_pos c11] at h
        refine lv_aload_n hx hb d_pa_readRest_43 rfl (lv_at hl 0 rfl) ?_
        replace h := bs h
        obtain ⟨w12, hw12, h⟩ := h
        refine cv_pa_63 (As := []) (rest := []) hx hb hml hown hts hK hG hW (c_pa_advance l D cA base hw12) (kb_pa_advance hw12) ⟨Nat.le_of_ble_eq_true rfl, Nat.le_of_ble_eq_true rfl⟩ ⟨Nat.le_of_ble_eq_true rfl, Nat.le_of_ble_eq_true rfl⟩ rfl hl.1 rfl (Nat.le_of_ble_eq_true rfl) d_pa_readRest_44 (fun H locs hW => ?_)
        refine lv_aload_n hx hb d_pa_readRest_47 rfl (lv_at hl 1 rfl) ?_
        refine lv_aload_n hx hb d_pa_readRest_48 rfl (lv_at hl 0 rfl) ?_
        refine lv_iload_n hx hb d_pa_readRest_49 rfl (lv_at hl 2 rfl) ?_
        refine lv_iconst (v := (1 : Int32)) hx hb d_pa_readRest_50 (by decide) ?_
        refine lv_iadd hx hb d_pa_readRest_51 ?_
        replace h := bsx h
        obtain ⟨x14, w13, hw13, h⟩ := h
        refine cv_pa_134 (As := [.int (a2 + (1 : Int32))]) (rest := [.ref x1]) hx hb hml hown hts hK hG hW (c_pa_readBlock l D cA base hw13) (kb_pa_readBlock hw13) ⟨Nat.le_of_ble_eq_true rfl, Nat.le_of_ble_eq_true rfl⟩ ⟨Nat.le_of_ble_eq_true rfl, Nat.le_of_ble_eq_true rfl⟩ rfl hl.1 rfl (Nat.le_of_ble_eq_true rfl) d_pa_readRest_52 (fun H locs hW => ?_)
        replace h := bs h
        obtain ⟨w15, hw15, h⟩ := h
        refine pf_pa_140 hx hb hts hown hK hG hW (rf_n _ _) (rf_f _ _) hw15 d_pa_readRest_55 (fun H locs hW => ?_)
        exact j_pa_readRest_58 C w15 h _ _ _ hW (lv_sub hl [] rfl)
  · rw [if_pos c3] at h
    refine lv_aload_n hx hb d_pa_readRest_9 rfl (lv_at hl 0 rfl) ?_
    refine lv_bipush (v := (59 : Int32)) hx hb d_pa_readRest_10 (by decide) ?_
    replace h := bsx h
    obtain ⟨x17, w16, hw16, h⟩ := h
    refine cv_pa_108 (As := [.int (59 : Int32)]) (rest := []) hx hb hml hown hts hK hG hW (c_pa_take l D cA base hw16) (kb_pa_take hw16) ⟨Nat.le_of_ble_eq_true rfl, Nat.le_of_ble_eq_true rfl⟩ ⟨Nat.le_of_ble_eq_true rfl, Nat.le_of_ble_eq_true rfl⟩ rfl hl.1 rfl (Nat.le_of_ble_eq_true rfl) d_pa_readRest_12 (fun H locs hW => ?_)
    cases h
    exact wo_vret hx hb hr hlk hW d_pa_readRest_15
set_option maxHeartbeats 4000000 in
set_option maxRecDepth 100000 in
theorem jx_pa_readRest_58 {p : Program} {l : Launch} {e : Env} {s : State} {m : MethodId} {args : Array Value} {below : List Frame} {meth : Method} {c : Code} {D : va_G} {cA : Nat → ClassId} {base : Nat} {E : String} {w' : WW} (C : cx b_pa_readRest (none) 3 y_pa_readRest.cls "readRest" p s m args meth c D cA base ∧ (∀ x ∈ c.exceptionTable.toList, ∀ k : Nat, covers x k = false) ∧ l.stackTraces = false)   : ∀  (w : WW), f_pa_readRest_58  w = some (.inr E, w') → ∀ (H : Heap) (locs : List Loc) (ls : Array Slot), wo_S D cls cA base s w H locs → lv_has ls 3 [] → W p l e rx_pa_readRest s m args below meth c H locs 0 0 (XQ below (wo_X D cls cA base E w' rx_pa_readRest.cells rx_pa_readRest.slots) args s) (F0 m 58 ls []) := by
  obtain ⟨hx, hb, hr, hml, hown, hts, hlk, hnm, hK, hG⟩ := id C.1
  have hnt := C.2.1
  have hst := C.2.2
  intro  w h H locs ls hW hl
  unfold f_pa_readRest_58 at h
  cases h
set_option maxHeartbeats 4000000 in
set_option maxRecDepth 100000 in
theorem x_pa_readRest (l : Launch) (hst : l.stackTraces = false) (D : va_G) (cA : Nat → ClassId) (base : Nat) {a0 : Nat} {a1 : Option Nat} {a2 : Int32} {w w' : WW} {E : String} (h : f_pa_readRest a0 a1 a2 w = some (.inr E, w')) : xt l D cls (wo_tys cA) cA base y_pa_readRest (Cond.code y_pa_readRest b_pa_readRest 3 (none) :: gt) rx_pa_readRest [.ref a0, va_rf a1, .int a2] w E w' rx_pa_readRest.cells rx_pa_readRest.slots := by
  refine xt_start (by decide) (by simp only [lg_sl_0, lg_sl_1, lg_sl_2, lg_sl_3, lg_sl_rf]; decide) ?_
  intro p e s m below meth c ls hx hb hr hml hown hts hlk hnm hK hG hW hl hnt
  have C : cx b_pa_readRest (none) 3 y_pa_readRest.cls "readRest" p s m [.ref a0, va_rf a1, .int a2].toArray meth c D cA base ∧ (∀ x ∈ c.exceptionTable.toList, ∀ k : Nat, covers x k = false) ∧ l.stackTraces = false := ⟨⟨hx, hb, hr, hml, hown, hts, hlk, hnm, hK, hG⟩, hnt, hst⟩
  have hl : lv_has ls 3 [(0, .ref a0), (1, va_rf a1), (2, .int a2)] := by simp only [lv_args_0, lv_args_1, lv_args_2, lv_args_3, lv_args_rf] at hl; exact hl
  unfold f_pa_readRest at h
  replace h := its h
  obtain ⟨-, h⟩ := h
  refine wo_aload_n hx hb d_pa_readRest_0 rfl (lv_at hl 1 rfl) ?_
  replace h := bs h
  obtain ⟨x1, ex1, h⟩ := h
  subst ex1
  replace h := bs h
  obtain ⟨x2, hx2, h⟩ := h
  refine gf_pa_112 hx hb hts hown hK hG hW (gI_s hx2) d_pa_readRest_1 ?_
  have hl : lv_has ls 3 [(0, .ref a0), (1, .ref x1), (2, .int a2)] := hl
  refine lv_bipush (v := (7 : Int32)) hx hb d_pa_readRest_4 (by decide) ?_
  refine lv_icmp_ne (tgt := 16) hx hb d_pa_readRest_6 (by decide) (fun c3 => ?_) (fun c3 => ?_)
  · rw [if_neg c3] at h
    refine lv_aload_n hx hb d_pa_readRest_16 rfl (lv_at hl 1 rfl) ?_
    refine lv_aload_n hx hb d_pa_readRest_17 rfl (lv_at hl 0 rfl) ?_
    refine lv_iload_n hx hb d_pa_readRest_18 rfl (lv_at hl 2 rfl) ?_
    refine lv_iconst (v := (1 : Int32)) hx hb d_pa_readRest_19 (by decide) ?_
    refine lv_iadd hx hb d_pa_readRest_20 ?_
    rcases bsy h with hw4 | ⟨x5, w4, hw4, hnw4⟩
    · exact xv_pa_134 (As := [.int (a2 + (1 : Int32))]) (rest := [.ref x1]) hx hb hml hown hts hK hG hW (x_pa_readBlock l hst D cA base hw4) (kb_pa_readBlock hw4) ⟨Nat.le_of_ble_eq_true rfl, Nat.le_of_ble_eq_true rfl⟩ ⟨Nat.le_of_ble_eq_true rfl, Nat.le_of_ble_eq_true rfl⟩ rfl hl.1 rfl (Nat.le_of_ble_eq_true rfl) d_pa_readRest_21 (fun H locs q ce hW h1 h2 h3 => wo_xout hnt hlk hW h1 h2 h3 (Nat.le_of_ble_eq_true rfl) (Nat.le_of_ble_eq_true rfl))
    clear h
    have h := hnw4
    clear hnw4
    refine cv_pa_134 (As := [.int (a2 + (1 : Int32))]) (rest := [.ref x1]) hx hb hml hown hts hK hG hW (c_pa_readBlock l D cA base hw4) (kb_pa_readBlock hw4) ⟨Nat.le_of_ble_eq_true rfl, Nat.le_of_ble_eq_true rfl⟩ ⟨Nat.le_of_ble_eq_true rfl, Nat.le_of_ble_eq_true rfl⟩ rfl hl.1 rfl (Nat.le_of_ble_eq_true rfl) d_pa_readRest_21 (fun H locs hW => ?_)
    replace h := bs h
    obtain ⟨w6, hw6, h⟩ := h
    refine pf_pa_137 hx hb hts hown hK hG hW (rf_n _ _) (rf_f _ _) hw6 d_pa_readRest_24 (fun H locs hW => ?_)
    refine lv_aload_n hx hb d_pa_readRest_27 rfl (lv_at hl 1 rfl) ?_
    replace h := bs h
    obtain ⟨x7, hx7, h⟩ := h
    refine gf_pa_112 hx hb hts hown hK hG hW (gI_s hx7) d_pa_readRest_28 ?_
    refine lv_iconst (v := (4 : Int32)) hx hb d_pa_readRest_31 (by decide) ?_
    refine lv_icmp_ne (tgt := 58) hx hb d_pa_readRest_32 (by decide) (fun c8 => ?_) (fun c8 => ?_)
    · rw [if_neg c8] at h
      exact jx_pa_readRest_58 C w6 h _ _ _ hW (lv_sub hl [] rfl)
    · rw [if_pos c8] at h
      refine lv_aload_n hx hb d_pa_readRest_35 rfl (lv_at hl 0 rfl) ?_
      replace h := bs2 h
      obtain ⟨x10, w9, hw9, h⟩ := h
      refine cv_pa_55 (As := []) (rest := []) hx hb hml hown hts hK hG hW (c_pa_kindHere l D cA base hw9) (kb_pa_kindHere hw9) ⟨Nat.le_of_ble_eq_true rfl, Nat.le_of_ble_eq_true rfl⟩ ⟨Nat.le_of_ble_eq_true rfl, Nat.le_of_ble_eq_true rfl⟩ rfl hl.1 rfl (Nat.le_of_ble_eq_true rfl) d_pa_readRest_36 (fun H locs hW => ?_)
      refine lv_iconst (v := (5 : Int32)) hx hb d_pa_readRest_39 (by decide) ?_
      refine lv_icmp_ne (tgt := 58) hx hb d_pa_readRest_40 (by decide) (fun c11 => ?_) (fun c11 => ?_)
      · rw [if_neg c11] at h
        exact jx_pa_readRest_58 C w9 h _ _ _ hW (lv_sub hl [] rfl)
      · rw [if_pos c11] at h
        refine lv_aload_n hx hb d_pa_readRest_43 rfl (lv_at hl 0 rfl) ?_
        replace h := bs h
        obtain ⟨w12, hw12, h⟩ := h
        refine cv_pa_63 (As := []) (rest := []) hx hb hml hown hts hK hG hW (c_pa_advance l D cA base hw12) (kb_pa_advance hw12) ⟨Nat.le_of_ble_eq_true rfl, Nat.le_of_ble_eq_true rfl⟩ ⟨Nat.le_of_ble_eq_true rfl, Nat.le_of_ble_eq_true rfl⟩ rfl hl.1 rfl (Nat.le_of_ble_eq_true rfl) d_pa_readRest_44 (fun H locs hW => ?_)
        refine lv_aload_n hx hb d_pa_readRest_47 rfl (lv_at hl 1 rfl) ?_
        refine lv_aload_n hx hb d_pa_readRest_48 rfl (lv_at hl 0 rfl) ?_
        refine lv_iload_n hx hb d_pa_readRest_49 rfl (lv_at hl 2 rfl) ?_
        refine lv_iconst (v := (1 : Int32)) hx hb d_pa_readRest_50 (by decide) ?_
        refine lv_iadd hx hb d_pa_readRest_51 ?_
        rcases bsy h with hw13 | ⟨x14, w13, hw13, hnw13⟩
        · exact xv_pa_134 (As := [.int (a2 + (1 : Int32))]) (rest := [.ref x1]) hx hb hml hown hts hK hG hW (x_pa_readBlock l hst D cA base hw13) (kb_pa_readBlock hw13) ⟨Nat.le_of_ble_eq_true rfl, Nat.le_of_ble_eq_true rfl⟩ ⟨Nat.le_of_ble_eq_true rfl, Nat.le_of_ble_eq_true rfl⟩ rfl hl.1 rfl (Nat.le_of_ble_eq_true rfl) d_pa_readRest_52 (fun H locs q ce hW h1 h2 h3 => wo_xout hnt hlk hW h1 h2 h3 (Nat.le_of_ble_eq_true rfl) (Nat.le_of_ble_eq_true rfl))
        clear h
        have h := hnw13
        clear hnw13
        refine cv_pa_134 (As := [.int (a2 + (1 : Int32))]) (rest := [.ref x1]) hx hb hml hown hts hK hG hW (c_pa_readBlock l D cA base hw13) (kb_pa_readBlock hw13) ⟨Nat.le_of_ble_eq_true rfl, Nat.le_of_ble_eq_true rfl⟩ ⟨Nat.le_of_ble_eq_true rfl, Nat.le_of_ble_eq_true rfl⟩ rfl hl.1 rfl (Nat.le_of_ble_eq_true rfl) d_pa_readRest_52 (fun H locs hW => ?_)
        replace h := bs h
        obtain ⟨w15, hw15, h⟩ := h
        refine pf_pa_140 hx hb hts hown hK hG hW (rf_n _ _) (rf_f _ _) hw15 d_pa_readRest_55 (fun H locs hW => ?_)
        exact jx_pa_readRest_58 C w15 h _ _ _ hW (lv_sub hl [] rfl)
  · rw [if_pos c3] at h
    refine lv_aload_n hx hb d_pa_readRest_9 rfl (lv_at hl 0 rfl) ?_
    refine lv_bipush (v := (59 : Int32)) hx hb d_pa_readRest_10 (by decide) ?_
    rcases bsy h with hw16 | ⟨x17, w16, hw16, hnw16⟩
    · exact xv_pa_108 (As := [.int (59 : Int32)]) (rest := []) hx hb hml hown hts hK hG hW (x_pa_take l hst D cA base hw16) (kb_pa_take hw16) ⟨Nat.le_of_ble_eq_true rfl, Nat.le_of_ble_eq_true rfl⟩ ⟨Nat.le_of_ble_eq_true rfl, Nat.le_of_ble_eq_true rfl⟩ rfl hl.1 rfl (Nat.le_of_ble_eq_true rfl) d_pa_readRest_12 (fun H locs q ce hW h1 h2 h3 => wo_xout hnt hlk hW h1 h2 h3 (Nat.le_of_ble_eq_true rfl) (Nat.le_of_ble_eq_true rfl))
    clear h
    have h := hnw16
    clear hnw16
    refine cv_pa_108 (As := [.int (59 : Int32)]) (rest := []) hx hb hml hown hts hK hG hW (c_pa_take l D cA base hw16) (kb_pa_take hw16) ⟨Nat.le_of_ble_eq_true rfl, Nat.le_of_ble_eq_true rfl⟩ ⟨Nat.le_of_ble_eq_true rfl, Nat.le_of_ble_eq_true rfl⟩ rfl hl.1 rfl (Nat.le_of_ble_eq_true rfl) d_pa_readRest_12 (fun H locs hW => ?_)
    cases h
abbrev b_a_choose : ByteArray := prog_1_method_8_code
def y_a_choose : MethodName := ⟨"AlarmForge", "choose", "(II)I"⟩
def rm_a_choose : Room := { frames := 6, cells := 0, slots := 0, locals := 100 }
def rx_a_choose : Room := { frames := 6, cells := 1, slots := 6, locals := 100 }
theorem d_a_choose_0 : decode b_a_choose 0 = .ok (.iload_n 1, 1) := by decide +kernel
theorem d_a_choose_1 : decode b_a_choose 1 = .ok (.ifCond .lt (17), 3) := by decide +kernel
theorem d_a_choose_4 : decode b_a_choose 4 = .ok (.iload_n 1, 1) := by decide +kernel
theorem d_a_choose_5 : decode b_a_choose 5 = .ok (.iconst 1, 1) := by decide +kernel
theorem d_a_choose_6 : decode b_a_choose 6 = .ok (.if_icmp .gt (12), 3) := by decide +kernel
theorem d_a_choose_9 : decode b_a_choose 9 = .ok (.iload_n 2, 1) := by decide +kernel
theorem d_a_choose_10 : decode b_a_choose 10 = .ok (.ifCond .lt (8), 3) := by decide +kernel
theorem d_a_choose_13 : decode b_a_choose 13 = .ok (.iload_n 2, 1) := by decide +kernel
theorem d_a_choose_14 : decode b_a_choose 14 = .ok (.iconst 5, 1) := by decide +kernel
theorem d_a_choose_15 : decode b_a_choose 15 = .ok (.if_icmp .le (11), 3) := by decide +kernel
theorem d_a_choose_18 : decode b_a_choose 18 = .ok (.new 62, 3) := by decide +kernel
theorem d_a_choose_21 : decode b_a_choose 21 = .ok (.dup, 1) := by decide +kernel
theorem d_a_choose_22 : decode b_a_choose 22 = .ok (.invokespecial 64, 3) := by decide +kernel
theorem d_a_choose_25 : decode b_a_choose 25 = .ok (.athrow, 1) := by decide +kernel
theorem d_a_choose_26 : decode b_a_choose 26 = .ok (.iload_n 1, 1) := by decide +kernel
theorem d_a_choose_27 : decode b_a_choose 27 = .ok (.ifCond .ne (16), 3) := by decide +kernel
theorem d_a_choose_30 : decode b_a_choose 30 = .ok (.aload_n 0, 1) := by decide +kernel
theorem d_a_choose_31 : decode b_a_choose 31 = .ok (.getfield 11, 3) := by decide +kernel
theorem d_a_choose_34 : decode b_a_choose 34 = .ok (.istore_n 3, 1) := by decide +kernel
theorem d_a_choose_35 : decode b_a_choose 35 = .ok (.aload_n 0, 1) := by decide +kernel
theorem d_a_choose_36 : decode b_a_choose 36 = .ok (.iload_n 2, 1) := by decide +kernel
theorem d_a_choose_37 : decode b_a_choose 37 = .ok (.putfield 11, 3) := by decide +kernel
theorem d_a_choose_40 : decode b_a_choose 40 = .ok (.goto (13), 3) := by decide +kernel
theorem d_a_choose_43 : decode b_a_choose 43 = .ok (.aload_n 0, 1) := by decide +kernel
theorem d_a_choose_44 : decode b_a_choose 44 = .ok (.getfield 15, 3) := by decide +kernel
theorem d_a_choose_47 : decode b_a_choose 47 = .ok (.istore_n 3, 1) := by decide +kernel
theorem d_a_choose_48 : decode b_a_choose 48 = .ok (.aload_n 0, 1) := by decide +kernel
theorem d_a_choose_49 : decode b_a_choose 49 = .ok (.iload_n 2, 1) := by decide +kernel
theorem d_a_choose_50 : decode b_a_choose 50 = .ok (.putfield 15, 3) := by decide +kernel
theorem d_a_choose_53 : decode b_a_choose 53 = .ok (.iload_n 3, 1) := by decide +kernel
theorem d_a_choose_54 : decode b_a_choose 54 = .ok (.ireturn, 1) := by decide +kernel
def f_a_choose_18   (w : WW) : Option ((Int32 ⊕ String) × WW) :=
  some (.inr "java/lang/IllegalArgumentException", w)
def f_a_choose_53  (y3 : Int32) (w : WW) : Option ((Int32 ⊕ String) × WW) :=
  some (.inl y3, w)
def f_a_choose (a0 : Nat) (a1 : Int32) (a2 : Int32) (w : WW) : Option ((Int32 ⊕ String) × WW) :=
  if kb w a0 0 = true then
    if a1 < 0 then
      f_a_choose_18 w
    else
      if (1 : Int32) < a1 then
        f_a_choose_18 w
      else
        if a2 < 0 then
          f_a_choose_18 w
        else
          if a2 ≤ (5 : Int32) then
            if a1 = 0 then
              (gI w a0 0 0).bind fun x8 =>
              (pv w a0 0 0 (.int a2)).bind fun w9 =>
              f_a_choose_53 x8 w9
            else
              (gI w a0 0 1).bind fun x6 =>
              (pv w a0 0 1 (.int a2)).bind fun w7 =>
              f_a_choose_53 x6 w7
          else
            f_a_choose_18 w
  else none
theorem kb_a_choose {a0 : Nat} {a1 : Int32} {a2 : Int32} {w : WW} {r : ((Int32 ⊕ String) × WW)} (h : f_a_choose a0 a1 a2 w = some r) : kb w a0 0 = true := (its h).1
set_option maxHeartbeats 4000000 in
set_option maxRecDepth 100000 in
theorem j_a_choose_18 {p : Program} {l : Launch} {e : Env} {s : State} {m : MethodId} {args : Array Value} {below : List Frame} {meth : Method} {c : Code} {D : va_G} {cA : Nat → ClassId} {base : Nat} {r : Int32} {w' : WW} (C : cx b_a_choose (some .int) 4 y_a_choose.cls "choose" p s m args meth c D cA base)   : ∀  (w : WW), f_a_choose_18  w = some (.inl r, w') → ∀ (H : Heap) (locs : List Loc) (ls : Array Slot), wo_S D cls cA base s w H locs → lv_has ls 4 [] → W p l e rm_a_choose s m args below meth c H locs 0 0 (MQ below (wo_Q D cls cA base (some (.int r)) w') args s rm_a_choose.cells rm_a_choose.slots (wo_B base)) (F0 m 18 ls []) := by
  obtain ⟨hx, hb, hr, hml, hown, hts, hlk, hnm, hK, hG⟩ := id C
  intro  w h H locs ls hW hl
  unfold f_a_choose_18 at h
  cases h
set_option maxHeartbeats 4000000 in
set_option maxRecDepth 100000 in
theorem j_a_choose_53 {p : Program} {l : Launch} {e : Env} {s : State} {m : MethodId} {args : Array Value} {below : List Frame} {meth : Method} {c : Code} {D : va_G} {cA : Nat → ClassId} {base : Nat} {r : Int32} {w' : WW} (C : cx b_a_choose (some .int) 4 y_a_choose.cls "choose" p s m args meth c D cA base)   : ∀ (y3 : Int32) (w : WW), f_a_choose_53 y3 w = some (.inl r, w') → ∀ (H : Heap) (locs : List Loc) (ls : Array Slot), wo_S D cls cA base s w H locs → lv_has ls 4 [(3, .int y3)] → W p l e rm_a_choose s m args below meth c H locs 0 0 (MQ below (wo_Q D cls cA base (some (.int r)) w') args s rm_a_choose.cells rm_a_choose.slots (wo_B base)) (F0 m 53 ls []) := by
  obtain ⟨hx, hb, hr, hml, hown, hts, hlk, hnm, hK, hG⟩ := id C
  intro y3 w h H locs ls hW hl
  unfold f_a_choose_53 at h
  refine lv_iload_n hx hb d_a_choose_53 rfl (lv_at hl 0 rfl) ?_
  cases h
  exact wo_iret hx hb hr hlk hW d_a_choose_54
set_option maxHeartbeats 4000000 in
set_option maxRecDepth 100000 in
theorem c_a_choose (l : Launch) (D : va_G) (cA : Nat → ClassId) (base : Nat) {a0 : Nat} {a1 : Int32} {a2 : Int32} {w w' : WW} {r : Int32} (h : f_a_choose a0 a1 a2 w = some (.inl r, w')) : mt l D cls (wo_tys cA) cA base y_a_choose (Cond.code y_a_choose b_a_choose 4 (some .int) :: gt) rm_a_choose [.ref a0, .int a1, .int a2] w (some (.int r)) w' rm_a_choose.cells rm_a_choose.slots := by
  refine mt_start (by decide) (Nat.le_of_ble_eq_true rfl) ?_
  intro p e s m below meth c ls hx hb hr hml hown hts hlk hnm hK hG hW hl
  have C : cx b_a_choose (some .int) 4 y_a_choose.cls "choose" p s m [.ref a0, .int a1, .int a2].toArray meth c D cA base := ⟨hx, hb, hr, hml, hown, hts, hlk, hnm, hK, hG⟩
  have hl : lv_has ls 4 [(0, .ref a0), (1, .int a1), (2, .int a2)] := hl
  unfold f_a_choose at h
  replace h := its h
  obtain ⟨-, h⟩ := h
  refine lv_iload_n hx hb d_a_choose_0 rfl (lv_at hl 1 rfl) ?_
  refine lv_if_lt (tgt := 18) hx hb d_a_choose_1 (by decide) (fun c1 => ?_) (fun c1 => ?_)
  · rw [if_pos c1] at h
    exact j_a_choose_18 C w h _ _ _ hW (lv_sub hl [] rfl)
  · rw [if_neg c1] at h
    refine lv_iload_n hx hb d_a_choose_4 rfl (lv_at hl 1 rfl) ?_
    refine lv_iconst (v := (1 : Int32)) hx hb d_a_choose_5 (by decide) ?_
    refine lv_icmp_gt (tgt := 18) hx hb d_a_choose_6 (by decide) (fun c2 => ?_) (fun c2 => ?_)
    · rw [if_pos c2] at h
      exact j_a_choose_18 C w h _ _ _ hW (lv_sub hl [] rfl)
    · rw [if_neg c2] at h
      refine lv_iload_n hx hb d_a_choose_9 rfl (lv_at hl 2 rfl) ?_
      refine lv_if_lt (tgt := 18) hx hb d_a_choose_10 (by decide) (fun c3 => ?_) (fun c3 => ?_)
      · rw [if_pos c3] at h
        exact j_a_choose_18 C w h _ _ _ hW (lv_sub hl [] rfl)
      · rw [if_neg c3] at h
        refine lv_iload_n hx hb d_a_choose_13 rfl (lv_at hl 2 rfl) ?_
        refine lv_iconst (v := (5 : Int32)) hx hb d_a_choose_14 (by decide) ?_
        refine lv_icmp_le (tgt := 26) hx hb d_a_choose_15 (by decide) (fun c4 => ?_) (fun c4 => ?_)
        · rw [if_pos c4] at h
          refine lv_iload_n hx hb d_a_choose_26 rfl (lv_at hl 1 rfl) ?_
          refine lv_if_ne (tgt := 43) hx hb d_a_choose_27 (by decide) (fun c5 => ?_) (fun c5 => ?_)
          · rw [if_neg c5] at h
            refine lv_aload_n hx hb d_a_choose_43 rfl (lv_at hl 0 rfl) ?_
            replace h := bs h
            obtain ⟨x6, hx6, h⟩ := h
            refine gf_a_15 hx hb hts hown hK hG hW (gI_s hx6) d_a_choose_44 ?_
            refine lv_istore_n (lv' := [(3, .int x6), (0, .ref a0), (1, .int a1), (2, .int a2)]) hx hb d_a_choose_47 rfl hl (by decide) rfl (fun ls hl => ?_)
            refine lv_aload_n hx hb d_a_choose_48 rfl (lv_at hl 1 rfl) ?_
            refine lv_iload_n hx hb d_a_choose_49 rfl (lv_at hl 3 rfl) ?_
            replace h := bs h
            obtain ⟨w7, hw7, h⟩ := h
            refine pf_a_15 hx hb hts hown hK hG hW rfl rfl hw7 d_a_choose_50 (fun H locs hW => ?_)
            exact j_a_choose_53 C x6 w7 h _ _ _ hW (lv_sub hl [0] rfl)
          · rw [if_pos c5] at h
            refine lv_aload_n hx hb d_a_choose_30 rfl (lv_at hl 0 rfl) ?_
            replace h := bs h
            obtain ⟨x8, hx8, h⟩ := h
            refine gf_a_11 hx hb hts hown hK hG hW (gI_s hx8) d_a_choose_31 ?_
            refine lv_istore_n (lv' := [(3, .int x8), (0, .ref a0), (1, .int a1), (2, .int a2)]) hx hb d_a_choose_34 rfl hl (by decide) rfl (fun ls hl => ?_)
            refine lv_aload_n hx hb d_a_choose_35 rfl (lv_at hl 1 rfl) ?_
            refine lv_iload_n hx hb d_a_choose_36 rfl (lv_at hl 3 rfl) ?_
            replace h := bs h
            obtain ⟨w9, hw9, h⟩ := h
            refine pf_a_11 hx hb hts hown hK hG hW rfl rfl hw9 d_a_choose_37 (fun H locs hW => ?_)
            refine lv_goto (tgt := 53) hx hb d_a_choose_40 (by decide) ?_
            exact j_a_choose_53 C x8 w9 h _ _ _ hW (lv_sub hl [0] rfl)
        · rw [if_neg c4] at h
          exact j_a_choose_18 C w h _ _ _ hW (lv_sub hl [] rfl)
set_option maxHeartbeats 4000000 in
set_option maxRecDepth 100000 in
theorem jx_a_choose_18 {p : Program} {l : Launch} {e : Env} {s : State} {m : MethodId} {args : Array Value} {below : List Frame} {meth : Method} {c : Code} {D : va_G} {cA : Nat → ClassId} {base : Nat} {E : String} {w' : WW} (C : cx b_a_choose (some .int) 4 y_a_choose.cls "choose" p s m args meth c D cA base ∧ (∀ x ∈ c.exceptionTable.toList, ∀ k : Nat, covers x k = false) ∧ l.stackTraces = false)   : ∀  (w : WW), f_a_choose_18  w = some (.inr E, w') → ∀ (H : Heap) (locs : List Loc) (ls : Array Slot), wo_S D cls cA base s w H locs → lv_has ls 4 [] → W p l e rx_a_choose s m args below meth c H locs 0 0 (XQ below (wo_X D cls cA base E w' rx_a_choose.cells rx_a_choose.slots) args s) (F0 m 18 ls []) := by
  obtain ⟨hx, hb, hr, hml, hown, hts, hlk, hnm, hK, hG⟩ := id C.1
  have hnt := C.2.1
  have hst := C.2.2
  intro  w h H locs ls hW hl
  unfold f_a_choose_18 at h
  cases h
  exact wo_throw (names := ["java/lang/RuntimeException", "java/lang/Exception"]) hx hb hst hown hts hG hW hnt hlk (by decide) (by decide) (gt_of (i := 395) (by decide +kernel) (by decide +kernel)) (gt_of (i := 14) (by decide +kernel) (by decide +kernel)) ow_a_64 (hl.1.trans hml.symm) d_a_choose_18 d_a_choose_21 d_a_choose_22 d_a_choose_25 (Nat.le_of_ble_eq_true rfl) (Nat.le_of_ble_eq_true rfl) (Nat.le_of_ble_eq_true rfl) (Nat.le_of_ble_eq_true rfl) (Nat.le_of_ble_eq_true rfl) (Nat.le_of_ble_eq_true rfl)
set_option maxHeartbeats 4000000 in
set_option maxRecDepth 100000 in
theorem jx_a_choose_53 {p : Program} {l : Launch} {e : Env} {s : State} {m : MethodId} {args : Array Value} {below : List Frame} {meth : Method} {c : Code} {D : va_G} {cA : Nat → ClassId} {base : Nat} {E : String} {w' : WW} (C : cx b_a_choose (some .int) 4 y_a_choose.cls "choose" p s m args meth c D cA base ∧ (∀ x ∈ c.exceptionTable.toList, ∀ k : Nat, covers x k = false) ∧ l.stackTraces = false)   : ∀ (y3 : Int32) (w : WW), f_a_choose_53 y3 w = some (.inr E, w') → ∀ (H : Heap) (locs : List Loc) (ls : Array Slot), wo_S D cls cA base s w H locs → lv_has ls 4 [(3, .int y3)] → W p l e rx_a_choose s m args below meth c H locs 0 0 (XQ below (wo_X D cls cA base E w' rx_a_choose.cells rx_a_choose.slots) args s) (F0 m 53 ls []) := by
  obtain ⟨hx, hb, hr, hml, hown, hts, hlk, hnm, hK, hG⟩ := id C.1
  have hnt := C.2.1
  have hst := C.2.2
  intro y3 w h H locs ls hW hl
  unfold f_a_choose_53 at h
  refine lv_iload_n hx hb d_a_choose_53 rfl (lv_at hl 0 rfl) ?_
  cases h
set_option maxHeartbeats 4000000 in
set_option maxRecDepth 100000 in
theorem x_a_choose (l : Launch) (hst : l.stackTraces = false) (D : va_G) (cA : Nat → ClassId) (base : Nat) {a0 : Nat} {a1 : Int32} {a2 : Int32} {w w' : WW} {E : String} (h : f_a_choose a0 a1 a2 w = some (.inr E, w')) : xt l D cls (wo_tys cA) cA base y_a_choose (Cond.code y_a_choose b_a_choose 4 (some .int) :: gt) rx_a_choose [.ref a0, .int a1, .int a2] w E w' rx_a_choose.cells rx_a_choose.slots := by
  refine xt_start (by decide) (Nat.le_of_ble_eq_true rfl) ?_
  intro p e s m below meth c ls hx hb hr hml hown hts hlk hnm hK hG hW hl hnt
  have C : cx b_a_choose (some .int) 4 y_a_choose.cls "choose" p s m [.ref a0, .int a1, .int a2].toArray meth c D cA base ∧ (∀ x ∈ c.exceptionTable.toList, ∀ k : Nat, covers x k = false) ∧ l.stackTraces = false := ⟨⟨hx, hb, hr, hml, hown, hts, hlk, hnm, hK, hG⟩, hnt, hst⟩
  have hl : lv_has ls 4 [(0, .ref a0), (1, .int a1), (2, .int a2)] := hl
  unfold f_a_choose at h
  replace h := its h
  obtain ⟨-, h⟩ := h
  refine lv_iload_n hx hb d_a_choose_0 rfl (lv_at hl 1 rfl) ?_
  refine lv_if_lt (tgt := 18) hx hb d_a_choose_1 (by decide) (fun c1 => ?_) (fun c1 => ?_)
  · rw [if_pos c1] at h
    exact jx_a_choose_18 C w h _ _ _ hW (lv_sub hl [] rfl)
  · rw [if_neg c1] at h
    refine lv_iload_n hx hb d_a_choose_4 rfl (lv_at hl 1 rfl) ?_
    refine lv_iconst (v := (1 : Int32)) hx hb d_a_choose_5 (by decide) ?_
    refine lv_icmp_gt (tgt := 18) hx hb d_a_choose_6 (by decide) (fun c2 => ?_) (fun c2 => ?_)
    · rw [if_pos c2] at h
      exact jx_a_choose_18 C w h _ _ _ hW (lv_sub hl [] rfl)
    · rw [if_neg c2] at h
      refine lv_iload_n hx hb d_a_choose_9 rfl (lv_at hl 2 rfl) ?_
      refine lv_if_lt (tgt := 18) hx hb d_a_choose_10 (by decide) (fun c3 => ?_) (fun c3 => ?_)
      · rw [if_pos c3] at h
        exact jx_a_choose_18 C w h _ _ _ hW (lv_sub hl [] rfl)
      · rw [if_neg c3] at h
        refine lv_iload_n hx hb d_a_choose_13 rfl (lv_at hl 2 rfl) ?_
        refine lv_iconst (v := (5 : Int32)) hx hb d_a_choose_14 (by decide) ?_
        refine lv_icmp_le (tgt := 26) hx hb d_a_choose_15 (by decide) (fun c4 => ?_) (fun c4 => ?_)
        · rw [if_pos c4] at h
          refine lv_iload_n hx hb d_a_choose_26 rfl (lv_at hl 1 rfl) ?_
          refine lv_if_ne (tgt := 43) hx hb d_a_choose_27 (by decide) (fun c5 => ?_) (fun c5 => ?_)
          · rw [if_neg c5] at h
            refine lv_aload_n hx hb d_a_choose_43 rfl (lv_at hl 0 rfl) ?_
            replace h := bs h
            obtain ⟨x6, hx6, h⟩ := h
            refine gf_a_15 hx hb hts hown hK hG hW (gI_s hx6) d_a_choose_44 ?_
            refine lv_istore_n (lv' := [(3, .int x6), (0, .ref a0), (1, .int a1), (2, .int a2)]) hx hb d_a_choose_47 rfl hl (by decide) rfl (fun ls hl => ?_)
            refine lv_aload_n hx hb d_a_choose_48 rfl (lv_at hl 1 rfl) ?_
            refine lv_iload_n hx hb d_a_choose_49 rfl (lv_at hl 3 rfl) ?_
            replace h := bs h
            obtain ⟨w7, hw7, h⟩ := h
            refine pf_a_15 hx hb hts hown hK hG hW rfl rfl hw7 d_a_choose_50 (fun H locs hW => ?_)
            exact jx_a_choose_53 C x6 w7 h _ _ _ hW (lv_sub hl [0] rfl)
          · rw [if_pos c5] at h
            refine lv_aload_n hx hb d_a_choose_30 rfl (lv_at hl 0 rfl) ?_
            replace h := bs h
            obtain ⟨x8, hx8, h⟩ := h
            refine gf_a_11 hx hb hts hown hK hG hW (gI_s hx8) d_a_choose_31 ?_
            refine lv_istore_n (lv' := [(3, .int x8), (0, .ref a0), (1, .int a1), (2, .int a2)]) hx hb d_a_choose_34 rfl hl (by decide) rfl (fun ls hl => ?_)
            refine lv_aload_n hx hb d_a_choose_35 rfl (lv_at hl 1 rfl) ?_
            refine lv_iload_n hx hb d_a_choose_36 rfl (lv_at hl 3 rfl) ?_
            replace h := bs h
            obtain ⟨w9, hw9, h⟩ := h
            refine pf_a_11 hx hb hts hown hK hG hW rfl rfl hw9 d_a_choose_37 (fun H locs hW => ?_)
            refine lv_goto (tgt := 53) hx hb d_a_choose_40 (by decide) ?_
            exact jx_a_choose_53 C x8 w9 h _ _ _ hW (lv_sub hl [0] rfl)
        · rw [if_neg c4] at h
          exact jx_a_choose_18 C w h _ _ _ hW (lv_sub hl [] rfl)
abbrev b_ru_addInput : ByteArray := prog_6_method_2_code
def y_ru_addInput : MethodName := ⟨"AlarmForge$Runner", "addInput", "(I)V"⟩
def rm_ru_addInput : Room := { frames := 0, cells := 0, slots := 0, locals := 0 }
theorem d_ru_addInput_0 : decode b_ru_addInput 0 = .ok (.aload_n 0, 1) := by decide +kernel
theorem d_ru_addInput_1 : decode b_ru_addInput 1 = .ok (.getfield 28, 3) := by decide +kernel
theorem d_ru_addInput_4 : decode b_ru_addInput 4 = .ok (.bipush (8), 2) := by decide +kernel
theorem d_ru_addInput_6 : decode b_ru_addInput 6 = .ok (.if_icmp .ge (23), 3) := by decide +kernel
theorem d_ru_addInput_9 : decode b_ru_addInput 9 = .ok (.aload_n 0, 1) := by decide +kernel
theorem d_ru_addInput_10 : decode b_ru_addInput 10 = .ok (.getfield 25, 3) := by decide +kernel
theorem d_ru_addInput_13 : decode b_ru_addInput 13 = .ok (.aload_n 0, 1) := by decide +kernel
theorem d_ru_addInput_14 : decode b_ru_addInput 14 = .ok (.getfield 28, 3) := by decide +kernel
theorem d_ru_addInput_17 : decode b_ru_addInput 17 = .ok (.iload_n 1, 1) := by decide +kernel
theorem d_ru_addInput_18 : decode b_ru_addInput 18 = .ok (.iastore, 1) := by decide +kernel
theorem d_ru_addInput_19 : decode b_ru_addInput 19 = .ok (.aload_n 0, 1) := by decide +kernel
theorem d_ru_addInput_20 : decode b_ru_addInput 20 = .ok (.dup, 1) := by decide +kernel
theorem d_ru_addInput_21 : decode b_ru_addInput 21 = .ok (.getfield 28, 3) := by decide +kernel
theorem d_ru_addInput_24 : decode b_ru_addInput 24 = .ok (.iconst 1, 1) := by decide +kernel
theorem d_ru_addInput_25 : decode b_ru_addInput 25 = .ok (.iadd, 1) := by decide +kernel
theorem d_ru_addInput_26 : decode b_ru_addInput 26 = .ok (.putfield 28, 3) := by decide +kernel
theorem d_ru_addInput_29 : decode b_ru_addInput 29 = .ok (.return_, 1) := by decide +kernel
def f_ru_addInput_29   (w : WW) : Option WW :=
  some w
def f_ru_addInput (a0 : Nat) (a1 : Int32) (w : WW) : Option WW :=
  if kb w a0 5 = true then
    (gI w a0 5 5).bind fun x1 =>
    if (8 : Int32) ≤ x1 then
      f_ru_addInput_29 w
    else
      (gN w a0 5 4).bind fun x3 =>
      (gI w a0 5 5).bind fun x4 =>
      (sI w x3 0 x4 a1).bind fun w5 =>
      (gI w5 a0 5 5).bind fun x6 =>
      (pv w5 a0 5 5 (.int (x6 + (1 : Int32)))).bind fun w7 =>
      f_ru_addInput_29 w7
  else none
theorem kb_ru_addInput {a0 : Nat} {a1 : Int32} {w : WW} {r : WW} (h : f_ru_addInput a0 a1 w = some r) : kb w a0 5 = true := (its h).1
set_option maxHeartbeats 4000000 in
set_option maxRecDepth 100000 in
theorem j_ru_addInput_29 {p : Program} {l : Launch} {e : Env} {s : State} {m : MethodId} {args : Array Value} {below : List Frame} {meth : Method} {c : Code} {D : va_G} {cA : Nat → ClassId} {base : Nat} {w' : WW} (C : cx b_ru_addInput (none) 2 y_ru_addInput.cls "addInput" p s m args meth c D cA base)   : ∀  (w : WW), f_ru_addInput_29  w = some w' → ∀ (H : Heap) (locs : List Loc) (ls : Array Slot), wo_S D cls cA base s w H locs → lv_has ls 2 [] → W p l e rm_ru_addInput s m args below meth c H locs 0 0 (MQ below (wo_Q D cls cA base none w') args s rm_ru_addInput.cells rm_ru_addInput.slots (wo_B base)) (F0 m 29 ls []) := by
  obtain ⟨hx, hb, hr, hml, hown, hts, hlk, hnm, hK, hG⟩ := id C
  intro  w h H locs ls hW hl
  unfold f_ru_addInput_29 at h
  cases h
  exact wo_vret hx hb hr hlk hW d_ru_addInput_29
set_option maxHeartbeats 4000000 in
set_option maxRecDepth 100000 in
theorem c_ru_addInput (l : Launch) (D : va_G) (cA : Nat → ClassId) (base : Nat) {a0 : Nat} {a1 : Int32} {w w' : WW} (h : f_ru_addInput a0 a1 w = some w') : mt l D cls (wo_tys cA) cA base y_ru_addInput (Cond.code y_ru_addInput b_ru_addInput 2 (none) :: gt) rm_ru_addInput [.ref a0, .int a1] w none w' rm_ru_addInput.cells rm_ru_addInput.slots := by
  refine mt_start (by decide) (Nat.le_of_ble_eq_true rfl) ?_
  intro p e s m below meth c ls hx hb hr hml hown hts hlk hnm hK hG hW hl
  have C : cx b_ru_addInput (none) 2 y_ru_addInput.cls "addInput" p s m [.ref a0, .int a1].toArray meth c D cA base := ⟨hx, hb, hr, hml, hown, hts, hlk, hnm, hK, hG⟩
  have hl : lv_has ls 2 [(0, .ref a0), (1, .int a1)] := hl
  unfold f_ru_addInput at h
  replace h := its h
  obtain ⟨-, h⟩ := h
  refine lv_aload_n hx hb d_ru_addInput_0 rfl (lv_at hl 0 rfl) ?_
  replace h := bs h
  obtain ⟨x1, hx1, h⟩ := h
  refine gf_ru_28 hx hb hts hown hK hG hW (gI_s hx1) d_ru_addInput_1 ?_
  refine lv_bipush (v := (8 : Int32)) hx hb d_ru_addInput_4 (by decide) ?_
  refine lv_icmp_ge (tgt := 29) hx hb d_ru_addInput_6 (by decide) (fun c2 => ?_) (fun c2 => ?_)
  · rw [if_pos c2] at h
    exact j_ru_addInput_29 C w h _ _ _ hW (lv_sub hl [] rfl)
  · rw [if_neg c2] at h
    refine lv_aload_n hx hb d_ru_addInput_9 rfl (lv_at hl 0 rfl) ?_
    replace h := bs h
    obtain ⟨x3, hx3, h⟩ := h
    refine gf_ru_25 hx hb hts hown hK hG hW (gN_s hx3) d_ru_addInput_10 ?_
    refine lv_aload_n hx hb d_ru_addInput_13 rfl (lv_at hl 0 rfl) ?_
    replace h := bs h
    obtain ⟨x4, hx4, h⟩ := h
    refine gf_ru_28 hx hb hts hown hK hG hW (gI_s hx4) d_ru_addInput_14 ?_
    refine lv_iload_n hx hb d_ru_addInput_17 rfl (lv_at hl 1 rfl) ?_
    replace h := bs h
    obtain ⟨w5, hw5, h⟩ := h
    refine wo_iast hx hb hK hW (t := 0) rfl hw5 d_ru_addInput_18 (fun H locs hW => ?_)
    refine lv_aload_n hx hb d_ru_addInput_19 rfl (lv_at hl 0 rfl) ?_
    refine lv_dup hx hb d_ru_addInput_20 rfl ?_
    replace h := bs h
    obtain ⟨x6, hx6, h⟩ := h
    refine gf_ru_28 hx hb hts hown hK hG hW (gI_s hx6) d_ru_addInput_21 ?_
    refine lv_iconst (v := (1 : Int32)) hx hb d_ru_addInput_24 (by decide) ?_
    refine lv_iadd hx hb d_ru_addInput_25 ?_
    replace h := bs h
    obtain ⟨w7, hw7, h⟩ := h
    refine pf_ru_28 hx hb hts hown hK hG hW rfl rfl hw7 d_ru_addInput_26 (fun H locs hW => ?_)
    exact j_ru_addInput_29 C w7 h _ _ _ hW (lv_sub hl [] rfl)
theorem cv_a_94 {p : Program} {l : Launch} {e : Env} {R : Room} {s : State} {m : MethodId} {args : Array Value} {below : List Frame} {meth : Method} {c : Code} {H : Heap} {locs : List Loc} {cells slots : Nat} {Q : State → Prop} {D : va_G} {cA : Nat → ClassId} {base : Nat} {w w' : WW} {cc : ByteArray} {pc nL : Nat} {ls : Array Slot} {rest st0 As : List Value} {ov : Option Value} {b : Nat} (hx : p.tables.exec = Jvm.exec) (hb : c.code = cc) (hml : c.maxLocals = nL) (hown : s.vm.findClass Rc_a = some m.cls) (hts : ∀ w ∈ gt, w.before args s = true) (hK : va_K D cls (wo_tys cA) s) (hG : wo_G base s) (hW : wo_S D cls cA base s w H locs) (hM : mt l D cls (wo_tys cA) cA base y_ru_addInput (Cond.code y_ru_addInput b_ru_addInput 2 (none) :: gt) rm_ru_addInput (.ref b :: As) w ov w' rm_ru_addInput.cells rm_ru_addInput.slots) (hkb : kb w b 5 = true) (hR : rm_ru_addInput.frames + 1 ≤ R.frames ∧ 8 + (2 + 11) + rm_ru_addInput.locals ≤ R.locals) (hf : cells + rm_ru_addInput.cells ≤ R.cells ∧ slots + rm_ru_addInput.slots ≤ R.slots) (hn : As.length = 1) (hsz : ls.size = nL) (hst : st0 = As.reverse ++ .ref b :: rest) (hcat : (rest.map fun v => v.category).sum ≤ 8) (hdg : decode cc pc = .ok (.invokevirtual 94, 3)) (kk : ∀ (H1 : Heap) (locs1 : List Loc), wo_S D cls cA base s w' H1 locs1 → W p l e R s m args below meth c H1 locs1 (cells + rm_ru_addInput.cells) (slots + rm_ru_addInput.slots) Q (F0 m (pc + 3) ls (ov.toList ++ rest))) : W p l e R s m args below meth c H locs cells slots Q (F0 m pc ls st0) :=
  wo_callV (C := Rc_ru) hx hb hml hown hts hK hG hW hM hkb rfl (gt_of (i := 740) (by decide +kernel) (by decide +kernel)) (gt_of (i := 741) (by decide +kernel) (by decide +kernel)) (gt_of (i := 742) (by decide +kernel) (by decide +kernel)) (gt_of (i := 6) (by decide +kernel) (by decide +kernel)) (gt_of (i := 743) (by decide +kernel) (by decide +kernel)) (by decide +kernel) hR hf hn hsz hst hcat hdg kk
abbrev b_a_input : ByteArray := prog_1_method_9_code
def y_a_input : MethodName := ⟨"AlarmForge", "input", "(I)I"⟩
def rm_a_input : Room := { frames := 6, cells := 0, slots := 0, locals := 100 }
def rx_a_input : Room := { frames := 6, cells := 1, slots := 6, locals := 100 }
theorem d_a_input_0 : decode b_a_input 0 = .ok (.aload_n 0, 1) := by decide +kernel
theorem d_a_input_1 : decode b_a_input 1 = .ok (.getfield 43, 3) := by decide +kernel
theorem d_a_input_4 : decode b_a_input 4 = .ok (.getfield 91, 3) := by decide +kernel
theorem d_a_input_7 : decode b_a_input 7 = .ok (.bipush (8), 2) := by decide +kernel
theorem d_a_input_9 : decode b_a_input 9 = .ok (.if_icmp .lt (11), 3) := by decide +kernel
theorem d_a_input_12 : decode b_a_input 12 = .ok (.new 70, 3) := by decide +kernel
theorem d_a_input_15 : decode b_a_input 15 = .ok (.dup, 1) := by decide +kernel
theorem d_a_input_16 : decode b_a_input 16 = .ok (.invokespecial 72, 3) := by decide +kernel
theorem d_a_input_19 : decode b_a_input 19 = .ok (.athrow, 1) := by decide +kernel
theorem d_a_input_20 : decode b_a_input 20 = .ok (.aload_n 0, 1) := by decide +kernel
theorem d_a_input_21 : decode b_a_input 21 = .ok (.getfield 43, 3) := by decide +kernel
theorem d_a_input_24 : decode b_a_input 24 = .ok (.iload_n 1, 1) := by decide +kernel
theorem d_a_input_25 : decode b_a_input 25 = .ok (.invokevirtual 94, 3) := by decide +kernel
theorem d_a_input_28 : decode b_a_input 28 = .ok (.aload_n 0, 1) := by decide +kernel
theorem d_a_input_29 : decode b_a_input 29 = .ok (.getfield 43, 3) := by decide +kernel
theorem d_a_input_32 : decode b_a_input 32 = .ok (.getfield 91, 3) := by decide +kernel
theorem d_a_input_35 : decode b_a_input 35 = .ok (.ireturn, 1) := by decide +kernel
def f_a_input (a0 : Nat) (a1 : Int32) (w : WW) : Option ((Int32 ⊕ String) × WW) :=
  if kb w a0 0 = true then
    (gN w a0 0 7).bind fun x1 =>
    (gI w x1 5 5).bind fun x2 =>
    if x2 < (8 : Int32) then
      (gN w a0 0 7).bind fun x4 =>
      (f_ru_addInput x4 a1 w).bind fun w5 =>
      (gN w5 a0 0 7).bind fun x6 =>
      (gI w5 x6 5 5).bind fun x7 =>
      some (.inl x7, w5)
    else
      some (.inr "java/lang/IllegalStateException", w)
  else none
theorem kb_a_input {a0 : Nat} {a1 : Int32} {w : WW} {r : ((Int32 ⊕ String) × WW)} (h : f_a_input a0 a1 w = some r) : kb w a0 0 = true := (its h).1
set_option maxHeartbeats 4000000 in
set_option maxRecDepth 100000 in
theorem c_a_input (l : Launch) (D : va_G) (cA : Nat → ClassId) (base : Nat) {a0 : Nat} {a1 : Int32} {w w' : WW} {r : Int32} (h : f_a_input a0 a1 w = some (.inl r, w')) : mt l D cls (wo_tys cA) cA base y_a_input (Cond.code y_a_input b_a_input 2 (some .int) :: gt) rm_a_input [.ref a0, .int a1] w (some (.int r)) w' rm_a_input.cells rm_a_input.slots := by
  refine mt_start (by decide) (Nat.le_of_ble_eq_true rfl) ?_
  intro p e s m below meth c ls hx hb hr hml hown hts hlk hnm hK hG hW hl
  have C : cx b_a_input (some .int) 2 y_a_input.cls "input" p s m [.ref a0, .int a1].toArray meth c D cA base := ⟨hx, hb, hr, hml, hown, hts, hlk, hnm, hK, hG⟩
  have hl : lv_has ls 2 [(0, .ref a0), (1, .int a1)] := hl
  unfold f_a_input at h
  replace h := its h
  obtain ⟨-, h⟩ := h
  refine lv_aload_n hx hb d_a_input_0 rfl (lv_at hl 0 rfl) ?_
  replace h := bs h
  obtain ⟨x1, hx1, h⟩ := h
  refine gf_a_43 hx hb hts hown hK hG hW (gN_s hx1) d_a_input_1 ?_
  replace h := bs h
  obtain ⟨x2, hx2, h⟩ := h
  refine gf_a_91 hx hb hts hown hK hG hW (gI_s hx2) d_a_input_4 ?_
  refine lv_bipush (v := (8 : Int32)) hx hb d_a_input_7 (by decide) ?_
  refine lv_icmp_lt (tgt := 20) hx hb d_a_input_9 (by decide) (fun c3 => ?_) (fun c3 => ?_)
  · rw [if_pos c3] at h
    refine lv_aload_n hx hb d_a_input_20 rfl (lv_at hl 0 rfl) ?_
    replace h := bs h
    obtain ⟨x4, hx4, h⟩ := h
    refine gf_a_43 hx hb hts hown hK hG hW (gN_s hx4) d_a_input_21 ?_
    refine lv_iload_n hx hb d_a_input_24 rfl (lv_at hl 1 rfl) ?_
    replace h := bs h
    obtain ⟨w5, hw5, h⟩ := h
    refine cv_a_94 (As := [.int a1]) (rest := []) hx hb hml hown hts hK hG hW (c_ru_addInput l D cA base hw5) (kb_ru_addInput hw5) ⟨Nat.le_of_ble_eq_true rfl, Nat.le_of_ble_eq_true rfl⟩ ⟨Nat.le_of_ble_eq_true rfl, Nat.le_of_ble_eq_true rfl⟩ rfl hl.1 rfl (Nat.le_of_ble_eq_true rfl) d_a_input_25 (fun H locs hW => ?_)
    refine lv_aload_n hx hb d_a_input_28 rfl (lv_at hl 0 rfl) ?_
    replace h := bs h
    obtain ⟨x6, hx6, h⟩ := h
    refine gf_a_43 hx hb hts hown hK hG hW (gN_s hx6) d_a_input_29 ?_
    replace h := bs h
    obtain ⟨x7, hx7, h⟩ := h
    refine gf_a_91 hx hb hts hown hK hG hW (gI_s hx7) d_a_input_32 ?_
    cases h
    exact wo_iret hx hb hr hlk hW d_a_input_35
  · rw [if_neg c3] at h
    cases h
set_option maxHeartbeats 4000000 in
set_option maxRecDepth 100000 in
theorem x_a_input (l : Launch) (hst : l.stackTraces = false) (D : va_G) (cA : Nat → ClassId) (base : Nat) {a0 : Nat} {a1 : Int32} {w w' : WW} {E : String} (h : f_a_input a0 a1 w = some (.inr E, w')) : xt l D cls (wo_tys cA) cA base y_a_input (Cond.code y_a_input b_a_input 2 (some .int) :: gt) rx_a_input [.ref a0, .int a1] w E w' rx_a_input.cells rx_a_input.slots := by
  refine xt_start (by decide) (Nat.le_of_ble_eq_true rfl) ?_
  intro p e s m below meth c ls hx hb hr hml hown hts hlk hnm hK hG hW hl hnt
  have C : cx b_a_input (some .int) 2 y_a_input.cls "input" p s m [.ref a0, .int a1].toArray meth c D cA base ∧ (∀ x ∈ c.exceptionTable.toList, ∀ k : Nat, covers x k = false) ∧ l.stackTraces = false := ⟨⟨hx, hb, hr, hml, hown, hts, hlk, hnm, hK, hG⟩, hnt, hst⟩
  have hl : lv_has ls 2 [(0, .ref a0), (1, .int a1)] := hl
  unfold f_a_input at h
  replace h := its h
  obtain ⟨-, h⟩ := h
  refine lv_aload_n hx hb d_a_input_0 rfl (lv_at hl 0 rfl) ?_
  replace h := bs h
  obtain ⟨x1, hx1, h⟩ := h
  refine gf_a_43 hx hb hts hown hK hG hW (gN_s hx1) d_a_input_1 ?_
  replace h := bs h
  obtain ⟨x2, hx2, h⟩ := h
  refine gf_a_91 hx hb hts hown hK hG hW (gI_s hx2) d_a_input_4 ?_
  refine lv_bipush (v := (8 : Int32)) hx hb d_a_input_7 (by decide) ?_
  refine lv_icmp_lt (tgt := 20) hx hb d_a_input_9 (by decide) (fun c3 => ?_) (fun c3 => ?_)
  · rw [if_pos c3] at h
    refine lv_aload_n hx hb d_a_input_20 rfl (lv_at hl 0 rfl) ?_
    replace h := bs h
    obtain ⟨x4, hx4, h⟩ := h
    refine gf_a_43 hx hb hts hown hK hG hW (gN_s hx4) d_a_input_21 ?_
    refine lv_iload_n hx hb d_a_input_24 rfl (lv_at hl 1 rfl) ?_
    replace h := bs h
    obtain ⟨w5, hw5, h⟩ := h
    refine cv_a_94 (As := [.int a1]) (rest := []) hx hb hml hown hts hK hG hW (c_ru_addInput l D cA base hw5) (kb_ru_addInput hw5) ⟨Nat.le_of_ble_eq_true rfl, Nat.le_of_ble_eq_true rfl⟩ ⟨Nat.le_of_ble_eq_true rfl, Nat.le_of_ble_eq_true rfl⟩ rfl hl.1 rfl (Nat.le_of_ble_eq_true rfl) d_a_input_25 (fun H locs hW => ?_)
    refine lv_aload_n hx hb d_a_input_28 rfl (lv_at hl 0 rfl) ?_
    replace h := bs h
    obtain ⟨x6, hx6, h⟩ := h
    refine gf_a_43 hx hb hts hown hK hG hW (gN_s hx6) d_a_input_29 ?_
    replace h := bs h
    obtain ⟨x7, hx7, h⟩ := h
    refine gf_a_91 hx hb hts hown hK hG hW (gI_s hx7) d_a_input_32 ?_
    cases h
  · rw [if_neg c3] at h
    cases h
    exact wo_throw (names := ["java/lang/RuntimeException", "java/lang/Exception"]) hx hb hst hown hts hG hW hnt hlk (by decide) (by decide) (gt_of (i := 460) (by decide +kernel) (by decide +kernel)) (gt_of (i := 15) (by decide +kernel) (by decide +kernel)) ow_a_72 (hl.1.trans hml.symm) d_a_input_12 d_a_input_15 d_a_input_16 d_a_input_19 (Nat.le_of_ble_eq_true rfl) (Nat.le_of_ble_eq_true rfl) (Nat.le_of_ble_eq_true rfl) (Nat.le_of_ble_eq_true rfl) (Nat.le_of_ble_eq_true rfl) (Nat.le_of_ble_eq_true rfl)
abbrev b_ru_begin : ByteArray := prog_6_method_4_code
def y_ru_begin : MethodName := ⟨"AlarmForge$Runner", "begin", "()V"⟩
def rm_ru_begin : Room := { frames := 0, cells := 0, slots := 0, locals := 0 }
theorem d_ru_begin_0 : decode b_ru_begin 0 = .ok (.iconst 0, 1) := by decide +kernel
theorem d_ru_begin_1 : decode b_ru_begin 1 = .ok (.istore_n 1, 1) := by decide +kernel
theorem d_ru_begin_2 : decode b_ru_begin 2 = .ok (.iload_n 1, 1) := by decide +kernel
theorem d_ru_begin_3 : decode b_ru_begin 3 = .ok (.bipush (6), 2) := by decide +kernel
theorem d_ru_begin_5 : decode b_ru_begin 5 = .ok (.if_icmp .ge (23), 3) := by decide +kernel
theorem d_ru_begin_8 : decode b_ru_begin 8 = .ok (.aload_n 0, 1) := by decide +kernel
theorem d_ru_begin_9 : decode b_ru_begin 9 = .ok (.getfield 9, 3) := by decide +kernel
theorem d_ru_begin_12 : decode b_ru_begin 12 = .ok (.iload_n 1, 1) := by decide +kernel
theorem d_ru_begin_13 : decode b_ru_begin 13 = .ok (.iconst 0, 1) := by decide +kernel
theorem d_ru_begin_14 : decode b_ru_begin 14 = .ok (.iastore, 1) := by decide +kernel
theorem d_ru_begin_15 : decode b_ru_begin 15 = .ok (.aload_n 0, 1) := by decide +kernel
theorem d_ru_begin_16 : decode b_ru_begin 16 = .ok (.getfield 15, 3) := by decide +kernel
theorem d_ru_begin_19 : decode b_ru_begin 19 = .ok (.iload_n 1, 1) := by decide +kernel
theorem d_ru_begin_20 : decode b_ru_begin 20 = .ok (.iconst 1, 1) := by decide +kernel
theorem d_ru_begin_21 : decode b_ru_begin 21 = .ok (.bastore, 1) := by decide +kernel
theorem d_ru_begin_22 : decode b_ru_begin 22 = .ok (.iinc 1 (1), 3) := by decide +kernel
theorem d_ru_begin_25 : decode b_ru_begin 25 = .ok (.goto (-23), 3) := by decide +kernel
theorem d_ru_begin_28 : decode b_ru_begin 28 = .ok (.iconst 0, 1) := by decide +kernel
theorem d_ru_begin_29 : decode b_ru_begin 29 = .ok (.istore_n 1, 1) := by decide +kernel
theorem d_ru_begin_30 : decode b_ru_begin 30 = .ok (.iload_n 1, 1) := by decide +kernel
theorem d_ru_begin_31 : decode b_ru_begin 31 = .ok (.bipush (8), 2) := by decide +kernel
theorem d_ru_begin_33 : decode b_ru_begin 33 = .ok (.if_icmp .ge (16), 3) := by decide +kernel
theorem d_ru_begin_36 : decode b_ru_begin 36 = .ok (.aload_n 0, 1) := by decide +kernel
theorem d_ru_begin_37 : decode b_ru_begin 37 = .ok (.getfield 19, 3) := by decide +kernel
theorem d_ru_begin_40 : decode b_ru_begin 40 = .ok (.iload_n 1, 1) := by decide +kernel
theorem d_ru_begin_41 : decode b_ru_begin 41 = .ok (.iconst 0, 1) := by decide +kernel
theorem d_ru_begin_42 : decode b_ru_begin 42 = .ok (.iastore, 1) := by decide +kernel
theorem d_ru_begin_43 : decode b_ru_begin 43 = .ok (.iinc 1 (1), 3) := by decide +kernel
theorem d_ru_begin_46 : decode b_ru_begin 46 = .ok (.goto (-16), 3) := by decide +kernel
theorem d_ru_begin_49 : decode b_ru_begin 49 = .ok (.aload_n 0, 1) := by decide +kernel
theorem d_ru_begin_50 : decode b_ru_begin 50 = .ok (.iconst 0, 1) := by decide +kernel
theorem d_ru_begin_51 : decode b_ru_begin 51 = .ok (.putfield 52, 3) := by decide +kernel
theorem d_ru_begin_54 : decode b_ru_begin 54 = .ok (.aload_n 0, 1) := by decide +kernel
theorem d_ru_begin_55 : decode b_ru_begin 55 = .ok (.iconst 0, 1) := by decide +kernel
theorem d_ru_begin_56 : decode b_ru_begin 56 = .ok (.putfield 55, 3) := by decide +kernel
theorem d_ru_begin_59 : decode b_ru_begin 59 = .ok (.aload_n 0, 1) := by decide +kernel
theorem d_ru_begin_60 : decode b_ru_begin 60 = .ok (.iconst 0, 1) := by decide +kernel
theorem d_ru_begin_61 : decode b_ru_begin 61 = .ok (.putfield 58, 3) := by decide +kernel
theorem d_ru_begin_64 : decode b_ru_begin 64 = .ok (.return_, 1) := by decide +kernel
def f_ru_begin_30  : Nat → Nat → Int32 → WW → Option WW
  | 0, _, _, _ => none
  | n + 1, y0, y1, w =>
    if (8 : Int32) ≤ y1 then
      (pv w y0 5 8 (.int (0 : Int32))).bind fun w3 =>
      (pv w3 y0 5 9 (.int (0 : Int32))).bind fun w4 =>
      (pv w4 y0 5 10 (.int (0 : Int32))).bind fun w5 =>
      some w5
    else
      (gN w y0 5 2).bind fun x6 =>
      (sI w x6 0 y1 (0 : Int32)).bind fun w7 =>
      f_ru_begin_30 n y0 (y1 + (1 : Int32)) w7
def f_ru_begin_2  : Nat → Nat → Int32 → WW → Option WW
  | 0, _, _, _ => none
  | n + 1, y0, y1, w =>
    if (6 : Int32) ≤ y1 then
      f_ru_begin_30 KK y0 (0 : Int32) w
    else
      (gN w y0 5 0).bind fun x8 =>
      (sI w x8 0 y1 (0 : Int32)).bind fun w9 =>
      (gN w9 y0 5 1).bind fun x10 =>
      (sI w9 x10 2 y1 (vp_nar .boolean (1 : Int32))).bind fun w11 =>
      f_ru_begin_2 n y0 (y1 + (1 : Int32)) w11
def f_ru_begin (a0 : Nat) (w : WW) : Option WW :=
  if kb w a0 5 = true then
    f_ru_begin_2 KK a0 (0 : Int32) w
  else none
theorem kb_ru_begin {a0 : Nat}  {w : WW} {r : WW} (h : f_ru_begin a0 w = some r) : kb w a0 5 = true := (its h).1
set_option maxHeartbeats 4000000 in
set_option maxRecDepth 100000 in
theorem j_ru_begin_30 {p : Program} {l : Launch} {e : Env} {s : State} {m : MethodId} {args : Array Value} {below : List Frame} {meth : Method} {c : Code} {D : va_G} {cA : Nat → ClassId} {base : Nat} {w' : WW} (C : cx b_ru_begin (none) 2 y_ru_begin.cls "begin" p s m args meth c D cA base)   : ∀ n : Nat, ∀ (y0 : Nat) (y1 : Int32) (w : WW), f_ru_begin_30 n y0 y1 w = some w' → ∀ (H : Heap) (locs : List Loc) (ls : Array Slot), wo_S D cls cA base s w H locs → lv_has ls 2 [(0, .ref y0), (1, .int y1)] → W p l e rm_ru_begin s m args below meth c H locs 0 0 (MQ below (wo_Q D cls cA base none w') args s rm_ru_begin.cells rm_ru_begin.slots (wo_B base)) (F0 m 30 ls []) := by
  obtain ⟨hx, hb, hr, hml, hown, hts, hlk, hnm, hK, hG⟩ := id C
  intro n
  induction n with
  | zero => intro y0 y1 w h; cases h
  | succ n ih =>
    intro y0 y1 w h H locs ls hW hl
    rw [f_ru_begin_30] at h
    refine lv_iload_n hx hb d_ru_begin_30 rfl (lv_at hl 1 rfl) ?_
    refine lv_bipush (v := (8 : Int32)) hx hb d_ru_begin_31 (by decide) ?_
    refine lv_icmp_ge (tgt := 49) hx hb d_ru_begin_33 (by decide) (fun c2 => ?_) (fun c2 => ?_)
    · rw [if_pos c2] at h
      refine lv_aload_n hx hb d_ru_begin_49 rfl (lv_at hl 0 rfl) ?_
      refine lv_iconst (v := (0 : Int32)) hx hb d_ru_begin_50 (by decide) ?_
      replace h := bs h
      obtain ⟨w3, hw3, h⟩ := h
      refine pf_ru_52 hx hb hts hown hK hG hW rfl rfl hw3 d_ru_begin_51 (fun H locs hW => ?_)
      refine lv_aload_n hx hb d_ru_begin_54 rfl (lv_at hl 0 rfl) ?_
      refine lv_iconst (v := (0 : Int32)) hx hb d_ru_begin_55 (by decide) ?_
      replace h := bs h
      obtain ⟨w4, hw4, h⟩ := h
      refine pf_ru_55 hx hb hts hown hK hG hW rfl rfl hw4 d_ru_begin_56 (fun H locs hW => ?_)
      refine lv_aload_n hx hb d_ru_begin_59 rfl (lv_at hl 0 rfl) ?_
      refine lv_iconst (v := (0 : Int32)) hx hb d_ru_begin_60 (by decide) ?_
      replace h := bs h
      obtain ⟨w5, hw5, h⟩ := h
      refine pf_ru_58 hx hb hts hown hK hG hW rfl rfl hw5 d_ru_begin_61 (fun H locs hW => ?_)
      cases h
      exact wo_vret hx hb hr hlk hW d_ru_begin_64
    · rw [if_neg c2] at h
      refine lv_aload_n hx hb d_ru_begin_36 rfl (lv_at hl 0 rfl) ?_
      replace h := bs h
      obtain ⟨x6, hx6, h⟩ := h
      refine gf_ru_19 hx hb hts hown hK hG hW (gN_s hx6) d_ru_begin_37 ?_
      refine lv_iload_n hx hb d_ru_begin_40 rfl (lv_at hl 1 rfl) ?_
      refine lv_iconst (v := (0 : Int32)) hx hb d_ru_begin_41 (by decide) ?_
      replace h := bs h
      obtain ⟨w7, hw7, h⟩ := h
      refine wo_iast hx hb hK hW (t := 0) rfl hw7 d_ru_begin_42 (fun H locs hW => ?_)
      refine lv_iinc (v := (y1 + (1 : Int32))) (lv' := [(1, .int (y1 + (1 : Int32))), (0, .ref y0)]) hx hb d_ru_begin_43 hl (k := 1) rfl rfl (by decide) rfl (fun ls hl => ?_)
      refine lv_goto (tgt := 30) hx hb d_ru_begin_46 (by decide) ?_
      exact ih y0 (y1 + (1 : Int32)) w7 h _ _ _ hW (lv_sub hl [1, 0] rfl)
set_option maxHeartbeats 4000000 in
set_option maxRecDepth 100000 in
theorem j_ru_begin_2 {p : Program} {l : Launch} {e : Env} {s : State} {m : MethodId} {args : Array Value} {below : List Frame} {meth : Method} {c : Code} {D : va_G} {cA : Nat → ClassId} {base : Nat} {w' : WW} (C : cx b_ru_begin (none) 2 y_ru_begin.cls "begin" p s m args meth c D cA base)   : ∀ n : Nat, ∀ (y0 : Nat) (y1 : Int32) (w : WW), f_ru_begin_2 n y0 y1 w = some w' → ∀ (H : Heap) (locs : List Loc) (ls : Array Slot), wo_S D cls cA base s w H locs → lv_has ls 2 [(0, .ref y0), (1, .int y1)] → W p l e rm_ru_begin s m args below meth c H locs 0 0 (MQ below (wo_Q D cls cA base none w') args s rm_ru_begin.cells rm_ru_begin.slots (wo_B base)) (F0 m 2 ls []) := by
  obtain ⟨hx, hb, hr, hml, hown, hts, hlk, hnm, hK, hG⟩ := id C
  intro n
  induction n with
  | zero => intro y0 y1 w h; cases h
  | succ n ih =>
    intro y0 y1 w h H locs ls hW hl
    rw [f_ru_begin_2] at h
    refine lv_iload_n hx hb d_ru_begin_2 rfl (lv_at hl 1 rfl) ?_
    refine lv_bipush (v := (6 : Int32)) hx hb d_ru_begin_3 (by decide) ?_
    refine lv_icmp_ge (tgt := 28) hx hb d_ru_begin_5 (by decide) (fun c1 => ?_) (fun c1 => ?_)
    · rw [if_pos c1] at h
      refine lv_iconst (v := (0 : Int32)) hx hb d_ru_begin_28 (by decide) ?_
      refine lv_istore_n (lv' := [(1, .int (0 : Int32)), (0, .ref y0)]) hx hb d_ru_begin_29 rfl hl (by decide) rfl (fun ls hl => ?_)
      exact j_ru_begin_30 C KK y0 (0 : Int32) w h _ _ _ hW (lv_sub hl [1, 0] rfl)
    · rw [if_neg c1] at h
      refine lv_aload_n hx hb d_ru_begin_8 rfl (lv_at hl 0 rfl) ?_
      replace h := bs h
      obtain ⟨x8, hx8, h⟩ := h
      refine gf_ru_9 hx hb hts hown hK hG hW (gN_s hx8) d_ru_begin_9 ?_
      refine lv_iload_n hx hb d_ru_begin_12 rfl (lv_at hl 1 rfl) ?_
      refine lv_iconst (v := (0 : Int32)) hx hb d_ru_begin_13 (by decide) ?_
      replace h := bs h
      obtain ⟨w9, hw9, h⟩ := h
      refine wo_iast hx hb hK hW (t := 0) rfl hw9 d_ru_begin_14 (fun H locs hW => ?_)
      refine lv_aload_n hx hb d_ru_begin_15 rfl (lv_at hl 0 rfl) ?_
      replace h := bs h
      obtain ⟨x10, hx10, h⟩ := h
      refine gf_ru_15 hx hb hts hown hK hG hW (gN_s hx10) d_ru_begin_16 ?_
      refine lv_iload_n hx hb d_ru_begin_19 rfl (lv_at hl 1 rfl) ?_
      refine lv_iconst (v := (1 : Int32)) hx hb d_ru_begin_20 (by decide) ?_
      replace h := bs h
      obtain ⟨w11, hw11, h⟩ := h
      refine wo_zast hx hb hK hW (t := 2) rfl hw11 d_ru_begin_21 (fun H locs hW => ?_)
      refine lv_iinc (v := (y1 + (1 : Int32))) (lv' := [(1, .int (y1 + (1 : Int32))), (0, .ref y0)]) hx hb d_ru_begin_22 hl (k := 1) rfl rfl (by decide) rfl (fun ls hl => ?_)
      refine lv_goto (tgt := 2) hx hb d_ru_begin_25 (by decide) ?_
      exact ih y0 (y1 + (1 : Int32)) w11 h _ _ _ hW (lv_sub hl [1, 0] rfl)
set_option maxHeartbeats 4000000 in
set_option maxRecDepth 100000 in
theorem c_ru_begin (l : Launch) (D : va_G) (cA : Nat → ClassId) (base : Nat) {a0 : Nat} {w w' : WW} (h : f_ru_begin a0 w = some w') : mt l D cls (wo_tys cA) cA base y_ru_begin (Cond.code y_ru_begin b_ru_begin 2 (none) :: gt) rm_ru_begin [.ref a0] w none w' rm_ru_begin.cells rm_ru_begin.slots := by
  refine mt_start (by decide) (Nat.le_of_ble_eq_true rfl) ?_
  intro p e s m below meth c ls hx hb hr hml hown hts hlk hnm hK hG hW hl
  have C : cx b_ru_begin (none) 2 y_ru_begin.cls "begin" p s m [.ref a0].toArray meth c D cA base := ⟨hx, hb, hr, hml, hown, hts, hlk, hnm, hK, hG⟩
  have hl : lv_has ls 2 [(0, .ref a0)] := hl
  unfold f_ru_begin at h
  replace h := its h
  obtain ⟨-, h⟩ := h
  refine lv_iconst (v := (0 : Int32)) hx hb d_ru_begin_0 (by decide) ?_
  refine lv_istore_n (lv' := [(1, .int (0 : Int32)), (0, .ref a0)]) hx hb d_ru_begin_1 rfl hl (by decide) rfl (fun ls hl => ?_)
  exact j_ru_begin_2 C KK a0 (0 : Int32) w h _ _ _ hW (lv_sub hl [1, 0] rfl)
abbrev b_ru_mayBegin : ByteArray := prog_6_method_6_code
def y_ru_mayBegin : MethodName := ⟨"AlarmForge$Runner", "mayBegin", "()Z"⟩
def rm_ru_mayBegin : Room := { frames := 0, cells := 0, slots := 0, locals := 0 }
theorem d_ru_mayBegin_0 : decode b_ru_mayBegin 0 = .ok (.aload_n 0, 1) := by decide +kernel
theorem d_ru_mayBegin_1 : decode b_ru_mayBegin 1 = .ok (.getfield 52, 3) := by decide +kernel
theorem d_ru_mayBegin_4 : decode b_ru_mayBegin 4 = .ok (.aload_n 0, 1) := by decide +kernel
theorem d_ru_mayBegin_5 : decode b_ru_mayBegin 5 = .ok (.getfield 36, 3) := by decide +kernel
theorem d_ru_mayBegin_8 : decode b_ru_mayBegin 8 = .ok (.if_icmp .lt (5), 3) := by decide +kernel
theorem d_ru_mayBegin_11 : decode b_ru_mayBegin 11 = .ok (.iconst 0, 1) := by decide +kernel
theorem d_ru_mayBegin_12 : decode b_ru_mayBegin 12 = .ok (.ireturn, 1) := by decide +kernel
theorem d_ru_mayBegin_13 : decode b_ru_mayBegin 13 = .ok (.aload_n 0, 1) := by decide +kernel
theorem d_ru_mayBegin_14 : decode b_ru_mayBegin 14 = .ok (.dup, 1) := by decide +kernel
theorem d_ru_mayBegin_15 : decode b_ru_mayBegin 15 = .ok (.getfield 52, 3) := by decide +kernel
theorem d_ru_mayBegin_18 : decode b_ru_mayBegin 18 = .ok (.iconst 1, 1) := by decide +kernel
theorem d_ru_mayBegin_19 : decode b_ru_mayBegin 19 = .ok (.iadd, 1) := by decide +kernel
theorem d_ru_mayBegin_20 : decode b_ru_mayBegin 20 = .ok (.putfield 52, 3) := by decide +kernel
theorem d_ru_mayBegin_23 : decode b_ru_mayBegin 23 = .ok (.iconst 1, 1) := by decide +kernel
theorem d_ru_mayBegin_24 : decode b_ru_mayBegin 24 = .ok (.ireturn, 1) := by decide +kernel
def f_ru_mayBegin (a0 : Nat) (w : WW) : Option (Int32 × WW) :=
  if kb w a0 5 = true then
    (gI w a0 5 8).bind fun x1 =>
    (gI w a0 5 7).bind fun x2 =>
    if x1 < x2 then
      (gI w a0 5 8).bind fun x4 =>
      (pv w a0 5 8 (.int (x4 + (1 : Int32)))).bind fun w5 =>
      if (1 : Int32) = 0 ∨ (1 : Int32) = 1 then some ((1 : Int32), w5) else none
    else
      if (0 : Int32) = 0 ∨ (0 : Int32) = 1 then some ((0 : Int32), w) else none
  else none
theorem kb_ru_mayBegin {a0 : Nat}  {w : WW} {r : (Int32 × WW)} (h : f_ru_mayBegin a0 w = some r) : kb w a0 5 = true := (its h).1
set_option maxHeartbeats 4000000 in
set_option maxRecDepth 100000 in
theorem c_ru_mayBegin (l : Launch) (D : va_G) (cA : Nat → ClassId) (base : Nat) {a0 : Nat} {w w' : WW} {r : Int32} (h : f_ru_mayBegin a0 w = some (r, w')) : mt l D cls (wo_tys cA) cA base y_ru_mayBegin (Cond.code y_ru_mayBegin b_ru_mayBegin 1 (some .boolean) :: gt) rm_ru_mayBegin [.ref a0] w (some (.int r)) w' rm_ru_mayBegin.cells rm_ru_mayBegin.slots := by
  refine mt_start (by decide) (Nat.le_of_ble_eq_true rfl) ?_
  intro p e s m below meth c ls hx hb hr hml hown hts hlk hnm hK hG hW hl
  have C : cx b_ru_mayBegin (some .boolean) 1 y_ru_mayBegin.cls "mayBegin" p s m [.ref a0].toArray meth c D cA base := ⟨hx, hb, hr, hml, hown, hts, hlk, hnm, hK, hG⟩
  have hl : lv_has ls 1 [(0, .ref a0)] := hl
  unfold f_ru_mayBegin at h
  replace h := its h
  obtain ⟨-, h⟩ := h
  refine lv_aload_n hx hb d_ru_mayBegin_0 rfl (lv_at hl 0 rfl) ?_
  replace h := bs h
  obtain ⟨x1, hx1, h⟩ := h
  refine gf_ru_52 hx hb hts hown hK hG hW (gI_s hx1) d_ru_mayBegin_1 ?_
  refine lv_aload_n hx hb d_ru_mayBegin_4 rfl (lv_at hl 0 rfl) ?_
  replace h := bs h
  obtain ⟨x2, hx2, h⟩ := h
  refine gf_ru_36 hx hb hts hown hK hG hW (gI_s hx2) d_ru_mayBegin_5 ?_
  refine lv_icmp_lt (tgt := 13) hx hb d_ru_mayBegin_8 (by decide) (fun c3 => ?_) (fun c3 => ?_)
  · rw [if_pos c3] at h
    refine lv_aload_n hx hb d_ru_mayBegin_13 rfl (lv_at hl 0 rfl) ?_
    refine lv_dup hx hb d_ru_mayBegin_14 rfl ?_
    replace h := bs h
    obtain ⟨x4, hx4, h⟩ := h
    refine gf_ru_52 hx hb hts hown hK hG hW (gI_s hx4) d_ru_mayBegin_15 ?_
    refine lv_iconst (v := (1 : Int32)) hx hb d_ru_mayBegin_18 (by decide) ?_
    refine lv_iadd hx hb d_ru_mayBegin_19 ?_
    replace h := bs h
    obtain ⟨w5, hw5, h⟩ := h
    refine pf_ru_52 hx hb hts hown hK hG hW rfl rfl hw5 d_ru_mayBegin_20 (fun H locs hW => ?_)
    refine lv_iconst (v := (1 : Int32)) hx hb d_ru_mayBegin_23 (by decide) ?_
    replace h := its h
    obtain ⟨c6, h⟩ := h
    cases h
    exact wo_zret hx hb hr hlk hW c6 d_ru_mayBegin_24
  · rw [if_neg c3] at h
    refine lv_iconst (v := (0 : Int32)) hx hb d_ru_mayBegin_11 (by decide) ?_
    replace h := its h
    obtain ⟨c7, h⟩ := h
    cases h
    exact wo_zret hx hb hr hlk hW c7 d_ru_mayBegin_12
abbrev b_ru_doStatement : ByteArray := prog_6_method_7_code
def y_ru_doStatement : MethodName := ⟨"AlarmForge$Runner", "doStatement", "(LAlarmForge$Statement;I)Z"⟩
def rm_ru_doStatement : Room := { frames := 0, cells := 0, slots := 0, locals := 0 }
def rx_ru_doStatement : Room := { frames := 0, cells := 1, slots := 6, locals := 0 }
def f_ru_doStatement (a0 : Nat) (a1 : Option Nat) (a2 : Int32) (w : WW) : Option ((Int32 ⊕ String) × WW) := none
theorem kb_ru_doStatement {a0 : Nat} {a1 : Option Nat} {a2 : Int32} {w : WW} {r : ((Int32 ⊕ String) × WW)} (h : f_ru_doStatement a0 a1 a2 w = some r) : kb w a0 5 = true := by cases h
theorem c_ru_doStatement (l : Launch) (D : va_G) (cA : Nat → ClassId) (base : Nat) {a0 : Nat} {a1 : Option Nat} {a2 : Int32} {w w' : WW} {r : Int32} (h : f_ru_doStatement a0 a1 a2 w = some (.inl r, w')) : mt l D cls (wo_tys cA) cA base y_ru_doStatement (Cond.code y_ru_doStatement b_ru_doStatement 3 (some .boolean) :: gt) rm_ru_doStatement [.ref a0, va_rf a1, .int a2] w (some (.int r)) w' rm_ru_doStatement.cells rm_ru_doStatement.slots := by
  cases h
theorem x_ru_doStatement (l : Launch) (hst : l.stackTraces = false) (D : va_G) (cA : Nat → ClassId) (base : Nat) {a0 : Nat} {a1 : Option Nat} {a2 : Int32} {w w' : WW} {E : String} (h : f_ru_doStatement a0 a1 a2 w = some (.inr E, w')) : xt l D cls (wo_tys cA) cA base y_ru_doStatement (Cond.code y_ru_doStatement b_ru_doStatement 3 (some .boolean) :: gt) rx_ru_doStatement [.ref a0, va_rf a1, .int a2] w E w' rx_ru_doStatement.cells rx_ru_doStatement.slots := by
  cases h
theorem cv_ru_61 {p : Program} {l : Launch} {e : Env} {R : Room} {s : State} {m : MethodId} {args : Array Value} {below : List Frame} {meth : Method} {c : Code} {H : Heap} {locs : List Loc} {cells slots : Nat} {Q : State → Prop} {D : va_G} {cA : Nat → ClassId} {base : Nat} {w w' : WW} {cc : ByteArray} {pc nL : Nat} {ls : Array Slot} {rest st0 As : List Value} {ov : Option Value} {b : Nat} (hx : p.tables.exec = Jvm.exec) (hb : c.code = cc) (hml : c.maxLocals = nL) (hown : s.vm.findClass Rc_ru = some m.cls) (hts : ∀ w ∈ gt, w.before args s = true) (hK : va_K D cls (wo_tys cA) s) (hG : wo_G base s) (hW : wo_S D cls cA base s w H locs) (hM : mt l D cls (wo_tys cA) cA base y_ru_mayBegin (Cond.code y_ru_mayBegin b_ru_mayBegin 1 (some .boolean) :: gt) rm_ru_mayBegin (.ref b :: As) w ov w' rm_ru_mayBegin.cells rm_ru_mayBegin.slots) (hkb : kb w b 5 = true) (hR : rm_ru_mayBegin.frames + 1 ≤ R.frames ∧ 8 + (1 + 11) + rm_ru_mayBegin.locals ≤ R.locals) (hf : cells + rm_ru_mayBegin.cells ≤ R.cells ∧ slots + rm_ru_mayBegin.slots ≤ R.slots) (hn : As.length = 0) (hsz : ls.size = nL) (hst : st0 = As.reverse ++ .ref b :: rest) (hcat : (rest.map fun v => v.category).sum ≤ 8) (hdg : decode cc pc = .ok (.invokevirtual 61, 3)) (kk : ∀ (H1 : Heap) (locs1 : List Loc), wo_S D cls cA base s w' H1 locs1 → W p l e R s m args below meth c H1 locs1 (cells + rm_ru_mayBegin.cells) (slots + rm_ru_mayBegin.slots) Q (F0 m (pc + 3) ls (ov.toList ++ rest))) : W p l e R s m args below meth c H locs cells slots Q (F0 m pc ls st0) :=
  wo_callV (C := Rc_ru) hx hb hml hown hts hK hG hW hM hkb rfl (gt_of (i := 766) (by decide +kernel) (by decide +kernel)) (gt_of (i := 768) (by decide +kernel) (by decide +kernel)) (gt_sel (i := 23) (by decide +kernel) (by decide +kernel)) (gt_of (i := 6) (by decide +kernel) (by decide +kernel)) (gt_of (i := 769) (by decide +kernel) (by decide +kernel)) (by decide +kernel) hR hf hn hsz hst hcat hdg kk
theorem xv_ru_65 {p : Program} {l : Launch} {e : Env} {R : Room} {s : State} {m : MethodId} {args : Array Value} {below : List Frame} {meth : Method} {c : Code} {H : Heap} {locs : List Loc} {cells slots : Nat} {Q : State → Prop} {D : va_G} {cA : Nat → ClassId} {base : Nat} {w w' : WW} {cc : ByteArray} {pc nL : Nat} {ls : Array Slot} {rest st0 As : List Value} {E : String} {b : Nat} (hx : p.tables.exec = Jvm.exec) (hb : c.code = cc) (hml : c.maxLocals = nL) (hown : s.vm.findClass Rc_ru = some m.cls) (hts : ∀ w ∈ gt, w.before args s = true) (hK : va_K D cls (wo_tys cA) s) (hG : wo_G base s) (hW : wo_S D cls cA base s w H locs) (hM : xt l D cls (wo_tys cA) cA base y_ru_doStatement (Cond.code y_ru_doStatement b_ru_doStatement 3 (some .boolean) :: gt) rx_ru_doStatement (.ref b :: As) w E w' rx_ru_doStatement.cells rx_ru_doStatement.slots) (hkb : kb w b 5 = true) (hR : rx_ru_doStatement.frames + 1 ≤ R.frames ∧ 8 + (3 + 11) + rx_ru_doStatement.locals ≤ R.locals) (hf : cells + rx_ru_doStatement.cells ≤ R.cells ∧ slots + rx_ru_doStatement.slots ≤ R.slots) (hn : As.length = 2) (hsz : ls.size = nL) (hst : st0 = As.reverse ++ .ref b :: rest) (hcat : (rest.map fun v => v.category).sum ≤ 8) (hdg : decode cc pc = .ok (.invokevirtual 65, 3)) (kk : ∀ (H1 : Heap) (locs1 : List Loc) (q : Addr) (ce : Cell), wo_S D cls cA base s w' H1 locs1 → H1[q]? = some ce → ce.vm = .none → s.vm.findClass E = some ce.cls → XW p l e R s m args below meth c H1 locs1 (cells + rx_ru_doStatement.cells) (slots + rx_ru_doStatement.slots) Q (F0 m pc ls rest) q) : W p l e R s m args below meth c H locs cells slots Q (F0 m pc ls st0) :=
  wo_xcallV (C := Rc_ru) hx hb hml hown hts hK hG hW hM hkb rfl (gt_of (i := 770) (by decide +kernel) (by decide +kernel)) (gt_of (i := 772) (by decide +kernel) (by decide +kernel)) (gt_sel (i := 24) (by decide +kernel) (by decide +kernel)) (gt_of (i := 6) (by decide +kernel) (by decide +kernel)) (gt_of (i := 773) (by decide +kernel) (by decide +kernel)) (by decide +kernel) hR hf hn hsz hst hcat hdg kk
theorem cv_ru_65 {p : Program} {l : Launch} {e : Env} {R : Room} {s : State} {m : MethodId} {args : Array Value} {below : List Frame} {meth : Method} {c : Code} {H : Heap} {locs : List Loc} {cells slots : Nat} {Q : State → Prop} {D : va_G} {cA : Nat → ClassId} {base : Nat} {w w' : WW} {cc : ByteArray} {pc nL : Nat} {ls : Array Slot} {rest st0 As : List Value} {ov : Option Value} {b : Nat} (hx : p.tables.exec = Jvm.exec) (hb : c.code = cc) (hml : c.maxLocals = nL) (hown : s.vm.findClass Rc_ru = some m.cls) (hts : ∀ w ∈ gt, w.before args s = true) (hK : va_K D cls (wo_tys cA) s) (hG : wo_G base s) (hW : wo_S D cls cA base s w H locs) (hM : mt l D cls (wo_tys cA) cA base y_ru_doStatement (Cond.code y_ru_doStatement b_ru_doStatement 3 (some .boolean) :: gt) rm_ru_doStatement (.ref b :: As) w ov w' rm_ru_doStatement.cells rm_ru_doStatement.slots) (hkb : kb w b 5 = true) (hR : rm_ru_doStatement.frames + 1 ≤ R.frames ∧ 8 + (3 + 11) + rm_ru_doStatement.locals ≤ R.locals) (hf : cells + rm_ru_doStatement.cells ≤ R.cells ∧ slots + rm_ru_doStatement.slots ≤ R.slots) (hn : As.length = 2) (hsz : ls.size = nL) (hst : st0 = As.reverse ++ .ref b :: rest) (hcat : (rest.map fun v => v.category).sum ≤ 8) (hdg : decode cc pc = .ok (.invokevirtual 65, 3)) (kk : ∀ (H1 : Heap) (locs1 : List Loc), wo_S D cls cA base s w' H1 locs1 → W p l e R s m args below meth c H1 locs1 (cells + rm_ru_doStatement.cells) (slots + rm_ru_doStatement.slots) Q (F0 m (pc + 3) ls (ov.toList ++ rest))) : W p l e R s m args below meth c H locs cells slots Q (F0 m pc ls st0) :=
  wo_callV (C := Rc_ru) hx hb hml hown hts hK hG hW hM hkb rfl (gt_of (i := 770) (by decide +kernel) (by decide +kernel)) (gt_of (i := 772) (by decide +kernel) (by decide +kernel)) (gt_sel (i := 24) (by decide +kernel) (by decide +kernel)) (gt_of (i := 6) (by decide +kernel) (by decide +kernel)) (gt_of (i := 773) (by decide +kernel) (by decide +kernel)) (by decide +kernel) hR hf hn hsz hst hcat hdg kk
abbrev b_ru_doStatements : ByteArray := prog_6_method_5_code
def y_ru_doStatements : MethodName := ⟨"AlarmForge$Runner", "doStatements", "(LAlarmForge$Statement;I)Z"⟩
def rm_ru_doStatements : Room := { frames := 6, cells := 0, slots := 0, locals := 100 }
def rx_ru_doStatements : Room := { frames := 6, cells := 1, slots := 6, locals := 100 }
theorem d_ru_doStatements_0 : decode b_ru_doStatements 0 = .ok (.iload_n 2, 1) := by decide +kernel
theorem d_ru_doStatements_1 : decode b_ru_doStatements 1 = .ok (.iconst 3, 1) := by decide +kernel
theorem d_ru_doStatements_2 : decode b_ru_doStatements 2 = .ok (.if_icmp .le (5), 3) := by decide +kernel
theorem d_ru_doStatements_5 : decode b_ru_doStatements 5 = .ok (.iconst 0, 1) := by decide +kernel
theorem d_ru_doStatements_6 : decode b_ru_doStatements 6 = .ok (.ireturn, 1) := by decide +kernel
theorem d_ru_doStatements_7 : decode b_ru_doStatements 7 = .ok (.aload_n 1, 1) := by decide +kernel
theorem d_ru_doStatements_8 : decode b_ru_doStatements 8 = .ok (.astore_n 3, 1) := by decide +kernel
theorem d_ru_doStatements_9 : decode b_ru_doStatements 9 = .ok (.aload_n 3, 1) := by decide +kernel
theorem d_ru_doStatements_10 : decode b_ru_doStatements 10 = .ok (.ifnull (29), 3) := by decide +kernel
theorem d_ru_doStatements_13 : decode b_ru_doStatements 13 = .ok (.aload_n 0, 1) := by decide +kernel
theorem d_ru_doStatements_14 : decode b_ru_doStatements 14 = .ok (.invokevirtual 61, 3) := by decide +kernel
theorem d_ru_doStatements_17 : decode b_ru_doStatements 17 = .ok (.ifCond .eq (12), 3) := by decide +kernel
theorem d_ru_doStatements_20 : decode b_ru_doStatements 20 = .ok (.aload_n 0, 1) := by decide +kernel
theorem d_ru_doStatements_21 : decode b_ru_doStatements 21 = .ok (.aload_n 3, 1) := by decide +kernel
theorem d_ru_doStatements_22 : decode b_ru_doStatements 22 = .ok (.iload_n 2, 1) := by decide +kernel
theorem d_ru_doStatements_23 : decode b_ru_doStatements 23 = .ok (.invokevirtual 65, 3) := by decide +kernel
theorem d_ru_doStatements_26 : decode b_ru_doStatements 26 = .ok (.ifCond .ne (5), 3) := by decide +kernel
theorem d_ru_doStatements_29 : decode b_ru_doStatements 29 = .ok (.iconst 0, 1) := by decide +kernel
theorem d_ru_doStatements_30 : decode b_ru_doStatements 30 = .ok (.ireturn, 1) := by decide +kernel
theorem d_ru_doStatements_31 : decode b_ru_doStatements 31 = .ok (.aload_n 3, 1) := by decide +kernel
theorem d_ru_doStatements_32 : decode b_ru_doStatements 32 = .ok (.getfield 68, 3) := by decide +kernel
theorem d_ru_doStatements_35 : decode b_ru_doStatements 35 = .ok (.astore_n 3, 1) := by decide +kernel
theorem d_ru_doStatements_36 : decode b_ru_doStatements 36 = .ok (.goto (-27), 3) := by decide +kernel
theorem d_ru_doStatements_39 : decode b_ru_doStatements 39 = .ok (.iconst 1, 1) := by decide +kernel
theorem d_ru_doStatements_40 : decode b_ru_doStatements 40 = .ok (.ireturn, 1) := by decide +kernel
def f_ru_doStatements_29   (w : WW) : Option ((Int32 ⊕ String) × WW) :=
  if (0 : Int32) = 0 ∨ (0 : Int32) = 1 then some (.inl (0 : Int32), w) else none
def f_ru_doStatements_9  : Nat → Nat → Int32 → Option Nat → WW → Option ((Int32 ⊕ String) × WW)
  | 0, _, _, _, _ => none
  | n + 1, y0, y2, y3, w =>
    nl y3
      (if (1 : Int32) = 0 ∨ (1 : Int32) = 1 then some (.inl (1 : Int32), w) else none)
      fun x2 =>
        bd2 (f_ru_mayBegin y0 w) fun x5 w4 =>
        if x5 = 0 then
          f_ru_doStatements_29 w4
        else
          bdx (f_ru_doStatement y0 (some x2) y2 w4) fun x9 w8 =>
          if x9 = 0 then
            f_ru_doStatements_29 w8
          else
            (gR w8 x2 4 9).bind fun x11 =>
            f_ru_doStatements_9 n y0 y2 x11 w8
def f_ru_doStatements (a0 : Nat) (a1 : Option Nat) (a2 : Int32) (w : WW) : Option ((Int32 ⊕ String) × WW) :=
  if kb w a0 5 = true then
    if a2 ≤ (3 : Int32) then
      f_ru_doStatements_9 KK a0 a2 a1 w
    else
      if (0 : Int32) = 0 ∨ (0 : Int32) = 1 then some (.inl (0 : Int32), w) else none
  else none
theorem kb_ru_doStatements {a0 : Nat} {a1 : Option Nat} {a2 : Int32} {w : WW} {r : ((Int32 ⊕ String) × WW)} (h : f_ru_doStatements a0 a1 a2 w = some r) : kb w a0 5 = true := (its h).1
set_option maxHeartbeats 4000000 in
set_option maxRecDepth 100000 in
theorem j_ru_doStatements_29 {p : Program} {l : Launch} {e : Env} {s : State} {m : MethodId} {args : Array Value} {below : List Frame} {meth : Method} {c : Code} {D : va_G} {cA : Nat → ClassId} {base : Nat} {r : Int32} {w' : WW} (C : cx b_ru_doStatements (some .boolean) 4 y_ru_doStatements.cls "doStatements" p s m args meth c D cA base)   : ∀  (w : WW), f_ru_doStatements_29  w = some (.inl r, w') → ∀ (H : Heap) (locs : List Loc) (ls : Array Slot), wo_S D cls cA base s w H locs → lv_has ls 4 [] → W p l e rm_ru_doStatements s m args below meth c H locs 0 0 (MQ below (wo_Q D cls cA base (some (.int r)) w') args s rm_ru_doStatements.cells rm_ru_doStatements.slots (wo_B base)) (F0 m 29 ls []) := by
  obtain ⟨hx, hb, hr, hml, hown, hts, hlk, hnm, hK, hG⟩ := id C
  intro  w h H locs ls hW hl
  unfold f_ru_doStatements_29 at h
  refine lv_iconst (v := (0 : Int32)) hx hb d_ru_doStatements_29 (by decide) ?_
  replace h := its h
  obtain ⟨c7, h⟩ := h
  cases h
  exact wo_zret hx hb hr hlk hW c7 d_ru_doStatements_30
set_option maxHeartbeats 4000000 in
set_option maxRecDepth 100000 in
theorem j_ru_doStatements_9 {p : Program} {l : Launch} {e : Env} {s : State} {m : MethodId} {args : Array Value} {below : List Frame} {meth : Method} {c : Code} {D : va_G} {cA : Nat → ClassId} {base : Nat} {r : Int32} {w' : WW} (C : cx b_ru_doStatements (some .boolean) 4 y_ru_doStatements.cls "doStatements" p s m args meth c D cA base)   : ∀ n : Nat, ∀ (y0 : Nat) (y2 : Int32) (y3 : Option Nat) (w : WW), f_ru_doStatements_9 n y0 y2 y3 w = some (.inl r, w') → ∀ (H : Heap) (locs : List Loc) (ls : Array Slot), wo_S D cls cA base s w H locs → lv_has ls 4 [(0, .ref y0), (2, .int y2), (3, va_rf y3)] → W p l e rm_ru_doStatements s m args below meth c H locs 0 0 (MQ below (wo_Q D cls cA base (some (.int r)) w') args s rm_ru_doStatements.cells rm_ru_doStatements.slots (wo_B base)) (F0 m 9 ls []) := by
  obtain ⟨hx, hb, hr, hml, hown, hts, hlk, hnm, hK, hG⟩ := id C
  intro n
  induction n with
  | zero => intro y0 y2 y3 w h; cases h
  | succ n ih =>
    intro y0 y2 y3 w h H locs ls hW hl
    rw [f_ru_doStatements_9] at h
    refine wo_aload_n hx hb d_ru_doStatements_9 rfl (lv_at hl 2 rfl) ?_
    refine wo_ifnull (tgt := 39) hx hb d_ru_doStatements_10 (by decide) (fun ex2 => ?_) (fun x2 ex2 => ?_)
    · subst ex2
      dsimp only [nl] at h
      have hl : lv_has ls 4 [(0, .ref y0), (2, .int y2), (3, va_rf none)] := hl
      refine lv_iconst (v := (1 : Int32)) hx hb d_ru_doStatements_39 (by decide) ?_
      replace h := its h
      obtain ⟨c3, h⟩ := h
      cases h
      exact wo_zret hx hb hr hlk hW c3 d_ru_doStatements_40
    · subst ex2
      dsimp only [nl] at h
      have hl : lv_has ls 4 [(0, .ref y0), (2, .int y2), (3, .ref x2)] := hl
      refine lv_aload_n hx hb d_ru_doStatements_13 rfl (lv_at hl 0 rfl) ?_
      replace h := bs2 h
      obtain ⟨x5, w4, hw4, h⟩ := h
      refine cv_ru_61 (As := []) (rest := []) hx hb hml hown hts hK hG hW (c_ru_mayBegin l D cA base hw4) (kb_ru_mayBegin hw4) ⟨Nat.le_of_ble_eq_true rfl, Nat.le_of_ble_eq_true rfl⟩ ⟨Nat.le_of_ble_eq_true rfl, Nat.le_of_ble_eq_true rfl⟩ rfl hl.1 rfl (Nat.le_of_ble_eq_true rfl) d_ru_doStatements_14 (fun H locs hW => ?_)
      refine lv_if_eq (tgt := 29) hx hb d_ru_doStatements_17 (by decide) (fun c6 => ?_) (fun c6 => ?_)
      · rw [if_pos c6] at h
        exact j_ru_doStatements_29 C w4 h _ _ _ hW (lv_sub hl [] rfl)
      · rw [if_neg c6] at h
        refine lv_aload_n hx hb d_ru_doStatements_20 rfl (lv_at hl 0 rfl) ?_
        refine lv_aload_n hx hb d_ru_doStatements_21 rfl (lv_at hl 2 rfl) ?_
        refine lv_iload_n hx hb d_ru_doStatements_22 rfl (lv_at hl 1 rfl) ?_
        replace h := bsx h
        obtain ⟨x9, w8, hw8, h⟩ := h
        refine cv_ru_65 (As := [va_rf (some x2), .int y2]) (rest := []) hx hb hml hown hts hK hG hW (c_ru_doStatement l D cA base hw8) (kb_ru_doStatement hw8) ⟨Nat.le_of_ble_eq_true rfl, Nat.le_of_ble_eq_true rfl⟩ ⟨Nat.le_of_ble_eq_true rfl, Nat.le_of_ble_eq_true rfl⟩ rfl hl.1 rfl (Nat.le_of_ble_eq_true rfl) d_ru_doStatements_23 (fun H locs hW => ?_)
        refine lv_if_ne (tgt := 31) hx hb d_ru_doStatements_26 (by decide) (fun c10 => ?_) (fun c10 => ?_)
        · rw [if_neg c10] at h
          refine lv_aload_n hx hb d_ru_doStatements_31 rfl (lv_at hl 2 rfl) ?_
          replace h := bs h
          obtain ⟨x11, hx11, h⟩ := h
          refine gf_ru_68 hx hb hts hown hK hG hW (gR_s hx11) d_ru_doStatements_32 ?_
          refine wo_astore_n (lv' := [(3, va_rf x11), (0, .ref y0), (2, .int y2)]) hx hb d_ru_doStatements_35 rfl hl (by decide) rfl (fun ls hl => ?_)
          refine lv_goto (tgt := 9) hx hb d_ru_doStatements_36 (by decide) ?_
          exact ih y0 y2 x11 w8 h _ _ _ hW (lv_sub hl [1, 2, 0] rfl)
        · rw [if_pos c10] at h
          exact j_ru_doStatements_29 C w8 h _ _ _ hW (lv_sub hl [] rfl)
set_option maxHeartbeats 4000000 in
set_option maxRecDepth 100000 in
theorem c_ru_doStatements (l : Launch) (D : va_G) (cA : Nat → ClassId) (base : Nat) {a0 : Nat} {a1 : Option Nat} {a2 : Int32} {w w' : WW} {r : Int32} (h : f_ru_doStatements a0 a1 a2 w = some (.inl r, w')) : mt l D cls (wo_tys cA) cA base y_ru_doStatements (Cond.code y_ru_doStatements b_ru_doStatements 4 (some .boolean) :: gt) rm_ru_doStatements [.ref a0, va_rf a1, .int a2] w (some (.int r)) w' rm_ru_doStatements.cells rm_ru_doStatements.slots := by
  refine mt_start (by decide) (by simp only [lg_sl_0, lg_sl_1, lg_sl_2, lg_sl_3, lg_sl_rf]; decide) ?_
  intro p e s m below meth c ls hx hb hr hml hown hts hlk hnm hK hG hW hl
  have C : cx b_ru_doStatements (some .boolean) 4 y_ru_doStatements.cls "doStatements" p s m [.ref a0, va_rf a1, .int a2].toArray meth c D cA base := ⟨hx, hb, hr, hml, hown, hts, hlk, hnm, hK, hG⟩
  have hl : lv_has ls 4 [(0, .ref a0), (1, va_rf a1), (2, .int a2)] := by simp only [lv_args_0, lv_args_1, lv_args_2, lv_args_3, lv_args_rf] at hl; exact hl
  unfold f_ru_doStatements at h
  replace h := its h
  obtain ⟨-, h⟩ := h
  refine lv_iload_n hx hb d_ru_doStatements_0 rfl (lv_at hl 2 rfl) ?_
  refine lv_iconst (v := (3 : Int32)) hx hb d_ru_doStatements_1 (by decide) ?_
  refine lv_icmp_le (tgt := 7) hx hb d_ru_doStatements_2 (by decide) (fun c1 => ?_) (fun c1 => ?_)
  · rw [if_pos c1] at h
    refine wo_aload_n hx hb d_ru_doStatements_7 rfl (lv_at hl 1 rfl) ?_
    refine wo_astore_n (lv' := [(3, va_rf a1), (0, .ref a0), (1, va_rf a1), (2, .int a2)]) hx hb d_ru_doStatements_8 rfl hl (by decide) rfl (fun ls hl => ?_)
    exact j_ru_doStatements_9 C KK a0 a2 a1 w h _ _ _ hW (lv_sub hl [1, 3, 0] rfl)
  · rw [if_neg c1] at h
    refine lv_iconst (v := (0 : Int32)) hx hb d_ru_doStatements_5 (by decide) ?_
    replace h := its h
    obtain ⟨c12, h⟩ := h
    cases h
    exact wo_zret hx hb hr hlk hW c12 d_ru_doStatements_6
set_option maxHeartbeats 4000000 in
set_option maxRecDepth 100000 in
theorem jx_ru_doStatements_29 {p : Program} {l : Launch} {e : Env} {s : State} {m : MethodId} {args : Array Value} {below : List Frame} {meth : Method} {c : Code} {D : va_G} {cA : Nat → ClassId} {base : Nat} {E : String} {w' : WW} (C : cx b_ru_doStatements (some .boolean) 4 y_ru_doStatements.cls "doStatements" p s m args meth c D cA base ∧ (∀ x ∈ c.exceptionTable.toList, ∀ k : Nat, covers x k = false) ∧ l.stackTraces = false)   : ∀  (w : WW), f_ru_doStatements_29  w = some (.inr E, w') → ∀ (H : Heap) (locs : List Loc) (ls : Array Slot), wo_S D cls cA base s w H locs → lv_has ls 4 [] → W p l e rx_ru_doStatements s m args below meth c H locs 0 0 (XQ below (wo_X D cls cA base E w' rx_ru_doStatements.cells rx_ru_doStatements.slots) args s) (F0 m 29 ls []) := by
  obtain ⟨hx, hb, hr, hml, hown, hts, hlk, hnm, hK, hG⟩ := id C.1
  have hnt := C.2.1
  have hst := C.2.2
  intro  w h H locs ls hW hl
  unfold f_ru_doStatements_29 at h
  refine lv_iconst (v := (0 : Int32)) hx hb d_ru_doStatements_29 (by decide) ?_
  replace h := its h
  obtain ⟨c7, h⟩ := h
  cases h
set_option maxHeartbeats 4000000 in
set_option maxRecDepth 100000 in
theorem jx_ru_doStatements_9 {p : Program} {l : Launch} {e : Env} {s : State} {m : MethodId} {args : Array Value} {below : List Frame} {meth : Method} {c : Code} {D : va_G} {cA : Nat → ClassId} {base : Nat} {E : String} {w' : WW} (C : cx b_ru_doStatements (some .boolean) 4 y_ru_doStatements.cls "doStatements" p s m args meth c D cA base ∧ (∀ x ∈ c.exceptionTable.toList, ∀ k : Nat, covers x k = false) ∧ l.stackTraces = false)   : ∀ n : Nat, ∀ (y0 : Nat) (y2 : Int32) (y3 : Option Nat) (w : WW), f_ru_doStatements_9 n y0 y2 y3 w = some (.inr E, w') → ∀ (H : Heap) (locs : List Loc) (ls : Array Slot), wo_S D cls cA base s w H locs → lv_has ls 4 [(0, .ref y0), (2, .int y2), (3, va_rf y3)] → W p l e rx_ru_doStatements s m args below meth c H locs 0 0 (XQ below (wo_X D cls cA base E w' rx_ru_doStatements.cells rx_ru_doStatements.slots) args s) (F0 m 9 ls []) := by
  obtain ⟨hx, hb, hr, hml, hown, hts, hlk, hnm, hK, hG⟩ := id C.1
  have hnt := C.2.1
  have hst := C.2.2
  intro n
  induction n with
  | zero => intro y0 y2 y3 w h; cases h
  | succ n ih =>
    intro y0 y2 y3 w h H locs ls hW hl
    rw [f_ru_doStatements_9] at h
    refine wo_aload_n hx hb d_ru_doStatements_9 rfl (lv_at hl 2 rfl) ?_
    refine wo_ifnull (tgt := 39) hx hb d_ru_doStatements_10 (by decide) (fun ex2 => ?_) (fun x2 ex2 => ?_)
    · subst ex2
      dsimp only [nl] at h
      have hl : lv_has ls 4 [(0, .ref y0), (2, .int y2), (3, va_rf none)] := hl
      refine lv_iconst (v := (1 : Int32)) hx hb d_ru_doStatements_39 (by decide) ?_
      replace h := its h
      obtain ⟨c3, h⟩ := h
      cases h
    · subst ex2
      dsimp only [nl] at h
      have hl : lv_has ls 4 [(0, .ref y0), (2, .int y2), (3, .ref x2)] := hl
      refine lv_aload_n hx hb d_ru_doStatements_13 rfl (lv_at hl 0 rfl) ?_
      replace h := bs2 h
      obtain ⟨x5, w4, hw4, h⟩ := h
      refine cv_ru_61 (As := []) (rest := []) hx hb hml hown hts hK hG hW (c_ru_mayBegin l D cA base hw4) (kb_ru_mayBegin hw4) ⟨Nat.le_of_ble_eq_true rfl, Nat.le_of_ble_eq_true rfl⟩ ⟨Nat.le_of_ble_eq_true rfl, Nat.le_of_ble_eq_true rfl⟩ rfl hl.1 rfl (Nat.le_of_ble_eq_true rfl) d_ru_doStatements_14 (fun H locs hW => ?_)
      refine lv_if_eq (tgt := 29) hx hb d_ru_doStatements_17 (by decide) (fun c6 => ?_) (fun c6 => ?_)
      · rw [if_pos c6] at h
        exact jx_ru_doStatements_29 C w4 h _ _ _ hW (lv_sub hl [] rfl)
      · rw [if_neg c6] at h
        refine lv_aload_n hx hb d_ru_doStatements_20 rfl (lv_at hl 0 rfl) ?_
        refine lv_aload_n hx hb d_ru_doStatements_21 rfl (lv_at hl 2 rfl) ?_
        refine lv_iload_n hx hb d_ru_doStatements_22 rfl (lv_at hl 1 rfl) ?_
        rcases bsy h with hw8 | ⟨x9, w8, hw8, hnw8⟩
        · exact xv_ru_65 (As := [va_rf (some x2), .int y2]) (rest := []) hx hb hml hown hts hK hG hW (x_ru_doStatement l hst D cA base hw8) (kb_ru_doStatement hw8) ⟨Nat.le_of_ble_eq_true rfl, Nat.le_of_ble_eq_true rfl⟩ ⟨Nat.le_of_ble_eq_true rfl, Nat.le_of_ble_eq_true rfl⟩ rfl hl.1 rfl (Nat.le_of_ble_eq_true rfl) d_ru_doStatements_23 (fun H locs q ce hW h1 h2 h3 => wo_xout hnt hlk hW h1 h2 h3 (Nat.le_of_ble_eq_true rfl) (Nat.le_of_ble_eq_true rfl))
        clear h
        have h := hnw8
        clear hnw8
        refine cv_ru_65 (As := [va_rf (some x2), .int y2]) (rest := []) hx hb hml hown hts hK hG hW (c_ru_doStatement l D cA base hw8) (kb_ru_doStatement hw8) ⟨Nat.le_of_ble_eq_true rfl, Nat.le_of_ble_eq_true rfl⟩ ⟨Nat.le_of_ble_eq_true rfl, Nat.le_of_ble_eq_true rfl⟩ rfl hl.1 rfl (Nat.le_of_ble_eq_true rfl) d_ru_doStatements_23 (fun H locs hW => ?_)
        refine lv_if_ne (tgt := 31) hx hb d_ru_doStatements_26 (by decide) (fun c10 => ?_) (fun c10 => ?_)
        · rw [if_neg c10] at h
          refine lv_aload_n hx hb d_ru_doStatements_31 rfl (lv_at hl 2 rfl) ?_
          replace h := bs h
          obtain ⟨x11, hx11, h⟩ := h
          refine gf_ru_68 hx hb hts hown hK hG hW (gR_s hx11) d_ru_doStatements_32 ?_
          refine wo_astore_n (lv' := [(3, va_rf x11), (0, .ref y0), (2, .int y2)]) hx hb d_ru_doStatements_35 rfl hl (by decide) rfl (fun ls hl => ?_)
          refine lv_goto (tgt := 9) hx hb d_ru_doStatements_36 (by decide) ?_
          exact ih y0 y2 x11 w8 h _ _ _ hW (lv_sub hl [1, 2, 0] rfl)
        · rw [if_pos c10] at h
          exact jx_ru_doStatements_29 C w8 h _ _ _ hW (lv_sub hl [] rfl)
set_option maxHeartbeats 4000000 in
set_option maxRecDepth 100000 in
theorem x_ru_doStatements (l : Launch) (hst : l.stackTraces = false) (D : va_G) (cA : Nat → ClassId) (base : Nat) {a0 : Nat} {a1 : Option Nat} {a2 : Int32} {w w' : WW} {E : String} (h : f_ru_doStatements a0 a1 a2 w = some (.inr E, w')) : xt l D cls (wo_tys cA) cA base y_ru_doStatements (Cond.code y_ru_doStatements b_ru_doStatements 4 (some .boolean) :: gt) rx_ru_doStatements [.ref a0, va_rf a1, .int a2] w E w' rx_ru_doStatements.cells rx_ru_doStatements.slots := by
  refine xt_start (by decide) (by simp only [lg_sl_0, lg_sl_1, lg_sl_2, lg_sl_3, lg_sl_rf]; decide) ?_
  intro p e s m below meth c ls hx hb hr hml hown hts hlk hnm hK hG hW hl hnt
  have C : cx b_ru_doStatements (some .boolean) 4 y_ru_doStatements.cls "doStatements" p s m [.ref a0, va_rf a1, .int a2].toArray meth c D cA base ∧ (∀ x ∈ c.exceptionTable.toList, ∀ k : Nat, covers x k = false) ∧ l.stackTraces = false := ⟨⟨hx, hb, hr, hml, hown, hts, hlk, hnm, hK, hG⟩, hnt, hst⟩
  have hl : lv_has ls 4 [(0, .ref a0), (1, va_rf a1), (2, .int a2)] := by simp only [lv_args_0, lv_args_1, lv_args_2, lv_args_3, lv_args_rf] at hl; exact hl
  unfold f_ru_doStatements at h
  replace h := its h
  obtain ⟨-, h⟩ := h
  refine lv_iload_n hx hb d_ru_doStatements_0 rfl (lv_at hl 2 rfl) ?_
  refine lv_iconst (v := (3 : Int32)) hx hb d_ru_doStatements_1 (by decide) ?_
  refine lv_icmp_le (tgt := 7) hx hb d_ru_doStatements_2 (by decide) (fun c1 => ?_) (fun c1 => ?_)
  · rw [if_pos c1] at h
    refine wo_aload_n hx hb d_ru_doStatements_7 rfl (lv_at hl 1 rfl) ?_
    refine wo_astore_n (lv' := [(3, va_rf a1), (0, .ref a0), (1, va_rf a1), (2, .int a2)]) hx hb d_ru_doStatements_8 rfl hl (by decide) rfl (fun ls hl => ?_)
    exact jx_ru_doStatements_9 C KK a0 a2 a1 w h _ _ _ hW (lv_sub hl [1, 3, 0] rfl)
  · rw [if_neg c1] at h
    refine lv_iconst (v := (0 : Int32)) hx hb d_ru_doStatements_5 (by decide) ?_
    replace h := its h
    obtain ⟨c12, h⟩ := h
    cases h
