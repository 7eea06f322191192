/-! Methods as functions, and their contracts (by wip/gen/run.py). -/
abbrev b_va_stepDown : ByteArray := prog_9_method_26_code
def y_va_stepDown : MethodName := ⟨"AlarmForge$Value", "stepDown", "(J)J"⟩
def rm_va_stepDown : Room := { frames := 0, cells := 0, slots := 0, locals := 0 }
theorem d_va_stepDown_0 : decode b_va_stepDown 0 = .ok (.ldc2_w 28, 3) := by decide +kernel
theorem d_va_stepDown_3 : decode b_va_stepDown 3 = .ok (.lstore_n 2, 1) := by decide +kernel
theorem d_va_stepDown_4 : decode b_va_stepDown 4 = .ok (.iconst 0, 1) := by decide +kernel
theorem d_va_stepDown_5 : decode b_va_stepDown 5 = .ok (.istore 4, 2) := by decide +kernel
theorem d_va_stepDown_7 : decode b_va_stepDown 7 = .ok (.iload 4, 2) := by decide +kernel
theorem d_va_stepDown_9 : decode b_va_stepDown 9 = .ok (.getstatic 99, 3) := by decide +kernel
theorem d_va_stepDown_12 : decode b_va_stepDown 12 = .ok (.arraylength, 1) := by decide +kernel
theorem d_va_stepDown_13 : decode b_va_stepDown 13 = .ok (.if_icmp .ge (29), 3) := by decide +kernel
theorem d_va_stepDown_16 : decode b_va_stepDown 16 = .ok (.getstatic 99, 3) := by decide +kernel
theorem d_va_stepDown_19 : decode b_va_stepDown 19 = .ok (.iload 4, 2) := by decide +kernel
theorem d_va_stepDown_21 : decode b_va_stepDown 21 = .ok (.iaload, 1) := by decide +kernel
theorem d_va_stepDown_22 : decode b_va_stepDown 22 = .ok (.i2l, 1) := by decide +kernel
theorem d_va_stepDown_23 : decode b_va_stepDown 23 = .ok (.lload_n 0, 1) := by decide +kernel
theorem d_va_stepDown_24 : decode b_va_stepDown 24 = .ok (.lcmp, 1) := by decide +kernel
theorem d_va_stepDown_25 : decode b_va_stepDown 25 = .ok (.ifCond .gt (11), 3) := by decide +kernel
theorem d_va_stepDown_28 : decode b_va_stepDown 28 = .ok (.getstatic 99, 3) := by decide +kernel
theorem d_va_stepDown_31 : decode b_va_stepDown 31 = .ok (.iload 4, 2) := by decide +kernel
theorem d_va_stepDown_33 : decode b_va_stepDown 33 = .ok (.iaload, 1) := by decide +kernel
theorem d_va_stepDown_34 : decode b_va_stepDown 34 = .ok (.i2l, 1) := by decide +kernel
theorem d_va_stepDown_35 : decode b_va_stepDown 35 = .ok (.lstore_n 2, 1) := by decide +kernel
theorem d_va_stepDown_36 : decode b_va_stepDown 36 = .ok (.iinc 4 (1), 3) := by decide +kernel
theorem d_va_stepDown_39 : decode b_va_stepDown 39 = .ok (.goto (-32), 3) := by decide +kernel
theorem d_va_stepDown_42 : decode b_va_stepDown 42 = .ok (.lload_n 2, 1) := by decide +kernel
theorem d_va_stepDown_43 : decode b_va_stepDown 43 = .ok (.lreturn, 1) := by decide +kernel
set_option maxHeartbeats 4000000 in
set_option maxRecDepth 100000 in
theorem j_va_stepDown_36 {p : Program} {l : Launch} {e : Env} {s : State} {m : MethodId} {args : Array Value} {below : List Frame} {meth : Method} {c : Code} {D : va_G} {cA : Nat → ClassId} {base : Nat} {r : Int64} {w' : WW} (C : cx b_va_stepDown (some .long) 5 y_va_stepDown.cls "stepDown" p s m args meth c D cA base) {k_7 : Int64 → Int64 → Int32 → WW → Option (Int64 × WW)} (hk_7 : ∀ (y0 : Int64) (y2 : Int64) (y4 : Int32) (w : WW), k_7 y0 y2 y4 w = some (r, w') → ∀ (H : Heap) (locs : List Loc) (ls : Array Slot), wo_S D cls cA base s w H locs → lv_has ls 5 [(0, .long y0), (2, .long y2), (4, .int y4)] → W p l e rm_va_stepDown s m args below meth c H locs 0 0 (MQ below (wo_Q D cls cA base (some (.long r)) w') args s rm_va_stepDown.cells rm_va_stepDown.slots (wo_B base)) (F0 m 7 ls [])) : ∀ (y0 : Int64) (y2 : Int64) (y4 : Int32) (w : WW), f_va_stepDown_36 k_7 y0 y2 y4 w = some (r, w') → ∀ (H : Heap) (locs : List Loc) (ls : Array Slot), wo_S D cls cA base s w H locs → lv_has ls 5 [(0, .long y0), (2, .long y2), (4, .int y4)] → W p l e rm_va_stepDown s m args below meth c H locs 0 0 (MQ below (wo_Q D cls cA base (some (.long r)) w') args s rm_va_stepDown.cells rm_va_stepDown.slots (wo_B base)) (F0 m 36 ls []) := by
  obtain ⟨hx, hb, hr, hml, hown, hts, hlk, hnm, hK, hG⟩ := id C
  intro y0 y2 y4 w h H locs ls hW hl
  unfold f_va_stepDown_36 at h
  refine lv_iinc (v := (y4 + (1 : Int32))) (lv' := [(4, .int (y4 + (1 : Int32))), (0, .long y0), (2, .long y2)]) hx hb d_va_stepDown_36 hl (k := 2) rfl rfl (by decide) rfl (fun ls hl => ?_)
  refine lv_goto (tgt := 7) hx hb d_va_stepDown_39 (by decide) ?_
  exact hk_7 y0 y2 (y4 + (1 : Int32)) w h _ _ _ hW (lv_sub hl [1, 2, 0] rfl)
set_option maxHeartbeats 4000000 in
set_option maxRecDepth 100000 in
theorem j_va_stepDown_7 {p : Program} {l : Launch} {e : Env} {s : State} {m : MethodId} {args : Array Value} {below : List Frame} {meth : Method} {c : Code} {D : va_G} {cA : Nat → ClassId} {base : Nat} {r : Int64} {w' : WW} (C : cx b_va_stepDown (some .long) 5 y_va_stepDown.cls "stepDown" p s m args meth c D cA base)   : ∀ n : Nat, ∀ (y0 : Int64) (y2 : Int64) (y4 : Int32) (w : WW), f_va_stepDown_7 n y0 y2 y4 w = some (r, w') → ∀ (H : Heap) (locs : List Loc) (ls : Array Slot), wo_S D cls cA base s w H locs → lv_has ls 5 [(0, .long y0), (2, .long y2), (4, .int y4)] → W p l e rm_va_stepDown s m args below meth c H locs 0 0 (MQ below (wo_Q D cls cA base (some (.long r)) w') args s rm_va_stepDown.cells rm_va_stepDown.slots (wo_B base)) (F0 m 7 ls []) := by
  obtain ⟨hx, hb, hr, hml, hown, hts, hlk, hnm, hK, hG⟩ := id C
  intro n
  induction n with
  | zero => intro y0 y2 y4 w h; cases h
  | succ n ih =>
    intro y0 y2 y4 w h H locs ls hW hl
    rw [f_va_stepDown_7] at h
    refine lv_iload hx hb d_va_stepDown_7 (lv_at hl 2 rfl) ?_
    obtain ⟨tW, hzW, htW⟩ := hG.2.2.2.2.2.2.2.1
    refine va_getsN (host := "AlarmForge") (ref := "AlarmForge") hx hb hzW hW.2.1 hown (va_Nw.use rfl (hG.1 _ (List.mem_of_getElem? (i := 1081) (by decide +kernel)) rfl)) (fun _ h9 => h9) d_va_stepDown_9 ?_
    refine va_tlen (v := (7 : Int32)) hx hb htW hW.2.1 rfl d_va_stepDown_12 ?_
    refine lv_icmp_ge (tgt := 42) hx hb d_va_stepDown_13 (by decide) (fun c1 => ?_) (fun c1 => ?_)
    · rw [if_pos c1] at h
      refine lv_lload_n hx hb d_va_stepDown_42 rfl (lv_at hl 1 rfl) ?_
      cases h
      exact wo_lret hx hb hr hlk hW d_va_stepDown_43
    · rw [if_neg c1] at h
      obtain ⟨tW, hzW, htW⟩ := hG.2.2.2.2.2.2.2.1
      refine va_getsN (host := "AlarmForge") (ref := "AlarmForge") hx hb hzW hW.2.1 hown (va_Nw.use rfl (hG.1 _ (List.mem_of_getElem? (i := 1081) (by decide +kernel)) rfl)) (fun _ h9 => h9) d_va_stepDown_16 ?_
      refine lv_iload hx hb d_va_stepDown_19 (lv_at hl 2 rfl) ?_
      replace h := bs h
      obtain ⟨x2, hx2, h⟩ := h
      refine va_ti (v := .int x2) hx hb htW hW.2.1 (tbW_s hx2).1 (tbW_s hx2).2 d_va_stepDown_21 ?_
      refine lv_i2l hx hb d_va_stepDown_22 rfl ?_
      refine lv_lload_n hx hb d_va_stepDown_23 rfl (lv_at hl 0 rfl) ?_
      refine lc_gt (tgt := 36) hx hb d_va_stepDown_24 d_va_stepDown_25 (by decide) (fun c3 => ?_) (fun c3 => ?_)
      · rw [if_pos c3] at h
        exact j_va_stepDown_36 C ih y0 y2 y4 w h _ _ _ hW (lv_sub hl [0, 1, 2] rfl)
      · rw [if_neg c3] at h
        obtain ⟨tW, hzW, htW⟩ := hG.2.2.2.2.2.2.2.1
        refine va_getsN (host := "AlarmForge") (ref := "AlarmForge") hx hb hzW hW.2.1 hown (va_Nw.use rfl (hG.1 _ (List.mem_of_getElem? (i := 1081) (by decide +kernel)) rfl)) (fun _ h9 => h9) d_va_stepDown_28 ?_
        refine lv_iload hx hb d_va_stepDown_31 (lv_at hl 2 rfl) ?_
        replace h := bs h
        obtain ⟨x4, hx4, h⟩ := h
        refine va_ti (v := .int x4) hx hb htW hW.2.1 (tbW_s hx4).1 (tbW_s hx4).2 d_va_stepDown_33 ?_
        refine lv_i2l hx hb d_va_stepDown_34 rfl ?_
        refine lv_lstore_n (lv' := [(2, .long (Int32.toInt64 x4)), (0, .long y0), (4, .int y4)]) hx hb d_va_stepDown_35 rfl hl (by decide) rfl (fun ls hl => ?_)
        exact j_va_stepDown_36 C ih y0 (Int32.toInt64 x4) y4 w h _ _ _ hW (lv_sub hl [1, 0, 2] rfl)
set_option maxHeartbeats 4000000 in
set_option maxRecDepth 100000 in
theorem c_va_stepDown (l : Launch) (D : va_G) (cA : Nat → ClassId) (base : Nat) {a0 : Int64} {w w' : WW} {r : Int64} (h : f_va_stepDown a0 w = some (r, w')) : mt l D cls (wo_tys cA) cA base y_va_stepDown (Cond.code y_va_stepDown b_va_stepDown 5 (some .long) :: gt) rm_va_stepDown [.long a0] w (some (.long r)) w' rm_va_stepDown.cells rm_va_stepDown.slots := by
  refine mt_start (by decide) (Nat.le_of_ble_eq_true rfl) ?_
  intro p e s m below meth c ls hx hb hr hml hown hts hlk hnm hK hG hW hl
  have C : cx b_va_stepDown (some .long) 5 y_va_stepDown.cls "stepDown" p s m [.long a0].toArray meth c D cA base := ⟨hx, hb, hr, hml, hown, hts, hlk, hnm, hK, hG⟩
  have hl : lv_has ls 5 [(0, .long a0)] := hl
  unfold f_va_stepDown at h
  refine lv_ldc2 (own := Rc_va) (v := (-2147483648 : Int64)) hx hb hown (hts (.constantLong "AlarmForge$Value" 28 (-2147483648 : Int64)) (gt_of (i := 972) (by decide +kernel) (by decide +kernel))) d_va_stepDown_0 ?_
  refine lv_lstore_n (lv' := [(2, .long (-2147483648 : Int64)), (0, .long a0)]) hx hb d_va_stepDown_3 rfl hl (by decide) rfl (fun ls hl => ?_)
  refine lv_iconst (v := (0 : Int32)) hx hb d_va_stepDown_4 (by decide) ?_
  refine lv_istore (lv' := [(4, .int (0 : Int32)), (2, .long (-2147483648 : Int64)), (0, .long a0)]) hx hb d_va_stepDown_5 hl (by decide) rfl (fun ls hl => ?_)
  exact j_va_stepDown_7 C KK a0 (-2147483648 : Int64) (0 : Int32) w h _ _ _ hW (lv_sub hl [2, 1, 0] rfl)
abbrev b_va_stepUp : ByteArray := prog_9_method_27_code
def y_va_stepUp : MethodName := ⟨"AlarmForge$Value", "stepUp", "(J)J"⟩
def rm_va_stepUp : Room := { frames := 0, cells := 0, slots := 0, locals := 0 }
theorem d_va_stepUp_0 : decode b_va_stepUp 0 = .ok (.ldc2_w 30, 3) := by decide +kernel
theorem d_va_stepUp_3 : decode b_va_stepUp 3 = .ok (.lstore_n 2, 1) := by decide +kernel
theorem d_va_stepUp_4 : decode b_va_stepUp 4 = .ok (.getstatic 99, 3) := by decide +kernel
theorem d_va_stepUp_7 : decode b_va_stepUp 7 = .ok (.arraylength, 1) := by decide +kernel
theorem d_va_stepUp_8 : decode b_va_stepUp 8 = .ok (.iconst 1, 1) := by decide +kernel
theorem d_va_stepUp_9 : decode b_va_stepUp 9 = .ok (.isub, 1) := by decide +kernel
theorem d_va_stepUp_10 : decode b_va_stepUp 10 = .ok (.istore 4, 2) := by decide +kernel
theorem d_va_stepUp_12 : decode b_va_stepUp 12 = .ok (.iload 4, 2) := by decide +kernel
theorem d_va_stepUp_14 : decode b_va_stepUp 14 = .ok (.ifCond .lt (29), 3) := by decide +kernel
theorem d_va_stepUp_17 : decode b_va_stepUp 17 = .ok (.getstatic 99, 3) := by decide +kernel
theorem d_va_stepUp_20 : decode b_va_stepUp 20 = .ok (.iload 4, 2) := by decide +kernel
theorem d_va_stepUp_22 : decode b_va_stepUp 22 = .ok (.iaload, 1) := by decide +kernel
theorem d_va_stepUp_23 : decode b_va_stepUp 23 = .ok (.i2l, 1) := by decide +kernel
theorem d_va_stepUp_24 : decode b_va_stepUp 24 = .ok (.lload_n 0, 1) := by decide +kernel
theorem d_va_stepUp_25 : decode b_va_stepUp 25 = .ok (.lcmp, 1) := by decide +kernel
theorem d_va_stepUp_26 : decode b_va_stepUp 26 = .ok (.ifCond .lt (11), 3) := by decide +kernel
theorem d_va_stepUp_29 : decode b_va_stepUp 29 = .ok (.getstatic 99, 3) := by decide +kernel
theorem d_va_stepUp_32 : decode b_va_stepUp 32 = .ok (.iload 4, 2) := by decide +kernel
theorem d_va_stepUp_34 : decode b_va_stepUp 34 = .ok (.iaload, 1) := by decide +kernel
theorem d_va_stepUp_35 : decode b_va_stepUp 35 = .ok (.i2l, 1) := by decide +kernel
theorem d_va_stepUp_36 : decode b_va_stepUp 36 = .ok (.lstore_n 2, 1) := by decide +kernel
theorem d_va_stepUp_37 : decode b_va_stepUp 37 = .ok (.iinc 4 (-1), 3) := by decide +kernel
theorem d_va_stepUp_40 : decode b_va_stepUp 40 = .ok (.goto (-28), 3) := by decide +kernel
theorem d_va_stepUp_43 : decode b_va_stepUp 43 = .ok (.lload_n 2, 1) := by decide +kernel
theorem d_va_stepUp_44 : decode b_va_stepUp 44 = .ok (.lreturn, 1) := by decide +kernel
set_option maxHeartbeats 4000000 in
set_option maxRecDepth 100000 in
theorem j_va_stepUp_37 {p : Program} {l : Launch} {e : Env} {s : State} {m : MethodId} {args : Array Value} {below : List Frame} {meth : Method} {c : Code} {D : va_G} {cA : Nat → ClassId} {base : Nat} {r : Int64} {w' : WW} (C : cx b_va_stepUp (some .long) 5 y_va_stepUp.cls "stepUp" p s m args meth c D cA base) {k_12 : Int64 → Int64 → Int32 → WW → Option (Int64 × WW)} (hk_12 : ∀ (y0 : Int64) (y2 : Int64) (y4 : Int32) (w : WW), k_12 y0 y2 y4 w = some (r, w') → ∀ (H : Heap) (locs : List Loc) (ls : Array Slot), wo_S D cls cA base s w H locs → lv_has ls 5 [(0, .long y0), (2, .long y2), (4, .int y4)] → W p l e rm_va_stepUp s m args below meth c H locs 0 0 (MQ below (wo_Q D cls cA base (some (.long r)) w') args s rm_va_stepUp.cells rm_va_stepUp.slots (wo_B base)) (F0 m 12 ls [])) : ∀ (y0 : Int64) (y2 : Int64) (y4 : Int32) (w : WW), f_va_stepUp_37 k_12 y0 y2 y4 w = some (r, w') → ∀ (H : Heap) (locs : List Loc) (ls : Array Slot), wo_S D cls cA base s w H locs → lv_has ls 5 [(0, .long y0), (2, .long y2), (4, .int y4)] → W p l e rm_va_stepUp s m args below meth c H locs 0 0 (MQ below (wo_Q D cls cA base (some (.long r)) w') args s rm_va_stepUp.cells rm_va_stepUp.slots (wo_B base)) (F0 m 37 ls []) := by
  obtain ⟨hx, hb, hr, hml, hown, hts, hlk, hnm, hK, hG⟩ := id C
  intro y0 y2 y4 w h H locs ls hW hl
  unfold f_va_stepUp_37 at h
  refine lv_iinc (v := (y4 + (-1 : Int32))) (lv' := [(4, .int (y4 + (-1 : Int32))), (0, .long y0), (2, .long y2)]) hx hb d_va_stepUp_37 hl (k := 2) rfl rfl (by decide) rfl (fun ls hl => ?_)
  refine lv_goto (tgt := 12) hx hb d_va_stepUp_40 (by decide) ?_
  exact hk_12 y0 y2 (y4 + (-1 : Int32)) w h _ _ _ hW (lv_sub hl [1, 2, 0] rfl)
set_option maxHeartbeats 4000000 in
set_option maxRecDepth 100000 in
theorem j_va_stepUp_12 {p : Program} {l : Launch} {e : Env} {s : State} {m : MethodId} {args : Array Value} {below : List Frame} {meth : Method} {c : Code} {D : va_G} {cA : Nat → ClassId} {base : Nat} {r : Int64} {w' : WW} (C : cx b_va_stepUp (some .long) 5 y_va_stepUp.cls "stepUp" p s m args meth c D cA base)   : ∀ n : Nat, ∀ (y0 : Int64) (y2 : Int64) (y4 : Int32) (w : WW), f_va_stepUp_12 n y0 y2 y4 w = some (r, w') → ∀ (H : Heap) (locs : List Loc) (ls : Array Slot), wo_S D cls cA base s w H locs → lv_has ls 5 [(0, .long y0), (2, .long y2), (4, .int y4)] → W p l e rm_va_stepUp s m args below meth c H locs 0 0 (MQ below (wo_Q D cls cA base (some (.long r)) w') args s rm_va_stepUp.cells rm_va_stepUp.slots (wo_B base)) (F0 m 12 ls []) := by
  obtain ⟨hx, hb, hr, hml, hown, hts, hlk, hnm, hK, hG⟩ := id C
  intro n
  induction n with
  | zero => intro y0 y2 y4 w h; cases h
  | succ n ih =>
    intro y0 y2 y4 w h H locs ls hW hl
    rw [f_va_stepUp_12] at h
    refine lv_iload hx hb d_va_stepUp_12 (lv_at hl 2 rfl) ?_
    refine lv_if_lt (tgt := 43) hx hb d_va_stepUp_14 (by decide) (fun c1 => ?_) (fun c1 => ?_)
    · rw [if_pos c1] at h
      refine lv_lload_n hx hb d_va_stepUp_43 rfl (lv_at hl 1 rfl) ?_
      cases h
      exact wo_lret hx hb hr hlk hW d_va_stepUp_44
    · rw [if_neg c1] at h
      obtain ⟨tW, hzW, htW⟩ := hG.2.2.2.2.2.2.2.1
      refine va_getsN (host := "AlarmForge") (ref := "AlarmForge") hx hb hzW hW.2.1 hown (va_Nw.use rfl (hG.1 _ (List.mem_of_getElem? (i := 1081) (by decide +kernel)) rfl)) (fun _ h9 => h9) d_va_stepUp_17 ?_
      refine lv_iload hx hb d_va_stepUp_20 (lv_at hl 2 rfl) ?_
      replace h := bs h
      obtain ⟨x2, hx2, h⟩ := h
      refine va_ti (v := .int x2) hx hb htW hW.2.1 (tbW_s hx2).1 (tbW_s hx2).2 d_va_stepUp_22 ?_
      refine lv_i2l hx hb d_va_stepUp_23 rfl ?_
      refine lv_lload_n hx hb d_va_stepUp_24 rfl (lv_at hl 0 rfl) ?_
      refine lc_lt (tgt := 37) hx hb d_va_stepUp_25 d_va_stepUp_26 (by decide) (fun c3 => ?_) (fun c3 => ?_)
      · rw [if_pos c3] at h
        exact j_va_stepUp_37 C ih y0 y2 y4 w h _ _ _ hW (lv_sub hl [0, 1, 2] rfl)
      · rw [if_neg c3] at h
        obtain ⟨tW, hzW, htW⟩ := hG.2.2.2.2.2.2.2.1
        refine va_getsN (host := "AlarmForge") (ref := "AlarmForge") hx hb hzW hW.2.1 hown (va_Nw.use rfl (hG.1 _ (List.mem_of_getElem? (i := 1081) (by decide +kernel)) rfl)) (fun _ h9 => h9) d_va_stepUp_29 ?_
        refine lv_iload hx hb d_va_stepUp_32 (lv_at hl 2 rfl) ?_
        replace h := bs h
        obtain ⟨x4, hx4, h⟩ := h
        refine va_ti (v := .int x4) hx hb htW hW.2.1 (tbW_s hx4).1 (tbW_s hx4).2 d_va_stepUp_34 ?_
        refine lv_i2l hx hb d_va_stepUp_35 rfl ?_
        refine lv_lstore_n (lv' := [(2, .long (Int32.toInt64 x4)), (0, .long y0), (4, .int y4)]) hx hb d_va_stepUp_36 rfl hl (by decide) rfl (fun ls hl => ?_)
        exact j_va_stepUp_37 C ih y0 (Int32.toInt64 x4) y4 w h _ _ _ hW (lv_sub hl [1, 0, 2] rfl)
set_option maxHeartbeats 4000000 in
set_option maxRecDepth 100000 in
theorem c_va_stepUp (l : Launch) (D : va_G) (cA : Nat → ClassId) (base : Nat) {a0 : Int64} {w w' : WW} {r : Int64} (h : f_va_stepUp a0 w = some (r, w')) : mt l D cls (wo_tys cA) cA base y_va_stepUp (Cond.code y_va_stepUp b_va_stepUp 5 (some .long) :: gt) rm_va_stepUp [.long a0] w (some (.long r)) w' rm_va_stepUp.cells rm_va_stepUp.slots := by
  refine mt_start (by decide) (Nat.le_of_ble_eq_true rfl) ?_
  intro p e s m below meth c ls hx hb hr hml hown hts hlk hnm hK hG hW hl
  have C : cx b_va_stepUp (some .long) 5 y_va_stepUp.cls "stepUp" p s m [.long a0].toArray meth c D cA base := ⟨hx, hb, hr, hml, hown, hts, hlk, hnm, hK, hG⟩
  have hl : lv_has ls 5 [(0, .long a0)] := hl
  unfold f_va_stepUp at h
  refine lv_ldc2 (own := Rc_va) (v := (2147483647 : Int64)) hx hb hown (hts (.constantLong "AlarmForge$Value" 30 (2147483647 : Int64)) (gt_of (i := 973) (by decide +kernel) (by decide +kernel))) d_va_stepUp_0 ?_
  refine lv_lstore_n (lv' := [(2, .long (2147483647 : Int64)), (0, .long a0)]) hx hb d_va_stepUp_3 rfl hl (by decide) rfl (fun ls hl => ?_)
  obtain ⟨tW, hzW, htW⟩ := hG.2.2.2.2.2.2.2.1
  refine va_getsN (host := "AlarmForge") (ref := "AlarmForge") hx hb hzW hW.2.1 hown (va_Nw.use rfl (hG.1 _ (List.mem_of_getElem? (i := 1081) (by decide +kernel)) rfl)) (fun _ h9 => h9) d_va_stepUp_4 ?_
  refine va_tlen (v := (7 : Int32)) hx hb htW hW.2.1 rfl d_va_stepUp_7 ?_
  refine lv_iconst (v := (1 : Int32)) hx hb d_va_stepUp_8 (by decide) ?_
  refine lv_isub hx hb d_va_stepUp_9 ?_
  refine lv_istore (lv' := [(4, .int ((7 : Int32) - (1 : Int32))), (2, .long (2147483647 : Int64)), (0, .long a0)]) hx hb d_va_stepUp_10 hl (by decide) rfl (fun ls hl => ?_)
  exact j_va_stepUp_12 C KK a0 (2147483647 : Int64) ((7 : Int32) - (1 : Int32)) w h _ _ _ hW (lv_sub hl [2, 1, 0] rfl)
theorem cv_va_90 {p : Program} {l : Launch} {e : Env} {R : Room} {s : State} {m : MethodId} {args : Array Value} {below : List Frame} {meth : Method} {c : Code} {H : Heap} {locs : List Loc} {cells slots : Nat} {Q : State → Prop} {D : va_G} {cA : Nat → ClassId} {base : Nat} {w w' : WW} {cc : ByteArray} {pc nL : Nat} {ls : Array Slot} {rest st0 As : List Value} {ov : Option Value} {b : Nat} (hx : p.tables.exec = Jvm.exec) (hb : c.code = cc) (hml : c.maxLocals = nL) (hown : s.vm.findClass Rc_va = some m.cls) (hts : ∀ w ∈ gt, w.before args s = true) (hK : va_K D cls (wo_tys cA) s) (hG : wo_G cA base s) (hW : wo_S D cls cA base s w H locs) (hM : mt l D cls (wo_tys cA) cA base y_va_join (Cond.code y_va_join b_va_join 2 (none) :: gt) rm_va_join (.ref (base + b) :: As) w ov w' rm_va_join.cells rm_va_join.slots) (hkb : kb w b 8 = true) (hR : rm_va_join.frames + 1 ≤ R.frames ∧ 8 + (2 + 11) + rm_va_join.locals ≤ R.locals) (hf : cells + rm_va_join.cells ≤ R.cells ∧ slots + rm_va_join.slots ≤ R.slots) (hn : As.length = 1) (hsz : ls.size = nL) (hst : st0 = As.reverse ++ .ref (base + b) :: rest) (hcat : (rest.map fun v => v.category).sum ≤ 8) (hdg : decode cc pc = .ok (.invokevirtual 90, 3)) (kk : ∀ (H1 : Heap) (locs1 : List Loc), wo_S D cls cA base s w' H1 locs1 → W p l e R s m args below meth c H1 locs1 (cells + rm_va_join.cells) (slots + rm_va_join.slots) Q (F0 m (pc + 3) ls (ov.toList ++ rest))) : W p l e R s m args below meth c H locs cells slots Q (F0 m pc ls st0) :=
  wo_callV (C := Rc_va) hx hb hml hown hts hK hG hW hM hkb rfl (gt_of (i := 1077) (by decide +kernel) (by decide +kernel)) (gt_of (i := 949) (by decide +kernel) (by decide +kernel)) (gt_of (i := 950) (by decide +kernel) (by decide +kernel)) (gt_of (i := 9) (by decide +kernel) (by decide +kernel)) (gt_of (i := 951) (by decide +kernel) (by decide +kernel)) (by decide +kernel) hR hf hn hsz hst hcat hdg kk
theorem cs_va_93 {p : Program} {l : Launch} {e : Env} {R : Room} {s : State} {m : MethodId} {args : Array Value} {below : List Frame} {meth : Method} {c : Code} {H : Heap} {locs : List Loc} {cells slots : Nat} {Q : State → Prop} {D : va_G} {cA : Nat → ClassId} {base : Nat} {w w' : WW} {cc : ByteArray} {pc nL : Nat} {ls : Array Slot} {rest st0 As : List Value} {ov : Option Value} (hx : p.tables.exec = Jvm.exec) (hb : c.code = cc) (hml : c.maxLocals = nL) (hown : s.vm.findClass Rc_va = some m.cls) (hts : ∀ w ∈ gt, w.before args s = true) (hK : va_K D cls (wo_tys cA) s) (hG : wo_G cA base s) (hW : wo_S D cls cA base s w H locs) (hM : mt l D cls (wo_tys cA) cA base y_va_stepDown (Cond.code y_va_stepDown b_va_stepDown 5 (some .long) :: gt) rm_va_stepDown (As) w ov w' rm_va_stepDown.cells rm_va_stepDown.slots) (hR : rm_va_stepDown.frames + 1 ≤ R.frames ∧ 8 + (5 + 11) + rm_va_stepDown.locals ≤ R.locals) (hf : cells + rm_va_stepDown.cells ≤ R.cells ∧ slots + rm_va_stepDown.slots ≤ R.slots) (hn : As.length = 1) (hsz : ls.size = nL) (hst : st0 = As.reverse ++ rest) (hcat : (rest.map fun v => v.category).sum ≤ 8) (hdg : decode cc pc = .ok (.invokestatic 93, 3)) (kk : ∀ (H1 : Heap) (locs1 : List Loc), wo_S D cls cA base s w' H1 locs1 → W p l e R s m args below meth c H1 locs1 (cells + rm_va_stepDown.cells) (slots + rm_va_stepDown.slots) Q (F0 m (pc + 3) ls (ov.toList ++ rest))) : W p l e R s m args below meth c H locs cells slots Q (F0 m pc ls st0) :=
  wo_callS hx hb hml hown hts hK hG hW hM (gt_of (i := 1078) (by decide +kernel) (by decide +kernel)) (gt_of (i := 1079) (by decide +kernel) (by decide +kernel)) (gt_of (i := 9) (by decide +kernel) (by decide +kernel)) (gt_of (i := 1080) (by decide +kernel) (by decide +kernel)) (by decide +kernel) hR hf hn hsz hst hcat hdg kk
theorem cs_va_96 {p : Program} {l : Launch} {e : Env} {R : Room} {s : State} {m : MethodId} {args : Array Value} {below : List Frame} {meth : Method} {c : Code} {H : Heap} {locs : List Loc} {cells slots : Nat} {Q : State → Prop} {D : va_G} {cA : Nat → ClassId} {base : Nat} {w w' : WW} {cc : ByteArray} {pc nL : Nat} {ls : Array Slot} {rest st0 As : List Value} {ov : Option Value} (hx : p.tables.exec = Jvm.exec) (hb : c.code = cc) (hml : c.maxLocals = nL) (hown : s.vm.findClass Rc_va = some m.cls) (hts : ∀ w ∈ gt, w.before args s = true) (hK : va_K D cls (wo_tys cA) s) (hG : wo_G cA base s) (hW : wo_S D cls cA base s w H locs) (hM : mt l D cls (wo_tys cA) cA base y_va_stepUp (Cond.code y_va_stepUp b_va_stepUp 5 (some .long) :: gt) rm_va_stepUp (As) w ov w' rm_va_stepUp.cells rm_va_stepUp.slots) (hR : rm_va_stepUp.frames + 1 ≤ R.frames ∧ 8 + (5 + 11) + rm_va_stepUp.locals ≤ R.locals) (hf : cells + rm_va_stepUp.cells ≤ R.cells ∧ slots + rm_va_stepUp.slots ≤ R.slots) (hn : As.length = 1) (hsz : ls.size = nL) (hst : st0 = As.reverse ++ rest) (hcat : (rest.map fun v => v.category).sum ≤ 8) (hdg : decode cc pc = .ok (.invokestatic 96, 3)) (kk : ∀ (H1 : Heap) (locs1 : List Loc), wo_S D cls cA base s w' H1 locs1 → W p l e R s m args below meth c H1 locs1 (cells + rm_va_stepUp.cells) (slots + rm_va_stepUp.slots) Q (F0 m (pc + 3) ls (ov.toList ++ rest))) : W p l e R s m args below meth c H locs cells slots Q (F0 m pc ls st0) :=
  wo_callS hx hb hml hown hts hK hG hW hM (gt_of (i := 1083) (by decide +kernel) (by decide +kernel)) (gt_of (i := 1084) (by decide +kernel) (by decide +kernel)) (gt_of (i := 9) (by decide +kernel) (by decide +kernel)) (gt_of (i := 1085) (by decide +kernel) (by decide +kernel)) (by decide +kernel) hR hf hn hsz hst hcat hdg kk
abbrev b_va_widen : ByteArray := prog_9_method_25_code
def y_va_widen : MethodName := ⟨"AlarmForge$Value", "widen", "(LAlarmForge$Value;)V"⟩
def rm_va_widen : Room := { frames := 3, cells := 0, slots := 0, locals := 72 }
theorem d_va_widen_0 : decode b_va_widen 0 = .ok (.aload_n 0, 1) := by decide +kernel
theorem d_va_widen_1 : decode b_va_widen 1 = .ok (.getfield 9, 3) := by decide +kernel
theorem d_va_widen_4 : decode b_va_widen 4 = .ok (.istore_n 2, 1) := by decide +kernel
theorem d_va_widen_5 : decode b_va_widen 5 = .ok (.aload_n 0, 1) := by decide +kernel
theorem d_va_widen_6 : decode b_va_widen 6 = .ok (.getfield 15, 3) := by decide +kernel
theorem d_va_widen_9 : decode b_va_widen 9 = .ok (.lstore_n 3, 1) := by decide +kernel
theorem d_va_widen_10 : decode b_va_widen 10 = .ok (.aload_n 0, 1) := by decide +kernel
theorem d_va_widen_11 : decode b_va_widen 11 = .ok (.getfield 19, 3) := by decide +kernel
theorem d_va_widen_14 : decode b_va_widen 14 = .ok (.lstore 5, 2) := by decide +kernel
theorem d_va_widen_16 : decode b_va_widen 16 = .ok (.aload_n 0, 1) := by decide +kernel
theorem d_va_widen_17 : decode b_va_widen 17 = .ok (.aload_n 1, 1) := by decide +kernel
theorem d_va_widen_18 : decode b_va_widen 18 = .ok (.invokevirtual 90, 3) := by decide +kernel
theorem d_va_widen_21 : decode b_va_widen 21 = .ok (.aload_n 0, 1) := by decide +kernel
theorem d_va_widen_22 : decode b_va_widen 22 = .ok (.getfield 9, 3) := by decide +kernel
theorem d_va_widen_25 : decode b_va_widen 25 = .ok (.ifCond .ne (7), 3) := by decide +kernel
theorem d_va_widen_28 : decode b_va_widen 28 = .ok (.iload_n 2, 1) := by decide +kernel
theorem d_va_widen_29 : decode b_va_widen 29 = .ok (.ifCond .eq (4), 3) := by decide +kernel
theorem d_va_widen_32 : decode b_va_widen 32 = .ok (.return_, 1) := by decide +kernel
theorem d_va_widen_33 : decode b_va_widen 33 = .ok (.aload_n 0, 1) := by decide +kernel
theorem d_va_widen_34 : decode b_va_widen 34 = .ok (.getfield 15, 3) := by decide +kernel
theorem d_va_widen_37 : decode b_va_widen 37 = .ok (.lload_n 3, 1) := by decide +kernel
theorem d_va_widen_38 : decode b_va_widen 38 = .ok (.lcmp, 1) := by decide +kernel
theorem d_va_widen_39 : decode b_va_widen 39 = .ok (.ifCond .ge (14), 3) := by decide +kernel
theorem d_va_widen_42 : decode b_va_widen 42 = .ok (.aload_n 0, 1) := by decide +kernel
theorem d_va_widen_43 : decode b_va_widen 43 = .ok (.aload_n 0, 1) := by decide +kernel
theorem d_va_widen_44 : decode b_va_widen 44 = .ok (.getfield 15, 3) := by decide +kernel
theorem d_va_widen_47 : decode b_va_widen 47 = .ok (.invokestatic 93, 3) := by decide +kernel
theorem d_va_widen_50 : decode b_va_widen 50 = .ok (.putfield 15, 3) := by decide +kernel
theorem d_va_widen_53 : decode b_va_widen 53 = .ok (.aload_n 0, 1) := by decide +kernel
theorem d_va_widen_54 : decode b_va_widen 54 = .ok (.getfield 19, 3) := by decide +kernel
theorem d_va_widen_57 : decode b_va_widen 57 = .ok (.lload 5, 2) := by decide +kernel
theorem d_va_widen_59 : decode b_va_widen 59 = .ok (.lcmp, 1) := by decide +kernel
theorem d_va_widen_60 : decode b_va_widen 60 = .ok (.ifCond .le (14), 3) := by decide +kernel
theorem d_va_widen_63 : decode b_va_widen 63 = .ok (.aload_n 0, 1) := by decide +kernel
theorem d_va_widen_64 : decode b_va_widen 64 = .ok (.aload_n 0, 1) := by decide +kernel
theorem d_va_widen_65 : decode b_va_widen 65 = .ok (.getfield 19, 3) := by decide +kernel
theorem d_va_widen_68 : decode b_va_widen 68 = .ok (.invokestatic 96, 3) := by decide +kernel
theorem d_va_widen_71 : decode b_va_widen 71 = .ok (.putfield 19, 3) := by decide +kernel
theorem d_va_widen_74 : decode b_va_widen 74 = .ok (.aload_n 0, 1) := by decide +kernel
theorem d_va_widen_75 : decode b_va_widen 75 = .ok (.invokevirtual 62, 3) := by decide +kernel
theorem d_va_widen_78 : decode b_va_widen 78 = .ok (.pop, 1) := by decide +kernel
theorem d_va_widen_79 : decode b_va_widen 79 = .ok (.return_, 1) := by decide +kernel
theorem kb_va_widen {a0 a1 : Nat}  {w : WW} {r : WW} (h : f_va_widen a0 a1 w = some r) : kb w a0 8 = true := (its h).1
set_option maxHeartbeats 4000000 in
set_option maxRecDepth 100000 in
theorem j_va_widen_32 {p : Program} {l : Launch} {e : Env} {s : State} {m : MethodId} {args : Array Value} {below : List Frame} {meth : Method} {c : Code} {D : va_G} {cA : Nat → ClassId} {base : Nat} {w' : WW} (C : cx b_va_widen (none) 7 y_va_widen.cls "widen" p s m args meth c D cA base)   : ∀  (w : WW), f_va_widen_32  w = some w' → ∀ (H : Heap) (locs : List Loc) (ls : Array Slot), wo_S D cls cA base s w H locs → lv_has ls 7 [] → W p l e rm_va_widen s m args below meth c H locs 0 0 (MQ below (wo_Q D cls cA base none w') args s rm_va_widen.cells rm_va_widen.slots (wo_B base)) (F0 m 32 ls []) := by
  obtain ⟨hx, hb, hr, hml, hown, hts, hlk, hnm, hK, hG⟩ := id C
  intro  w h H locs ls hW hl
  unfold f_va_widen_32 at h
  cases h
  exact wo_vret hx hb hr hlk hW d_va_widen_32
set_option maxHeartbeats 4000000 in
set_option maxRecDepth 100000 in
theorem j_va_widen_74 {p : Program} {l : Launch} {e : Env} {s : State} {m : MethodId} {args : Array Value} {below : List Frame} {meth : Method} {c : Code} {D : va_G} {cA : Nat → ClassId} {base : Nat} {w' : WW} (C : cx b_va_widen (none) 7 y_va_widen.cls "widen" p s m args meth c D cA base)   : ∀ (y0 : Nat) (w : WW), f_va_widen_74 y0 w = some w' → ∀ (H : Heap) (locs : List Loc) (ls : Array Slot), wo_S D cls cA base s w H locs → lv_has ls 7 [(0, .ref (base + y0))] → W p l e rm_va_widen s m args below meth c H locs 0 0 (MQ below (wo_Q D cls cA base none w') args s rm_va_widen.cells rm_va_widen.slots (wo_B base)) (F0 m 74 ls []) := by
  obtain ⟨hx, hb, hr, hml, hown, hts, hlk, hnm, hK, hG⟩ := id C
  intro y0 w h H locs ls hW hl
  unfold f_va_widen_74 at h
  refine lv_aload_n hx hb d_va_widen_74 rfl (lv_at hl 0 rfl) ?_
  replace h := bs2 h
  obtain ⟨x13, w12, hw12, h⟩ := h
  refine cv_va_62 (As := []) (rest := []) hx hb hml hown hts hK hG hW (c_va_putTight l D cA base hw12) (kb_va_putTight hw12) ⟨Nat.le_of_ble_eq_true rfl, Nat.le_of_ble_eq_true rfl⟩ ⟨Nat.le_of_ble_eq_true rfl, Nat.le_of_ble_eq_true rfl⟩ rfl hl.1 rfl (Nat.le_of_ble_eq_true rfl) d_va_widen_75 (fun H locs hW => ?_)
  refine lv_pop hx hb d_va_widen_78 rfl ?_
  cases h
  exact wo_vret hx hb hr hlk hW d_va_widen_79
set_option maxHeartbeats 4000000 in
set_option maxRecDepth 100000 in
theorem j_va_widen_53 {p : Program} {l : Launch} {e : Env} {s : State} {m : MethodId} {args : Array Value} {below : List Frame} {meth : Method} {c : Code} {D : va_G} {cA : Nat → ClassId} {base : Nat} {w' : WW} (C : cx b_va_widen (none) 7 y_va_widen.cls "widen" p s m args meth c D cA base)   : ∀ (y0 : Nat) (y5 : Int64) (w : WW), f_va_widen_53 y0 y5 w = some w' → ∀ (H : Heap) (locs : List Loc) (ls : Array Slot), wo_S D cls cA base s w H locs → lv_has ls 7 [(0, .ref (base + y0)), (5, .long y5)] → W p l e rm_va_widen s m args below meth c H locs 0 0 (MQ below (wo_Q D cls cA base none w') args s rm_va_widen.cells rm_va_widen.slots (wo_B base)) (F0 m 53 ls []) := by
  obtain ⟨hx, hb, hr, hml, hown, hts, hlk, hnm, hK, hG⟩ := id C
  intro y0 y5 w h H locs ls hW hl
  unfold f_va_widen_53 at h
  refine lv_aload_n hx hb d_va_widen_53 rfl (lv_at hl 0 rfl) ?_
  replace h := bs h
  obtain ⟨x10, hx10, h⟩ := h
  refine gf_va_19 hx hb hts hown hK hG hW (gL_s hx10) d_va_widen_54 ?_
  refine lv_lload hx hb d_va_widen_57 (lv_at hl 1 rfl) ?_
  refine lc_le (tgt := 74) hx hb d_va_widen_59 d_va_widen_60 (by decide) (fun c11 => ?_) (fun c11 => ?_)
  · rw [if_pos c11] at h
    exact j_va_widen_74 C y0 w h _ _ _ hW (lv_sub hl [0] rfl)
  · rw [if_neg c11] at h
    refine lv_aload_n hx hb d_va_widen_63 rfl (lv_at hl 0 rfl) ?_
    refine lv_aload_n hx hb d_va_widen_64 rfl (lv_at hl 0 rfl) ?_
    replace h := bs h
    obtain ⟨x14, hx14, h⟩ := h
    refine gf_va_19 hx hb hts hown hK hG hW (gL_s hx14) d_va_widen_65 ?_
    replace h := bs2 h
    obtain ⟨x16, w15, hw15, h⟩ := h
    refine cs_va_96 (As := [.long x14]) (rest := [.ref (base + y0)]) hx hb hml hown hts hK hG hW (c_va_stepUp l D cA base hw15) ⟨Nat.le_of_ble_eq_true rfl, Nat.le_of_ble_eq_true rfl⟩ ⟨Nat.le_of_ble_eq_true rfl, Nat.le_of_ble_eq_true rfl⟩ rfl hl.1 rfl (Nat.le_of_ble_eq_true rfl) d_va_widen_68 (fun H locs hW => ?_)
    replace h := bs h
    obtain ⟨w17, hw17, h⟩ := h
    refine pf_va_19 hx hb hts hown hK hG hW rfl rfl (pbi hw17 rfl) d_va_widen_71 (fun H locs hW => ?_)
    exact j_va_widen_74 C y0 w17 h _ _ _ hW (lv_sub hl [0] rfl)
set_option maxHeartbeats 4000000 in
set_option maxRecDepth 100000 in
theorem c_va_widen (l : Launch) (D : va_G) (cA : Nat → ClassId) (base : Nat) {a0 : Nat} {a1 : Nat} {w w' : WW} (h : f_va_widen a0 a1 w = some w') : mt l D cls (wo_tys cA) cA base y_va_widen (Cond.code y_va_widen b_va_widen 7 (none) :: gt) rm_va_widen [.ref (base + a0), .ref (base + a1)] w none w' rm_va_widen.cells rm_va_widen.slots := by
  refine mt_start (by decide) (Nat.le_of_ble_eq_true rfl) ?_
  intro p e s m below meth c ls hx hb hr hml hown hts hlk hnm hK hG hW hl
  have C : cx b_va_widen (none) 7 y_va_widen.cls "widen" p s m [.ref (base + a0), .ref (base + a1)].toArray meth c D cA base := ⟨hx, hb, hr, hml, hown, hts, hlk, hnm, hK, hG⟩
  have hl : lv_has ls 7 [(0, .ref (base + a0)), (1, .ref (base + a1))] := hl
  unfold f_va_widen at h
  replace h := its h
  obtain ⟨-, h⟩ := h
  refine lv_aload_n hx hb d_va_widen_0 rfl (lv_at hl 0 rfl) ?_
  replace h := bs h
  obtain ⟨x1, hx1, h⟩ := h
  refine gf_va_9 hx hb hts hown hK hG hW (gI_s hx1) d_va_widen_1 ?_
  refine lv_istore_n (lv' := [(2, .int x1), (0, .ref (base + a0)), (1, .ref (base + a1))]) hx hb d_va_widen_4 rfl hl (by decide) rfl (fun ls hl => ?_)
  refine lv_aload_n hx hb d_va_widen_5 rfl (lv_at hl 1 rfl) ?_
  replace h := bs h
  obtain ⟨x2, hx2, h⟩ := h
  refine gf_va_15 hx hb hts hown hK hG hW (gL_s hx2) d_va_widen_6 ?_
  refine lv_lstore_n (lv' := [(3, .long x2), (2, .int x1), (0, .ref (base + a0)), (1, .ref (base + a1))]) hx hb d_va_widen_9 rfl hl (by decide) rfl (fun ls hl => ?_)
  refine lv_aload_n hx hb d_va_widen_10 rfl (lv_at hl 2 rfl) ?_
  replace h := bs h
  obtain ⟨x3, hx3, h⟩ := h
  refine gf_va_19 hx hb hts hown hK hG hW (gL_s hx3) d_va_widen_11 ?_
  refine lv_lstore (lv' := [(5, .long x3), (3, .long x2), (2, .int x1), (0, .ref (base + a0)), (1, .ref (base + a1))]) hx hb d_va_widen_14 hl (by decide) rfl (fun ls hl => ?_)
  refine lv_aload_n hx hb d_va_widen_16 rfl (lv_at hl 3 rfl) ?_
  refine lv_aload_n hx hb d_va_widen_17 rfl (lv_at hl 4 rfl) ?_
  replace h := bs h
  obtain ⟨w4, hw4, h⟩ := h
  refine cv_va_90 (As := [.ref (base + a1)]) (rest := []) hx hb hml hown hts hK hG hW (c_va_join l D cA base hw4) (kb_va_join hw4) ⟨Nat.le_of_ble_eq_true rfl, Nat.le_of_ble_eq_true rfl⟩ ⟨Nat.le_of_ble_eq_true rfl, Nat.le_of_ble_eq_true rfl⟩ rfl hl.1 rfl (Nat.le_of_ble_eq_true rfl) d_va_widen_18 (fun H locs hW => ?_)
  refine lv_aload_n hx hb d_va_widen_21 rfl (lv_at hl 3 rfl) ?_
  replace h := bs h
  obtain ⟨x5, hx5, h⟩ := h
  refine gf_va_9 hx hb hts hown hK hG hW (gI_s hx5) d_va_widen_22 ?_
  refine lv_if_ne (tgt := 32) hx hb d_va_widen_25 (by decide) (fun c6 => ?_) (fun c6 => ?_)
  · rw [if_neg c6] at h
    exact j_va_widen_32 C w4 h _ _ _ hW (lv_sub hl [] rfl)
  · rw [if_pos c6] at h
    refine lv_iload_n hx hb d_va_widen_28 rfl (lv_at hl 2 rfl) ?_
    refine lv_if_eq (tgt := 33) hx hb d_va_widen_29 (by decide) (fun c7 => ?_) (fun c7 => ?_)
    · rw [if_pos c7] at h
      refine lv_aload_n hx hb d_va_widen_33 rfl (lv_at hl 3 rfl) ?_
      replace h := bs h
      obtain ⟨x8, hx8, h⟩ := h
      refine gf_va_15 hx hb hts hown hK hG hW (gL_s hx8) d_va_widen_34 ?_
      refine lv_lload_n hx hb d_va_widen_37 rfl (lv_at hl 1 rfl) ?_
      refine lc_ge (tgt := 53) hx hb d_va_widen_38 d_va_widen_39 (by decide) (fun c9 => ?_) (fun c9 => ?_)
      · rw [if_pos c9] at h
        exact j_va_widen_53 C a0 x3 w4 h _ _ _ hW (lv_sub hl [3, 0] rfl)
      · rw [if_neg c9] at h
        refine lv_aload_n hx hb d_va_widen_42 rfl (lv_at hl 3 rfl) ?_
        refine lv_aload_n hx hb d_va_widen_43 rfl (lv_at hl 3 rfl) ?_
        replace h := bs h
        obtain ⟨x18, hx18, h⟩ := h
        refine gf_va_15 hx hb hts hown hK hG hW (gL_s hx18) d_va_widen_44 ?_
        replace h := bs2 h
        obtain ⟨x20, w19, hw19, h⟩ := h
        refine cs_va_93 (As := [.long x18]) (rest := [.ref (base + a0)]) hx hb hml hown hts hK hG hW (c_va_stepDown l D cA base hw19) ⟨Nat.le_of_ble_eq_true rfl, Nat.le_of_ble_eq_true rfl⟩ ⟨Nat.le_of_ble_eq_true rfl, Nat.le_of_ble_eq_true rfl⟩ rfl hl.1 rfl (Nat.le_of_ble_eq_true rfl) d_va_widen_47 (fun H locs hW => ?_)
        replace h := bs h
        obtain ⟨w21, hw21, h⟩ := h
        refine pf_va_15 hx hb hts hown hK hG hW rfl rfl (pbi hw21 rfl) d_va_widen_50 (fun H locs hW => ?_)
        exact j_va_widen_53 C a0 x3 w21 h _ _ _ hW (lv_sub hl [3, 0] rfl)
    · rw [if_neg c7] at h
      exact j_va_widen_32 C w4 h _ _ _ hW (lv_sub hl [] rfl)
theorem cv_sa_45 {p : Program} {l : Launch} {e : Env} {R : Room} {s : State} {m : MethodId} {args : Array Value} {below : List Frame} {meth : Method} {c : Code} {H : Heap} {locs : List Loc} {cells slots : Nat} {Q : State → Prop} {D : va_G} {cA : Nat → ClassId} {base : Nat} {w w' : WW} {cc : ByteArray} {pc nL : Nat} {ls : Array Slot} {rest st0 As : List Value} {ov : Option Value} {b : Nat} (hx : p.tables.exec = Jvm.exec) (hb : c.code = cc) (hml : c.maxLocals = nL) (hown : s.vm.findClass Rc_sa = some m.cls) (hts : ∀ w ∈ gt, w.before args s = true) (hK : va_K D cls (wo_tys cA) s) (hG : wo_G cA base s) (hW : wo_S D cls cA base s w H locs) (hM : mt l D cls (wo_tys cA) cA base y_sa_copy (Cond.code y_sa_copy b_sa_copy 3 (none) :: gt) rm_sa_copy (.ref (base + b) :: As) w ov w' rm_sa_copy.cells rm_sa_copy.slots) (hkb : kb w b 7 = true) (hR : rm_sa_copy.frames + 1 ≤ R.frames ∧ 8 + (3 + 11) + rm_sa_copy.locals ≤ R.locals) (hf : cells + rm_sa_copy.cells ≤ R.cells ∧ slots + rm_sa_copy.slots ≤ R.slots) (hn : As.length = 1) (hsz : ls.size = nL) (hst : st0 = As.reverse ++ .ref (base + b) :: rest) (hcat : (rest.map fun v => v.category).sum ≤ 8) (hdg : decode cc pc = .ok (.invokevirtual 45, 3)) (kk : ∀ (H1 : Heap) (locs1 : List Loc), wo_S D cls cA base s w' H1 locs1 → W p l e R s m args below meth c H1 locs1 (cells + rm_sa_copy.cells) (slots + rm_sa_copy.slots) Q (F0 m (pc + 3) ls (ov.toList ++ rest))) : W p l e R s m args below meth c H locs cells slots Q (F0 m pc ls st0) :=
  wo_callV (C := Rc_sa) hx hb hml hown hts hK hG hW hM hkb rfl (gt_of (i := 1072) (by decide +kernel) (by decide +kernel)) (gt_of (i := 1017) (by decide +kernel) (by decide +kernel)) (gt_of (i := 1018) (by decide +kernel) (by decide +kernel)) (gt_of (i := 8) (by decide +kernel) (by decide +kernel)) (gt_of (i := 1019) (by decide +kernel) (by decide +kernel)) (by decide +kernel) hR hf hn hsz hst hcat hdg kk
theorem cv_sa_48 {p : Program} {l : Launch} {e : Env} {R : Room} {s : State} {m : MethodId} {args : Array Value} {below : List Frame} {meth : Method} {c : Code} {H : Heap} {locs : List Loc} {cells slots : Nat} {Q : State → Prop} {D : va_G} {cA : Nat → ClassId} {base : Nat} {w w' : WW} {cc : ByteArray} {pc nL : Nat} {ls : Array Slot} {rest st0 As : List Value} {ov : Option Value} {b : Nat} (hx : p.tables.exec = Jvm.exec) (hb : c.code = cc) (hml : c.maxLocals = nL) (hown : s.vm.findClass Rc_sa = some m.cls) (hts : ∀ w ∈ gt, w.before args s = true) (hK : va_K D cls (wo_tys cA) s) (hG : wo_G cA base s) (hW : wo_S D cls cA base s w H locs) (hM : mt l D cls (wo_tys cA) cA base y_va_widen (Cond.code y_va_widen b_va_widen 7 (none) :: gt) rm_va_widen (.ref (base + b) :: As) w ov w' rm_va_widen.cells rm_va_widen.slots) (hkb : kb w b 8 = true) (hR : rm_va_widen.frames + 1 ≤ R.frames ∧ 8 + (7 + 11) + rm_va_widen.locals ≤ R.locals) (hf : cells + rm_va_widen.cells ≤ R.cells ∧ slots + rm_va_widen.slots ≤ R.slots) (hn : As.length = 1) (hsz : ls.size = nL) (hst : st0 = As.reverse ++ .ref (base + b) :: rest) (hcat : (rest.map fun v => v.category).sum ≤ 8) (hdg : decode cc pc = .ok (.invokevirtual 48, 3)) (kk : ∀ (H1 : Heap) (locs1 : List Loc), wo_S D cls cA base s w' H1 locs1 → W p l e R s m args below meth c H1 locs1 (cells + rm_va_widen.cells) (slots + rm_va_widen.slots) Q (F0 m (pc + 3) ls (ov.toList ++ rest))) : W p l e R s m args below meth c H locs cells slots Q (F0 m pc ls st0) :=
  wo_callV (C := Rc_va) hx hb hml hown hts hK hG hW hM hkb rfl (gt_of (i := 1073) (by decide +kernel) (by decide +kernel)) (gt_of (i := 1074) (by decide +kernel) (by decide +kernel)) (gt_of (i := 1075) (by decide +kernel) (by decide +kernel)) (gt_of (i := 9) (by decide +kernel) (by decide +kernel)) (gt_of (i := 1076) (by decide +kernel) (by decide +kernel)) (by decide +kernel) hR hf hn hsz hst hcat hdg kk
theorem cv_sa_51 {p : Program} {l : Launch} {e : Env} {R : Room} {s : State} {m : MethodId} {args : Array Value} {below : List Frame} {meth : Method} {c : Code} {H : Heap} {locs : List Loc} {cells slots : Nat} {Q : State → Prop} {D : va_G} {cA : Nat → ClassId} {base : Nat} {w w' : WW} {cc : ByteArray} {pc nL : Nat} {ls : Array Slot} {rest st0 As : List Value} {ov : Option Value} {b : Nat} (hx : p.tables.exec = Jvm.exec) (hb : c.code = cc) (hml : c.maxLocals = nL) (hown : s.vm.findClass Rc_sa = some m.cls) (hts : ∀ w ∈ gt, w.before args s = true) (hK : va_K D cls (wo_tys cA) s) (hG : wo_G cA base s) (hW : wo_S D cls cA base s w H locs) (hM : mt l D cls (wo_tys cA) cA base y_va_join (Cond.code y_va_join b_va_join 2 (none) :: gt) rm_va_join (.ref (base + b) :: As) w ov w' rm_va_join.cells rm_va_join.slots) (hkb : kb w b 8 = true) (hR : rm_va_join.frames + 1 ≤ R.frames ∧ 8 + (2 + 11) + rm_va_join.locals ≤ R.locals) (hf : cells + rm_va_join.cells ≤ R.cells ∧ slots + rm_va_join.slots ≤ R.slots) (hn : As.length = 1) (hsz : ls.size = nL) (hst : st0 = As.reverse ++ .ref (base + b) :: rest) (hcat : (rest.map fun v => v.category).sum ≤ 8) (hdg : decode cc pc = .ok (.invokevirtual 51, 3)) (kk : ∀ (H1 : Heap) (locs1 : List Loc), wo_S D cls cA base s w' H1 locs1 → W p l e R s m args below meth c H1 locs1 (cells + rm_va_join.cells) (slots + rm_va_join.slots) Q (F0 m (pc + 3) ls (ov.toList ++ rest))) : W p l e R s m args below meth c H locs cells slots Q (F0 m pc ls st0) :=
  wo_callV (C := Rc_va) hx hb hml hown hts hK hG hW hM hkb rfl (gt_of (i := 1086) (by decide +kernel) (by decide +kernel)) (gt_of (i := 949) (by decide +kernel) (by decide +kernel)) (gt_of (i := 950) (by decide +kernel) (by decide +kernel)) (gt_of (i := 9) (by decide +kernel) (by decide +kernel)) (gt_of (i := 951) (by decide +kernel) (by decide +kernel)) (by decide +kernel) hR hf hn hsz hst hcat hdg kk
abbrev b_sa_merge : ByteArray := prog_7_method_7_code
def y_sa_merge : MethodName := ⟨"AlarmForge$State", "merge", "(LAlarmForge$State;Z)V"⟩
def rm_sa_merge : Room := { frames := 4, cells := 0, slots := 0, locals := 98 }
theorem d_sa_merge_0 : decode b_sa_merge 0 = .ok (.aload_n 1, 1) := by decide +kernel
theorem d_sa_merge_1 : decode b_sa_merge 1 = .ok (.getfield 22, 3) := by decide +kernel
theorem d_sa_merge_4 : decode b_sa_merge 4 = .ok (.ifCond .eq (4), 3) := by decide +kernel
theorem d_sa_merge_7 : decode b_sa_merge 7 = .ok (.return_, 1) := by decide +kernel
theorem d_sa_merge_8 : decode b_sa_merge 8 = .ok (.aload_n 0, 1) := by decide +kernel
theorem d_sa_merge_9 : decode b_sa_merge 9 = .ok (.getfield 22, 3) := by decide +kernel
theorem d_sa_merge_12 : decode b_sa_merge 12 = .ok (.ifCond .eq (9), 3) := by decide +kernel
theorem d_sa_merge_15 : decode b_sa_merge 15 = .ok (.aload_n 0, 1) := by decide +kernel
theorem d_sa_merge_16 : decode b_sa_merge 16 = .ok (.aload_n 1, 1) := by decide +kernel
theorem d_sa_merge_17 : decode b_sa_merge 17 = .ok (.invokevirtual 45, 3) := by decide +kernel
theorem d_sa_merge_20 : decode b_sa_merge 20 = .ok (.return_, 1) := by decide +kernel
theorem d_sa_merge_21 : decode b_sa_merge 21 = .ok (.iconst 0, 1) := by decide +kernel
theorem d_sa_merge_22 : decode b_sa_merge 22 = .ok (.istore_n 3, 1) := by decide +kernel
theorem d_sa_merge_23 : decode b_sa_merge 23 = .ok (.iload_n 3, 1) := by decide +kernel
theorem d_sa_merge_24 : decode b_sa_merge 24 = .ok (.bipush (14), 2) := by decide +kernel
theorem d_sa_merge_26 : decode b_sa_merge 26 = .ok (.if_icmp .ge (46), 3) := by decide +kernel
theorem d_sa_merge_29 : decode b_sa_merge 29 = .ok (.iload_n 2, 1) := by decide +kernel
theorem d_sa_merge_30 : decode b_sa_merge 30 = .ok (.ifCond .eq (21), 3) := by decide +kernel
theorem d_sa_merge_33 : decode b_sa_merge 33 = .ok (.aload_n 0, 1) := by decide +kernel
theorem d_sa_merge_34 : decode b_sa_merge 34 = .ok (.getfield 11, 3) := by decide +kernel
theorem d_sa_merge_37 : decode b_sa_merge 37 = .ok (.iload_n 3, 1) := by decide +kernel
theorem d_sa_merge_38 : decode b_sa_merge 38 = .ok (.aaload, 1) := by decide +kernel
theorem d_sa_merge_39 : decode b_sa_merge 39 = .ok (.aload_n 1, 1) := by decide +kernel
theorem d_sa_merge_40 : decode b_sa_merge 40 = .ok (.getfield 11, 3) := by decide +kernel
theorem d_sa_merge_43 : decode b_sa_merge 43 = .ok (.iload_n 3, 1) := by decide +kernel
theorem d_sa_merge_44 : decode b_sa_merge 44 = .ok (.aaload, 1) := by decide +kernel
theorem d_sa_merge_45 : decode b_sa_merge 45 = .ok (.invokevirtual 48, 3) := by decide +kernel
theorem d_sa_merge_48 : decode b_sa_merge 48 = .ok (.goto (18), 3) := by decide +kernel
theorem d_sa_merge_51 : decode b_sa_merge 51 = .ok (.aload_n 0, 1) := by decide +kernel
theorem d_sa_merge_52 : decode b_sa_merge 52 = .ok (.getfield 11, 3) := by decide +kernel
theorem d_sa_merge_55 : decode b_sa_merge 55 = .ok (.iload_n 3, 1) := by decide +kernel
theorem d_sa_merge_56 : decode b_sa_merge 56 = .ok (.aaload, 1) := by decide +kernel
theorem d_sa_merge_57 : decode b_sa_merge 57 = .ok (.aload_n 1, 1) := by decide +kernel
theorem d_sa_merge_58 : decode b_sa_merge 58 = .ok (.getfield 11, 3) := by decide +kernel
theorem d_sa_merge_61 : decode b_sa_merge 61 = .ok (.iload_n 3, 1) := by decide +kernel
theorem d_sa_merge_62 : decode b_sa_merge 62 = .ok (.aaload, 1) := by decide +kernel
theorem d_sa_merge_63 : decode b_sa_merge 63 = .ok (.invokevirtual 51, 3) := by decide +kernel
theorem d_sa_merge_66 : decode b_sa_merge 66 = .ok (.iinc 3 (1), 3) := by decide +kernel
theorem d_sa_merge_69 : decode b_sa_merge 69 = .ok (.goto (-46), 3) := by decide +kernel
theorem d_sa_merge_72 : decode b_sa_merge 72 = .ok (.iconst 0, 1) := by decide +kernel
theorem d_sa_merge_73 : decode b_sa_merge 73 = .ok (.istore_n 3, 1) := by decide +kernel
theorem d_sa_merge_74 : decode b_sa_merge 74 = .ok (.iload_n 3, 1) := by decide +kernel
theorem d_sa_merge_75 : decode b_sa_merge 75 = .ok (.bipush (6), 2) := by decide +kernel
theorem d_sa_merge_77 : decode b_sa_merge 77 = .ok (.if_icmp .ge (38), 3) := by decide +kernel
theorem d_sa_merge_80 : decode b_sa_merge 80 = .ok (.aload_n 0, 1) := by decide +kernel
theorem d_sa_merge_81 : decode b_sa_merge 81 = .ok (.getfield 18, 3) := by decide +kernel
theorem d_sa_merge_84 : decode b_sa_merge 84 = .ok (.iload_n 3, 1) := by decide +kernel
theorem d_sa_merge_85 : decode b_sa_merge 85 = .ok (.aload_n 0, 1) := by decide +kernel
theorem d_sa_merge_86 : decode b_sa_merge 86 = .ok (.getfield 18, 3) := by decide +kernel
theorem d_sa_merge_89 : decode b_sa_merge 89 = .ok (.iload_n 3, 1) := by decide +kernel
theorem d_sa_merge_90 : decode b_sa_merge 90 = .ok (.baload, 1) := by decide +kernel
theorem d_sa_merge_91 : decode b_sa_merge 91 = .ok (.ifCond .ne (12), 3) := by decide +kernel
theorem d_sa_merge_94 : decode b_sa_merge 94 = .ok (.aload_n 1, 1) := by decide +kernel
theorem d_sa_merge_95 : decode b_sa_merge 95 = .ok (.getfield 18, 3) := by decide +kernel
theorem d_sa_merge_98 : decode b_sa_merge 98 = .ok (.iload_n 3, 1) := by decide +kernel
theorem d_sa_merge_99 : decode b_sa_merge 99 = .ok (.baload, 1) := by decide +kernel
theorem d_sa_merge_100 : decode b_sa_merge 100 = .ok (.ifCond .eq (7), 3) := by decide +kernel
theorem d_sa_merge_103 : decode b_sa_merge 103 = .ok (.iconst 1, 1) := by decide +kernel
theorem d_sa_merge_104 : decode b_sa_merge 104 = .ok (.goto (4), 3) := by decide +kernel
theorem d_sa_merge_107 : decode b_sa_merge 107 = .ok (.iconst 0, 1) := by decide +kernel
theorem d_sa_merge_108 : decode b_sa_merge 108 = .ok (.bastore, 1) := by decide +kernel
theorem d_sa_merge_109 : decode b_sa_merge 109 = .ok (.iinc 3 (1), 3) := by decide +kernel
theorem d_sa_merge_112 : decode b_sa_merge 112 = .ok (.goto (-38), 3) := by decide +kernel
theorem d_sa_merge_115 : decode b_sa_merge 115 = .ok (.return_, 1) := by decide +kernel
theorem kb_sa_merge {a0 a1 : Nat} {a2 : Int32} {w : WW} {r : WW} (h : f_sa_merge a0 a1 a2 w = some r) : kb w a0 7 = true := (its h).1
set_option maxHeartbeats 4000000 in
set_option maxRecDepth 100000 in
theorem j_sa_merge_108 {p : Program} {l : Launch} {e : Env} {s : State} {m : MethodId} {args : Array Value} {below : List Frame} {meth : Method} {c : Code} {D : va_G} {cA : Nat → ClassId} {base : Nat} {w' : WW} (C : cx b_sa_merge (none) 4 y_sa_merge.cls "merge" p s m args meth c D cA base) {k_74 : Nat → Nat → Int32 → WW → Option WW} (hk_74 : ∀ (y0 : Nat) (y1 : Nat) (y3 : Int32) (w : WW), k_74 y0 y1 y3 w = some w' → ∀ (H : Heap) (locs : List Loc) (ls : Array Slot), wo_S D cls cA base s w H locs → lv_has ls 4 [(0, .ref (base + y0)), (1, .ref (base + y1)), (3, .int y3)] → W p l e rm_sa_merge s m args below meth c H locs 0 0 (MQ below (wo_Q D cls cA base none w') args s rm_sa_merge.cells rm_sa_merge.slots (wo_B base)) (F0 m 74 ls [])) : ∀ (y0 : Nat) (y1 : Nat) (y3 : Int32) (z0 : Nat) (z1 : Int32) (z2 : Int32) (w : WW), f_sa_merge_108 k_74 y0 y1 y3 z0 z1 z2 w = some w' → ∀ (H : Heap) (locs : List Loc) (ls : Array Slot), wo_S D cls cA base s w H locs → lv_has ls 4 [(0, .ref (base + y0)), (1, .ref (base + y1)), (3, .int y3)] → W p l e rm_sa_merge s m args below meth c H locs 0 0 (MQ below (wo_Q D cls cA base none w') args s rm_sa_merge.cells rm_sa_merge.slots (wo_B base)) (F0 m 108 ls [.int z2, .int z1, .ref (base + z0)]) := by
  obtain ⟨hx, hb, hr, hml, hown, hts, hlk, hnm, hK, hG⟩ := id C
  intro y0 y1 y3 z0 z1 z2 w h H locs ls hW hl
  unfold f_sa_merge_108 at h
  replace h := bs h
  obtain ⟨w11, hw11, h⟩ := h
  refine wo_zast hx hb hK hW (t := 2) rfl hw11 d_sa_merge_108 (fun H locs hW => ?_)
  refine lv_iinc (v := (y3 + (1 : Int32))) (lv' := [(3, .int (y3 + (1 : Int32))), (0, .ref (base + y0)), (1, .ref (base + y1))]) hx hb d_sa_merge_109 hl (k := 2) rfl rfl (by decide) rfl (fun ls hl => ?_)
  refine lv_goto (tgt := 74) hx hb d_sa_merge_112 (by decide) ?_
  exact hk_74 y0 y1 (y3 + (1 : Int32)) w11 h _ _ _ hW (lv_sub hl [1, 2, 0] rfl)
set_option maxHeartbeats 4000000 in
set_option maxRecDepth 100000 in
theorem j_sa_merge_103 {p : Program} {l : Launch} {e : Env} {s : State} {m : MethodId} {args : Array Value} {below : List Frame} {meth : Method} {c : Code} {D : va_G} {cA : Nat → ClassId} {base : Nat} {w' : WW} (C : cx b_sa_merge (none) 4 y_sa_merge.cls "merge" p s m args meth c D cA base) {k_74 : Nat → Nat → Int32 → WW → Option WW} (hk_74 : ∀ (y0 : Nat) (y1 : Nat) (y3 : Int32) (w : WW), k_74 y0 y1 y3 w = some w' → ∀ (H : Heap) (locs : List Loc) (ls : Array Slot), wo_S D cls cA base s w H locs → lv_has ls 4 [(0, .ref (base + y0)), (1, .ref (base + y1)), (3, .int y3)] → W p l e rm_sa_merge s m args below meth c H locs 0 0 (MQ below (wo_Q D cls cA base none w') args s rm_sa_merge.cells rm_sa_merge.slots (wo_B base)) (F0 m 74 ls [])) : ∀ (y0 : Nat) (y1 : Nat) (y3 : Int32) (z0 : Nat) (z1 : Int32) (w : WW), f_sa_merge_103 k_74 y0 y1 y3 z0 z1 w = some w' → ∀ (H : Heap) (locs : List Loc) (ls : Array Slot), wo_S D cls cA base s w H locs → lv_has ls 4 [(0, .ref (base + y0)), (1, .ref (base + y1)), (3, .int y3)] → W p l e rm_sa_merge s m args below meth c H locs 0 0 (MQ below (wo_Q D cls cA base none w') args s rm_sa_merge.cells rm_sa_merge.slots (wo_B base)) (F0 m 103 ls [.int z1, .ref (base + z0)]) := by
  obtain ⟨hx, hb, hr, hml, hown, hts, hlk, hnm, hK, hG⟩ := id C
  intro y0 y1 y3 z0 z1 w h H locs ls hW hl
  unfold f_sa_merge_103 at h
  refine lv_iconst (v := (1 : Int32)) hx hb d_sa_merge_103 (by decide) ?_
  refine lv_goto (tgt := 108) hx hb d_sa_merge_104 (by decide) ?_
  exact j_sa_merge_108 C hk_74 y0 y1 y3 z0 z1 (1 : Int32) w h _ _ _ hW (lv_sub hl [0, 1, 2] rfl)
set_option maxHeartbeats 4000000 in
set_option maxRecDepth 100000 in
theorem j_sa_merge_74 {p : Program} {l : Launch} {e : Env} {s : State} {m : MethodId} {args : Array Value} {below : List Frame} {meth : Method} {c : Code} {D : va_G} {cA : Nat → ClassId} {base : Nat} {w' : WW} (C : cx b_sa_merge (none) 4 y_sa_merge.cls "merge" p s m args meth c D cA base)   : ∀ n : Nat, ∀ (y0 : Nat) (y1 : Nat) (y3 : Int32) (w : WW), f_sa_merge_74 n y0 y1 y3 w = some w' → ∀ (H : Heap) (locs : List Loc) (ls : Array Slot), wo_S D cls cA base s w H locs → lv_has ls 4 [(0, .ref (base + y0)), (1, .ref (base + y1)), (3, .int y3)] → W p l e rm_sa_merge s m args below meth c H locs 0 0 (MQ below (wo_Q D cls cA base none w') args s rm_sa_merge.cells rm_sa_merge.slots (wo_B base)) (F0 m 74 ls []) := by
  obtain ⟨hx, hb, hr, hml, hown, hts, hlk, hnm, hK, hG⟩ := id C
  intro n
  induction n with
  | zero => intro y0 y1 y3 w h; cases h
  | succ n ih =>
    intro y0 y1 y3 w h H locs ls hW hl
    rw [f_sa_merge_74] at h
    refine lv_iload_n hx hb d_sa_merge_74 rfl (lv_at hl 2 rfl) ?_
    refine lv_bipush (v := (6 : Int32)) hx hb d_sa_merge_75 (by decide) ?_
    refine lv_icmp_ge (tgt := 115) hx hb d_sa_merge_77 (by decide) (fun c6 => ?_) (fun c6 => ?_)
    · rw [if_pos c6] at h
      cases h
      exact wo_vret hx hb hr hlk hW d_sa_merge_115
    · rw [if_neg c6] at h
      refine lv_aload_n hx hb d_sa_merge_80 rfl (lv_at hl 0 rfl) ?_
      replace h := bs h
      obtain ⟨x7, hx7, h⟩ := h
      refine gf_sa_18 hx hb hts hown hK hG hW (gN_s hx7) d_sa_merge_81 ?_
      refine lv_iload_n hx hb d_sa_merge_84 rfl (lv_at hl 2 rfl) ?_
      refine lv_aload_n hx hb d_sa_merge_85 rfl (lv_at hl 0 rfl) ?_
      replace h := bs h
      obtain ⟨x8, hx8, h⟩ := h
      refine gf_sa_18 hx hb hts hown hK hG hW (gN_s hx8) d_sa_merge_86 ?_
      refine lv_iload_n hx hb d_sa_merge_89 rfl (lv_at hl 2 rfl) ?_
      replace h := bs h
      obtain ⟨x9, hx9, h⟩ := h
      refine wo_zald hx hb hK hW (t := 2) rfl hx9 d_sa_merge_90 ?_
      refine lv_if_ne (tgt := 103) hx hb d_sa_merge_91 (by decide) (fun c10 => ?_) (fun c10 => ?_)
      · rw [if_neg c10] at h
        exact j_sa_merge_103 C ih y0 y1 y3 x7 y3 w h _ _ _ hW (lv_sub hl [0, 1, 2] rfl)
      · rw [if_pos c10] at h
        refine lv_aload_n hx hb d_sa_merge_94 rfl (lv_at hl 1 rfl) ?_
        replace h := bs h
        obtain ⟨x12, hx12, h⟩ := h
        refine gf_sa_18 hx hb hts hown hK hG hW (gN_s hx12) d_sa_merge_95 ?_
        refine lv_iload_n hx hb d_sa_merge_98 rfl (lv_at hl 2 rfl) ?_
        replace h := bs h
        obtain ⟨x13, hx13, h⟩ := h
        refine wo_zald hx hb hK hW (t := 2) rfl hx13 d_sa_merge_99 ?_
        refine lv_if_eq (tgt := 107) hx hb d_sa_merge_100 (by decide) (fun c14 => ?_) (fun c14 => ?_)
        · rw [if_pos c14] at h
          refine lv_iconst (v := (0 : Int32)) hx hb d_sa_merge_107 (by decide) ?_
          exact j_sa_merge_108 C ih y0 y1 y3 x7 y3 (0 : Int32) w h _ _ _ hW (lv_sub hl [0, 1, 2] rfl)
        · rw [if_neg c14] at h
          exact j_sa_merge_103 C ih y0 y1 y3 x7 y3 w h _ _ _ hW (lv_sub hl [0, 1, 2] rfl)
set_option maxHeartbeats 4000000 in
set_option maxRecDepth 100000 in
theorem j_sa_merge_66 {p : Program} {l : Launch} {e : Env} {s : State} {m : MethodId} {args : Array Value} {below : List Frame} {meth : Method} {c : Code} {D : va_G} {cA : Nat → ClassId} {base : Nat} {w' : WW} (C : cx b_sa_merge (none) 4 y_sa_merge.cls "merge" p s m args meth c D cA base) {k_23 : Nat → Nat → Int32 → Int32 → WW → Option WW} (hk_23 : ∀ (y0 : Nat) (y1 : Nat) (y2 : Int32) (y3 : Int32) (w : WW), k_23 y0 y1 y2 y3 w = some w' → ∀ (H : Heap) (locs : List Loc) (ls : Array Slot), wo_S D cls cA base s w H locs → lv_has ls 4 [(0, .ref (base + y0)), (1, .ref (base + y1)), (2, .int y2), (3, .int y3)] → W p l e rm_sa_merge s m args below meth c H locs 0 0 (MQ below (wo_Q D cls cA base none w') args s rm_sa_merge.cells rm_sa_merge.slots (wo_B base)) (F0 m 23 ls [])) : ∀ (y0 : Nat) (y1 : Nat) (y2 : Int32) (y3 : Int32) (w : WW), f_sa_merge_66 k_23 y0 y1 y2 y3 w = some w' → ∀ (H : Heap) (locs : List Loc) (ls : Array Slot), wo_S D cls cA base s w H locs → lv_has ls 4 [(0, .ref (base + y0)), (1, .ref (base + y1)), (2, .int y2), (3, .int y3)] → W p l e rm_sa_merge s m args below meth c H locs 0 0 (MQ below (wo_Q D cls cA base none w') args s rm_sa_merge.cells rm_sa_merge.slots (wo_B base)) (F0 m 66 ls []) := by
  obtain ⟨hx, hb, hr, hml, hown, hts, hlk, hnm, hK, hG⟩ := id C
  intro y0 y1 y2 y3 w h H locs ls hW hl
  unfold f_sa_merge_66 at h
  refine lv_iinc (v := (y3 + (1 : Int32))) (lv' := [(3, .int (y3 + (1 : Int32))), (0, .ref (base + y0)), (1, .ref (base + y1)), (2, .int y2)]) hx hb d_sa_merge_66 hl (k := 3) rfl rfl (by decide) rfl (fun ls hl => ?_)
  refine lv_goto (tgt := 23) hx hb d_sa_merge_69 (by decide) ?_
  exact hk_23 y0 y1 y2 (y3 + (1 : Int32)) w h _ _ _ hW (lv_sub hl [1, 2, 3, 0] rfl)
set_option maxHeartbeats 4000000 in
set_option maxRecDepth 100000 in
theorem j_sa_merge_23 {p : Program} {l : Launch} {e : Env} {s : State} {m : MethodId} {args : Array Value} {below : List Frame} {meth : Method} {c : Code} {D : va_G} {cA : Nat → ClassId} {base : Nat} {w' : WW} (C : cx b_sa_merge (none) 4 y_sa_merge.cls "merge" p s m args meth c D cA base)   : ∀ n : Nat, ∀ (y0 : Nat) (y1 : Nat) (y2 : Int32) (y3 : Int32) (w : WW), f_sa_merge_23 n y0 y1 y2 y3 w = some w' → ∀ (H : Heap) (locs : List Loc) (ls : Array Slot), wo_S D cls cA base s w H locs → lv_has ls 4 [(0, .ref (base + y0)), (1, .ref (base + y1)), (2, .int y2), (3, .int y3)] → W p l e rm_sa_merge s m args below meth c H locs 0 0 (MQ below (wo_Q D cls cA base none w') args s rm_sa_merge.cells rm_sa_merge.slots (wo_B base)) (F0 m 23 ls []) := by
  obtain ⟨hx, hb, hr, hml, hown, hts, hlk, hnm, hK, hG⟩ := id C
  intro n
  induction n with
  | zero => intro y0 y1 y2 y3 w h; cases h
  | succ n ih =>
    intro y0 y1 y2 y3 w h H locs ls hW hl
    rw [f_sa_merge_23] at h
    refine lv_iload_n hx hb d_sa_merge_23 rfl (lv_at hl 3 rfl) ?_
    refine lv_bipush (v := (14 : Int32)) hx hb d_sa_merge_24 (by decide) ?_
    refine lv_icmp_ge (tgt := 72) hx hb d_sa_merge_26 (by decide) (fun c5 => ?_) (fun c5 => ?_)
    · rw [if_pos c5] at h
      refine lv_iconst (v := (0 : Int32)) hx hb d_sa_merge_72 (by decide) ?_
      refine lv_istore_n (lv' := [(3, .int (0 : Int32)), (0, .ref (base + y0)), (1, .ref (base + y1)), (2, .int y2)]) hx hb d_sa_merge_73 rfl hl (by decide) rfl (fun ls hl => ?_)
      exact j_sa_merge_74 C KK y0 y1 (0 : Int32) w h _ _ _ hW (lv_sub hl [1, 2, 0] rfl)
    · rw [if_neg c5] at h
      refine lv_iload_n hx hb d_sa_merge_29 rfl (lv_at hl 2 rfl) ?_
      refine lv_if_eq (tgt := 51) hx hb d_sa_merge_30 (by decide) (fun c15 => ?_) (fun c15 => ?_)
      · rw [if_pos c15] at h
        refine lv_aload_n hx hb d_sa_merge_51 rfl (lv_at hl 0 rfl) ?_
        replace h := bs h
        obtain ⟨x16, hx16, h⟩ := h
        refine gf_sa_11 hx hb hts hown hK hG hW (gN_s hx16) d_sa_merge_52 ?_
        refine lv_iload_n hx hb d_sa_merge_55 rfl (lv_at hl 3 rfl) ?_
        replace h := bs h
        obtain ⟨x17, hx17, h⟩ := h
        refine wo_aald hx hb hK hW (t := 4) rfl (rN_s hx17) d_sa_merge_56 ?_
        refine lv_aload_n hx hb d_sa_merge_57 rfl (lv_at hl 1 rfl) ?_
        replace h := bs h
        obtain ⟨x18, hx18, h⟩ := h
        refine gf_sa_11 hx hb hts hown hK hG hW (gN_s hx18) d_sa_merge_58 ?_
        refine lv_iload_n hx hb d_sa_merge_61 rfl (lv_at hl 3 rfl) ?_
        replace h := bs h
        obtain ⟨x19, hx19, h⟩ := h
        refine wo_aald hx hb hK hW (t := 4) rfl (rN_s hx19) d_sa_merge_62 ?_
        replace h := bs h
        obtain ⟨w20, hw20, h⟩ := h
        refine cv_sa_51 (As := [.ref (base + x19)]) (rest := []) hx hb hml hown hts hK hG hW (c_va_join l D cA base hw20) (kb_va_join hw20) ⟨Nat.le_of_ble_eq_true rfl, Nat.le_of_ble_eq_true rfl⟩ ⟨Nat.le_of_ble_eq_true rfl, Nat.le_of_ble_eq_true rfl⟩ rfl hl.1 rfl (Nat.le_of_ble_eq_true rfl) d_sa_merge_63 (fun H locs hW => ?_)
        exact j_sa_merge_66 C ih y0 y1 y2 y3 w20 h _ _ _ hW (lv_sub hl [0, 1, 2, 3] rfl)
      · rw [if_neg c15] at h
        refine lv_aload_n hx hb d_sa_merge_33 rfl (lv_at hl 0 rfl) ?_
        replace h := bs h
        obtain ⟨x21, hx21, h⟩ := h
        refine gf_sa_11 hx hb hts hown hK hG hW (gN_s hx21) d_sa_merge_34 ?_
        refine lv_iload_n hx hb d_sa_merge_37 rfl (lv_at hl 3 rfl) ?_
        replace h := bs h
        obtain ⟨x22, hx22, h⟩ := h
        refine wo_aald hx hb hK hW (t := 4) rfl (rN_s hx22) d_sa_merge_38 ?_
        refine lv_aload_n hx hb d_sa_merge_39 rfl (lv_at hl 1 rfl) ?_
        replace h := bs h
        obtain ⟨x23, hx23, h⟩ := h
        refine gf_sa_11 hx hb hts hown hK hG hW (gN_s hx23) d_sa_merge_40 ?_
        refine lv_iload_n hx hb d_sa_merge_43 rfl (lv_at hl 3 rfl) ?_
        replace h := bs h
        obtain ⟨x24, hx24, h⟩ := h
        refine wo_aald hx hb hK hW (t := 4) rfl (rN_s hx24) d_sa_merge_44 ?_
        replace h := bs h
        obtain ⟨w25, hw25, h⟩ := h
        refine cv_sa_48 (As := [.ref (base + x24)]) (rest := []) hx hb hml hown hts hK hG hW (c_va_widen l D cA base hw25) (kb_va_widen hw25) ⟨Nat.le_of_ble_eq_true rfl, Nat.le_of_ble_eq_true rfl⟩ ⟨Nat.le_of_ble_eq_true rfl, Nat.le_of_ble_eq_true rfl⟩ rfl hl.1 rfl (Nat.le_of_ble_eq_true rfl) d_sa_merge_45 (fun H locs hW => ?_)
        refine lv_goto (tgt := 66) hx hb d_sa_merge_48 (by decide) ?_
        exact j_sa_merge_66 C ih y0 y1 y2 y3 w25 h _ _ _ hW (lv_sub hl [0, 1, 2, 3] rfl)
set_option maxHeartbeats 4000000 in
set_option maxRecDepth 100000 in
theorem c_sa_merge (l : Launch) (D : va_G) (cA : Nat → ClassId) (base : Nat) {a0 : Nat} {a1 : Nat} {a2 : Int32} {w w' : WW} (h : f_sa_merge a0 a1 a2 w = some w') : mt l D cls (wo_tys cA) cA base y_sa_merge (Cond.code y_sa_merge b_sa_merge 4 (none) :: gt) rm_sa_merge [.ref (base + a0), .ref (base + a1), .int a2] w none w' rm_sa_merge.cells rm_sa_merge.slots := by
  refine mt_start (by decide) (Nat.le_of_ble_eq_true rfl) ?_
  intro p e s m below meth c ls hx hb hr hml hown hts hlk hnm hK hG hW hl
  have C : cx b_sa_merge (none) 4 y_sa_merge.cls "merge" p s m [.ref (base + a0), .ref (base + a1), .int a2].toArray meth c D cA base := ⟨hx, hb, hr, hml, hown, hts, hlk, hnm, hK, hG⟩
  have hl : lv_has ls 4 [(0, .ref (base + a0)), (1, .ref (base + a1)), (2, .int a2)] := hl
  unfold f_sa_merge at h
  replace h := its h
  obtain ⟨-, h⟩ := h
  refine lv_aload_n hx hb d_sa_merge_0 rfl (lv_at hl 1 rfl) ?_
  replace h := bs h
  obtain ⟨x1, hx1, h⟩ := h
  refine gf_sa_22 hx hb hts hown hK hG hW (gI_s hx1) d_sa_merge_1 ?_
  refine lv_if_eq (tgt := 8) hx hb d_sa_merge_4 (by decide) (fun c2 => ?_) (fun c2 => ?_)
  · rw [if_pos c2] at h
    refine lv_aload_n hx hb d_sa_merge_8 rfl (lv_at hl 0 rfl) ?_
    replace h := bs h
    obtain ⟨x3, hx3, h⟩ := h
    refine gf_sa_22 hx hb hts hown hK hG hW (gI_s hx3) d_sa_merge_9 ?_
    refine lv_if_eq (tgt := 21) hx hb d_sa_merge_12 (by decide) (fun c4 => ?_) (fun c4 => ?_)
    · rw [if_pos c4] at h
      refine lv_iconst (v := (0 : Int32)) hx hb d_sa_merge_21 (by decide) ?_
      refine lv_istore_n (lv' := [(3, .int (0 : Int32)), (0, .ref (base + a0)), (1, .ref (base + a1)), (2, .int a2)]) hx hb d_sa_merge_22 rfl hl (by decide) rfl (fun ls hl => ?_)
      exact j_sa_merge_23 C KK a0 a1 a2 (0 : Int32) w h _ _ _ hW (lv_sub hl [1, 2, 3, 0] rfl)
    · rw [if_neg c4] at h
      refine lv_aload_n hx hb d_sa_merge_15 rfl (lv_at hl 0 rfl) ?_
      refine lv_aload_n hx hb d_sa_merge_16 rfl (lv_at hl 1 rfl) ?_
      replace h := bs h
      obtain ⟨w26, hw26, h⟩ := h
      refine cv_sa_45 (As := [.ref (base + a1)]) (rest := []) hx hb hml hown hts hK hG hW (c_sa_copy l D cA base hw26) (kb_sa_copy hw26) ⟨Nat.le_of_ble_eq_true rfl, Nat.le_of_ble_eq_true rfl⟩ ⟨Nat.le_of_ble_eq_true rfl, Nat.le_of_ble_eq_true rfl⟩ rfl hl.1 rfl (Nat.le_of_ble_eq_true rfl) d_sa_merge_17 (fun H locs hW => ?_)
      cases h
      exact wo_vret hx hb hr hlk hW d_sa_merge_20
  · rw [if_neg c2] at h
    cases h
    exact wo_vret hx hb hr hlk hW d_sa_merge_7
theorem cv_sa_41 {p : Program} {l : Launch} {e : Env} {R : Room} {s : State} {m : MethodId} {args : Array Value} {below : List Frame} {meth : Method} {c : Code} {H : Heap} {locs : List Loc} {cells slots : Nat} {Q : State → Prop} {D : va_G} {cA : Nat → ClassId} {base : Nat} {w w' : WW} {cc : ByteArray} {pc nL : Nat} {ls : Array Slot} {rest st0 As : List Value} {ov : Option Value} {b : Nat} (hx : p.tables.exec = Jvm.exec) (hb : c.code = cc) (hml : c.maxLocals = nL) (hown : s.vm.findClass Rc_sa = some m.cls) (hts : ∀ w ∈ gt, w.before args s = true) (hK : va_K D cls (wo_tys cA) s) (hG : wo_G cA base s) (hW : wo_S D cls cA base s w H locs) (hM : mt l D cls (wo_tys cA) cA base y_sa_merge (Cond.code y_sa_merge b_sa_merge 4 (none) :: gt) rm_sa_merge (.ref (base + b) :: As) w ov w' rm_sa_merge.cells rm_sa_merge.slots) (hkb : kb w b 7 = true) (hR : rm_sa_merge.frames + 1 ≤ R.frames ∧ 8 + (4 + 11) + rm_sa_merge.locals ≤ R.locals) (hf : cells + rm_sa_merge.cells ≤ R.cells ∧ slots + rm_sa_merge.slots ≤ R.slots) (hn : As.length = 2) (hsz : ls.size = nL) (hst : st0 = As.reverse ++ .ref (base + b) :: rest) (hcat : (rest.map fun v => v.category).sum ≤ 8) (hdg : decode cc pc = .ok (.invokevirtual 41, 3)) (kk : ∀ (H1 : Heap) (locs1 : List Loc), wo_S D cls cA base s w' H1 locs1 → W p l e R s m args below meth c H1 locs1 (cells + rm_sa_merge.cells) (slots + rm_sa_merge.slots) Q (F0 m (pc + 3) ls (ov.toList ++ rest))) : W p l e R s m args below meth c H locs cells slots Q (F0 m pc ls st0) :=
  wo_callV (C := Rc_sa) hx hb hml hown hts hK hG hW hM hkb rfl (gt_of (i := 1068) (by decide +kernel) (by decide +kernel)) (gt_of (i := 1070) (by decide +kernel) (by decide +kernel)) (gt_sel (i := 53) (by decide +kernel) (by decide +kernel)) (gt_of (i := 8) (by decide +kernel) (by decide +kernel)) (gt_of (i := 1071) (by decide +kernel) (by decide +kernel)) (by decide +kernel) hR hf hn hsz hst hcat hdg kk
abbrev b_sa_join : ByteArray := prog_7_method_5_code
def y_sa_join : MethodName := ⟨"AlarmForge$State", "join", "(LAlarmForge$State;)V"⟩
def rm_sa_join : Room := { frames := 5, cells := 0, slots := 0, locals := 121 }
theorem d_sa_join_0 : decode b_sa_join 0 = .ok (.aload_n 0, 1) := by decide +kernel
theorem d_sa_join_1 : decode b_sa_join 1 = .ok (.aload_n 1, 1) := by decide +kernel
theorem d_sa_join_2 : decode b_sa_join 2 = .ok (.iconst 0, 1) := by decide +kernel
theorem d_sa_join_3 : decode b_sa_join 3 = .ok (.invokevirtual 41, 3) := by decide +kernel
theorem d_sa_join_6 : decode b_sa_join 6 = .ok (.return_, 1) := by decide +kernel
theorem kb_sa_join {a0 a1 : Nat}  {w : WW} {r : WW} (h : f_sa_join a0 a1 w = some r) : kb w a0 7 = true := (its h).1
set_option maxHeartbeats 4000000 in
set_option maxRecDepth 100000 in
theorem c_sa_join (l : Launch) (D : va_G) (cA : Nat → ClassId) (base : Nat) {a0 : Nat} {a1 : Nat} {w w' : WW} (h : f_sa_join a0 a1 w = some w') : mt l D cls (wo_tys cA) cA base y_sa_join (Cond.code y_sa_join b_sa_join 2 (none) :: gt) rm_sa_join [.ref (base + a0), .ref (base + a1)] w none w' rm_sa_join.cells rm_sa_join.slots := by
  refine mt_start (by decide) (Nat.le_of_ble_eq_true rfl) ?_
  intro p e s m below meth c ls hx hb hr hml hown hts hlk hnm hK hG hW hl
  have C : cx b_sa_join (none) 2 y_sa_join.cls "join" p s m [.ref (base + a0), .ref (base + a1)].toArray meth c D cA base := ⟨hx, hb, hr, hml, hown, hts, hlk, hnm, hK, hG⟩
  have hl : lv_has ls 2 [(0, .ref (base + a0)), (1, .ref (base + a1))] := hl
  unfold f_sa_join at h
  replace h := its h
  obtain ⟨-, h⟩ := h
  refine lv_aload_n hx hb d_sa_join_0 rfl (lv_at hl 0 rfl) ?_
  refine lv_aload_n hx hb d_sa_join_1 rfl (lv_at hl 1 rfl) ?_
  refine lv_iconst (v := (0 : Int32)) hx hb d_sa_join_2 (by decide) ?_
  replace h := bs h
  obtain ⟨w1, hw1, h⟩ := h
  refine cv_sa_41 (As := [.ref (base + a1), .int (0 : Int32)]) (rest := []) hx hb hml hown hts hK hG hW (c_sa_merge l D cA base hw1) (kb_sa_merge hw1) ⟨Nat.le_of_ble_eq_true rfl, Nat.le_of_ble_eq_true rfl⟩ ⟨Nat.le_of_ble_eq_true rfl, Nat.le_of_ble_eq_true rfl⟩ rfl hl.1 rfl (Nat.le_of_ble_eq_true rfl) d_sa_join_3 (fun H locs hW => ?_)
  cases h
  exact wo_vret hx hb hr hlk hW d_sa_join_6
abbrev b_va_sameAs : ByteArray := prog_9_method_6_code
def y_va_sameAs : MethodName := ⟨"AlarmForge$Value", "sameAs", "(LAlarmForge$Value;)Z"⟩
def rm_va_sameAs : Room := { frames := 0, cells := 0, slots := 0, locals := 0 }
theorem d_va_sameAs_0 : decode b_va_sameAs 0 = .ok (.aload_n 0, 1) := by decide +kernel
theorem d_va_sameAs_1 : decode b_va_sameAs 1 = .ok (.getfield 9, 3) := by decide +kernel
theorem d_va_sameAs_4 : decode b_va_sameAs 4 = .ok (.ifCond .ne (10), 3) := by decide +kernel
theorem d_va_sameAs_7 : decode b_va_sameAs 7 = .ok (.aload_n 1, 1) := by decide +kernel
theorem d_va_sameAs_8 : decode b_va_sameAs 8 = .ok (.getfield 9, 3) := by decide +kernel
theorem d_va_sameAs_11 : decode b_va_sameAs 11 = .ok (.ifCond .eq (20), 3) := by decide +kernel
theorem d_va_sameAs_14 : decode b_va_sameAs 14 = .ok (.aload_n 0, 1) := by decide +kernel
theorem d_va_sameAs_15 : decode b_va_sameAs 15 = .ok (.getfield 9, 3) := by decide +kernel
theorem d_va_sameAs_18 : decode b_va_sameAs 18 = .ok (.aload_n 1, 1) := by decide +kernel
theorem d_va_sameAs_19 : decode b_va_sameAs 19 = .ok (.getfield 9, 3) := by decide +kernel
theorem d_va_sameAs_22 : decode b_va_sameAs 22 = .ok (.if_icmp .ne (7), 3) := by decide +kernel
theorem d_va_sameAs_25 : decode b_va_sameAs 25 = .ok (.iconst 1, 1) := by decide +kernel
theorem d_va_sameAs_26 : decode b_va_sameAs 26 = .ok (.goto (4), 3) := by decide +kernel
theorem d_va_sameAs_29 : decode b_va_sameAs 29 = .ok (.iconst 0, 1) := by decide +kernel
theorem d_va_sameAs_30 : decode b_va_sameAs 30 = .ok (.ireturn, 1) := by decide +kernel
theorem d_va_sameAs_31 : decode b_va_sameAs 31 = .ok (.aload_n 0, 1) := by decide +kernel
theorem d_va_sameAs_32 : decode b_va_sameAs 32 = .ok (.getfield 15, 3) := by decide +kernel
theorem d_va_sameAs_35 : decode b_va_sameAs 35 = .ok (.aload_n 1, 1) := by decide +kernel
theorem d_va_sameAs_36 : decode b_va_sameAs 36 = .ok (.getfield 15, 3) := by decide +kernel
theorem d_va_sameAs_39 : decode b_va_sameAs 39 = .ok (.lcmp, 1) := by decide +kernel
theorem d_va_sameAs_40 : decode b_va_sameAs 40 = .ok (.ifCond .ne (43), 3) := by decide +kernel
theorem d_va_sameAs_43 : decode b_va_sameAs 43 = .ok (.aload_n 0, 1) := by decide +kernel
theorem d_va_sameAs_44 : decode b_va_sameAs 44 = .ok (.getfield 19, 3) := by decide +kernel
theorem d_va_sameAs_47 : decode b_va_sameAs 47 = .ok (.aload_n 1, 1) := by decide +kernel
theorem d_va_sameAs_48 : decode b_va_sameAs 48 = .ok (.getfield 19, 3) := by decide +kernel
theorem d_va_sameAs_51 : decode b_va_sameAs 51 = .ok (.lcmp, 1) := by decide +kernel
theorem d_va_sameAs_52 : decode b_va_sameAs 52 = .ok (.ifCond .ne (31), 3) := by decide +kernel
theorem d_va_sameAs_55 : decode b_va_sameAs 55 = .ok (.aload_n 0, 1) := by decide +kernel
theorem d_va_sameAs_56 : decode b_va_sameAs 56 = .ok (.getfield 22, 3) := by decide +kernel
theorem d_va_sameAs_59 : decode b_va_sameAs 59 = .ok (.aload_n 1, 1) := by decide +kernel
theorem d_va_sameAs_60 : decode b_va_sameAs 60 = .ok (.getfield 22, 3) := by decide +kernel
theorem d_va_sameAs_63 : decode b_va_sameAs 63 = .ok (.lcmp, 1) := by decide +kernel
theorem d_va_sameAs_64 : decode b_va_sameAs 64 = .ok (.ifCond .ne (19), 3) := by decide +kernel
theorem d_va_sameAs_67 : decode b_va_sameAs 67 = .ok (.aload_n 0, 1) := by decide +kernel
theorem d_va_sameAs_68 : decode b_va_sameAs 68 = .ok (.getfield 25, 3) := by decide +kernel
theorem d_va_sameAs_71 : decode b_va_sameAs 71 = .ok (.aload_n 1, 1) := by decide +kernel
theorem d_va_sameAs_72 : decode b_va_sameAs 72 = .ok (.getfield 25, 3) := by decide +kernel
theorem d_va_sameAs_75 : decode b_va_sameAs 75 = .ok (.lcmp, 1) := by decide +kernel
theorem d_va_sameAs_76 : decode b_va_sameAs 76 = .ok (.ifCond .ne (7), 3) := by decide +kernel
theorem d_va_sameAs_79 : decode b_va_sameAs 79 = .ok (.iconst 1, 1) := by decide +kernel
theorem d_va_sameAs_80 : decode b_va_sameAs 80 = .ok (.goto (4), 3) := by decide +kernel
theorem d_va_sameAs_83 : decode b_va_sameAs 83 = .ok (.iconst 0, 1) := by decide +kernel
theorem d_va_sameAs_84 : decode b_va_sameAs 84 = .ok (.ireturn, 1) := by decide +kernel
theorem kb_va_sameAs {a0 a1 : Nat}  {w : WW} {r : (Int32 × WW)} (h : f_va_sameAs a0 a1 w = some r) : kb w a0 8 = true := (its h).1
set_option maxHeartbeats 4000000 in
set_option maxRecDepth 100000 in
theorem j_va_sameAs_30 {p : Program} {l : Launch} {e : Env} {s : State} {m : MethodId} {args : Array Value} {below : List Frame} {meth : Method} {c : Code} {D : va_G} {cA : Nat → ClassId} {base : Nat} {r : Int32} {w' : WW} (C : cx b_va_sameAs (some .boolean) 2 y_va_sameAs.cls "sameAs" p s m args meth c D cA base)   : ∀ (z0 : Int32) (w : WW), f_va_sameAs_30 z0 w = some (r, w') → ∀ (H : Heap) (locs : List Loc) (ls : Array Slot), wo_S D cls cA base s w H locs → lv_has ls 2 [] → W p l e rm_va_sameAs s m args below meth c H locs 0 0 (MQ below (wo_Q D cls cA base (some (.int r)) w') args s rm_va_sameAs.cells rm_va_sameAs.slots (wo_B base)) (F0 m 30 ls [.int z0]) := by
  obtain ⟨hx, hb, hr, hml, hown, hts, hlk, hnm, hK, hG⟩ := id C
  intro z0 w h H locs ls hW hl
  unfold f_va_sameAs_30 at h
  replace h := its h
  obtain ⟨c6, h⟩ := h
  cases h
  exact wo_zret hx hb hr hlk hW c6 d_va_sameAs_30
set_option maxHeartbeats 4000000 in
set_option maxRecDepth 100000 in
theorem j_va_sameAs_14 {p : Program} {l : Launch} {e : Env} {s : State} {m : MethodId} {args : Array Value} {below : List Frame} {meth : Method} {c : Code} {D : va_G} {cA : Nat → ClassId} {base : Nat} {r : Int32} {w' : WW} (C : cx b_va_sameAs (some .boolean) 2 y_va_sameAs.cls "sameAs" p s m args meth c D cA base)   : ∀ (y0 : Nat) (y1 : Nat) (w : WW), f_va_sameAs_14 y0 y1 w = some (r, w') → ∀ (H : Heap) (locs : List Loc) (ls : Array Slot), wo_S D cls cA base s w H locs → lv_has ls 2 [(0, .ref (base + y0)), (1, .ref (base + y1))] → W p l e rm_va_sameAs s m args below meth c H locs 0 0 (MQ below (wo_Q D cls cA base (some (.int r)) w') args s rm_va_sameAs.cells rm_va_sameAs.slots (wo_B base)) (F0 m 14 ls []) := by
  obtain ⟨hx, hb, hr, hml, hown, hts, hlk, hnm, hK, hG⟩ := id C
  intro y0 y1 w h H locs ls hW hl
  unfold f_va_sameAs_14 at h
  refine lv_aload_n hx hb d_va_sameAs_14 rfl (lv_at hl 0 rfl) ?_
  replace h := bs h
  obtain ⟨x3, hx3, h⟩ := h
  refine gf_va_9 hx hb hts hown hK hG hW (gI_s hx3) d_va_sameAs_15 ?_
  refine lv_aload_n hx hb d_va_sameAs_18 rfl (lv_at hl 1 rfl) ?_
  replace h := bs h
  obtain ⟨x4, hx4, h⟩ := h
  refine gf_va_9 hx hb hts hown hK hG hW (gI_s hx4) d_va_sameAs_19 ?_
  refine lv_icmp_ne (tgt := 29) hx hb d_va_sameAs_22 (by decide) (fun c5 => ?_) (fun c5 => ?_)
  · rw [if_neg c5] at h
    refine lv_iconst (v := (0 : Int32)) hx hb d_va_sameAs_29 (by decide) ?_
    exact j_va_sameAs_30 C (0 : Int32) w h _ _ _ hW (lv_sub hl [] rfl)
  · rw [if_pos c5] at h
    refine lv_iconst (v := (1 : Int32)) hx hb d_va_sameAs_25 (by decide) ?_
    refine lv_goto (tgt := 30) hx hb d_va_sameAs_26 (by decide) ?_
    exact j_va_sameAs_30 C (1 : Int32) w h _ _ _ hW (lv_sub hl [] rfl)
set_option maxHeartbeats 4000000 in
set_option maxRecDepth 100000 in
theorem j_va_sameAs_84 {p : Program} {l : Launch} {e : Env} {s : State} {m : MethodId} {args : Array Value} {below : List Frame} {meth : Method} {c : Code} {D : va_G} {cA : Nat → ClassId} {base : Nat} {r : Int32} {w' : WW} (C : cx b_va_sameAs (some .boolean) 2 y_va_sameAs.cls "sameAs" p s m args meth c D cA base)   : ∀ (z0 : Int32) (w : WW), f_va_sameAs_84 z0 w = some (r, w') → ∀ (H : Heap) (locs : List Loc) (ls : Array Slot), wo_S D cls cA base s w H locs → lv_has ls 2 [] → W p l e rm_va_sameAs s m args below meth c H locs 0 0 (MQ below (wo_Q D cls cA base (some (.int r)) w') args s rm_va_sameAs.cells rm_va_sameAs.slots (wo_B base)) (F0 m 84 ls [.int z0]) := by
  obtain ⟨hx, hb, hr, hml, hown, hts, hlk, hnm, hK, hG⟩ := id C
  intro z0 w h H locs ls hW hl
  unfold f_va_sameAs_84 at h
  replace h := its h
  obtain ⟨c12, h⟩ := h
  cases h
  exact wo_zret hx hb hr hlk hW c12 d_va_sameAs_84
set_option maxHeartbeats 4000000 in
set_option maxRecDepth 100000 in
theorem j_va_sameAs_83 {p : Program} {l : Launch} {e : Env} {s : State} {m : MethodId} {args : Array Value} {below : List Frame} {meth : Method} {c : Code} {D : va_G} {cA : Nat → ClassId} {base : Nat} {r : Int32} {w' : WW} (C : cx b_va_sameAs (some .boolean) 2 y_va_sameAs.cls "sameAs" p s m args meth c D cA base)   : ∀  (w : WW), f_va_sameAs_83  w = some (r, w') → ∀ (H : Heap) (locs : List Loc) (ls : Array Slot), wo_S D cls cA base s w H locs → lv_has ls 2 [] → W p l e rm_va_sameAs s m args below meth c H locs 0 0 (MQ below (wo_Q D cls cA base (some (.int r)) w') args s rm_va_sameAs.cells rm_va_sameAs.slots (wo_B base)) (F0 m 83 ls []) := by
  obtain ⟨hx, hb, hr, hml, hown, hts, hlk, hnm, hK, hG⟩ := id C
  intro  w h H locs ls hW hl
  unfold f_va_sameAs_83 at h
  refine lv_iconst (v := (0 : Int32)) hx hb d_va_sameAs_83 (by decide) ?_
  exact j_va_sameAs_84 C (0 : Int32) w h _ _ _ hW (lv_sub hl [] rfl)
set_option maxHeartbeats 4000000 in
set_option maxRecDepth 100000 in
theorem c_va_sameAs (l : Launch) (D : va_G) (cA : Nat → ClassId) (base : Nat) {a0 : Nat} {a1 : Nat} {w w' : WW} {r : Int32} (h : f_va_sameAs a0 a1 w = some (r, w')) : mt l D cls (wo_tys cA) cA base y_va_sameAs (Cond.code y_va_sameAs b_va_sameAs 2 (some .boolean) :: gt) rm_va_sameAs [.ref (base + a0), .ref (base + a1)] w (some (.int r)) w' rm_va_sameAs.cells rm_va_sameAs.slots := by
  refine mt_start (by decide) (Nat.le_of_ble_eq_true rfl) ?_
  intro p e s m below meth c ls hx hb hr hml hown hts hlk hnm hK hG hW hl
  have C : cx b_va_sameAs (some .boolean) 2 y_va_sameAs.cls "sameAs" p s m [.ref (base + a0), .ref (base + a1)].toArray meth c D cA base := ⟨hx, hb, hr, hml, hown, hts, hlk, hnm, hK, hG⟩
  have hl : lv_has ls 2 [(0, .ref (base + a0)), (1, .ref (base + a1))] := hl
  unfold f_va_sameAs at h
  replace h := its h
  obtain ⟨-, h⟩ := h
  refine lv_aload_n hx hb d_va_sameAs_0 rfl (lv_at hl 0 rfl) ?_
  replace h := bs h
  obtain ⟨x1, hx1, h⟩ := h
  refine gf_va_9 hx hb hts hown hK hG hW (gI_s hx1) d_va_sameAs_1 ?_
  refine lv_if_ne (tgt := 14) hx hb d_va_sameAs_4 (by decide) (fun c2 => ?_) (fun c2 => ?_)
  · rw [if_neg c2] at h
    exact j_va_sameAs_14 C a0 a1 w h _ _ _ hW (lv_sub hl [0, 1] rfl)
  · rw [if_pos c2] at h
    refine lv_aload_n hx hb d_va_sameAs_7 rfl (lv_at hl 1 rfl) ?_
    replace h := bs h
    obtain ⟨x7, hx7, h⟩ := h
    refine gf_va_9 hx hb hts hown hK hG hW (gI_s hx7) d_va_sameAs_8 ?_
    refine lv_if_eq (tgt := 31) hx hb d_va_sameAs_11 (by decide) (fun c8 => ?_) (fun c8 => ?_)
    · rw [if_pos c8] at h
      refine lv_aload_n hx hb d_va_sameAs_31 rfl (lv_at hl 0 rfl) ?_
      replace h := bs h
      obtain ⟨x9, hx9, h⟩ := h
      refine gf_va_15 hx hb hts hown hK hG hW (gL_s hx9) d_va_sameAs_32 ?_
      refine lv_aload_n hx hb d_va_sameAs_35 rfl (lv_at hl 1 rfl) ?_
      replace h := bs h
      obtain ⟨x10, hx10, h⟩ := h
      refine gf_va_15 hx hb hts hown hK hG hW (gL_s hx10) d_va_sameAs_36 ?_
      refine lc_ne (tgt := 83) hx hb d_va_sameAs_39 d_va_sameAs_40 (by decide) (fun c11 => ?_) (fun c11 => ?_)
      · rw [if_neg c11] at h
        exact j_va_sameAs_83 C w h _ _ _ hW (lv_sub hl [] rfl)
      · rw [if_pos c11] at h
        refine lv_aload_n hx hb d_va_sameAs_43 rfl (lv_at hl 0 rfl) ?_
        replace h := bs h
        obtain ⟨x13, hx13, h⟩ := h
        refine gf_va_19 hx hb hts hown hK hG hW (gL_s hx13) d_va_sameAs_44 ?_
        refine lv_aload_n hx hb d_va_sameAs_47 rfl (lv_at hl 1 rfl) ?_
        replace h := bs h
        obtain ⟨x14, hx14, h⟩ := h
        refine gf_va_19 hx hb hts hown hK hG hW (gL_s hx14) d_va_sameAs_48 ?_
        refine lc_ne (tgt := 83) hx hb d_va_sameAs_51 d_va_sameAs_52 (by decide) (fun c15 => ?_) (fun c15 => ?_)
        · rw [if_neg c15] at h
          exact j_va_sameAs_83 C w h _ _ _ hW (lv_sub hl [] rfl)
        · rw [if_pos c15] at h
          refine lv_aload_n hx hb d_va_sameAs_55 rfl (lv_at hl 0 rfl) ?_
          replace h := bs h
          obtain ⟨x16, hx16, h⟩ := h
          refine gf_va_22 hx hb hts hown hK hG hW (gL_s hx16) d_va_sameAs_56 ?_
          refine lv_aload_n hx hb d_va_sameAs_59 rfl (lv_at hl 1 rfl) ?_
          replace h := bs h
          obtain ⟨x17, hx17, h⟩ := h
          refine gf_va_22 hx hb hts hown hK hG hW (gL_s hx17) d_va_sameAs_60 ?_
          refine lc_ne (tgt := 83) hx hb d_va_sameAs_63 d_va_sameAs_64 (by decide) (fun c18 => ?_) (fun c18 => ?_)
          · rw [if_neg c18] at h
            exact j_va_sameAs_83 C w h _ _ _ hW (lv_sub hl [] rfl)
          · rw [if_pos c18] at h
            refine lv_aload_n hx hb d_va_sameAs_67 rfl (lv_at hl 0 rfl) ?_
            replace h := bs h
            obtain ⟨x19, hx19, h⟩ := h
            refine gf_va_25 hx hb hts hown hK hG hW (gL_s hx19) d_va_sameAs_68 ?_
            refine lv_aload_n hx hb d_va_sameAs_71 rfl (lv_at hl 1 rfl) ?_
            replace h := bs h
            obtain ⟨x20, hx20, h⟩ := h
            refine gf_va_25 hx hb hts hown hK hG hW (gL_s hx20) d_va_sameAs_72 ?_
            refine lc_ne (tgt := 83) hx hb d_va_sameAs_75 d_va_sameAs_76 (by decide) (fun c21 => ?_) (fun c21 => ?_)
            · rw [if_neg c21] at h
              exact j_va_sameAs_83 C w h _ _ _ hW (lv_sub hl [] rfl)
            · rw [if_pos c21] at h
              refine lv_iconst (v := (1 : Int32)) hx hb d_va_sameAs_79 (by decide) ?_
              refine lv_goto (tgt := 84) hx hb d_va_sameAs_80 (by decide) ?_
              exact j_va_sameAs_84 C (1 : Int32) w h _ _ _ hW (lv_sub hl [] rfl)
    · rw [if_neg c8] at h
      exact j_va_sameAs_14 C a0 a1 w h _ _ _ hW (lv_sub hl [0, 1] rfl)
theorem cv_sa_37 {p : Program} {l : Launch} {e : Env} {R : Room} {s : State} {m : MethodId} {args : Array Value} {below : List Frame} {meth : Method} {c : Code} {H : Heap} {locs : List Loc} {cells slots : Nat} {Q : State → Prop} {D : va_G} {cA : Nat → ClassId} {base : Nat} {w w' : WW} {cc : ByteArray} {pc nL : Nat} {ls : Array Slot} {rest st0 As : List Value} {ov : Option Value} {b : Nat} (hx : p.tables.exec = Jvm.exec) (hb : c.code = cc) (hml : c.maxLocals = nL) (hown : s.vm.findClass Rc_sa = some m.cls) (hts : ∀ w ∈ gt, w.before args s = true) (hK : va_K D cls (wo_tys cA) s) (hG : wo_G cA base s) (hW : wo_S D cls cA base s w H locs) (hM : mt l D cls (wo_tys cA) cA base y_va_sameAs (Cond.code y_va_sameAs b_va_sameAs 2 (some .boolean) :: gt) rm_va_sameAs (.ref (base + b) :: As) w ov w' rm_va_sameAs.cells rm_va_sameAs.slots) (hkb : kb w b 8 = true) (hR : rm_va_sameAs.frames + 1 ≤ R.frames ∧ 8 + (2 + 11) + rm_va_sameAs.locals ≤ R.locals) (hf : cells + rm_va_sameAs.cells ≤ R.cells ∧ slots + rm_va_sameAs.slots ≤ R.slots) (hn : As.length = 1) (hsz : ls.size = nL) (hst : st0 = As.reverse ++ .ref (base + b) :: rest) (hcat : (rest.map fun v => v.category).sum ≤ 8) (hdg : decode cc pc = .ok (.invokevirtual 37, 3)) (kk : ∀ (H1 : Heap) (locs1 : List Loc), wo_S D cls cA base s w' H1 locs1 → W p l e R s m args below meth c H1 locs1 (cells + rm_va_sameAs.cells) (slots + rm_va_sameAs.slots) Q (F0 m (pc + 3) ls (ov.toList ++ rest))) : W p l e R s m args below meth c H locs cells slots Q (F0 m pc ls st0) :=
  wo_callV (C := Rc_va) hx hb hml hown hts hK hG hW hM hkb rfl (gt_of (i := 1103) (by decide +kernel) (by decide +kernel)) (gt_of (i := 1104) (by decide +kernel) (by decide +kernel)) (gt_of (i := 1105) (by decide +kernel) (by decide +kernel)) (gt_of (i := 9) (by decide +kernel) (by decide +kernel)) (gt_of (i := 1106) (by decide +kernel) (by decide +kernel)) (by decide +kernel) hR hf hn hsz hst hcat hdg kk
abbrev b_sa_sameAs : ByteArray := prog_7_method_4_code
def y_sa_sameAs : MethodName := ⟨"AlarmForge$State", "sameAs", "(LAlarmForge$State;)Z"⟩
def rm_sa_sameAs : Room := { frames := 1, cells := 0, slots := 0, locals := 21 }
theorem d_sa_sameAs_0 : decode b_sa_sameAs 0 = .ok (.aload_n 0, 1) := by decide +kernel
theorem d_sa_sameAs_1 : decode b_sa_sameAs 1 = .ok (.getfield 22, 3) := by decide +kernel
theorem d_sa_sameAs_4 : decode b_sa_sameAs 4 = .ok (.ifCond .ne (10), 3) := by decide +kernel
theorem d_sa_sameAs_7 : decode b_sa_sameAs 7 = .ok (.aload_n 1, 1) := by decide +kernel
theorem d_sa_sameAs_8 : decode b_sa_sameAs 8 = .ok (.getfield 22, 3) := by decide +kernel
theorem d_sa_sameAs_11 : decode b_sa_sameAs 11 = .ok (.ifCond .eq (20), 3) := by decide +kernel
theorem d_sa_sameAs_14 : decode b_sa_sameAs 14 = .ok (.aload_n 0, 1) := by decide +kernel
theorem d_sa_sameAs_15 : decode b_sa_sameAs 15 = .ok (.getfield 22, 3) := by decide +kernel
theorem d_sa_sameAs_18 : decode b_sa_sameAs 18 = .ok (.aload_n 1, 1) := by decide +kernel
theorem d_sa_sameAs_19 : decode b_sa_sameAs 19 = .ok (.getfield 22, 3) := by decide +kernel
theorem d_sa_sameAs_22 : decode b_sa_sameAs 22 = .ok (.if_icmp .ne (7), 3) := by decide +kernel
theorem d_sa_sameAs_25 : decode b_sa_sameAs 25 = .ok (.iconst 1, 1) := by decide +kernel
theorem d_sa_sameAs_26 : decode b_sa_sameAs 26 = .ok (.goto (4), 3) := by decide +kernel
theorem d_sa_sameAs_29 : decode b_sa_sameAs 29 = .ok (.iconst 0, 1) := by decide +kernel
theorem d_sa_sameAs_30 : decode b_sa_sameAs 30 = .ok (.ireturn, 1) := by decide +kernel
theorem d_sa_sameAs_31 : decode b_sa_sameAs 31 = .ok (.iconst 0, 1) := by decide +kernel
theorem d_sa_sameAs_32 : decode b_sa_sameAs 32 = .ok (.istore_n 2, 1) := by decide +kernel
theorem d_sa_sameAs_33 : decode b_sa_sameAs 33 = .ok (.iload_n 2, 1) := by decide +kernel
theorem d_sa_sameAs_34 : decode b_sa_sameAs 34 = .ok (.bipush (14), 2) := by decide +kernel
theorem d_sa_sameAs_36 : decode b_sa_sameAs 36 = .ok (.if_icmp .ge (29), 3) := by decide +kernel
theorem d_sa_sameAs_39 : decode b_sa_sameAs 39 = .ok (.aload_n 0, 1) := by decide +kernel
theorem d_sa_sameAs_40 : decode b_sa_sameAs 40 = .ok (.getfield 11, 3) := by decide +kernel
theorem d_sa_sameAs_43 : decode b_sa_sameAs 43 = .ok (.iload_n 2, 1) := by decide +kernel
theorem d_sa_sameAs_44 : decode b_sa_sameAs 44 = .ok (.aaload, 1) := by decide +kernel
theorem d_sa_sameAs_45 : decode b_sa_sameAs 45 = .ok (.aload_n 1, 1) := by decide +kernel
theorem d_sa_sameAs_46 : decode b_sa_sameAs 46 = .ok (.getfield 11, 3) := by decide +kernel
theorem d_sa_sameAs_49 : decode b_sa_sameAs 49 = .ok (.iload_n 2, 1) := by decide +kernel
theorem d_sa_sameAs_50 : decode b_sa_sameAs 50 = .ok (.aaload, 1) := by decide +kernel
theorem d_sa_sameAs_51 : decode b_sa_sameAs 51 = .ok (.invokevirtual 37, 3) := by decide +kernel
theorem d_sa_sameAs_54 : decode b_sa_sameAs 54 = .ok (.ifCond .ne (5), 3) := by decide +kernel
theorem d_sa_sameAs_57 : decode b_sa_sameAs 57 = .ok (.iconst 0, 1) := by decide +kernel
theorem d_sa_sameAs_58 : decode b_sa_sameAs 58 = .ok (.ireturn, 1) := by decide +kernel
theorem d_sa_sameAs_59 : decode b_sa_sameAs 59 = .ok (.iinc 2 (1), 3) := by decide +kernel
theorem d_sa_sameAs_62 : decode b_sa_sameAs 62 = .ok (.goto (-29), 3) := by decide +kernel
theorem d_sa_sameAs_65 : decode b_sa_sameAs 65 = .ok (.iconst 0, 1) := by decide +kernel
theorem d_sa_sameAs_66 : decode b_sa_sameAs 66 = .ok (.istore_n 2, 1) := by decide +kernel
theorem d_sa_sameAs_67 : decode b_sa_sameAs 67 = .ok (.iload_n 2, 1) := by decide +kernel
theorem d_sa_sameAs_68 : decode b_sa_sameAs 68 = .ok (.bipush (6), 2) := by decide +kernel
theorem d_sa_sameAs_70 : decode b_sa_sameAs 70 = .ok (.if_icmp .ge (26), 3) := by decide +kernel
theorem d_sa_sameAs_73 : decode b_sa_sameAs 73 = .ok (.aload_n 0, 1) := by decide +kernel
theorem d_sa_sameAs_74 : decode b_sa_sameAs 74 = .ok (.getfield 18, 3) := by decide +kernel
theorem d_sa_sameAs_77 : decode b_sa_sameAs 77 = .ok (.iload_n 2, 1) := by decide +kernel
theorem d_sa_sameAs_78 : decode b_sa_sameAs 78 = .ok (.baload, 1) := by decide +kernel
theorem d_sa_sameAs_79 : decode b_sa_sameAs 79 = .ok (.aload_n 1, 1) := by decide +kernel
theorem d_sa_sameAs_80 : decode b_sa_sameAs 80 = .ok (.getfield 18, 3) := by decide +kernel
theorem d_sa_sameAs_83 : decode b_sa_sameAs 83 = .ok (.iload_n 2, 1) := by decide +kernel
theorem d_sa_sameAs_84 : decode b_sa_sameAs 84 = .ok (.baload, 1) := by decide +kernel
theorem d_sa_sameAs_85 : decode b_sa_sameAs 85 = .ok (.if_icmp .eq (5), 3) := by decide +kernel
theorem d_sa_sameAs_88 : decode b_sa_sameAs 88 = .ok (.iconst 0, 1) := by decide +kernel
theorem d_sa_sameAs_89 : decode b_sa_sameAs 89 = .ok (.ireturn, 1) := by decide +kernel
theorem d_sa_sameAs_90 : decode b_sa_sameAs 90 = .ok (.iinc 2 (1), 3) := by decide +kernel
theorem d_sa_sameAs_93 : decode b_sa_sameAs 93 = .ok (.goto (-26), 3) := by decide +kernel
theorem d_sa_sameAs_96 : decode b_sa_sameAs 96 = .ok (.iconst 1, 1) := by decide +kernel
theorem d_sa_sameAs_97 : decode b_sa_sameAs 97 = .ok (.ireturn, 1) := by decide +kernel
theorem kb_sa_sameAs {a0 a1 : Nat}  {w : WW} {r : (Int32 × WW)} (h : f_sa_sameAs a0 a1 w = some r) : kb w a0 7 = true := (its h).1
set_option maxHeartbeats 4000000 in
set_option maxRecDepth 100000 in
theorem j_sa_sameAs_30 {p : Program} {l : Launch} {e : Env} {s : State} {m : MethodId} {args : Array Value} {below : List Frame} {meth : Method} {c : Code} {D : va_G} {cA : Nat → ClassId} {base : Nat} {r : Int32} {w' : WW} (C : cx b_sa_sameAs (some .boolean) 3 y_sa_sameAs.cls "sameAs" p s m args meth c D cA base)   : ∀ (z0 : Int32) (w : WW), f_sa_sameAs_30 z0 w = some (r, w') → ∀ (H : Heap) (locs : List Loc) (ls : Array Slot), wo_S D cls cA base s w H locs → lv_has ls 3 [] → W p l e rm_sa_sameAs s m args below meth c H locs 0 0 (MQ below (wo_Q D cls cA base (some (.int r)) w') args s rm_sa_sameAs.cells rm_sa_sameAs.slots (wo_B base)) (F0 m 30 ls [.int z0]) := by
  obtain ⟨hx, hb, hr, hml, hown, hts, hlk, hnm, hK, hG⟩ := id C
  intro z0 w h H locs ls hW hl
  unfold f_sa_sameAs_30 at h
  replace h := its h
  obtain ⟨c6, h⟩ := h
  cases h
  exact wo_zret hx hb hr hlk hW c6 d_sa_sameAs_30
set_option maxHeartbeats 4000000 in
set_option maxRecDepth 100000 in
theorem j_sa_sameAs_14 {p : Program} {l : Launch} {e : Env} {s : State} {m : MethodId} {args : Array Value} {below : List Frame} {meth : Method} {c : Code} {D : va_G} {cA : Nat → ClassId} {base : Nat} {r : Int32} {w' : WW} (C : cx b_sa_sameAs (some .boolean) 3 y_sa_sameAs.cls "sameAs" p s m args meth c D cA base)   : ∀ (y0 : Nat) (y1 : Nat) (w : WW), f_sa_sameAs_14 y0 y1 w = some (r, w') → ∀ (H : Heap) (locs : List Loc) (ls : Array Slot), wo_S D cls cA base s w H locs → lv_has ls 3 [(0, .ref (base + y0)), (1, .ref (base + y1))] → W p l e rm_sa_sameAs s m args below meth c H locs 0 0 (MQ below (wo_Q D cls cA base (some (.int r)) w') args s rm_sa_sameAs.cells rm_sa_sameAs.slots (wo_B base)) (F0 m 14 ls []) := by
  obtain ⟨hx, hb, hr, hml, hown, hts, hlk, hnm, hK, hG⟩ := id C
  intro y0 y1 w h H locs ls hW hl
  unfold f_sa_sameAs_14 at h
  refine lv_aload_n hx hb d_sa_sameAs_14 rfl (lv_at hl 0 rfl) ?_
  replace h := bs h
  obtain ⟨x3, hx3, h⟩ := h
  refine gf_sa_22 hx hb hts hown hK hG hW (gI_s hx3) d_sa_sameAs_15 ?_
  refine lv_aload_n hx hb d_sa_sameAs_18 rfl (lv_at hl 1 rfl) ?_
  replace h := bs h
  obtain ⟨x4, hx4, h⟩ := h
  refine gf_sa_22 hx hb hts hown hK hG hW (gI_s hx4) d_sa_sameAs_19 ?_
  refine lv_icmp_ne (tgt := 29) hx hb d_sa_sameAs_22 (by decide) (fun c5 => ?_) (fun c5 => ?_)
  · rw [if_neg c5] at h
    refine lv_iconst (v := (0 : Int32)) hx hb d_sa_sameAs_29 (by decide) ?_
    exact j_sa_sameAs_30 C (0 : Int32) w h _ _ _ hW (lv_sub hl [] rfl)
  · rw [if_pos c5] at h
    refine lv_iconst (v := (1 : Int32)) hx hb d_sa_sameAs_25 (by decide) ?_
    refine lv_goto (tgt := 30) hx hb d_sa_sameAs_26 (by decide) ?_
    exact j_sa_sameAs_30 C (1 : Int32) w h _ _ _ hW (lv_sub hl [] rfl)
set_option maxHeartbeats 4000000 in
set_option maxRecDepth 100000 in
theorem j_sa_sameAs_67 {p : Program} {l : Launch} {e : Env} {s : State} {m : MethodId} {args : Array Value} {below : List Frame} {meth : Method} {c : Code} {D : va_G} {cA : Nat → ClassId} {base : Nat} {r : Int32} {w' : WW} (C : cx b_sa_sameAs (some .boolean) 3 y_sa_sameAs.cls "sameAs" p s m args meth c D cA base)   : ∀ n : Nat, ∀ (y0 : Nat) (y1 : Nat) (y2 : Int32) (w : WW), f_sa_sameAs_67 n y0 y1 y2 w = some (r, w') → ∀ (H : Heap) (locs : List Loc) (ls : Array Slot), wo_S D cls cA base s w H locs → lv_has ls 3 [(0, .ref (base + y0)), (1, .ref (base + y1)), (2, .int y2)] → W p l e rm_sa_sameAs s m args below meth c H locs 0 0 (MQ below (wo_Q D cls cA base (some (.int r)) w') args s rm_sa_sameAs.cells rm_sa_sameAs.slots (wo_B base)) (F0 m 67 ls []) := by
  obtain ⟨hx, hb, hr, hml, hown, hts, hlk, hnm, hK, hG⟩ := id C
  intro n
  induction n with
  | zero => intro y0 y1 y2 w h; cases h
  | succ n ih =>
    intro y0 y1 y2 w h H locs ls hW hl
    rw [f_sa_sameAs_67] at h
    refine lv_iload_n hx hb d_sa_sameAs_67 rfl (lv_at hl 2 rfl) ?_
    refine lv_bipush (v := (6 : Int32)) hx hb d_sa_sameAs_68 (by decide) ?_
    refine lv_icmp_ge (tgt := 96) hx hb d_sa_sameAs_70 (by decide) (fun c10 => ?_) (fun c10 => ?_)
    · rw [if_pos c10] at h
      refine lv_iconst (v := (1 : Int32)) hx hb d_sa_sameAs_96 (by decide) ?_
      replace h := its h
      obtain ⟨c11, h⟩ := h
      cases h
      exact wo_zret hx hb hr hlk hW c11 d_sa_sameAs_97
    · rw [if_neg c10] at h
      refine lv_aload_n hx hb d_sa_sameAs_73 rfl (lv_at hl 0 rfl) ?_
      replace h := bs h
      obtain ⟨x12, hx12, h⟩ := h
      refine gf_sa_18 hx hb hts hown hK hG hW (gN_s hx12) d_sa_sameAs_74 ?_
      refine lv_iload_n hx hb d_sa_sameAs_77 rfl (lv_at hl 2 rfl) ?_
      replace h := bs h
      obtain ⟨x13, hx13, h⟩ := h
      refine wo_zald hx hb hK hW (t := 2) rfl hx13 d_sa_sameAs_78 ?_
      refine lv_aload_n hx hb d_sa_sameAs_79 rfl (lv_at hl 1 rfl) ?_
      replace h := bs h
      obtain ⟨x14, hx14, h⟩ := h
      refine gf_sa_18 hx hb hts hown hK hG hW (gN_s hx14) d_sa_sameAs_80 ?_
      refine lv_iload_n hx hb d_sa_sameAs_83 rfl (lv_at hl 2 rfl) ?_
      replace h := bs h
      obtain ⟨x15, hx15, h⟩ := h
      refine wo_zald hx hb hK hW (t := 2) rfl hx15 d_sa_sameAs_84 ?_
      refine lv_icmp_eq (tgt := 90) hx hb d_sa_sameAs_85 (by decide) (fun c16 => ?_) (fun c16 => ?_)
      · rw [if_pos c16] at h
        refine lv_iinc (v := (y2 + (1 : Int32))) (lv' := [(2, .int (y2 + (1 : Int32))), (0, .ref (base + y0)), (1, .ref (base + y1))]) hx hb d_sa_sameAs_90 hl (k := 2) rfl rfl (by decide) rfl (fun ls hl => ?_)
        refine lv_goto (tgt := 67) hx hb d_sa_sameAs_93 (by decide) ?_
        exact ih y0 y1 (y2 + (1 : Int32)) w h _ _ _ hW (lv_sub hl [1, 2, 0] rfl)
      · rw [if_neg c16] at h
        refine lv_iconst (v := (0 : Int32)) hx hb d_sa_sameAs_88 (by decide) ?_
        replace h := its h
        obtain ⟨c17, h⟩ := h
        cases h
        exact wo_zret hx hb hr hlk hW c17 d_sa_sameAs_89
set_option maxHeartbeats 4000000 in
set_option maxRecDepth 100000 in
theorem j_sa_sameAs_33 {p : Program} {l : Launch} {e : Env} {s : State} {m : MethodId} {args : Array Value} {below : List Frame} {meth : Method} {c : Code} {D : va_G} {cA : Nat → ClassId} {base : Nat} {r : Int32} {w' : WW} (C : cx b_sa_sameAs (some .boolean) 3 y_sa_sameAs.cls "sameAs" p s m args meth c D cA base)   : ∀ n : Nat, ∀ (y0 : Nat) (y1 : Nat) (y2 : Int32) (w : WW), f_sa_sameAs_33 n y0 y1 y2 w = some (r, w') → ∀ (H : Heap) (locs : List Loc) (ls : Array Slot), wo_S D cls cA base s w H locs → lv_has ls 3 [(0, .ref (base + y0)), (1, .ref (base + y1)), (2, .int y2)] → W p l e rm_sa_sameAs s m args below meth c H locs 0 0 (MQ below (wo_Q D cls cA base (some (.int r)) w') args s rm_sa_sameAs.cells rm_sa_sameAs.slots (wo_B base)) (F0 m 33 ls []) := by
  obtain ⟨hx, hb, hr, hml, hown, hts, hlk, hnm, hK, hG⟩ := id C
  intro n
  induction n with
  | zero => intro y0 y1 y2 w h; cases h
  | succ n ih =>
    intro y0 y1 y2 w h H locs ls hW hl
    rw [f_sa_sameAs_33] at h
    refine lv_iload_n hx hb d_sa_sameAs_33 rfl (lv_at hl 2 rfl) ?_
    refine lv_bipush (v := (14 : Int32)) hx hb d_sa_sameAs_34 (by decide) ?_
    refine lv_icmp_ge (tgt := 65) hx hb d_sa_sameAs_36 (by decide) (fun c9 => ?_) (fun c9 => ?_)
    · rw [if_pos c9] at h
      refine lv_iconst (v := (0 : Int32)) hx hb d_sa_sameAs_65 (by decide) ?_
      refine lv_istore_n (lv' := [(2, .int (0 : Int32)), (0, .ref (base + y0)), (1, .ref (base + y1))]) hx hb d_sa_sameAs_66 rfl hl (by decide) rfl (fun ls hl => ?_)
      exact j_sa_sameAs_67 C KK y0 y1 (0 : Int32) w h _ _ _ hW (lv_sub hl [1, 2, 0] rfl)
    · rw [if_neg c9] at h
      refine lv_aload_n hx hb d_sa_sameAs_39 rfl (lv_at hl 0 rfl) ?_
      replace h := bs h
      obtain ⟨x18, hx18, h⟩ := h
      refine gf_sa_11 hx hb hts hown hK hG hW (gN_s hx18) d_sa_sameAs_40 ?_
      refine lv_iload_n hx hb d_sa_sameAs_43 rfl (lv_at hl 2 rfl) ?_
      replace h := bs h
      obtain ⟨x19, hx19, h⟩ := h
      refine wo_aald hx hb hK hW (t := 4) rfl (rN_s hx19) d_sa_sameAs_44 ?_
      refine lv_aload_n hx hb d_sa_sameAs_45 rfl (lv_at hl 1 rfl) ?_
      replace h := bs h
      obtain ⟨x20, hx20, h⟩ := h
      refine gf_sa_11 hx hb hts hown hK hG hW (gN_s hx20) d_sa_sameAs_46 ?_
      refine lv_iload_n hx hb d_sa_sameAs_49 rfl (lv_at hl 2 rfl) ?_
      replace h := bs h
      obtain ⟨x21, hx21, h⟩ := h
      refine wo_aald hx hb hK hW (t := 4) rfl (rN_s hx21) d_sa_sameAs_50 ?_
      replace h := bs2 h
      obtain ⟨x23, w22, hw22, h⟩ := h
      refine cv_sa_37 (As := [.ref (base + x21)]) (rest := []) hx hb hml hown hts hK hG hW (c_va_sameAs l D cA base hw22) (kb_va_sameAs hw22) ⟨Nat.le_of_ble_eq_true rfl, Nat.le_of_ble_eq_true rfl⟩ ⟨Nat.le_of_ble_eq_true rfl, Nat.le_of_ble_eq_true rfl⟩ rfl hl.1 rfl (Nat.le_of_ble_eq_true rfl) d_sa_sameAs_51 (fun H locs hW => ?_)
      refine lv_if_ne (tgt := 59) hx hb d_sa_sameAs_54 (by decide) (fun c24 => ?_) (fun c24 => ?_)
      · rw [if_neg c24] at h
        refine lv_iinc (v := (y2 + (1 : Int32))) (lv' := [(2, .int (y2 + (1 : Int32))), (0, .ref (base + y0)), (1, .ref (base + y1))]) hx hb d_sa_sameAs_59 hl (k := 2) rfl rfl (by decide) rfl (fun ls hl => ?_)
        refine lv_goto (tgt := 33) hx hb d_sa_sameAs_62 (by decide) ?_
        exact ih y0 y1 (y2 + (1 : Int32)) w22 h _ _ _ hW (lv_sub hl [1, 2, 0] rfl)
      · rw [if_pos c24] at h
        refine lv_iconst (v := (0 : Int32)) hx hb d_sa_sameAs_57 (by decide) ?_
        replace h := its h
        obtain ⟨c25, h⟩ := h
        cases h
        exact wo_zret hx hb hr hlk hW c25 d_sa_sameAs_58
set_option maxHeartbeats 4000000 in
set_option maxRecDepth 100000 in
theorem c_sa_sameAs (l : Launch) (D : va_G) (cA : Nat → ClassId) (base : Nat) {a0 : Nat} {a1 : Nat} {w w' : WW} {r : Int32} (h : f_sa_sameAs a0 a1 w = some (r, w')) : mt l D cls (wo_tys cA) cA base y_sa_sameAs (Cond.code y_sa_sameAs b_sa_sameAs 3 (some .boolean) :: gt) rm_sa_sameAs [.ref (base + a0), .ref (base + a1)] w (some (.int r)) w' rm_sa_sameAs.cells rm_sa_sameAs.slots := by
  refine mt_start (by decide) (Nat.le_of_ble_eq_true rfl) ?_
  intro p e s m below meth c ls hx hb hr hml hown hts hlk hnm hK hG hW hl
  have C : cx b_sa_sameAs (some .boolean) 3 y_sa_sameAs.cls "sameAs" p s m [.ref (base + a0), .ref (base + a1)].toArray meth c D cA base := ⟨hx, hb, hr, hml, hown, hts, hlk, hnm, hK, hG⟩
  have hl : lv_has ls 3 [(0, .ref (base + a0)), (1, .ref (base + a1))] := hl
  unfold f_sa_sameAs at h
  replace h := its h
  obtain ⟨-, h⟩ := h
  refine lv_aload_n hx hb d_sa_sameAs_0 rfl (lv_at hl 0 rfl) ?_
  replace h := bs h
  obtain ⟨x1, hx1, h⟩ := h
  refine gf_sa_22 hx hb hts hown hK hG hW (gI_s hx1) d_sa_sameAs_1 ?_
  refine lv_if_ne (tgt := 14) hx hb d_sa_sameAs_4 (by decide) (fun c2 => ?_) (fun c2 => ?_)
  · rw [if_neg c2] at h
    exact j_sa_sameAs_14 C a0 a1 w h _ _ _ hW (lv_sub hl [0, 1] rfl)
  · rw [if_pos c2] at h
    refine lv_aload_n hx hb d_sa_sameAs_7 rfl (lv_at hl 1 rfl) ?_
    replace h := bs h
    obtain ⟨x7, hx7, h⟩ := h
    refine gf_sa_22 hx hb hts hown hK hG hW (gI_s hx7) d_sa_sameAs_8 ?_
    refine lv_if_eq (tgt := 31) hx hb d_sa_sameAs_11 (by decide) (fun c8 => ?_) (fun c8 => ?_)
    · rw [if_pos c8] at h
      refine lv_iconst (v := (0 : Int32)) hx hb d_sa_sameAs_31 (by decide) ?_
      refine lv_istore_n (lv' := [(2, .int (0 : Int32)), (0, .ref (base + a0)), (1, .ref (base + a1))]) hx hb d_sa_sameAs_32 rfl hl (by decide) rfl (fun ls hl => ?_)
      exact j_sa_sameAs_33 C KK a0 a1 (0 : Int32) w h _ _ _ hW (lv_sub hl [1, 2, 0] rfl)
    · rw [if_neg c8] at h
      exact j_sa_sameAs_14 C a0 a1 w h _ _ _ hW (lv_sub hl [0, 1] rfl)
abbrev b_sa_widen : ByteArray := prog_7_method_6_code
def y_sa_widen : MethodName := ⟨"AlarmForge$State", "widen", "(LAlarmForge$State;)V"⟩
def rm_sa_widen : Room := { frames := 5, cells := 0, slots := 0, locals := 121 }
theorem d_sa_widen_0 : decode b_sa_widen 0 = .ok (.aload_n 0, 1) := by decide +kernel
theorem d_sa_widen_1 : decode b_sa_widen 1 = .ok (.aload_n 1, 1) := by decide +kernel
theorem d_sa_widen_2 : decode b_sa_widen 2 = .ok (.iconst 1, 1) := by decide +kernel
theorem d_sa_widen_3 : decode b_sa_widen 3 = .ok (.invokevirtual 41, 3) := by decide +kernel
theorem d_sa_widen_6 : decode b_sa_widen 6 = .ok (.return_, 1) := by decide +kernel
theorem kb_sa_widen {a0 a1 : Nat}  {w : WW} {r : WW} (h : f_sa_widen a0 a1 w = some r) : kb w a0 7 = true := (its h).1
set_option maxHeartbeats 4000000 in
set_option maxRecDepth 100000 in
theorem c_sa_widen (l : Launch) (D : va_G) (cA : Nat → ClassId) (base : Nat) {a0 : Nat} {a1 : Nat} {w w' : WW} (h : f_sa_widen a0 a1 w = some w') : mt l D cls (wo_tys cA) cA base y_sa_widen (Cond.code y_sa_widen b_sa_widen 2 (none) :: gt) rm_sa_widen [.ref (base + a0), .ref (base + a1)] w none w' rm_sa_widen.cells rm_sa_widen.slots := by
  refine mt_start (by decide) (Nat.le_of_ble_eq_true rfl) ?_
  intro p e s m below meth c ls hx hb hr hml hown hts hlk hnm hK hG hW hl
  have C : cx b_sa_widen (none) 2 y_sa_widen.cls "widen" p s m [.ref (base + a0), .ref (base + a1)].toArray meth c D cA base := ⟨hx, hb, hr, hml, hown, hts, hlk, hnm, hK, hG⟩
  have hl : lv_has ls 2 [(0, .ref (base + a0)), (1, .ref (base + a1))] := hl
  unfold f_sa_widen at h
  replace h := its h
  obtain ⟨-, h⟩ := h
  refine lv_aload_n hx hb d_sa_widen_0 rfl (lv_at hl 0 rfl) ?_
  refine lv_aload_n hx hb d_sa_widen_1 rfl (lv_at hl 1 rfl) ?_
  refine lv_iconst (v := (1 : Int32)) hx hb d_sa_widen_2 (by decide) ?_
  replace h := bs h
  obtain ⟨w1, hw1, h⟩ := h
  refine cv_sa_41 (As := [.ref (base + a1), .int (1 : Int32)]) (rest := []) hx hb hml hown hts hK hG hW (c_sa_merge l D cA base hw1) (kb_sa_merge hw1) ⟨Nat.le_of_ble_eq_true rfl, Nat.le_of_ble_eq_true rfl⟩ ⟨Nat.le_of_ble_eq_true rfl, Nat.le_of_ble_eq_true rfl⟩ rfl hl.1 rfl (Nat.le_of_ble_eq_true rfl) d_sa_widen_3 (fun H locs hW => ?_)
  cases h
  exact wo_vret hx hb hr hlk hW d_sa_widen_6
theorem cv_sa_54 {p : Program} {l : Launch} {e : Env} {R : Room} {s : State} {m : MethodId} {args : Array Value} {below : List Frame} {meth : Method} {c : Code} {H : Heap} {locs : List Loc} {cells slots : Nat} {Q : State → Prop} {D : va_G} {cA : Nat → ClassId} {base : Nat} {w w' : WW} {cc : ByteArray} {pc nL : Nat} {ls : Array Slot} {rest st0 As : List Value} {ov : Option Value} {b : Nat} (hx : p.tables.exec = Jvm.exec) (hb : c.code = cc) (hml : c.maxLocals = nL) (hown : s.vm.findClass Rc_sa = some m.cls) (hts : ∀ w ∈ gt, w.before args s = true) (hK : va_K D cls (wo_tys cA) s) (hG : wo_G cA base s) (hW : wo_S D cls cA base s w H locs) (hM : mt l D cls (wo_tys cA) cA base y_va_setAll (Cond.code y_va_setAll b_va_setAll 1 (none) :: gt) rm_va_setAll (.ref (base + b) :: As) w ov w' rm_va_setAll.cells rm_va_setAll.slots) (hkb : kb w b 8 = true) (hR : rm_va_setAll.frames + 1 ≤ R.frames ∧ 8 + (1 + 11) + rm_va_setAll.locals ≤ R.locals) (hf : cells + rm_va_setAll.cells ≤ R.cells ∧ slots + rm_va_setAll.slots ≤ R.slots) (hn : As.length = 0) (hsz : ls.size = nL) (hst : st0 = As.reverse ++ .ref (base + b) :: rest) (hcat : (rest.map fun v => v.category).sum ≤ 8) (hdg : decode cc pc = .ok (.invokevirtual 54, 3)) (kk : ∀ (H1 : Heap) (locs1 : List Loc), wo_S D cls cA base s w' H1 locs1 → W p l e R s m args below meth c H1 locs1 (cells + rm_va_setAll.cells) (slots + rm_va_setAll.slots) Q (F0 m (pc + 3) ls (ov.toList ++ rest))) : W p l e R s m args below meth c H locs cells slots Q (F0 m pc ls st0) :=
  wo_callV (C := Rc_va) hx hb hml hown hts hK hG hW hM hkb rfl (gt_of (i := 1115) (by decide +kernel) (by decide +kernel)) (gt_of (i := 1005) (by decide +kernel) (by decide +kernel)) (gt_of (i := 1006) (by decide +kernel) (by decide +kernel)) (gt_of (i := 9) (by decide +kernel) (by decide +kernel)) (gt_of (i := 1007) (by decide +kernel) (by decide +kernel)) (by decide +kernel) hR hf hn hsz hst hcat hdg kk
abbrev b_sa_setAllInts : ByteArray := prog_7_method_8_code
def y_sa_setAllInts : MethodName := ⟨"AlarmForge$State", "setAllInts", "()V"⟩
def rm_sa_setAllInts : Room := { frames := 1, cells := 0, slots := 0, locals := 20 }
theorem d_sa_setAllInts_0 : decode b_sa_setAllInts 0 = .ok (.iconst 0, 1) := by decide +kernel
theorem d_sa_setAllInts_1 : decode b_sa_setAllInts 1 = .ok (.istore_n 1, 1) := by decide +kernel
theorem d_sa_setAllInts_2 : decode b_sa_setAllInts 2 = .ok (.iload_n 1, 1) := by decide +kernel
theorem d_sa_setAllInts_3 : decode b_sa_setAllInts 3 = .ok (.bipush (14), 2) := by decide +kernel
theorem d_sa_setAllInts_5 : decode b_sa_setAllInts 5 = .ok (.if_icmp .ge (18), 3) := by decide +kernel
theorem d_sa_setAllInts_8 : decode b_sa_setAllInts 8 = .ok (.aload_n 0, 1) := by decide +kernel
theorem d_sa_setAllInts_9 : decode b_sa_setAllInts 9 = .ok (.getfield 11, 3) := by decide +kernel
theorem d_sa_setAllInts_12 : decode b_sa_setAllInts 12 = .ok (.iload_n 1, 1) := by decide +kernel
theorem d_sa_setAllInts_13 : decode b_sa_setAllInts 13 = .ok (.aaload, 1) := by decide +kernel
theorem d_sa_setAllInts_14 : decode b_sa_setAllInts 14 = .ok (.invokevirtual 54, 3) := by decide +kernel
theorem d_sa_setAllInts_17 : decode b_sa_setAllInts 17 = .ok (.iinc 1 (1), 3) := by decide +kernel
theorem d_sa_setAllInts_20 : decode b_sa_setAllInts 20 = .ok (.goto (-18), 3) := by decide +kernel
theorem d_sa_setAllInts_23 : decode b_sa_setAllInts 23 = .ok (.return_, 1) := by decide +kernel
theorem kb_sa_setAllInts {a0 : Nat}  {w : WW} {r : WW} (h : f_sa_setAllInts a0 w = some r) : kb w a0 7 = true := (its h).1
set_option maxHeartbeats 4000000 in
set_option maxRecDepth 100000 in
theorem j_sa_setAllInts_2 {p : Program} {l : Launch} {e : Env} {s : State} {m : MethodId} {args : Array Value} {below : List Frame} {meth : Method} {c : Code} {D : va_G} {cA : Nat → ClassId} {base : Nat} {w' : WW} (C : cx b_sa_setAllInts (none) 2 y_sa_setAllInts.cls "setAllInts" p s m args meth c D cA base)   : ∀ n : Nat, ∀ (y0 : Nat) (y1 : Int32) (w : WW), f_sa_setAllInts_2 n y0 y1 w = some w' → ∀ (H : Heap) (locs : List Loc) (ls : Array Slot), wo_S D cls cA base s w H locs → lv_has ls 2 [(0, .ref (base + y0)), (1, .int y1)] → W p l e rm_sa_setAllInts s m args below meth c H locs 0 0 (MQ below (wo_Q D cls cA base none w') args s rm_sa_setAllInts.cells rm_sa_setAllInts.slots (wo_B base)) (F0 m 2 ls []) := by
  obtain ⟨hx, hb, hr, hml, hown, hts, hlk, hnm, hK, hG⟩ := id C
  intro n
  induction n with
  | zero => intro y0 y1 w h; cases h
  | succ n ih =>
    intro y0 y1 w h H locs ls hW hl
    rw [f_sa_setAllInts_2] at h
    refine lv_iload_n hx hb d_sa_setAllInts_2 rfl (lv_at hl 1 rfl) ?_
    refine lv_bipush (v := (14 : Int32)) hx hb d_sa_setAllInts_3 (by decide) ?_
    refine lv_icmp_ge (tgt := 23) hx hb d_sa_setAllInts_5 (by decide) (fun c1 => ?_) (fun c1 => ?_)
    · rw [if_pos c1] at h
      cases h
      exact wo_vret hx hb hr hlk hW d_sa_setAllInts_23
    · rw [if_neg c1] at h
      refine lv_aload_n hx hb d_sa_setAllInts_8 rfl (lv_at hl 0 rfl) ?_
      replace h := bs h
      obtain ⟨x2, hx2, h⟩ := h
      refine gf_sa_11 hx hb hts hown hK hG hW (gN_s hx2) d_sa_setAllInts_9 ?_
      refine lv_iload_n hx hb d_sa_setAllInts_12 rfl (lv_at hl 1 rfl) ?_
      replace h := bs h
      obtain ⟨x3, hx3, h⟩ := h
      refine wo_aald hx hb hK hW (t := 4) rfl (rN_s hx3) d_sa_setAllInts_13 ?_
      replace h := bs h
      obtain ⟨w4, hw4, h⟩ := h
      refine cv_sa_54 (As := []) (rest := []) hx hb hml hown hts hK hG hW (c_va_setAll l D cA base hw4) (kb_va_setAll hw4) ⟨Nat.le_of_ble_eq_true rfl, Nat.le_of_ble_eq_true rfl⟩ ⟨Nat.le_of_ble_eq_true rfl, Nat.le_of_ble_eq_true rfl⟩ rfl hl.1 rfl (Nat.le_of_ble_eq_true rfl) d_sa_setAllInts_14 (fun H locs hW => ?_)
      refine lv_iinc (v := (y1 + (1 : Int32))) (lv' := [(1, .int (y1 + (1 : Int32))), (0, .ref (base + y0))]) hx hb d_sa_setAllInts_17 hl (k := 1) rfl rfl (by decide) rfl (fun ls hl => ?_)
      refine lv_goto (tgt := 2) hx hb d_sa_setAllInts_20 (by decide) ?_
      exact ih y0 (y1 + (1 : Int32)) w4 h _ _ _ hW (lv_sub hl [1, 0] rfl)
set_option maxHeartbeats 4000000 in
set_option maxRecDepth 100000 in
theorem c_sa_setAllInts (l : Launch) (D : va_G) (cA : Nat → ClassId) (base : Nat) {a0 : Nat} {w w' : WW} (h : f_sa_setAllInts a0 w = some w') : mt l D cls (wo_tys cA) cA base y_sa_setAllInts (Cond.code y_sa_setAllInts b_sa_setAllInts 2 (none) :: gt) rm_sa_setAllInts [.ref (base + a0)] w none w' rm_sa_setAllInts.cells rm_sa_setAllInts.slots := by
  refine mt_start (by decide) (Nat.le_of_ble_eq_true rfl) ?_
  intro p e s m below meth c ls hx hb hr hml hown hts hlk hnm hK hG hW hl
  have C : cx b_sa_setAllInts (none) 2 y_sa_setAllInts.cls "setAllInts" p s m [.ref (base + a0)].toArray meth c D cA base := ⟨hx, hb, hr, hml, hown, hts, hlk, hnm, hK, hG⟩
  have hl : lv_has ls 2 [(0, .ref (base + a0))] := hl
  unfold f_sa_setAllInts at h
  replace h := its h
  obtain ⟨-, h⟩ := h
  refine lv_iconst (v := (0 : Int32)) hx hb d_sa_setAllInts_0 (by decide) ?_
  refine lv_istore_n (lv' := [(1, .int (0 : Int32)), (0, .ref (base + a0))]) hx hb d_sa_setAllInts_1 rfl hl (by decide) rfl (fun ls hl => ?_)
  exact j_sa_setAllInts_2 C KK a0 (0 : Int32) w h _ _ _ hW (lv_sub hl [1, 0] rfl)
abbrev b_an_goStatements : ByteArray := prog_2_method_5_code
def y_an_goStatements : MethodName := ⟨"AlarmForge$Analyser", "goStatements", "(LAlarmForge$Statement;LAlarmForge$State;I)V"⟩
def rm_an_goStatements (d : Nat) : Room := { frames := 7 + 1 * d, cells := 0, slots := 0, locals := 186 + 27 * d }
def rx_an_goStatements (d : Nat) : Room := { frames := 7 + 1 * d, cells := 1, slots := 6, locals := 186 + 27 * d }
abbrev b_an_goStatement : ByteArray := prog_2_method_6_code
def y_an_goStatement : MethodName := ⟨"AlarmForge$Analyser", "goStatement", "(LAlarmForge$Statement;LAlarmForge$State;I)V"⟩
def rm_an_goStatement (d : Nat) : Room := { frames := 7 + 1 * d, cells := 0, slots := 0, locals := 186 + 27 * d }
def rx_an_goStatement (d : Nat) : Room := { frames := 7 + 1 * d, cells := 1, slots := 6, locals := 186 + 27 * d }
abbrev b_an_goIf : ByteArray := prog_2_method_9_code
def y_an_goIf : MethodName := ⟨"AlarmForge$Analyser", "goIf", "(LAlarmForge$Statement;LAlarmForge$State;I)V"⟩
def rm_an_goIf (d : Nat) : Room := { frames := 7 + 1 * d, cells := 0, slots := 0, locals := 186 + 27 * d }
def rx_an_goIf (d : Nat) : Room := { frames := 7 + 1 * d, cells := 1, slots := 6, locals := 186 + 27 * d }
abbrev b_an_goWhile : ByteArray := prog_2_method_11_code
def y_an_goWhile : MethodName := ⟨"AlarmForge$Analyser", "goWhile", "(LAlarmForge$Statement;LAlarmForge$State;I)V"⟩
def rm_an_goWhile (d : Nat) : Room := { frames := 7 + 1 * d, cells := 0, slots := 0, locals := 186 + 27 * d }
def rx_an_goWhile (d : Nat) : Room := { frames := 7 + 1 * d, cells := 1, slots := 6, locals := 186 + 27 * d }
abbrev b_an_settle : ByteArray := prog_2_method_12_code
def y_an_settle : MethodName := ⟨"AlarmForge$Analyser", "settle", "(LAlarmForge$Statement;LAlarmForge$State;I)V"⟩
def rm_an_settle (d : Nat) : Room := { frames := 7 + 1 * d, cells := 0, slots := 0, locals := 186 + 27 * d }
def rx_an_settle (d : Nat) : Room := { frames := 7 + 1 * d, cells := 1, slots := 6, locals := 186 + 27 * d }
abbrev b_an_goPass : ByteArray := prog_2_method_13_code
def y_an_goPass : MethodName := ⟨"AlarmForge$Analyser", "goPass", "(LAlarmForge$Statement;LAlarmForge$State;I)V"⟩
def rm_an_goPass (d : Nat) : Room := { frames := 7 + 1 * d, cells := 0, slots := 0, locals := 186 + 27 * d }
def rx_an_goPass (d : Nat) : Room := { frames := 7 + 1 * d, cells := 1, slots := 6, locals := 186 + 27 * d }
def sA_an6 (l : Launch) (D : va_G) (cA : Nat → ClassId) (base d : Nat) (g_an_goStatements : Nat → Option Nat → Nat → Int32 → WW → Option WW) (g_an_goStatement : Nat → Option Nat → Nat → Int32 → WW → Option WW) (g_an_goIf : Nat → Option Nat → Nat → Int32 → WW → Option WW) (g_an_goWhile : Nat → Option Nat → Nat → Int32 → WW → Option WW) (g_an_settle : Nat → Option Nat → Nat → Int32 → WW → Option WW) (g_an_goPass : Nat → Option Nat → Nat → Int32 → WW → Option WW) : Prop := ((∀ {a0 : Nat} {a1 : Option Nat} {a2 : Nat} {a3 : Int32} {w w' : WW}, g_an_goStatements a0 a1 a2 a3 w = some w' → mt l D cls (wo_tys cA) cA base y_an_goStatements (Cond.code y_an_goStatements b_an_goStatements 5 (none) :: gt) (rm_an_goStatements d) [.ref (base + a0), rb base a1, .ref (base + a2), .int a3] w none w' (rm_an_goStatements d).cells (rm_an_goStatements d).slots) ∧ (∀ {a0 : Nat} {a1 : Option Nat} {a2 : Nat} {a3 : Int32} {w : WW} {r : WW}, g_an_goStatements a0 a1 a2 a3 w = some r → kb w a0 6 = true)) ∧ ((∀ {a0 : Nat} {a1 : Option Nat} {a2 : Nat} {a3 : Int32} {w w' : WW}, g_an_goStatement a0 a1 a2 a3 w = some w' → mt l D cls (wo_tys cA) cA base y_an_goStatement (Cond.code y_an_goStatement b_an_goStatement 4 (none) :: gt) (rm_an_goStatement d) [.ref (base + a0), rb base a1, .ref (base + a2), .int a3] w none w' (rm_an_goStatement d).cells (rm_an_goStatement d).slots) ∧ (∀ {a0 : Nat} {a1 : Option Nat} {a2 : Nat} {a3 : Int32} {w : WW} {r : WW}, g_an_goStatement a0 a1 a2 a3 w = some r → kb w a0 6 = true)) ∧ ((∀ {a0 : Nat} {a1 : Option Nat} {a2 : Nat} {a3 : Int32} {w w' : WW}, g_an_goIf a0 a1 a2 a3 w = some w' → mt l D cls (wo_tys cA) cA base y_an_goIf (Cond.code y_an_goIf b_an_goIf 5 (none) :: gt) (rm_an_goIf d) [.ref (base + a0), rb base a1, .ref (base + a2), .int a3] w none w' (rm_an_goIf d).cells (rm_an_goIf d).slots) ∧ (∀ {a0 : Nat} {a1 : Option Nat} {a2 : Nat} {a3 : Int32} {w : WW} {r : WW}, g_an_goIf a0 a1 a2 a3 w = some r → kb w a0 6 = true)) ∧ ((∀ {a0 : Nat} {a1 : Option Nat} {a2 : Nat} {a3 : Int32} {w w' : WW}, g_an_goWhile a0 a1 a2 a3 w = some w' → mt l D cls (wo_tys cA) cA base y_an_goWhile (Cond.code y_an_goWhile b_an_goWhile 8 (none) :: gt) (rm_an_goWhile d) [.ref (base + a0), rb base a1, .ref (base + a2), .int a3] w none w' (rm_an_goWhile d).cells (rm_an_goWhile d).slots) ∧ (∀ {a0 : Nat} {a1 : Option Nat} {a2 : Nat} {a3 : Int32} {w : WW} {r : WW}, g_an_goWhile a0 a1 a2 a3 w = some r → kb w a0 6 = true)) ∧ ((∀ {a0 : Nat} {a1 : Option Nat} {a2 : Nat} {a3 : Int32} {w w' : WW}, g_an_settle a0 a1 a2 a3 w = some w' → mt l D cls (wo_tys cA) cA base y_an_settle (Cond.code y_an_settle b_an_settle 7 (none) :: gt) (rm_an_settle d) [.ref (base + a0), rb base a1, .ref (base + a2), .int a3] w none w' (rm_an_settle d).cells (rm_an_settle d).slots) ∧ (∀ {a0 : Nat} {a1 : Option Nat} {a2 : Nat} {a3 : Int32} {w : WW} {r : WW}, g_an_settle a0 a1 a2 a3 w = some r → kb w a0 6 = true)) ∧ ((∀ {a0 : Nat} {a1 : Option Nat} {a2 : Nat} {a3 : Int32} {w w' : WW}, g_an_goPass a0 a1 a2 a3 w = some w' → mt l D cls (wo_tys cA) cA base y_an_goPass (Cond.code y_an_goPass b_an_goPass 6 (none) :: gt) (rm_an_goPass d) [.ref (base + a0), rb base a1, .ref (base + a2), .int a3] w none w' (rm_an_goPass d).cells (rm_an_goPass d).slots) ∧ (∀ {a0 : Nat} {a1 : Option Nat} {a2 : Nat} {a3 : Int32} {w : WW} {r : WW}, g_an_goPass a0 a1 a2 a3 w = some r → kb w a0 6 = true))
theorem cv_an_73 {p : Program} {l : Launch} {e : Env} {R : Room} {s : State} {m : MethodId} {args : Array Value} {below : List Frame} {meth : Method} {c : Code} {H : Heap} {locs : List Loc} {cells slots : Nat} {Q : State → Prop} {D : va_G} {cA : Nat → ClassId} {base : Nat} {w w' : WW} {cc : ByteArray} {pc nL d : Nat} {ls : Array Slot} {rest st0 As : List Value} {ov : Option Value} {b : Nat} (hx : p.tables.exec = Jvm.exec) (hb : c.code = cc) (hml : c.maxLocals = nL) (hown : s.vm.findClass Rc_an = some m.cls) (hts : ∀ w ∈ gt, w.before args s = true) (hK : va_K D cls (wo_tys cA) s) (hG : wo_G cA base s) (hW : wo_S D cls cA base s w H locs) (hM : mt l D cls (wo_tys cA) cA base y_an_goStatement (Cond.code y_an_goStatement b_an_goStatement 4 (none) :: gt) (rm_an_goStatement d) (.ref (base + b) :: As) w ov w' (rm_an_goStatement d).cells (rm_an_goStatement d).slots) (hkb : kb w b 6 = true) (hR : (rm_an_goStatement d).frames + 1 ≤ R.frames ∧ 8 + (4 + 11) + (rm_an_goStatement d).locals ≤ R.locals) (hf : cells + (rm_an_goStatement d).cells ≤ R.cells ∧ slots + (rm_an_goStatement d).slots ≤ R.slots) (hn : As.length = 3) (hsz : ls.size = nL) (hst : st0 = As.reverse ++ .ref (base + b) :: rest) (hcat : (rest.map fun v => v.category).sum ≤ 8) (hdg : decode cc pc = .ok (.invokevirtual 73, 3)) (kk : ∀ (H1 : Heap) (locs1 : List Loc), wo_S D cls cA base s w' H1 locs1 → W p l e R s m args below meth c H1 locs1 (cells + (rm_an_goStatement d).cells) (slots + (rm_an_goStatement d).slots) Q (F0 m (pc + 3) ls (ov.toList ++ rest))) : W p l e R s m args below meth c H locs cells slots Q (F0 m pc ls st0) :=
  wo_callV (C := Rc_an) hx hb hml hown hts hK hG hW hM hkb rfl (gt_of (i := 909) (by decide +kernel) (by decide +kernel)) (gt_of (i := 911) (by decide +kernel) (by decide +kernel)) (gt_sel (i := 38) (by decide +kernel) (by decide +kernel)) (gt_of (i := 7) (by decide +kernel) (by decide +kernel)) (gt_of (i := 912) (by decide +kernel) (by decide +kernel)) (by decide +kernel) hR hf hn hsz hst hcat hdg kk
theorem cv_an_84 {p : Program} {l : Launch} {e : Env} {R : Room} {s : State} {m : MethodId} {args : Array Value} {below : List Frame} {meth : Method} {c : Code} {H : Heap} {locs : List Loc} {cells slots : Nat} {Q : State → Prop} {D : va_G} {cA : Nat → ClassId} {base : Nat} {w w' : WW} {cc : ByteArray} {pc nL : Nat} {ls : Array Slot} {rest st0 As : List Value} {ov : Option Value} {b : Nat} (hx : p.tables.exec = Jvm.exec) (hb : c.code = cc) (hml : c.maxLocals = nL) (hown : s.vm.findClass Rc_an = some m.cls) (hts : ∀ w ∈ gt, w.before args s = true) (hK : va_K D cls (wo_tys cA) s) (hG : wo_G cA base s) (hW : wo_S D cls cA base s w H locs) (hM : mt l D cls (wo_tys cA) cA base y_an_goAssignment (Cond.code y_an_goAssignment b_an_goAssignment 3 (none) :: gt) rm_an_goAssignment (.ref (base + b) :: As) w ov w' rm_an_goAssignment.cells rm_an_goAssignment.slots) (hkb : kb w b 6 = true) (hR : rm_an_goAssignment.frames + 1 ≤ R.frames ∧ 8 + (3 + 11) + rm_an_goAssignment.locals ≤ R.locals) (hf : cells + rm_an_goAssignment.cells ≤ R.cells ∧ slots + rm_an_goAssignment.slots ≤ R.slots) (hn : As.length = 2) (hsz : ls.size = nL) (hst : st0 = As.reverse ++ .ref (base + b) :: rest) (hcat : (rest.map fun v => v.category).sum ≤ 8) (hdg : decode cc pc = .ok (.invokevirtual 84, 3)) (kk : ∀ (H1 : Heap) (locs1 : List Loc), wo_S D cls cA base s w' H1 locs1 → W p l e R s m args below meth c H1 locs1 (cells + rm_an_goAssignment.cells) (slots + rm_an_goAssignment.slots) Q (F0 m (pc + 3) ls (ov.toList ++ rest))) : W p l e R s m args below meth c H locs cells slots Q (F0 m pc ls st0) :=
  wo_callV (C := Rc_an) hx hb hml hown hts hK hG hW hM hkb rfl (gt_of (i := 913) (by decide +kernel) (by decide +kernel)) (gt_of (i := 915) (by decide +kernel) (by decide +kernel)) (gt_sel (i := 39) (by decide +kernel) (by decide +kernel)) (gt_of (i := 7) (by decide +kernel) (by decide +kernel)) (gt_of (i := 916) (by decide +kernel) (by decide +kernel)) (by decide +kernel) hR hf hn hsz hst hcat hdg kk
theorem cv_an_94 {p : Program} {l : Launch} {e : Env} {R : Room} {s : State} {m : MethodId} {args : Array Value} {below : List Frame} {meth : Method} {c : Code} {H : Heap} {locs : List Loc} {cells slots : Nat} {Q : State → Prop} {D : va_G} {cA : Nat → ClassId} {base : Nat} {w w' : WW} {cc : ByteArray} {pc nL : Nat} {ls : Array Slot} {rest st0 As : List Value} {ov : Option Value} {b : Nat} (hx : p.tables.exec = Jvm.exec) (hb : c.code = cc) (hml : c.maxLocals = nL) (hown : s.vm.findClass Rc_an = some m.cls) (hts : ∀ w ∈ gt, w.before args s = true) (hK : va_K D cls (wo_tys cA) s) (hG : wo_G cA base s) (hW : wo_S D cls cA base s w H locs) (hM : mt l D cls (wo_tys cA) cA base y_va_setAll (Cond.code y_va_setAll b_va_setAll 1 (none) :: gt) rm_va_setAll (.ref (base + b) :: As) w ov w' rm_va_setAll.cells rm_va_setAll.slots) (hkb : kb w b 8 = true) (hR : rm_va_setAll.frames + 1 ≤ R.frames ∧ 8 + (1 + 11) + rm_va_setAll.locals ≤ R.locals) (hf : cells + rm_va_setAll.cells ≤ R.cells ∧ slots + rm_va_setAll.slots ≤ R.slots) (hn : As.length = 0) (hsz : ls.size = nL) (hst : st0 = As.reverse ++ .ref (base + b) :: rest) (hcat : (rest.map fun v => v.category).sum ≤ 8) (hdg : decode cc pc = .ok (.invokevirtual 94, 3)) (kk : ∀ (H1 : Heap) (locs1 : List Loc), wo_S D cls cA base s w' H1 locs1 → W p l e R s m args below meth c H1 locs1 (cells + rm_va_setAll.cells) (slots + rm_va_setAll.slots) Q (F0 m (pc + 3) ls (ov.toList ++ rest))) : W p l e R s m args below meth c H locs cells slots Q (F0 m pc ls st0) :=
  wo_callV (C := Rc_va) hx hb hml hown hts hK hG hW hM hkb rfl (gt_of (i := 1004) (by decide +kernel) (by decide +kernel)) (gt_of (i := 1005) (by decide +kernel) (by decide +kernel)) (gt_of (i := 1006) (by decide +kernel) (by decide +kernel)) (gt_of (i := 9) (by decide +kernel) (by decide +kernel)) (gt_of (i := 1007) (by decide +kernel) (by decide +kernel)) (by decide +kernel) hR hf hn hsz hst hcat hdg kk
theorem cv_an_101 {p : Program} {l : Launch} {e : Env} {R : Room} {s : State} {m : MethodId} {args : Array Value} {below : List Frame} {meth : Method} {c : Code} {H : Heap} {locs : List Loc} {cells slots : Nat} {Q : State → Prop} {D : va_G} {cA : Nat → ClassId} {base : Nat} {w w' : WW} {cc : ByteArray} {pc nL : Nat} {ls : Array Slot} {rest st0 As : List Value} {ov : Option Value} {b : Nat} (hx : p.tables.exec = Jvm.exec) (hb : c.code = cc) (hml : c.maxLocals = nL) (hown : s.vm.findClass Rc_an = some m.cls) (hts : ∀ w ∈ gt, w.before args s = true) (hK : va_K D cls (wo_tys cA) s) (hG : wo_G cA base s) (hW : wo_S D cls cA base s w H locs) (hM : mt l D cls (wo_tys cA) cA base y_an_goStore (Cond.code y_an_goStore b_an_goStore 7 (none) :: gt) rm_an_goStore (.ref (base + b) :: As) w ov w' rm_an_goStore.cells rm_an_goStore.slots) (hkb : kb w b 6 = true) (hR : rm_an_goStore.frames + 1 ≤ R.frames ∧ 8 + (7 + 11) + rm_an_goStore.locals ≤ R.locals) (hf : cells + rm_an_goStore.cells ≤ R.cells ∧ slots + rm_an_goStore.slots ≤ R.slots) (hn : As.length = 2) (hsz : ls.size = nL) (hst : st0 = As.reverse ++ .ref (base + b) :: rest) (hcat : (rest.map fun v => v.category).sum ≤ 8) (hdg : decode cc pc = .ok (.invokevirtual 101, 3)) (kk : ∀ (H1 : Heap) (locs1 : List Loc), wo_S D cls cA base s w' H1 locs1 → W p l e R s m args below meth c H1 locs1 (cells + rm_an_goStore.cells) (slots + rm_an_goStore.slots) Q (F0 m (pc + 3) ls (ov.toList ++ rest))) : W p l e R s m args below meth c H locs cells slots Q (F0 m pc ls st0) :=
  wo_callV (C := Rc_an) hx hb hml hown hts hK hG hW hM hkb rfl (gt_of (i := 1008) (by decide +kernel) (by decide +kernel)) (gt_of (i := 1010) (by decide +kernel) (by decide +kernel)) (gt_sel (i := 45) (by decide +kernel) (by decide +kernel)) (gt_of (i := 7) (by decide +kernel) (by decide +kernel)) (gt_of (i := 1011) (by decide +kernel) (by decide +kernel)) (by decide +kernel) hR hf hn hsz hst hcat hdg kk
theorem cv_an_104 {p : Program} {l : Launch} {e : Env} {R : Room} {s : State} {m : MethodId} {args : Array Value} {below : List Frame} {meth : Method} {c : Code} {H : Heap} {locs : List Loc} {cells slots : Nat} {Q : State → Prop} {D : va_G} {cA : Nat → ClassId} {base : Nat} {w w' : WW} {cc : ByteArray} {pc nL d : Nat} {ls : Array Slot} {rest st0 As : List Value} {ov : Option Value} {b : Nat} (hx : p.tables.exec = Jvm.exec) (hb : c.code = cc) (hml : c.maxLocals = nL) (hown : s.vm.findClass Rc_an = some m.cls) (hts : ∀ w ∈ gt, w.before args s = true) (hK : va_K D cls (wo_tys cA) s) (hG : wo_G cA base s) (hW : wo_S D cls cA base s w H locs) (hM : mt l D cls (wo_tys cA) cA base y_an_goIf (Cond.code y_an_goIf b_an_goIf 5 (none) :: gt) (rm_an_goIf d) (.ref (base + b) :: As) w ov w' (rm_an_goIf d).cells (rm_an_goIf d).slots) (hkb : kb w b 6 = true) (hR : (rm_an_goIf d).frames + 1 ≤ R.frames ∧ 8 + (5 + 11) + (rm_an_goIf d).locals ≤ R.locals) (hf : cells + (rm_an_goIf d).cells ≤ R.cells ∧ slots + (rm_an_goIf d).slots ≤ R.slots) (hn : As.length = 3) (hsz : ls.size = nL) (hst : st0 = As.reverse ++ .ref (base + b) :: rest) (hcat : (rest.map fun v => v.category).sum ≤ 8) (hdg : decode cc pc = .ok (.invokevirtual 104, 3)) (kk : ∀ (H1 : Heap) (locs1 : List Loc), wo_S D cls cA base s w' H1 locs1 → W p l e R s m args below meth c H1 locs1 (cells + (rm_an_goIf d).cells) (slots + (rm_an_goIf d).slots) Q (F0 m (pc + 3) ls (ov.toList ++ rest))) : W p l e R s m args below meth c H locs cells slots Q (F0 m pc ls st0) :=
  wo_callV (C := Rc_an) hx hb hml hown hts hK hG hW hM hkb rfl (gt_of (i := 1012) (by decide +kernel) (by decide +kernel)) (gt_of (i := 1014) (by decide +kernel) (by decide +kernel)) (gt_sel (i := 46) (by decide +kernel) (by decide +kernel)) (gt_of (i := 7) (by decide +kernel) (by decide +kernel)) (gt_of (i := 1015) (by decide +kernel) (by decide +kernel)) (by decide +kernel) hR hf hn hsz hst hcat hdg kk
theorem cv_an_107 {p : Program} {l : Launch} {e : Env} {R : Room} {s : State} {m : MethodId} {args : Array Value} {below : List Frame} {meth : Method} {c : Code} {H : Heap} {locs : List Loc} {cells slots : Nat} {Q : State → Prop} {D : va_G} {cA : Nat → ClassId} {base : Nat} {w w' : WW} {cc : ByteArray} {pc nL d : Nat} {ls : Array Slot} {rest st0 As : List Value} {ov : Option Value} {b : Nat} (hx : p.tables.exec = Jvm.exec) (hb : c.code = cc) (hml : c.maxLocals = nL) (hown : s.vm.findClass Rc_an = some m.cls) (hts : ∀ w ∈ gt, w.before args s = true) (hK : va_K D cls (wo_tys cA) s) (hG : wo_G cA base s) (hW : wo_S D cls cA base s w H locs) (hM : mt l D cls (wo_tys cA) cA base y_an_goWhile (Cond.code y_an_goWhile b_an_goWhile 8 (none) :: gt) (rm_an_goWhile d) (.ref (base + b) :: As) w ov w' (rm_an_goWhile d).cells (rm_an_goWhile d).slots) (hkb : kb w b 6 = true) (hR : (rm_an_goWhile d).frames + 1 ≤ R.frames ∧ 8 + (8 + 11) + (rm_an_goWhile d).locals ≤ R.locals) (hf : cells + (rm_an_goWhile d).cells ≤ R.cells ∧ slots + (rm_an_goWhile d).slots ≤ R.slots) (hn : As.length = 3) (hsz : ls.size = nL) (hst : st0 = As.reverse ++ .ref (base + b) :: rest) (hcat : (rest.map fun v => v.category).sum ≤ 8) (hdg : decode cc pc = .ok (.invokevirtual 107, 3)) (kk : ∀ (H1 : Heap) (locs1 : List Loc), wo_S D cls cA base s w' H1 locs1 → W p l e R s m args below meth c H1 locs1 (cells + (rm_an_goWhile d).cells) (slots + (rm_an_goWhile d).slots) Q (F0 m (pc + 3) ls (ov.toList ++ rest))) : W p l e R s m args below meth c H locs cells slots Q (F0 m pc ls st0) :=
  wo_callV (C := Rc_an) hx hb hml hown hts hK hG hW hM hkb rfl (gt_of (i := 1087) (by decide +kernel) (by decide +kernel)) (gt_of (i := 1089) (by decide +kernel) (by decide +kernel)) (gt_sel (i := 54) (by decide +kernel) (by decide +kernel)) (gt_of (i := 7) (by decide +kernel) (by decide +kernel)) (gt_of (i := 1090) (by decide +kernel) (by decide +kernel)) (by decide +kernel) hR hf hn hsz hst hcat hdg kk
theorem cv_an_110 {p : Program} {l : Launch} {e : Env} {R : Room} {s : State} {m : MethodId} {args : Array Value} {below : List Frame} {meth : Method} {c : Code} {H : Heap} {locs : List Loc} {cells slots : Nat} {Q : State → Prop} {D : va_G} {cA : Nat → ClassId} {base : Nat} {w w' : WW} {cc : ByteArray} {pc nL : Nat} {ls : Array Slot} {rest st0 As : List Value} {ov : Option Value} {b : Nat} (hx : p.tables.exec = Jvm.exec) (hb : c.code = cc) (hml : c.maxLocals = nL) (hown : s.vm.findClass Rc_an = some m.cls) (hts : ∀ w ∈ gt, w.before args s = true) (hK : va_K D cls (wo_tys cA) s) (hG : wo_G cA base s) (hW : wo_S D cls cA base s w H locs) (hM : mt l D cls (wo_tys cA) cA base y_an_goAssert (Cond.code y_an_goAssert b_an_goAssert 5 (none) :: gt) rm_an_goAssert (.ref (base + b) :: As) w ov w' rm_an_goAssert.cells rm_an_goAssert.slots) (hkb : kb w b 6 = true) (hR : rm_an_goAssert.frames + 1 ≤ R.frames ∧ 8 + (5 + 11) + rm_an_goAssert.locals ≤ R.locals) (hf : cells + rm_an_goAssert.cells ≤ R.cells ∧ slots + rm_an_goAssert.slots ≤ R.slots) (hn : As.length = 3) (hsz : ls.size = nL) (hst : st0 = As.reverse ++ .ref (base + b) :: rest) (hcat : (rest.map fun v => v.category).sum ≤ 8) (hdg : decode cc pc = .ok (.invokevirtual 110, 3)) (kk : ∀ (H1 : Heap) (locs1 : List Loc), wo_S D cls cA base s w' H1 locs1 → W p l e R s m args below meth c H1 locs1 (cells + rm_an_goAssert.cells) (slots + rm_an_goAssert.slots) Q (F0 m (pc + 3) ls (ov.toList ++ rest))) : W p l e R s m args below meth c H locs cells slots Q (F0 m pc ls st0) :=
  wo_callV (C := Rc_an) hx hb hml hown hts hK hG hW hM hkb rfl (gt_of (i := 1116) (by decide +kernel) (by decide +kernel)) (gt_of (i := 1118) (by decide +kernel) (by decide +kernel)) (gt_sel (i := 57) (by decide +kernel) (by decide +kernel)) (gt_of (i := 7) (by decide +kernel) (by decide +kernel)) (gt_of (i := 1119) (by decide +kernel) (by decide +kernel)) (by decide +kernel) hR hf hn hsz hst hcat hdg kk
theorem cv_an_63 {p : Program} {l : Launch} {e : Env} {R : Room} {s : State} {m : MethodId} {args : Array Value} {below : List Frame} {meth : Method} {c : Code} {H : Heap} {locs : List Loc} {cells slots : Nat} {Q : State → Prop} {D : va_G} {cA : Nat → ClassId} {base : Nat} {w w' : WW} {cc : ByteArray} {pc nL d : Nat} {ls : Array Slot} {rest st0 As : List Value} {ov : Option Value} {b : Nat} (hx : p.tables.exec = Jvm.exec) (hb : c.code = cc) (hml : c.maxLocals = nL) (hown : s.vm.findClass Rc_an = some m.cls) (hts : ∀ w ∈ gt, w.before args s = true) (hK : va_K D cls (wo_tys cA) s) (hG : wo_G cA base s) (hW : wo_S D cls cA base s w H locs) (hM : mt l D cls (wo_tys cA) cA base y_an_goStatements (Cond.code y_an_goStatements b_an_goStatements 5 (none) :: gt) (rm_an_goStatements d) (.ref (base + b) :: As) w ov w' (rm_an_goStatements d).cells (rm_an_goStatements d).slots) (hkb : kb w b 6 = true) (hR : (rm_an_goStatements d).frames + 1 ≤ R.frames ∧ 8 + (5 + 11) + (rm_an_goStatements d).locals ≤ R.locals) (hf : cells + (rm_an_goStatements d).cells ≤ R.cells ∧ slots + (rm_an_goStatements d).slots ≤ R.slots) (hn : As.length = 3) (hsz : ls.size = nL) (hst : st0 = As.reverse ++ .ref (base + b) :: rest) (hcat : (rest.map fun v => v.category).sum ≤ 8) (hdg : decode cc pc = .ok (.invokevirtual 63, 3)) (kk : ∀ (H1 : Heap) (locs1 : List Loc), wo_S D cls cA base s w' H1 locs1 → W p l e R s m args below meth c H1 locs1 (cells + (rm_an_goStatements d).cells) (slots + (rm_an_goStatements d).slots) Q (F0 m (pc + 3) ls (ov.toList ++ rest))) : W p l e R s m args below meth c H locs cells slots Q (F0 m pc ls st0) :=
  wo_callV (C := Rc_an) hx hb hml hown hts hK hG hW hM hkb rfl (gt_of (i := 905) (by decide +kernel) (by decide +kernel)) (gt_of (i := 907) (by decide +kernel) (by decide +kernel)) (gt_sel (i := 37) (by decide +kernel) (by decide +kernel)) (gt_of (i := 7) (by decide +kernel) (by decide +kernel)) (gt_of (i := 908) (by decide +kernel) (by decide +kernel)) (by decide +kernel) hR hf hn hsz hst hcat hdg kk
theorem cv_an_160 {p : Program} {l : Launch} {e : Env} {R : Room} {s : State} {m : MethodId} {args : Array Value} {below : List Frame} {meth : Method} {c : Code} {H : Heap} {locs : List Loc} {cells slots : Nat} {Q : State → Prop} {D : va_G} {cA : Nat → ClassId} {base : Nat} {w w' : WW} {cc : ByteArray} {pc nL : Nat} {ls : Array Slot} {rest st0 As : List Value} {ov : Option Value} {b : Nat} (hx : p.tables.exec = Jvm.exec) (hb : c.code = cc) (hml : c.maxLocals = nL) (hown : s.vm.findClass Rc_an = some m.cls) (hts : ∀ w ∈ gt, w.before args s = true) (hK : va_K D cls (wo_tys cA) s) (hG : wo_G cA base s) (hW : wo_S D cls cA base s w H locs) (hM : mt l D cls (wo_tys cA) cA base y_sa_join (Cond.code y_sa_join b_sa_join 2 (none) :: gt) rm_sa_join (.ref (base + b) :: As) w ov w' rm_sa_join.cells rm_sa_join.slots) (hkb : kb w b 7 = true) (hR : rm_sa_join.frames + 1 ≤ R.frames ∧ 8 + (2 + 11) + rm_sa_join.locals ≤ R.locals) (hf : cells + rm_sa_join.cells ≤ R.cells ∧ slots + rm_sa_join.slots ≤ R.slots) (hn : As.length = 1) (hsz : ls.size = nL) (hst : st0 = As.reverse ++ .ref (base + b) :: rest) (hcat : (rest.map fun v => v.category).sum ≤ 8) (hdg : decode cc pc = .ok (.invokevirtual 160, 3)) (kk : ∀ (H1 : Heap) (locs1 : List Loc), wo_S D cls cA base s w' H1 locs1 → W p l e R s m args below meth c H1 locs1 (cells + rm_sa_join.cells) (slots + rm_sa_join.slots) Q (F0 m (pc + 3) ls (ov.toList ++ rest))) : W p l e R s m args below meth c H locs cells slots Q (F0 m pc ls st0) :=
  wo_callV (C := Rc_sa) hx hb hml hown hts hK hG hW hM hkb rfl (gt_of (i := 1064) (by decide +kernel) (by decide +kernel)) (gt_of (i := 1065) (by decide +kernel) (by decide +kernel)) (gt_of (i := 1066) (by decide +kernel) (by decide +kernel)) (gt_of (i := 8) (by decide +kernel) (by decide +kernel)) (gt_of (i := 1067) (by decide +kernel) (by decide +kernel)) (by decide +kernel) hR hf hn hsz hst hcat hdg kk
theorem cv_an_162 {p : Program} {l : Launch} {e : Env} {R : Room} {s : State} {m : MethodId} {args : Array Value} {below : List Frame} {meth : Method} {c : Code} {H : Heap} {locs : List Loc} {cells slots : Nat} {Q : State → Prop} {D : va_G} {cA : Nat → ClassId} {base : Nat} {w w' : WW} {cc : ByteArray} {pc nL d : Nat} {ls : Array Slot} {rest st0 As : List Value} {ov : Option Value} {b : Nat} (hx : p.tables.exec = Jvm.exec) (hb : c.code = cc) (hml : c.maxLocals = nL) (hown : s.vm.findClass Rc_an = some m.cls) (hts : ∀ w ∈ gt, w.before args s = true) (hK : va_K D cls (wo_tys cA) s) (hG : wo_G cA base s) (hW : wo_S D cls cA base s w H locs) (hM : mt l D cls (wo_tys cA) cA base y_an_settle (Cond.code y_an_settle b_an_settle 7 (none) :: gt) (rm_an_settle d) (.ref (base + b) :: As) w ov w' (rm_an_settle d).cells (rm_an_settle d).slots) (hkb : kb w b 6 = true) (hR : (rm_an_settle d).frames + 1 ≤ R.frames ∧ 8 + (7 + 11) + (rm_an_settle d).locals ≤ R.locals) (hf : cells + (rm_an_settle d).cells ≤ R.cells ∧ slots + (rm_an_settle d).slots ≤ R.slots) (hn : As.length = 3) (hsz : ls.size = nL) (hst : st0 = As.reverse ++ .ref (base + b) :: rest) (hcat : (rest.map fun v => v.category).sum ≤ 8) (hdg : decode cc pc = .ok (.invokevirtual 162, 3)) (kk : ∀ (H1 : Heap) (locs1 : List Loc), wo_S D cls cA base s w' H1 locs1 → W p l e R s m args below meth c H1 locs1 (cells + (rm_an_settle d).cells) (slots + (rm_an_settle d).slots) Q (F0 m (pc + 3) ls (ov.toList ++ rest))) : W p l e R s m args below meth c H locs cells slots Q (F0 m pc ls st0) :=
  wo_callV (C := Rc_an) hx hb hml hown hts hK hG hW hM hkb rfl (gt_of (i := 1091) (by decide +kernel) (by decide +kernel)) (gt_of (i := 1093) (by decide +kernel) (by decide +kernel)) (gt_sel (i := 55) (by decide +kernel) (by decide +kernel)) (gt_of (i := 7) (by decide +kernel) (by decide +kernel)) (gt_of (i := 1094) (by decide +kernel) (by decide +kernel)) (by decide +kernel) hR hf hn hsz hst hcat hdg kk
theorem cv_an_165 {p : Program} {l : Launch} {e : Env} {R : Room} {s : State} {m : MethodId} {args : Array Value} {below : List Frame} {meth : Method} {c : Code} {H : Heap} {locs : List Loc} {cells slots : Nat} {Q : State → Prop} {D : va_G} {cA : Nat → ClassId} {base : Nat} {w w' : WW} {cc : ByteArray} {pc nL d : Nat} {ls : Array Slot} {rest st0 As : List Value} {ov : Option Value} {b : Nat} (hx : p.tables.exec = Jvm.exec) (hb : c.code = cc) (hml : c.maxLocals = nL) (hown : s.vm.findClass Rc_an = some m.cls) (hts : ∀ w ∈ gt, w.before args s = true) (hK : va_K D cls (wo_tys cA) s) (hG : wo_G cA base s) (hW : wo_S D cls cA base s w H locs) (hM : mt l D cls (wo_tys cA) cA base y_an_goPass (Cond.code y_an_goPass b_an_goPass 6 (none) :: gt) (rm_an_goPass d) (.ref (base + b) :: As) w ov w' (rm_an_goPass d).cells (rm_an_goPass d).slots) (hkb : kb w b 6 = true) (hR : (rm_an_goPass d).frames + 1 ≤ R.frames ∧ 8 + (6 + 11) + (rm_an_goPass d).locals ≤ R.locals) (hf : cells + (rm_an_goPass d).cells ≤ R.cells ∧ slots + (rm_an_goPass d).slots ≤ R.slots) (hn : As.length = 3) (hsz : ls.size = nL) (hst : st0 = As.reverse ++ .ref (base + b) :: rest) (hcat : (rest.map fun v => v.category).sum ≤ 8) (hdg : decode cc pc = .ok (.invokevirtual 165, 3)) (kk : ∀ (H1 : Heap) (locs1 : List Loc), wo_S D cls cA base s w' H1 locs1 → W p l e R s m args below meth c H1 locs1 (cells + (rm_an_goPass d).cells) (slots + (rm_an_goPass d).slots) Q (F0 m (pc + 3) ls (ov.toList ++ rest))) : W p l e R s m args below meth c H locs cells slots Q (F0 m pc ls st0) :=
  wo_callV (C := Rc_an) hx hb hml hown hts hK hG hW hM hkb rfl (gt_of (i := 1095) (by decide +kernel) (by decide +kernel)) (gt_of (i := 1097) (by decide +kernel) (by decide +kernel)) (gt_sel (i := 56) (by decide +kernel) (by decide +kernel)) (gt_of (i := 7) (by decide +kernel) (by decide +kernel)) (gt_of (i := 1098) (by decide +kernel) (by decide +kernel)) (by decide +kernel) hR hf hn hsz hst hcat hdg kk
theorem cv_an_168 {p : Program} {l : Launch} {e : Env} {R : Room} {s : State} {m : MethodId} {args : Array Value} {below : List Frame} {meth : Method} {c : Code} {H : Heap} {locs : List Loc} {cells slots : Nat} {Q : State → Prop} {D : va_G} {cA : Nat → ClassId} {base : Nat} {w w' : WW} {cc : ByteArray} {pc nL : Nat} {ls : Array Slot} {rest st0 As : List Value} {ov : Option Value} {b : Nat} (hx : p.tables.exec = Jvm.exec) (hb : c.code = cc) (hml : c.maxLocals = nL) (hown : s.vm.findClass Rc_an = some m.cls) (hts : ∀ w ∈ gt, w.before args s = true) (hK : va_K D cls (wo_tys cA) s) (hG : wo_G cA base s) (hW : wo_S D cls cA base s w H locs) (hM : mt l D cls (wo_tys cA) cA base y_sa_sameAs (Cond.code y_sa_sameAs b_sa_sameAs 3 (some .boolean) :: gt) rm_sa_sameAs (.ref (base + b) :: As) w ov w' rm_sa_sameAs.cells rm_sa_sameAs.slots) (hkb : kb w b 7 = true) (hR : rm_sa_sameAs.frames + 1 ≤ R.frames ∧ 8 + (3 + 11) + rm_sa_sameAs.locals ≤ R.locals) (hf : cells + rm_sa_sameAs.cells ≤ R.cells ∧ slots + rm_sa_sameAs.slots ≤ R.slots) (hn : As.length = 1) (hsz : ls.size = nL) (hst : st0 = As.reverse ++ .ref (base + b) :: rest) (hcat : (rest.map fun v => v.category).sum ≤ 8) (hdg : decode cc pc = .ok (.invokevirtual 168, 3)) (kk : ∀ (H1 : Heap) (locs1 : List Loc), wo_S D cls cA base s w' H1 locs1 → W p l e R s m args below meth c H1 locs1 (cells + rm_sa_sameAs.cells) (slots + rm_sa_sameAs.slots) Q (F0 m (pc + 3) ls (ov.toList ++ rest))) : W p l e R s m args below meth c H locs cells slots Q (F0 m pc ls st0) :=
  wo_callV (C := Rc_sa) hx hb hml hown hts hK hG hW hM hkb rfl (gt_of (i := 1099) (by decide +kernel) (by decide +kernel)) (gt_of (i := 1100) (by decide +kernel) (by decide +kernel)) (gt_of (i := 1101) (by decide +kernel) (by decide +kernel)) (gt_of (i := 8) (by decide +kernel) (by decide +kernel)) (gt_of (i := 1102) (by decide +kernel) (by decide +kernel)) (by decide +kernel) hR hf hn hsz hst hcat hdg kk
theorem cv_an_172 {p : Program} {l : Launch} {e : Env} {R : Room} {s : State} {m : MethodId} {args : Array Value} {below : List Frame} {meth : Method} {c : Code} {H : Heap} {locs : List Loc} {cells slots : Nat} {Q : State → Prop} {D : va_G} {cA : Nat → ClassId} {base : Nat} {w w' : WW} {cc : ByteArray} {pc nL : Nat} {ls : Array Slot} {rest st0 As : List Value} {ov : Option Value} {b : Nat} (hx : p.tables.exec = Jvm.exec) (hb : c.code = cc) (hml : c.maxLocals = nL) (hown : s.vm.findClass Rc_an = some m.cls) (hts : ∀ w ∈ gt, w.before args s = true) (hK : va_K D cls (wo_tys cA) s) (hG : wo_G cA base s) (hW : wo_S D cls cA base s w H locs) (hM : mt l D cls (wo_tys cA) cA base y_sa_widen (Cond.code y_sa_widen b_sa_widen 2 (none) :: gt) rm_sa_widen (.ref (base + b) :: As) w ov w' rm_sa_widen.cells rm_sa_widen.slots) (hkb : kb w b 7 = true) (hR : rm_sa_widen.frames + 1 ≤ R.frames ∧ 8 + (2 + 11) + rm_sa_widen.locals ≤ R.locals) (hf : cells + rm_sa_widen.cells ≤ R.cells ∧ slots + rm_sa_widen.slots ≤ R.slots) (hn : As.length = 1) (hsz : ls.size = nL) (hst : st0 = As.reverse ++ .ref (base + b) :: rest) (hcat : (rest.map fun v => v.category).sum ≤ 8) (hdg : decode cc pc = .ok (.invokevirtual 172, 3)) (kk : ∀ (H1 : Heap) (locs1 : List Loc), wo_S D cls cA base s w' H1 locs1 → W p l e R s m args below meth c H1 locs1 (cells + rm_sa_widen.cells) (slots + rm_sa_widen.slots) Q (F0 m (pc + 3) ls (ov.toList ++ rest))) : W p l e R s m args below meth c H locs cells slots Q (F0 m pc ls st0) :=
  wo_callV (C := Rc_sa) hx hb hml hown hts hK hG hW hM hkb rfl (gt_of (i := 1107) (by decide +kernel) (by decide +kernel)) (gt_of (i := 1108) (by decide +kernel) (by decide +kernel)) (gt_of (i := 1109) (by decide +kernel) (by decide +kernel)) (gt_of (i := 8) (by decide +kernel) (by decide +kernel)) (gt_of (i := 1110) (by decide +kernel) (by decide +kernel)) (by decide +kernel) hR hf hn hsz hst hcat hdg kk
theorem cv_an_175 {p : Program} {l : Launch} {e : Env} {R : Room} {s : State} {m : MethodId} {args : Array Value} {below : List Frame} {meth : Method} {c : Code} {H : Heap} {locs : List Loc} {cells slots : Nat} {Q : State → Prop} {D : va_G} {cA : Nat → ClassId} {base : Nat} {w w' : WW} {cc : ByteArray} {pc nL : Nat} {ls : Array Slot} {rest st0 As : List Value} {ov : Option Value} {b : Nat} (hx : p.tables.exec = Jvm.exec) (hb : c.code = cc) (hml : c.maxLocals = nL) (hown : s.vm.findClass Rc_an = some m.cls) (hts : ∀ w ∈ gt, w.before args s = true) (hK : va_K D cls (wo_tys cA) s) (hG : wo_G cA base s) (hW : wo_S D cls cA base s w H locs) (hM : mt l D cls (wo_tys cA) cA base y_sa_setAllInts (Cond.code y_sa_setAllInts b_sa_setAllInts 2 (none) :: gt) rm_sa_setAllInts (.ref (base + b) :: As) w ov w' rm_sa_setAllInts.cells rm_sa_setAllInts.slots) (hkb : kb w b 7 = true) (hR : rm_sa_setAllInts.frames + 1 ≤ R.frames ∧ 8 + (2 + 11) + rm_sa_setAllInts.locals ≤ R.locals) (hf : cells + rm_sa_setAllInts.cells ≤ R.cells ∧ slots + rm_sa_setAllInts.slots ≤ R.slots) (hn : As.length = 0) (hsz : ls.size = nL) (hst : st0 = As.reverse ++ .ref (base + b) :: rest) (hcat : (rest.map fun v => v.category).sum ≤ 8) (hdg : decode cc pc = .ok (.invokevirtual 175, 3)) (kk : ∀ (H1 : Heap) (locs1 : List Loc), wo_S D cls cA base s w' H1 locs1 → W p l e R s m args below meth c H1 locs1 (cells + rm_sa_setAllInts.cells) (slots + rm_sa_setAllInts.slots) Q (F0 m (pc + 3) ls (ov.toList ++ rest))) : W p l e R s m args below meth c H locs cells slots Q (F0 m pc ls st0) :=
  wo_callV (C := Rc_sa) hx hb hml hown hts hK hG hW hM hkb rfl (gt_of (i := 1111) (by decide +kernel) (by decide +kernel)) (gt_of (i := 1112) (by decide +kernel) (by decide +kernel)) (gt_of (i := 1113) (by decide +kernel) (by decide +kernel)) (gt_of (i := 8) (by decide +kernel) (by decide +kernel)) (gt_of (i := 1114) (by decide +kernel) (by decide +kernel)) (by decide +kernel) hR hf hn hsz hst hcat hdg kk
theorem d_an_goStatements_0 : decode b_an_goStatements 0 = .ok (.iload_n 3, 1) := by decide +kernel
theorem d_an_goStatements_1 : decode b_an_goStatements 1 = .ok (.iconst 3, 1) := by decide +kernel
theorem d_an_goStatements_2 : decode b_an_goStatements 2 = .ok (.if_icmp .le (4), 3) := by decide +kernel
theorem d_an_goStatements_5 : decode b_an_goStatements 5 = .ok (.return_, 1) := by decide +kernel
theorem d_an_goStatements_6 : decode b_an_goStatements 6 = .ok (.aload_n 1, 1) := by decide +kernel
theorem d_an_goStatements_7 : decode b_an_goStatements 7 = .ok (.astore 4, 2) := by decide +kernel
theorem d_an_goStatements_9 : decode b_an_goStatements 9 = .ok (.aload 4, 2) := by decide +kernel
theorem d_an_goStatements_11 : decode b_an_goStatements 11 = .ok (.ifnull (28), 3) := by decide +kernel
theorem d_an_goStatements_14 : decode b_an_goStatements 14 = .ok (.aload_n 2, 1) := by decide +kernel
theorem d_an_goStatements_15 : decode b_an_goStatements 15 = .ok (.getfield 70, 3) := by decide +kernel
theorem d_an_goStatements_18 : decode b_an_goStatements 18 = .ok (.ifCond .ne (21), 3) := by decide +kernel
theorem d_an_goStatements_21 : decode b_an_goStatements 21 = .ok (.aload_n 0, 1) := by decide +kernel
theorem d_an_goStatements_22 : decode b_an_goStatements 22 = .ok (.aload 4, 2) := by decide +kernel
theorem d_an_goStatements_24 : decode b_an_goStatements 24 = .ok (.aload_n 2, 1) := by decide +kernel
theorem d_an_goStatements_25 : decode b_an_goStatements 25 = .ok (.iload_n 3, 1) := by decide +kernel
theorem d_an_goStatements_26 : decode b_an_goStatements 26 = .ok (.invokevirtual 73, 3) := by decide +kernel
theorem d_an_goStatements_29 : decode b_an_goStatements 29 = .ok (.aload 4, 2) := by decide +kernel
theorem d_an_goStatements_31 : decode b_an_goStatements 31 = .ok (.getfield 76, 3) := by decide +kernel
theorem d_an_goStatements_34 : decode b_an_goStatements 34 = .ok (.astore 4, 2) := by decide +kernel
theorem d_an_goStatements_36 : decode b_an_goStatements 36 = .ok (.goto (-27), 3) := by decide +kernel
theorem d_an_goStatements_39 : decode b_an_goStatements 39 = .ok (.return_, 1) := by decide +kernel
theorem kbo_an_goStatements {g_an_goStatements : Nat → Option Nat → Nat → Int32 → WW → Option WW} {g_an_goStatement : Nat → Option Nat → Nat → Int32 → WW → Option WW} {g_an_goIf : Nat → Option Nat → Nat → Int32 → WW → Option WW} {g_an_goWhile : Nat → Option Nat → Nat → Int32 → WW → Option WW} {g_an_settle : Nat → Option Nat → Nat → Int32 → WW → Option WW} {g_an_goPass : Nat → Option Nat → Nat → Int32 → WW → Option WW} {a0 a2 : Nat} {a1 : Option Nat} {a3 : Int32} {w : WW} {r : WW} (h : fo_an_goStatements g_an_goStatements g_an_goStatement g_an_goIf g_an_goWhile g_an_settle g_an_goPass a0 a1 a2 a3 w = some r) : kb w a0 6 = true := (its h).1
set_option maxHeartbeats 4000000 in
set_option maxRecDepth 100000 in
theorem j_an_goStatements_39 {p : Program} {l : Launch} {e : Env} {s : State} {m : MethodId} {args : Array Value} {below : List Frame} {meth : Method} {c : Code} {D : va_G} {cA : Nat → ClassId} {base : Nat} {w' : WW} (C : cx b_an_goStatements (none) 5 y_an_goStatements.cls "goStatements" p s m args meth c D cA base) {d : Nat} {g_an_goStatements : Nat → Option Nat → Nat → Int32 → WW → Option WW} {g_an_goStatement : Nat → Option Nat → Nat → Int32 → WW → Option WW} {g_an_goIf : Nat → Option Nat → Nat → Int32 → WW → Option WW} {g_an_goWhile : Nat → Option Nat → Nat → Int32 → WW → Option WW} {g_an_settle : Nat → Option Nat → Nat → Int32 → WW → Option WW} {g_an_goPass : Nat → Option Nat → Nat → Int32 → WW → Option WW} (HG : sA_an6 l D cA base d g_an_goStatements g_an_goStatement g_an_goIf g_an_goWhile g_an_settle g_an_goPass )   : ∀  (w : WW), f_an_goStatements_39 g_an_goStatements g_an_goStatement g_an_goIf g_an_goWhile g_an_settle g_an_goPass  w = some w' → ∀ (H : Heap) (locs : List Loc) (ls : Array Slot), wo_S D cls cA base s w H locs → lv_has ls 5 [] → W p l e (rm_an_goStatements (d + 1)) s m args below meth c H locs 0 0 (MQ below (wo_Q D cls cA base none w') args s (rm_an_goStatements (d + 1)).cells (rm_an_goStatements (d + 1)).slots (wo_B base)) (F0 m 39 ls []) := by
  obtain ⟨hx, hb, hr, hml, hown, hts, hlk, hnm, hK, hG⟩ := id C
  intro  w h H locs ls hW hl
  unfold f_an_goStatements_39 at h
  cases h
  exact wo_vret hx hb hr hlk hW d_an_goStatements_39
set_option maxHeartbeats 4000000 in
set_option maxRecDepth 100000 in
theorem j_an_goStatements_9 {p : Program} {l : Launch} {e : Env} {s : State} {m : MethodId} {args : Array Value} {below : List Frame} {meth : Method} {c : Code} {D : va_G} {cA : Nat → ClassId} {base : Nat} {w' : WW} (C : cx b_an_goStatements (none) 5 y_an_goStatements.cls "goStatements" p s m args meth c D cA base) {d : Nat} {g_an_goStatements : Nat → Option Nat → Nat → Int32 → WW → Option WW} {g_an_goStatement : Nat → Option Nat → Nat → Int32 → WW → Option WW} {g_an_goIf : Nat → Option Nat → Nat → Int32 → WW → Option WW} {g_an_goWhile : Nat → Option Nat → Nat → Int32 → WW → Option WW} {g_an_settle : Nat → Option Nat → Nat → Int32 → WW → Option WW} {g_an_goPass : Nat → Option Nat → Nat → Int32 → WW → Option WW} (HG : sA_an6 l D cA base d g_an_goStatements g_an_goStatement g_an_goIf g_an_goWhile g_an_settle g_an_goPass )   : ∀ n : Nat, ∀ (y0 : Nat) (y2 : Nat) (y3 : Int32) (y4 : Option Nat) (w : WW), f_an_goStatements_9 g_an_goStatements g_an_goStatement g_an_goIf g_an_goWhile g_an_settle g_an_goPass n y0 y2 y3 y4 w = some w' → ∀ (H : Heap) (locs : List Loc) (ls : Array Slot), wo_S D cls cA base s w H locs → lv_has ls 5 [(0, .ref (base + y0)), (2, .ref (base + y2)), (3, .int y3), (4, rb base y4)] → W p l e (rm_an_goStatements (d + 1)) s m args below meth c H locs 0 0 (MQ below (wo_Q D cls cA base none w') args s (rm_an_goStatements (d + 1)).cells (rm_an_goStatements (d + 1)).slots (wo_B base)) (F0 m 9 ls []) := by
  obtain ⟨hx, hb, hr, hml, hown, hts, hlk, hnm, hK, hG⟩ := id C
  intro n
  induction n with
  | zero => intro y0 y2 y3 y4 w h; cases h
  | succ n ih =>
    intro y0 y2 y3 y4 w h H locs ls hW hl
    rw [f_an_goStatements_9] at h
    refine wo_aload hx hb d_an_goStatements_9 (lv_at hl 3 rfl) ?_
    refine wo_ifnull (tgt := 39) hx hb d_an_goStatements_11 (by decide) (fun ex2 => ?_) (fun x2 ex2 => ?_)
    · subst ex2
      dsimp only [nl] at h
      have hl : lv_has ls 5 [(0, .ref (base + y0)), (2, .ref (base + y2)), (3, .int y3), (4, rb base none)] := hl
      exact j_an_goStatements_39 C HG w h _ _ _ hW (lv_sub hl [] rfl)
    · subst ex2
      dsimp only [nl] at h
      have hl : lv_has ls 5 [(0, .ref (base + y0)), (2, .ref (base + y2)), (3, .int y3), (4, .ref (base + x2))] := hl
      refine lv_aload_n hx hb d_an_goStatements_14 rfl (lv_at hl 1 rfl) ?_
      replace h := bs h
      obtain ⟨x3, hx3, h⟩ := h
      refine gf_an_70 hx hb hts hown hK hG hW (gI_s hx3) d_an_goStatements_15 ?_
      refine lv_if_ne (tgt := 39) hx hb d_an_goStatements_18 (by decide) (fun c4 => ?_) (fun c4 => ?_)
      · rw [if_neg c4] at h
        exact j_an_goStatements_39 C HG w h _ _ _ hW (lv_sub hl [] rfl)
      · rw [if_pos c4] at h
        refine lv_aload_n hx hb d_an_goStatements_21 rfl (lv_at hl 0 rfl) ?_
        refine lv_aload hx hb d_an_goStatements_22 (lv_at hl 3 rfl) ?_
        refine lv_aload_n hx hb d_an_goStatements_24 rfl (lv_at hl 1 rfl) ?_
        refine lv_iload_n hx hb d_an_goStatements_25 rfl (lv_at hl 2 rfl) ?_
        replace h := bs h
        obtain ⟨w5, hw5, h⟩ := h
        refine cv_an_73 (As := [rb base (some x2), .ref (base + y2), .int y3]) (rest := []) hx hb hml hown hts hK hG hW (HG.2.1.1 hw5) (HG.2.1.2 hw5) ⟨by show 7 + 1 * d + 1 ≤ 7 + 1 * (d + 1); omega, by show 8 + (4 + 11) + (186 + 27 * d) ≤ 186 + 27 * (d + 1); omega⟩ ⟨Nat.le_of_ble_eq_true rfl, Nat.le_of_ble_eq_true rfl⟩ rfl hl.1 rfl (Nat.le_of_ble_eq_true rfl) d_an_goStatements_26 (fun H locs hW => ?_)
        refine lv_aload hx hb d_an_goStatements_29 (lv_at hl 3 rfl) ?_
        replace h := bs h
        obtain ⟨x6, hx6, h⟩ := h
        refine gf_an_76 hx hb hts hown hK hG hW (gR_s hx6) d_an_goStatements_31 ?_
        refine wo_astore (lv' := [(4, rb base x6), (0, .ref (base + y0)), (2, .ref (base + y2)), (3, .int y3)]) hx hb d_an_goStatements_34 hl (by decide) rfl (fun ls hl => ?_)
        refine lv_goto (tgt := 9) hx hb d_an_goStatements_36 (by decide) ?_
        exact ih y0 y2 y3 x6 w5 h _ _ _ hW (lv_sub hl [1, 2, 3, 0] rfl)
set_option maxHeartbeats 4000000 in
set_option maxRecDepth 100000 in
theorem co_an_goStatements (l : Launch) (D : va_G) (cA : Nat → ClassId) (base : Nat) {d : Nat} {g_an_goStatements : Nat → Option Nat → Nat → Int32 → WW → Option WW} {g_an_goStatement : Nat → Option Nat → Nat → Int32 → WW → Option WW} {g_an_goIf : Nat → Option Nat → Nat → Int32 → WW → Option WW} {g_an_goWhile : Nat → Option Nat → Nat → Int32 → WW → Option WW} {g_an_settle : Nat → Option Nat → Nat → Int32 → WW → Option WW} {g_an_goPass : Nat → Option Nat → Nat → Int32 → WW → Option WW} (HG : sA_an6 l D cA base d g_an_goStatements g_an_goStatement g_an_goIf g_an_goWhile g_an_settle g_an_goPass ) {a0 : Nat} {a1 : Option Nat} {a2 : Nat} {a3 : Int32} {w w' : WW} (h : fo_an_goStatements g_an_goStatements g_an_goStatement g_an_goIf g_an_goWhile g_an_settle g_an_goPass a0 a1 a2 a3 w = some w') : mt l D cls (wo_tys cA) cA base y_an_goStatements (Cond.code y_an_goStatements b_an_goStatements 5 (none) :: gt) (rm_an_goStatements (d + 1)) [.ref (base + a0), rb base a1, .ref (base + a2), .int a3] w none w' (rm_an_goStatements (d + 1)).cells (rm_an_goStatements (d + 1)).slots := by
  refine mt_start (by decide) (by simp only [lg_sl_0, lg_sl_1, lg_sl_2, lg_sl_3, lg_sl_rf]; decide) ?_
  intro p e s m below meth c ls hx hb hr hml hown hts hlk hnm hK hG hW hl
  have C : cx b_an_goStatements (none) 5 y_an_goStatements.cls "goStatements" p s m [.ref (base + a0), rb base a1, .ref (base + a2), .int a3].toArray meth c D cA base := ⟨hx, hb, hr, hml, hown, hts, hlk, hnm, hK, hG⟩
  have hl : lv_has ls 5 [(0, .ref (base + a0)), (1, rb base a1), (2, .ref (base + a2)), (3, .int a3)] := by simp only [lv_args_0, lv_args_1, lv_args_2, lv_args_3, lv_args_rf] at hl; exact hl
  unfold fo_an_goStatements at h
  replace h := its h
  obtain ⟨-, h⟩ := h
  refine lv_iload_n hx hb d_an_goStatements_0 rfl (lv_at hl 3 rfl) ?_
  refine lv_iconst (v := (3 : Int32)) hx hb d_an_goStatements_1 (by decide) ?_
  refine lv_icmp_le (tgt := 6) hx hb d_an_goStatements_2 (by decide) (fun c1 => ?_) (fun c1 => ?_)
  · rw [if_pos c1] at h
    refine wo_aload_n hx hb d_an_goStatements_6 rfl (lv_at hl 1 rfl) ?_
    refine wo_astore (lv' := [(4, rb base a1), (0, .ref (base + a0)), (1, rb base a1), (2, .ref (base + a2)), (3, .int a3)]) hx hb d_an_goStatements_7 hl (by decide) rfl (fun ls hl => ?_)
    exact j_an_goStatements_9 C HG KK a0 a2 a3 a1 w h _ _ _ hW (lv_sub hl [1, 3, 4, 0] rfl)
  · rw [if_neg c1] at h
    cases h
    exact wo_vret hx hb hr hlk hW d_an_goStatements_5
theorem d_an_goStatement_0 : decode b_an_goStatement 0 = .ok (.aload_n 1, 1) := by decide +kernel
theorem d_an_goStatement_1 : decode b_an_goStatement 1 = .ok (.getfield 81, 3) := by decide +kernel
theorem d_an_goStatement_4 : decode b_an_goStatement 4 = .ok (.tableswitch (107) (2) (8) #[44, 78, 87, 107, 97, 107, 53], 44) := by decide +kernel
theorem d_an_goStatement_48 : decode b_an_goStatement 48 = .ok (.aload_n 0, 1) := by decide +kernel
theorem d_an_goStatement_49 : decode b_an_goStatement 49 = .ok (.aload_n 1, 1) := by decide +kernel
theorem d_an_goStatement_50 : decode b_an_goStatement 50 = .ok (.aload_n 2, 1) := by decide +kernel
theorem d_an_goStatement_51 : decode b_an_goStatement 51 = .ok (.invokevirtual 84, 3) := by decide +kernel
theorem d_an_goStatement_54 : decode b_an_goStatement 54 = .ok (.goto (64), 3) := by decide +kernel
theorem d_an_goStatement_57 : decode b_an_goStatement 57 = .ok (.aload_n 2, 1) := by decide +kernel
theorem d_an_goStatement_58 : decode b_an_goStatement 58 = .ok (.getfield 88, 3) := by decide +kernel
theorem d_an_goStatement_61 : decode b_an_goStatement 61 = .ok (.aload_n 1, 1) := by decide +kernel
theorem d_an_goStatement_62 : decode b_an_goStatement 62 = .ok (.getfield 91, 3) := by decide +kernel
theorem d_an_goStatement_65 : decode b_an_goStatement 65 = .ok (.aaload, 1) := by decide +kernel
theorem d_an_goStatement_66 : decode b_an_goStatement 66 = .ok (.invokevirtual 94, 3) := by decide +kernel
theorem d_an_goStatement_69 : decode b_an_goStatement 69 = .ok (.aload_n 2, 1) := by decide +kernel
theorem d_an_goStatement_70 : decode b_an_goStatement 70 = .ok (.getfield 97, 3) := by decide +kernel
theorem d_an_goStatement_73 : decode b_an_goStatement 73 = .ok (.aload_n 1, 1) := by decide +kernel
theorem d_an_goStatement_74 : decode b_an_goStatement 74 = .ok (.getfield 91, 3) := by decide +kernel
theorem d_an_goStatement_77 : decode b_an_goStatement 77 = .ok (.iconst 0, 1) := by decide +kernel
theorem d_an_goStatement_78 : decode b_an_goStatement 78 = .ok (.bastore, 1) := by decide +kernel
theorem d_an_goStatement_79 : decode b_an_goStatement 79 = .ok (.goto (39), 3) := by decide +kernel
theorem d_an_goStatement_82 : decode b_an_goStatement 82 = .ok (.aload_n 0, 1) := by decide +kernel
theorem d_an_goStatement_83 : decode b_an_goStatement 83 = .ok (.aload_n 1, 1) := by decide +kernel
theorem d_an_goStatement_84 : decode b_an_goStatement 84 = .ok (.aload_n 2, 1) := by decide +kernel
theorem d_an_goStatement_85 : decode b_an_goStatement 85 = .ok (.invokevirtual 101, 3) := by decide +kernel
theorem d_an_goStatement_88 : decode b_an_goStatement 88 = .ok (.goto (30), 3) := by decide +kernel
theorem d_an_goStatement_91 : decode b_an_goStatement 91 = .ok (.aload_n 0, 1) := by decide +kernel
theorem d_an_goStatement_92 : decode b_an_goStatement 92 = .ok (.aload_n 1, 1) := by decide +kernel
theorem d_an_goStatement_93 : decode b_an_goStatement 93 = .ok (.aload_n 2, 1) := by decide +kernel
theorem d_an_goStatement_94 : decode b_an_goStatement 94 = .ok (.iload_n 3, 1) := by decide +kernel
theorem d_an_goStatement_95 : decode b_an_goStatement 95 = .ok (.invokevirtual 104, 3) := by decide +kernel
theorem d_an_goStatement_98 : decode b_an_goStatement 98 = .ok (.goto (20), 3) := by decide +kernel
theorem d_an_goStatement_101 : decode b_an_goStatement 101 = .ok (.aload_n 0, 1) := by decide +kernel
theorem d_an_goStatement_102 : decode b_an_goStatement 102 = .ok (.aload_n 1, 1) := by decide +kernel
theorem d_an_goStatement_103 : decode b_an_goStatement 103 = .ok (.aload_n 2, 1) := by decide +kernel
theorem d_an_goStatement_104 : decode b_an_goStatement 104 = .ok (.iload_n 3, 1) := by decide +kernel
theorem d_an_goStatement_105 : decode b_an_goStatement 105 = .ok (.invokevirtual 107, 3) := by decide +kernel
theorem d_an_goStatement_108 : decode b_an_goStatement 108 = .ok (.goto (10), 3) := by decide +kernel
theorem d_an_goStatement_111 : decode b_an_goStatement 111 = .ok (.aload_n 0, 1) := by decide +kernel
theorem d_an_goStatement_112 : decode b_an_goStatement 112 = .ok (.aload_n 1, 1) := by decide +kernel
theorem d_an_goStatement_113 : decode b_an_goStatement 113 = .ok (.aload_n 2, 1) := by decide +kernel
theorem d_an_goStatement_114 : decode b_an_goStatement 114 = .ok (.iload_n 3, 1) := by decide +kernel
theorem d_an_goStatement_115 : decode b_an_goStatement 115 = .ok (.invokevirtual 110, 3) := by decide +kernel
theorem d_an_goStatement_118 : decode b_an_goStatement 118 = .ok (.return_, 1) := by decide +kernel
theorem kbo_an_goStatement {g_an_goStatements : Nat → Option Nat → Nat → Int32 → WW → Option WW} {g_an_goStatement : Nat → Option Nat → Nat → Int32 → WW → Option WW} {g_an_goIf : Nat → Option Nat → Nat → Int32 → WW → Option WW} {g_an_goWhile : Nat → Option Nat → Nat → Int32 → WW → Option WW} {g_an_settle : Nat → Option Nat → Nat → Int32 → WW → Option WW} {g_an_goPass : Nat → Option Nat → Nat → Int32 → WW → Option WW} {a0 a2 : Nat} {a1 : Option Nat} {a3 : Int32} {w : WW} {r : WW} (h : fo_an_goStatement g_an_goStatements g_an_goStatement g_an_goIf g_an_goWhile g_an_settle g_an_goPass a0 a1 a2 a3 w = some r) : kb w a0 6 = true := (its h).1
set_option maxHeartbeats 4000000 in
set_option maxRecDepth 100000 in
theorem j_an_goStatement_118 {p : Program} {l : Launch} {e : Env} {s : State} {m : MethodId} {args : Array Value} {below : List Frame} {meth : Method} {c : Code} {D : va_G} {cA : Nat → ClassId} {base : Nat} {w' : WW} (C : cx b_an_goStatement (none) 4 y_an_goStatement.cls "goStatement" p s m args meth c D cA base) {d : Nat} {g_an_goStatements : Nat → Option Nat → Nat → Int32 → WW → Option WW} {g_an_goStatement : Nat → Option Nat → Nat → Int32 → WW → Option WW} {g_an_goIf : Nat → Option Nat → Nat → Int32 → WW → Option WW} {g_an_goWhile : Nat → Option Nat → Nat → Int32 → WW → Option WW} {g_an_settle : Nat → Option Nat → Nat → Int32 → WW → Option WW} {g_an_goPass : Nat → Option Nat → Nat → Int32 → WW → Option WW} (HG : sA_an6 l D cA base d g_an_goStatements g_an_goStatement g_an_goIf g_an_goWhile g_an_settle g_an_goPass )   : ∀  (w : WW), f_an_goStatement_118 g_an_goStatements g_an_goStatement g_an_goIf g_an_goWhile g_an_settle g_an_goPass  w = some w' → ∀ (H : Heap) (locs : List Loc) (ls : Array Slot), wo_S D cls cA base s w H locs → lv_has ls 4 [] → W p l e (rm_an_goStatement (d + 1)) s m args below meth c H locs 0 0 (MQ below (wo_Q D cls cA base none w') args s (rm_an_goStatement (d + 1)).cells (rm_an_goStatement (d + 1)).slots (wo_B base)) (F0 m 118 ls []) := by
  obtain ⟨hx, hb, hr, hml, hown, hts, hlk, hnm, hK, hG⟩ := id C
  intro  w h H locs ls hW hl
  unfold f_an_goStatement_118 at h
  cases h
  exact wo_vret hx hb hr hlk hW d_an_goStatement_118
set_option maxHeartbeats 4000000 in
set_option maxRecDepth 100000 in
theorem co_an_goStatement (l : Launch) (D : va_G) (cA : Nat → ClassId) (base : Nat) {d : Nat} {g_an_goStatements : Nat → Option Nat → Nat → Int32 → WW → Option WW} {g_an_goStatement : Nat → Option Nat → Nat → Int32 → WW → Option WW} {g_an_goIf : Nat → Option Nat → Nat → Int32 → WW → Option WW} {g_an_goWhile : Nat → Option Nat → Nat → Int32 → WW → Option WW} {g_an_settle : Nat → Option Nat → Nat → Int32 → WW → Option WW} {g_an_goPass : Nat → Option Nat → Nat → Int32 → WW → Option WW} (HG : sA_an6 l D cA base d g_an_goStatements g_an_goStatement g_an_goIf g_an_goWhile g_an_settle g_an_goPass ) {a0 : Nat} {a1 : Option Nat} {a2 : Nat} {a3 : Int32} {w w' : WW} (h : fo_an_goStatement g_an_goStatements g_an_goStatement g_an_goIf g_an_goWhile g_an_settle g_an_goPass a0 a1 a2 a3 w = some w') : mt l D cls (wo_tys cA) cA base y_an_goStatement (Cond.code y_an_goStatement b_an_goStatement 4 (none) :: gt) (rm_an_goStatement (d + 1)) [.ref (base + a0), rb base a1, .ref (base + a2), .int a3] w none w' (rm_an_goStatement (d + 1)).cells (rm_an_goStatement (d + 1)).slots := by
  refine mt_start (by decide) (by simp only [lg_sl_0, lg_sl_1, lg_sl_2, lg_sl_3, lg_sl_rf]; decide) ?_
  intro p e s m below meth c ls hx hb hr hml hown hts hlk hnm hK hG hW hl
  have C : cx b_an_goStatement (none) 4 y_an_goStatement.cls "goStatement" p s m [.ref (base + a0), rb base a1, .ref (base + a2), .int a3].toArray meth c D cA base := ⟨hx, hb, hr, hml, hown, hts, hlk, hnm, hK, hG⟩
  have hl : lv_has ls 4 [(0, .ref (base + a0)), (1, rb base a1), (2, .ref (base + a2)), (3, .int a3)] := by simp only [lv_args_0, lv_args_1, lv_args_2, lv_args_3, lv_args_rf] at hl; exact hl
  unfold fo_an_goStatement at h
  replace h := its h
  obtain ⟨-, h⟩ := h
  refine wo_aload_n hx hb d_an_goStatement_0 rfl (lv_at hl 1 rfl) ?_
  replace h := bs h
  obtain ⟨x1, ex1, h⟩ := h
  subst ex1
  replace h := bs h
  obtain ⟨x2, hx2, h⟩ := h
  refine gf_an_81 hx hb hts hown hK hG hW (gI_s hx2) d_an_goStatement_1 ?_
  have hl : lv_has ls 4 [(0, .ref (base + a0)), (1, .ref (base + x1)), (2, .ref (base + a2)), (3, .int a3)] := hl
  by_cases c3 : x2 = (2 : Int32)
  · rw [if_pos c3] at h
    refine lv_tableIn (off := 44) (tgt := 48) hx hb d_an_goStatement_4 (by rw [c3]; decide) (by rw [c3]; decide) (by rw [c3]; rfl) (by decide) ?_
    refine lv_aload_n hx hb d_an_goStatement_48 rfl (lv_at hl 0 rfl) ?_
    refine lv_aload_n hx hb d_an_goStatement_49 rfl (lv_at hl 1 rfl) ?_
    refine lv_aload_n hx hb d_an_goStatement_50 rfl (lv_at hl 2 rfl) ?_
    replace h := bs h
    obtain ⟨w4, hw4, h⟩ := h
    refine cv_an_84 (As := [rb base (some x1), .ref (base + a2)]) (rest := []) hx hb hml hown hts hK hG hW (c_an_goAssignment l D cA base hw4) (kb_an_goAssignment hw4) ⟨by show 5 + 1 ≤ 7 + 1 * (d + 1); omega, by show 8 + (3 + 11) + 136 ≤ 186 + 27 * (d + 1); omega⟩ ⟨Nat.le_of_ble_eq_true rfl, Nat.le_of_ble_eq_true rfl⟩ rfl hl.1 rfl (Nat.le_of_ble_eq_true rfl) d_an_goStatement_51 (fun H locs hW => ?_)
    refine lv_goto (tgt := 118) hx hb d_an_goStatement_54 (by decide) ?_
    exact j_an_goStatement_118 C HG w4 h _ _ _ hW (lv_sub hl [] rfl)
  · rw [if_neg c3] at h
    by_cases c5 : x2 = (3 : Int32)
    · rw [if_pos c5] at h
      refine lv_tableIn (off := 78) (tgt := 82) hx hb d_an_goStatement_4 (by rw [c5]; decide) (by rw [c5]; decide) (by rw [c5]; rfl) (by decide) ?_
      refine lv_aload_n hx hb d_an_goStatement_82 rfl (lv_at hl 0 rfl) ?_
      refine lv_aload_n hx hb d_an_goStatement_83 rfl (lv_at hl 1 rfl) ?_
      refine lv_aload_n hx hb d_an_goStatement_84 rfl (lv_at hl 2 rfl) ?_
      replace h := bs h
      obtain ⟨w6, hw6, h⟩ := h
      refine cv_an_101 (As := [rb base (some x1), .ref (base + a2)]) (rest := []) hx hb hml hown hts hK hG hW (c_an_goStore l D cA base hw6) (kb_an_goStore hw6) ⟨by show 5 + 1 ≤ 7 + 1 * (d + 1); omega, by show 8 + (7 + 11) + 136 ≤ 186 + 27 * (d + 1); omega⟩ ⟨Nat.le_of_ble_eq_true rfl, Nat.le_of_ble_eq_true rfl⟩ rfl hl.1 rfl (Nat.le_of_ble_eq_true rfl) d_an_goStatement_85 (fun H locs hW => ?_)
      refine lv_goto (tgt := 118) hx hb d_an_goStatement_88 (by decide) ?_
      exact j_an_goStatement_118 C HG w6 h _ _ _ hW (lv_sub hl [] rfl)
    · rw [if_neg c5] at h
      by_cases c7 : x2 = (4 : Int32)
      · rw [if_pos c7] at h
        refine lv_tableIn (off := 87) (tgt := 91) hx hb d_an_goStatement_4 (by rw [c7]; decide) (by rw [c7]; decide) (by rw [c7]; rfl) (by decide) ?_
        refine lv_aload_n hx hb d_an_goStatement_91 rfl (lv_at hl 0 rfl) ?_
        refine lv_aload_n hx hb d_an_goStatement_92 rfl (lv_at hl 1 rfl) ?_
        refine lv_aload_n hx hb d_an_goStatement_93 rfl (lv_at hl 2 rfl) ?_
        refine lv_iload_n hx hb d_an_goStatement_94 rfl (lv_at hl 3 rfl) ?_
        replace h := bs h
        obtain ⟨w8, hw8, h⟩ := h
        refine cv_an_104 (As := [rb base (some x1), .ref (base + a2), .int a3]) (rest := []) hx hb hml hown hts hK hG hW (HG.2.2.1.1 hw8) (HG.2.2.1.2 hw8) ⟨by show 7 + 1 * d + 1 ≤ 7 + 1 * (d + 1); omega, by show 8 + (5 + 11) + (186 + 27 * d) ≤ 186 + 27 * (d + 1); omega⟩ ⟨Nat.le_of_ble_eq_true rfl, Nat.le_of_ble_eq_true rfl⟩ rfl hl.1 rfl (Nat.le_of_ble_eq_true rfl) d_an_goStatement_95 (fun H locs hW => ?_)
        refine lv_goto (tgt := 118) hx hb d_an_goStatement_98 (by decide) ?_
        exact j_an_goStatement_118 C HG w8 h _ _ _ hW (lv_sub hl [] rfl)
      · rw [if_neg c7] at h
        by_cases c9 : x2 = (5 : Int32)
        · rw [if_pos c9] at h
          refine lv_tableIn (off := 107) (tgt := 111) hx hb d_an_goStatement_4 (by rw [c9]; decide) (by rw [c9]; decide) (by rw [c9]; rfl) (by decide) ?_
          refine lv_aload_n hx hb d_an_goStatement_111 rfl (lv_at hl 0 rfl) ?_
          refine lv_aload_n hx hb d_an_goStatement_112 rfl (lv_at hl 1 rfl) ?_
          refine lv_aload_n hx hb d_an_goStatement_113 rfl (lv_at hl 2 rfl) ?_
          refine lv_iload_n hx hb d_an_goStatement_114 rfl (lv_at hl 3 rfl) ?_
          replace h := bs h
          obtain ⟨w10, hw10, h⟩ := h
          refine cv_an_110 (As := [rb base (some x1), .ref (base + a2), .int a3]) (rest := []) hx hb hml hown hts hK hG hW (c_an_goAssert l D cA base hw10) (kb_an_goAssert hw10) ⟨by show 6 + 1 ≤ 7 + 1 * (d + 1); omega, by show 8 + (5 + 11) + 162 ≤ 186 + 27 * (d + 1); omega⟩ ⟨Nat.le_of_ble_eq_true rfl, Nat.le_of_ble_eq_true rfl⟩ rfl hl.1 rfl (Nat.le_of_ble_eq_true rfl) d_an_goStatement_115 (fun H locs hW => ?_)
          exact j_an_goStatement_118 C HG w10 h _ _ _ hW (lv_sub hl [] rfl)
        · rw [if_neg c9] at h
          by_cases c11 : x2 = (6 : Int32)
          · rw [if_pos c11] at h
            refine lv_tableIn (off := 97) (tgt := 101) hx hb d_an_goStatement_4 (by rw [c11]; decide) (by rw [c11]; decide) (by rw [c11]; rfl) (by decide) ?_
            refine lv_aload_n hx hb d_an_goStatement_101 rfl (lv_at hl 0 rfl) ?_
            refine lv_aload_n hx hb d_an_goStatement_102 rfl (lv_at hl 1 rfl) ?_
            refine lv_aload_n hx hb d_an_goStatement_103 rfl (lv_at hl 2 rfl) ?_
            refine lv_iload_n hx hb d_an_goStatement_104 rfl (lv_at hl 3 rfl) ?_
            replace h := bs h
            obtain ⟨w12, hw12, h⟩ := h
            refine cv_an_107 (As := [rb base (some x1), .ref (base + a2), .int a3]) (rest := []) hx hb hml hown hts hK hG hW (HG.2.2.2.1.1 hw12) (HG.2.2.2.1.2 hw12) ⟨by show 7 + 1 * d + 1 ≤ 7 + 1 * (d + 1); omega, by show 8 + (8 + 11) + (186 + 27 * d) ≤ 186 + 27 * (d + 1); omega⟩ ⟨Nat.le_of_ble_eq_true rfl, Nat.le_of_ble_eq_true rfl⟩ rfl hl.1 rfl (Nat.le_of_ble_eq_true rfl) d_an_goStatement_105 (fun H locs hW => ?_)
            refine lv_goto (tgt := 118) hx hb d_an_goStatement_108 (by decide) ?_
            exact j_an_goStatement_118 C HG w12 h _ _ _ hW (lv_sub hl [] rfl)
          · rw [if_neg c11] at h
            by_cases c13 : x2 = (7 : Int32)
            · rw [if_pos c13] at h
              refine lv_tableIn (off := 107) (tgt := 111) hx hb d_an_goStatement_4 (by rw [c13]; decide) (by rw [c13]; decide) (by rw [c13]; rfl) (by decide) ?_
              refine lv_aload_n hx hb d_an_goStatement_111 rfl (lv_at hl 0 rfl) ?_
              refine lv_aload_n hx hb d_an_goStatement_112 rfl (lv_at hl 1 rfl) ?_
              refine lv_aload_n hx hb d_an_goStatement_113 rfl (lv_at hl 2 rfl) ?_
              refine lv_iload_n hx hb d_an_goStatement_114 rfl (lv_at hl 3 rfl) ?_
              replace h := bs h
              obtain ⟨w14, hw14, h⟩ := h
              refine cv_an_110 (As := [rb base (some x1), .ref (base + a2), .int a3]) (rest := []) hx hb hml hown hts hK hG hW (c_an_goAssert l D cA base hw14) (kb_an_goAssert hw14) ⟨by show 6 + 1 ≤ 7 + 1 * (d + 1); omega, by show 8 + (5 + 11) + 162 ≤ 186 + 27 * (d + 1); omega⟩ ⟨Nat.le_of_ble_eq_true rfl, Nat.le_of_ble_eq_true rfl⟩ rfl hl.1 rfl (Nat.le_of_ble_eq_true rfl) d_an_goStatement_115 (fun H locs hW => ?_)
              exact j_an_goStatement_118 C HG w14 h _ _ _ hW (lv_sub hl [] rfl)
            · rw [if_neg c13] at h
              by_cases c15 : x2 = (8 : Int32)
              · rw [if_pos c15] at h
                refine lv_tableIn (off := 53) (tgt := 57) hx hb d_an_goStatement_4 (by rw [c15]; decide) (by rw [c15]; decide) (by rw [c15]; rfl) (by decide) ?_
                refine lv_aload_n hx hb d_an_goStatement_57 rfl (lv_at hl 2 rfl) ?_
                replace h := bs h
                obtain ⟨x16, hx16, h⟩ := h
                refine gf_an_88 hx hb hts hown hK hG hW (gN_s hx16) d_an_goStatement_58 ?_
                refine lv_aload_n hx hb d_an_goStatement_61 rfl (lv_at hl 1 rfl) ?_
                replace h := bs h
                obtain ⟨x17, hx17, h⟩ := h
                refine gf_an_91 hx hb hts hown hK hG hW (gI_s hx17) d_an_goStatement_62 ?_
                replace h := bs h
                obtain ⟨x18, hx18, h⟩ := h
                refine wo_aald hx hb hK hW (t := 4) rfl (rN_s hx18) d_an_goStatement_65 ?_
                replace h := bs h
                obtain ⟨w19, hw19, h⟩ := h
                refine cv_an_94 (As := []) (rest := []) hx hb hml hown hts hK hG hW (c_va_setAll l D cA base hw19) (kb_va_setAll hw19) ⟨by show 0 + 1 ≤ 7 + 1 * (d + 1); omega, by show 8 + (1 + 11) + 0 ≤ 186 + 27 * (d + 1); omega⟩ ⟨Nat.le_of_ble_eq_true rfl, Nat.le_of_ble_eq_true rfl⟩ rfl hl.1 rfl (Nat.le_of_ble_eq_true rfl) d_an_goStatement_66 (fun H locs hW => ?_)
                refine lv_aload_n hx hb d_an_goStatement_69 rfl (lv_at hl 2 rfl) ?_
                replace h := bs h
                obtain ⟨x20, hx20, h⟩ := h
                refine gf_an_97 hx hb hts hown hK hG hW (gN_s hx20) d_an_goStatement_70 ?_
                refine lv_aload_n hx hb d_an_goStatement_73 rfl (lv_at hl 1 rfl) ?_
                replace h := bs h
                obtain ⟨x21, hx21, h⟩ := h
                refine gf_an_91 hx hb hts hown hK hG hW (gI_s hx21) d_an_goStatement_74 ?_
                refine lv_iconst (v := (0 : Int32)) hx hb d_an_goStatement_77 (by decide) ?_
                replace h := bs h
                obtain ⟨w22, hw22, h⟩ := h
                refine wo_zast hx hb hK hW (t := 2) rfl hw22 d_an_goStatement_78 (fun H locs hW => ?_)
                refine lv_goto (tgt := 118) hx hb d_an_goStatement_79 (by decide) ?_
                exact j_an_goStatement_118 C HG w22 h _ _ _ hW (lv_sub hl [] rfl)
              · rw [if_neg c15] at h
                refine lv_tableOut (tgt := 111) hx hb d_an_goStatement_4 (by have n0 := lv_neT c3 (show (2 : Int32).toInt = 2 from rfl); have n1 := lv_neT c5 (show (3 : Int32).toInt = 3 from rfl); have n2 := lv_neT c7 (show (4 : Int32).toInt = 4 from rfl); have n3 := lv_neT c9 (show (5 : Int32).toInt = 5 from rfl); have n4 := lv_neT c11 (show (6 : Int32).toInt = 6 from rfl); have n5 := lv_neT c13 (show (7 : Int32).toInt = 7 from rfl); have n6 := lv_neT c15 (show (8 : Int32).toInt = 8 from rfl); omega) (by decide) ?_
                refine lv_aload_n hx hb d_an_goStatement_111 rfl (lv_at hl 0 rfl) ?_
                refine lv_aload_n hx hb d_an_goStatement_112 rfl (lv_at hl 1 rfl) ?_
                refine lv_aload_n hx hb d_an_goStatement_113 rfl (lv_at hl 2 rfl) ?_
                refine lv_iload_n hx hb d_an_goStatement_114 rfl (lv_at hl 3 rfl) ?_
                replace h := bs h
                obtain ⟨w23, hw23, h⟩ := h
                refine cv_an_110 (As := [rb base (some x1), .ref (base + a2), .int a3]) (rest := []) hx hb hml hown hts hK hG hW (c_an_goAssert l D cA base hw23) (kb_an_goAssert hw23) ⟨by show 6 + 1 ≤ 7 + 1 * (d + 1); omega, by show 8 + (5 + 11) + 162 ≤ 186 + 27 * (d + 1); omega⟩ ⟨Nat.le_of_ble_eq_true rfl, Nat.le_of_ble_eq_true rfl⟩ rfl hl.1 rfl (Nat.le_of_ble_eq_true rfl) d_an_goStatement_115 (fun H locs hW => ?_)
                exact j_an_goStatement_118 C HG w23 h _ _ _ hW (lv_sub hl [] rfl)
theorem d_an_goIf_0 : decode b_an_goIf 0 = .ok (.aload_n 0, 1) := by decide +kernel
theorem d_an_goIf_1 : decode b_an_goIf 1 = .ok (.getfield 18, 3) := by decide +kernel
theorem d_an_goIf_4 : decode b_an_goIf 4 = .ok (.iconst 3, 1) := by decide +kernel
theorem d_an_goIf_5 : decode b_an_goIf 5 = .ok (.iload_n 3, 1) := by decide +kernel
theorem d_an_goIf_6 : decode b_an_goIf 6 = .ok (.imul, 1) := by decide +kernel
theorem d_an_goIf_7 : decode b_an_goIf 7 = .ok (.aaload, 1) := by decide +kernel
theorem d_an_goIf_8 : decode b_an_goIf 8 = .ok (.astore 4, 2) := by decide +kernel
theorem d_an_goIf_10 : decode b_an_goIf 10 = .ok (.aload 4, 2) := by decide +kernel
theorem d_an_goIf_12 : decode b_an_goIf 12 = .ok (.aload_n 2, 1) := by decide +kernel
theorem d_an_goIf_13 : decode b_an_goIf 13 = .ok (.invokevirtual 147, 3) := by decide +kernel
theorem d_an_goIf_16 : decode b_an_goIf 16 = .ok (.aload_n 0, 1) := by decide +kernel
theorem d_an_goIf_17 : decode b_an_goIf 17 = .ok (.aload_n 1, 1) := by decide +kernel
theorem d_an_goIf_18 : decode b_an_goIf 18 = .ok (.aload_n 2, 1) := by decide +kernel
theorem d_an_goIf_19 : decode b_an_goIf 19 = .ok (.iconst 1, 1) := by decide +kernel
theorem d_an_goIf_20 : decode b_an_goIf 20 = .ok (.invokevirtual 150, 3) := by decide +kernel
theorem d_an_goIf_23 : decode b_an_goIf 23 = .ok (.aload_n 0, 1) := by decide +kernel
theorem d_an_goIf_24 : decode b_an_goIf 24 = .ok (.aload_n 1, 1) := by decide +kernel
theorem d_an_goIf_25 : decode b_an_goIf 25 = .ok (.aload 4, 2) := by decide +kernel
theorem d_an_goIf_27 : decode b_an_goIf 27 = .ok (.iconst 0, 1) := by decide +kernel
theorem d_an_goIf_28 : decode b_an_goIf 28 = .ok (.invokevirtual 150, 3) := by decide +kernel
theorem d_an_goIf_31 : decode b_an_goIf 31 = .ok (.aload_n 0, 1) := by decide +kernel
theorem d_an_goIf_32 : decode b_an_goIf 32 = .ok (.aload_n 1, 1) := by decide +kernel
theorem d_an_goIf_33 : decode b_an_goIf 33 = .ok (.getfield 154, 3) := by decide +kernel
theorem d_an_goIf_36 : decode b_an_goIf 36 = .ok (.aload_n 2, 1) := by decide +kernel
theorem d_an_goIf_37 : decode b_an_goIf 37 = .ok (.iload_n 3, 1) := by decide +kernel
theorem d_an_goIf_38 : decode b_an_goIf 38 = .ok (.iconst 1, 1) := by decide +kernel
theorem d_an_goIf_39 : decode b_an_goIf 39 = .ok (.iadd, 1) := by decide +kernel
theorem d_an_goIf_40 : decode b_an_goIf 40 = .ok (.invokevirtual 63, 3) := by decide +kernel
theorem d_an_goIf_43 : decode b_an_goIf 43 = .ok (.aload_n 0, 1) := by decide +kernel
theorem d_an_goIf_44 : decode b_an_goIf 44 = .ok (.aload_n 1, 1) := by decide +kernel
theorem d_an_goIf_45 : decode b_an_goIf 45 = .ok (.getfield 157, 3) := by decide +kernel
theorem d_an_goIf_48 : decode b_an_goIf 48 = .ok (.aload 4, 2) := by decide +kernel
theorem d_an_goIf_50 : decode b_an_goIf 50 = .ok (.iload_n 3, 1) := by decide +kernel
theorem d_an_goIf_51 : decode b_an_goIf 51 = .ok (.iconst 1, 1) := by decide +kernel
theorem d_an_goIf_52 : decode b_an_goIf 52 = .ok (.iadd, 1) := by decide +kernel
theorem d_an_goIf_53 : decode b_an_goIf 53 = .ok (.invokevirtual 63, 3) := by decide +kernel
theorem d_an_goIf_56 : decode b_an_goIf 56 = .ok (.aload_n 2, 1) := by decide +kernel
theorem d_an_goIf_57 : decode b_an_goIf 57 = .ok (.aload 4, 2) := by decide +kernel
theorem d_an_goIf_59 : decode b_an_goIf 59 = .ok (.invokevirtual 160, 3) := by decide +kernel
theorem d_an_goIf_62 : decode b_an_goIf 62 = .ok (.return_, 1) := by decide +kernel
theorem kbo_an_goIf {g_an_goStatements : Nat → Option Nat → Nat → Int32 → WW → Option WW} {g_an_goStatement : Nat → Option Nat → Nat → Int32 → WW → Option WW} {g_an_goIf : Nat → Option Nat → Nat → Int32 → WW → Option WW} {g_an_goWhile : Nat → Option Nat → Nat → Int32 → WW → Option WW} {g_an_settle : Nat → Option Nat → Nat → Int32 → WW → Option WW} {g_an_goPass : Nat → Option Nat → Nat → Int32 → WW → Option WW} {a0 a2 : Nat} {a1 : Option Nat} {a3 : Int32} {w : WW} {r : WW} (h : fo_an_goIf g_an_goStatements g_an_goStatement g_an_goIf g_an_goWhile g_an_settle g_an_goPass a0 a1 a2 a3 w = some r) : kb w a0 6 = true := (its h).1
set_option maxHeartbeats 4000000 in
set_option maxRecDepth 100000 in
theorem co_an_goIf (l : Launch) (D : va_G) (cA : Nat → ClassId) (base : Nat) {d : Nat} {g_an_goStatements : Nat → Option Nat → Nat → Int32 → WW → Option WW} {g_an_goStatement : Nat → Option Nat → Nat → Int32 → WW → Option WW} {g_an_goIf : Nat → Option Nat → Nat → Int32 → WW → Option WW} {g_an_goWhile : Nat → Option Nat → Nat → Int32 → WW → Option WW} {g_an_settle : Nat → Option Nat → Nat → Int32 → WW → Option WW} {g_an_goPass : Nat → Option Nat → Nat → Int32 → WW → Option WW} (HG : sA_an6 l D cA base d g_an_goStatements g_an_goStatement g_an_goIf g_an_goWhile g_an_settle g_an_goPass ) {a0 : Nat} {a1 : Option Nat} {a2 : Nat} {a3 : Int32} {w w' : WW} (h : fo_an_goIf g_an_goStatements g_an_goStatement g_an_goIf g_an_goWhile g_an_settle g_an_goPass a0 a1 a2 a3 w = some w') : mt l D cls (wo_tys cA) cA base y_an_goIf (Cond.code y_an_goIf b_an_goIf 5 (none) :: gt) (rm_an_goIf (d + 1)) [.ref (base + a0), rb base a1, .ref (base + a2), .int a3] w none w' (rm_an_goIf (d + 1)).cells (rm_an_goIf (d + 1)).slots := by
  refine mt_start (by decide) (by simp only [lg_sl_0, lg_sl_1, lg_sl_2, lg_sl_3, lg_sl_rf]; decide) ?_
  intro p e s m below meth c ls hx hb hr hml hown hts hlk hnm hK hG hW hl
  have C : cx b_an_goIf (none) 5 y_an_goIf.cls "goIf" p s m [.ref (base + a0), rb base a1, .ref (base + a2), .int a3].toArray meth c D cA base := ⟨hx, hb, hr, hml, hown, hts, hlk, hnm, hK, hG⟩
  have hl : lv_has ls 5 [(0, .ref (base + a0)), (1, rb base a1), (2, .ref (base + a2)), (3, .int a3)] := by simp only [lv_args_0, lv_args_1, lv_args_2, lv_args_3, lv_args_rf] at hl; exact hl
  unfold fo_an_goIf at h
  replace h := its h
  obtain ⟨-, h⟩ := h
  refine lv_aload_n hx hb d_an_goIf_0 rfl (lv_at hl 0 rfl) ?_
  replace h := bs h
  obtain ⟨x1, hx1, h⟩ := h
  refine gf_an_18 hx hb hts hown hK hG hW (gN_s hx1) d_an_goIf_1 ?_
  refine lv_iconst (v := (3 : Int32)) hx hb d_an_goIf_4 (by decide) ?_
  refine lv_iload_n hx hb d_an_goIf_5 rfl (lv_at hl 3 rfl) ?_
  refine lv_imul hx hb d_an_goIf_6 ?_
  replace h := bs h
  obtain ⟨x2, hx2, h⟩ := h
  refine wo_aald hx hb hK hW (t := 5) rfl (rN_s hx2) d_an_goIf_7 ?_
  refine lv_astore (lv' := [(4, .ref (base + x2)), (0, .ref (base + a0)), (1, rb base a1), (2, .ref (base + a2)), (3, .int a3)]) hx hb d_an_goIf_8 hl (by decide) rfl (fun ls hl => ?_)
  refine lv_aload hx hb d_an_goIf_10 (lv_at hl 0 rfl) ?_
  refine lv_aload_n hx hb d_an_goIf_12 rfl (lv_at hl 3 rfl) ?_
  replace h := bs h
  obtain ⟨w3, hw3, h⟩ := h
  refine cv_an_147 (As := [.ref (base + a2)]) (rest := []) hx hb hml hown hts hK hG hW (c_sa_copy l D cA base hw3) (kb_sa_copy hw3) ⟨by show 1 + 1 ≤ 7 + 1 * (d + 1); omega, by show 8 + (3 + 11) + 21 ≤ 186 + 27 * (d + 1); omega⟩ ⟨Nat.le_of_ble_eq_true rfl, Nat.le_of_ble_eq_true rfl⟩ rfl hl.1 rfl (Nat.le_of_ble_eq_true rfl) d_an_goIf_13 (fun H locs hW => ?_)
  refine lv_aload_n hx hb d_an_goIf_16 rfl (lv_at hl 1 rfl) ?_
  refine wo_aload_n hx hb d_an_goIf_17 rfl (lv_at hl 2 rfl) ?_
  refine lv_aload_n hx hb d_an_goIf_18 rfl (lv_at hl 3 rfl) ?_
  refine lv_iconst (v := (1 : Int32)) hx hb d_an_goIf_19 (by decide) ?_
  replace h := bs h
  obtain ⟨w4, hw4, h⟩ := h
  refine cv_an_150 (As := [rb base a1, .ref (base + a2), .int (1 : Int32)]) (rest := []) hx hb hml hown hts hK hG hW (c_an_assume l D cA base hw4) (kb_an_assume hw4) ⟨by show 5 + 1 ≤ 7 + 1 * (d + 1); omega, by show 8 + (7 + 11) + 136 ≤ 186 + 27 * (d + 1); omega⟩ ⟨Nat.le_of_ble_eq_true rfl, Nat.le_of_ble_eq_true rfl⟩ rfl hl.1 rfl (Nat.le_of_ble_eq_true rfl) d_an_goIf_20 (fun H locs hW => ?_)
  refine lv_aload_n hx hb d_an_goIf_23 rfl (lv_at hl 1 rfl) ?_
  refine wo_aload_n hx hb d_an_goIf_24 rfl (lv_at hl 2 rfl) ?_
  refine lv_aload hx hb d_an_goIf_25 (lv_at hl 0 rfl) ?_
  refine lv_iconst (v := (0 : Int32)) hx hb d_an_goIf_27 (by decide) ?_
  replace h := bs h
  obtain ⟨w5, hw5, h⟩ := h
  refine cv_an_150 (As := [rb base a1, .ref (base + x2), .int (0 : Int32)]) (rest := []) hx hb hml hown hts hK hG hW (c_an_assume l D cA base hw5) (kb_an_assume hw5) ⟨by show 5 + 1 ≤ 7 + 1 * (d + 1); omega, by show 8 + (7 + 11) + 136 ≤ 186 + 27 * (d + 1); omega⟩ ⟨Nat.le_of_ble_eq_true rfl, Nat.le_of_ble_eq_true rfl⟩ rfl hl.1 rfl (Nat.le_of_ble_eq_true rfl) d_an_goIf_28 (fun H locs hW => ?_)
  refine lv_aload_n hx hb d_an_goIf_31 rfl (lv_at hl 1 rfl) ?_
  refine wo_aload_n hx hb d_an_goIf_32 rfl (lv_at hl 2 rfl) ?_
  replace h := bs h
  obtain ⟨x6, ex6, h⟩ := h
  subst ex6
  replace h := bs h
  obtain ⟨x7, hx7, h⟩ := h
  refine gf_an_154 hx hb hts hown hK hG hW (gR_s hx7) d_an_goIf_33 ?_
  have hl : lv_has ls 5 [(4, .ref (base + x2)), (0, .ref (base + a0)), (1, .ref (base + x6)), (2, .ref (base + a2)), (3, .int a3)] := hl
  refine lv_aload_n hx hb d_an_goIf_36 rfl (lv_at hl 3 rfl) ?_
  refine lv_iload_n hx hb d_an_goIf_37 rfl (lv_at hl 4 rfl) ?_
  refine lv_iconst (v := (1 : Int32)) hx hb d_an_goIf_38 (by decide) ?_
  refine lv_iadd hx hb d_an_goIf_39 ?_
  replace h := bs h
  obtain ⟨w8, hw8, h⟩ := h
  refine cv_an_63 (As := [rb base x7, .ref (base + a2), .int (a3 + (1 : Int32))]) (rest := []) hx hb hml hown hts hK hG hW (HG.1.1 hw8) (HG.1.2 hw8) ⟨by show 7 + 1 * d + 1 ≤ 7 + 1 * (d + 1); omega, by show 8 + (5 + 11) + (186 + 27 * d) ≤ 186 + 27 * (d + 1); omega⟩ ⟨Nat.le_of_ble_eq_true rfl, Nat.le_of_ble_eq_true rfl⟩ rfl hl.1 rfl (Nat.le_of_ble_eq_true rfl) d_an_goIf_40 (fun H locs hW => ?_)
  refine lv_aload_n hx hb d_an_goIf_43 rfl (lv_at hl 1 rfl) ?_
  refine lv_aload_n hx hb d_an_goIf_44 rfl (lv_at hl 2 rfl) ?_
  replace h := bs h
  obtain ⟨x9, hx9, h⟩ := h
  refine gf_an_157 hx hb hts hown hK hG hW (gR_s hx9) d_an_goIf_45 ?_
  refine lv_aload hx hb d_an_goIf_48 (lv_at hl 0 rfl) ?_
  refine lv_iload_n hx hb d_an_goIf_50 rfl (lv_at hl 4 rfl) ?_
  refine lv_iconst (v := (1 : Int32)) hx hb d_an_goIf_51 (by decide) ?_
  refine lv_iadd hx hb d_an_goIf_52 ?_
  replace h := bs h
  obtain ⟨w10, hw10, h⟩ := h
  refine cv_an_63 (As := [rb base x9, .ref (base + x2), .int (a3 + (1 : Int32))]) (rest := []) hx hb hml hown hts hK hG hW (HG.1.1 hw10) (HG.1.2 hw10) ⟨by show 7 + 1 * d + 1 ≤ 7 + 1 * (d + 1); omega, by show 8 + (5 + 11) + (186 + 27 * d) ≤ 186 + 27 * (d + 1); omega⟩ ⟨Nat.le_of_ble_eq_true rfl, Nat.le_of_ble_eq_true rfl⟩ rfl hl.1 rfl (Nat.le_of_ble_eq_true rfl) d_an_goIf_53 (fun H locs hW => ?_)
  refine lv_aload_n hx hb d_an_goIf_56 rfl (lv_at hl 3 rfl) ?_
  refine lv_aload hx hb d_an_goIf_57 (lv_at hl 0 rfl) ?_
  replace h := bs h
  obtain ⟨w11, hw11, h⟩ := h
  refine cv_an_160 (As := [.ref (base + x2)]) (rest := []) hx hb hml hown hts hK hG hW (c_sa_join l D cA base hw11) (kb_sa_join hw11) ⟨by show 5 + 1 ≤ 7 + 1 * (d + 1); omega, by show 8 + (2 + 11) + 121 ≤ 186 + 27 * (d + 1); omega⟩ ⟨Nat.le_of_ble_eq_true rfl, Nat.le_of_ble_eq_true rfl⟩ rfl hl.1 rfl (Nat.le_of_ble_eq_true rfl) d_an_goIf_59 (fun H locs hW => ?_)
  cases h
  exact wo_vret hx hb hr hlk hW d_an_goIf_62
theorem d_an_goWhile_0 : decode b_an_goWhile 0 = .ok (.aload_n 0, 1) := by decide +kernel
theorem d_an_goWhile_1 : decode b_an_goWhile 1 = .ok (.getfield 18, 3) := by decide +kernel
theorem d_an_goWhile_4 : decode b_an_goWhile 4 = .ok (.iconst 3, 1) := by decide +kernel
theorem d_an_goWhile_5 : decode b_an_goWhile 5 = .ok (.iload_n 3, 1) := by decide +kernel
theorem d_an_goWhile_6 : decode b_an_goWhile 6 = .ok (.imul, 1) := by decide +kernel
theorem d_an_goWhile_7 : decode b_an_goWhile 7 = .ok (.aaload, 1) := by decide +kernel
theorem d_an_goWhile_8 : decode b_an_goWhile 8 = .ok (.astore 4, 2) := by decide +kernel
theorem d_an_goWhile_10 : decode b_an_goWhile 10 = .ok (.aload_n 0, 1) := by decide +kernel
theorem d_an_goWhile_11 : decode b_an_goWhile 11 = .ok (.getfield 18, 3) := by decide +kernel
theorem d_an_goWhile_14 : decode b_an_goWhile 14 = .ok (.iconst 3, 1) := by decide +kernel
theorem d_an_goWhile_15 : decode b_an_goWhile 15 = .ok (.iload_n 3, 1) := by decide +kernel
theorem d_an_goWhile_16 : decode b_an_goWhile 16 = .ok (.imul, 1) := by decide +kernel
theorem d_an_goWhile_17 : decode b_an_goWhile 17 = .ok (.iconst 1, 1) := by decide +kernel
theorem d_an_goWhile_18 : decode b_an_goWhile 18 = .ok (.iadd, 1) := by decide +kernel
theorem d_an_goWhile_19 : decode b_an_goWhile 19 = .ok (.aaload, 1) := by decide +kernel
theorem d_an_goWhile_20 : decode b_an_goWhile 20 = .ok (.astore 5, 2) := by decide +kernel
theorem d_an_goWhile_22 : decode b_an_goWhile 22 = .ok (.aload 4, 2) := by decide +kernel
theorem d_an_goWhile_24 : decode b_an_goWhile 24 = .ok (.aload_n 2, 1) := by decide +kernel
theorem d_an_goWhile_25 : decode b_an_goWhile 25 = .ok (.invokevirtual 147, 3) := by decide +kernel
theorem d_an_goWhile_28 : decode b_an_goWhile 28 = .ok (.aload_n 0, 1) := by decide +kernel
theorem d_an_goWhile_29 : decode b_an_goWhile 29 = .ok (.getfield 50, 3) := by decide +kernel
theorem d_an_goWhile_32 : decode b_an_goWhile 32 = .ok (.istore 6, 2) := by decide +kernel
theorem d_an_goWhile_34 : decode b_an_goWhile 34 = .ok (.aload_n 0, 1) := by decide +kernel
theorem d_an_goWhile_35 : decode b_an_goWhile 35 = .ok (.iconst 0, 1) := by decide +kernel
theorem d_an_goWhile_36 : decode b_an_goWhile 36 = .ok (.putfield 50, 3) := by decide +kernel
theorem d_an_goWhile_39 : decode b_an_goWhile 39 = .ok (.aload_n 0, 1) := by decide +kernel
theorem d_an_goWhile_40 : decode b_an_goWhile 40 = .ok (.aload_n 1, 1) := by decide +kernel
theorem d_an_goWhile_41 : decode b_an_goWhile 41 = .ok (.aload_n 2, 1) := by decide +kernel
theorem d_an_goWhile_42 : decode b_an_goWhile 42 = .ok (.iload_n 3, 1) := by decide +kernel
theorem d_an_goWhile_43 : decode b_an_goWhile 43 = .ok (.invokevirtual 162, 3) := by decide +kernel
theorem d_an_goWhile_46 : decode b_an_goWhile 46 = .ok (.iconst 0, 1) := by decide +kernel
theorem d_an_goWhile_47 : decode b_an_goWhile 47 = .ok (.istore 7, 2) := by decide +kernel
theorem d_an_goWhile_49 : decode b_an_goWhile 49 = .ok (.iload 7, 2) := by decide +kernel
theorem d_an_goWhile_51 : decode b_an_goWhile 51 = .ok (.aload_n 0, 1) := by decide +kernel
theorem d_an_goWhile_52 : decode b_an_goWhile 52 = .ok (.getfield 41, 3) := by decide +kernel
theorem d_an_goWhile_55 : decode b_an_goWhile 55 = .ok (.if_icmp .ge (22), 3) := by decide +kernel
theorem d_an_goWhile_58 : decode b_an_goWhile 58 = .ok (.aload_n 0, 1) := by decide +kernel
theorem d_an_goWhile_59 : decode b_an_goWhile 59 = .ok (.aload_n 1, 1) := by decide +kernel
theorem d_an_goWhile_60 : decode b_an_goWhile 60 = .ok (.aload_n 2, 1) := by decide +kernel
theorem d_an_goWhile_61 : decode b_an_goWhile 61 = .ok (.iload_n 3, 1) := by decide +kernel
theorem d_an_goWhile_62 : decode b_an_goWhile 62 = .ok (.invokevirtual 165, 3) := by decide +kernel
theorem d_an_goWhile_65 : decode b_an_goWhile 65 = .ok (.aload_n 2, 1) := by decide +kernel
theorem d_an_goWhile_66 : decode b_an_goWhile 66 = .ok (.aload 5, 2) := by decide +kernel
theorem d_an_goWhile_68 : decode b_an_goWhile 68 = .ok (.invokevirtual 147, 3) := by decide +kernel
theorem d_an_goWhile_71 : decode b_an_goWhile 71 = .ok (.iinc 7 (1), 3) := by decide +kernel
theorem d_an_goWhile_74 : decode b_an_goWhile 74 = .ok (.goto (-25), 3) := by decide +kernel
theorem d_an_goWhile_77 : decode b_an_goWhile 77 = .ok (.aload_n 0, 1) := by decide +kernel
theorem d_an_goWhile_78 : decode b_an_goWhile 78 = .ok (.iconst 1, 1) := by decide +kernel
theorem d_an_goWhile_79 : decode b_an_goWhile 79 = .ok (.putfield 50, 3) := by decide +kernel
theorem d_an_goWhile_82 : decode b_an_goWhile 82 = .ok (.aload_n 0, 1) := by decide +kernel
theorem d_an_goWhile_83 : decode b_an_goWhile 83 = .ok (.aload_n 1, 1) := by decide +kernel
theorem d_an_goWhile_84 : decode b_an_goWhile 84 = .ok (.aload_n 2, 1) := by decide +kernel
theorem d_an_goWhile_85 : decode b_an_goWhile 85 = .ok (.iload_n 3, 1) := by decide +kernel
theorem d_an_goWhile_86 : decode b_an_goWhile 86 = .ok (.invokevirtual 165, 3) := by decide +kernel
theorem d_an_goWhile_89 : decode b_an_goWhile 89 = .ok (.aload_n 0, 1) := by decide +kernel
theorem d_an_goWhile_90 : decode b_an_goWhile 90 = .ok (.iload 6, 2) := by decide +kernel
theorem d_an_goWhile_92 : decode b_an_goWhile 92 = .ok (.putfield 50, 3) := by decide +kernel
theorem d_an_goWhile_95 : decode b_an_goWhile 95 = .ok (.aload_n 0, 1) := by decide +kernel
theorem d_an_goWhile_96 : decode b_an_goWhile 96 = .ok (.aload_n 1, 1) := by decide +kernel
theorem d_an_goWhile_97 : decode b_an_goWhile 97 = .ok (.aload_n 2, 1) := by decide +kernel
theorem d_an_goWhile_98 : decode b_an_goWhile 98 = .ok (.iconst 0, 1) := by decide +kernel
theorem d_an_goWhile_99 : decode b_an_goWhile 99 = .ok (.invokevirtual 150, 3) := by decide +kernel
theorem d_an_goWhile_102 : decode b_an_goWhile 102 = .ok (.return_, 1) := by decide +kernel
theorem kbo_an_goWhile {g_an_goStatements : Nat → Option Nat → Nat → Int32 → WW → Option WW} {g_an_goStatement : Nat → Option Nat → Nat → Int32 → WW → Option WW} {g_an_goIf : Nat → Option Nat → Nat → Int32 → WW → Option WW} {g_an_goWhile : Nat → Option Nat → Nat → Int32 → WW → Option WW} {g_an_settle : Nat → Option Nat → Nat → Int32 → WW → Option WW} {g_an_goPass : Nat → Option Nat → Nat → Int32 → WW → Option WW} {a0 a2 : Nat} {a1 : Option Nat} {a3 : Int32} {w : WW} {r : WW} (h : fo_an_goWhile g_an_goStatements g_an_goStatement g_an_goIf g_an_goWhile g_an_settle g_an_goPass a0 a1 a2 a3 w = some r) : kb w a0 6 = true := (its h).1
set_option maxHeartbeats 4000000 in
set_option maxRecDepth 100000 in
theorem j_an_goWhile_49 {p : Program} {l : Launch} {e : Env} {s : State} {m : MethodId} {args : Array Value} {below : List Frame} {meth : Method} {c : Code} {D : va_G} {cA : Nat → ClassId} {base : Nat} {w' : WW} (C : cx b_an_goWhile (none) 8 y_an_goWhile.cls "goWhile" p s m args meth c D cA base) {d : Nat} {g_an_goStatements : Nat → Option Nat → Nat → Int32 → WW → Option WW} {g_an_goStatement : Nat → Option Nat → Nat → Int32 → WW → Option WW} {g_an_goIf : Nat → Option Nat → Nat → Int32 → WW → Option WW} {g_an_goWhile : Nat → Option Nat → Nat → Int32 → WW → Option WW} {g_an_settle : Nat → Option Nat → Nat → Int32 → WW → Option WW} {g_an_goPass : Nat → Option Nat → Nat → Int32 → WW → Option WW} (HG : sA_an6 l D cA base d g_an_goStatements g_an_goStatement g_an_goIf g_an_goWhile g_an_settle g_an_goPass )   : ∀ n : Nat, ∀ (y0 : Nat) (y1 : Option Nat) (y2 : Nat) (y3 : Int32) (y5 : Nat) (y6 : Int32) (y7 : Int32) (w : WW), f_an_goWhile_49 g_an_goStatements g_an_goStatement g_an_goIf g_an_goWhile g_an_settle g_an_goPass n y0 y1 y2 y3 y5 y6 y7 w = some w' → ∀ (H : Heap) (locs : List Loc) (ls : Array Slot), wo_S D cls cA base s w H locs → lv_has ls 8 [(0, .ref (base + y0)), (1, rb base y1), (2, .ref (base + y2)), (3, .int y3), (5, .ref (base + y5)), (6, .int y6), (7, .int y7)] → W p l e (rm_an_goWhile (d + 1)) s m args below meth c H locs 0 0 (MQ below (wo_Q D cls cA base none w') args s (rm_an_goWhile (d + 1)).cells (rm_an_goWhile (d + 1)).slots (wo_B base)) (F0 m 49 ls []) := by
  obtain ⟨hx, hb, hr, hml, hown, hts, hlk, hnm, hK, hG⟩ := id C
  intro n
  induction n with
  | zero => intro y0 y1 y2 y3 y5 y6 y7 w h; cases h
  | succ n ih =>
    intro y0 y1 y2 y3 y5 y6 y7 w h H locs ls hW hl
    rw [f_an_goWhile_49] at h
    refine lv_iload hx hb d_an_goWhile_49 (lv_at hl 6 rfl) ?_
    refine lv_aload_n hx hb d_an_goWhile_51 rfl (lv_at hl 0 rfl) ?_
    replace h := bs h
    obtain ⟨x10, hx10, h⟩ := h
    refine gf_an_41 hx hb hts hown hK hG hW (gI_s hx10) d_an_goWhile_52 ?_
    refine lv_icmp_ge (tgt := 77) hx hb d_an_goWhile_55 (by decide) (fun c11 => ?_) (fun c11 => ?_)
    · rw [if_pos c11] at h
      refine lv_aload_n hx hb d_an_goWhile_77 rfl (lv_at hl 0 rfl) ?_
      refine lv_iconst (v := (1 : Int32)) hx hb d_an_goWhile_78 (by decide) ?_
      replace h := its h
      obtain ⟨c13, h⟩ := h
      replace h := bs h
      obtain ⟨w12, hw12, h⟩ := h
      refine pf_an_50 hx hb hts hown hK hG hW (z_n c13) (z_f c13) (pbi hw12 rfl) d_an_goWhile_79 (fun H locs hW => ?_)
      refine lv_aload_n hx hb d_an_goWhile_82 rfl (lv_at hl 0 rfl) ?_
      refine wo_aload_n hx hb d_an_goWhile_83 rfl (lv_at hl 1 rfl) ?_
      refine lv_aload_n hx hb d_an_goWhile_84 rfl (lv_at hl 2 rfl) ?_
      refine lv_iload_n hx hb d_an_goWhile_85 rfl (lv_at hl 3 rfl) ?_
      replace h := bs h
      obtain ⟨w14, hw14, h⟩ := h
      refine cv_an_165 (As := [rb base y1, .ref (base + y2), .int y3]) (rest := []) hx hb hml hown hts hK hG hW (HG.2.2.2.2.2.1 hw14) (HG.2.2.2.2.2.2 hw14) ⟨by show 7 + 1 * d + 1 ≤ 7 + 1 * (d + 1); omega, by show 8 + (6 + 11) + (186 + 27 * d) ≤ 186 + 27 * (d + 1); omega⟩ ⟨Nat.le_of_ble_eq_true rfl, Nat.le_of_ble_eq_true rfl⟩ rfl hl.1 rfl (Nat.le_of_ble_eq_true rfl) d_an_goWhile_86 (fun H locs hW => ?_)
      refine lv_aload_n hx hb d_an_goWhile_89 rfl (lv_at hl 0 rfl) ?_
      refine lv_iload hx hb d_an_goWhile_90 (lv_at hl 5 rfl) ?_
      replace h := its h
      obtain ⟨c16, h⟩ := h
      replace h := bs h
      obtain ⟨w15, hw15, h⟩ := h
      refine pf_an_50 hx hb hts hown hK hG hW (z_n c16) (z_f c16) (pbi hw15 rfl) d_an_goWhile_92 (fun H locs hW => ?_)
      refine lv_aload_n hx hb d_an_goWhile_95 rfl (lv_at hl 0 rfl) ?_
      refine wo_aload_n hx hb d_an_goWhile_96 rfl (lv_at hl 1 rfl) ?_
      refine lv_aload_n hx hb d_an_goWhile_97 rfl (lv_at hl 2 rfl) ?_
      refine lv_iconst (v := (0 : Int32)) hx hb d_an_goWhile_98 (by decide) ?_
      replace h := bs h
      obtain ⟨w17, hw17, h⟩ := h
      refine cv_an_150 (As := [rb base y1, .ref (base + y2), .int (0 : Int32)]) (rest := []) hx hb hml hown hts hK hG hW (c_an_assume l D cA base hw17) (kb_an_assume hw17) ⟨by show 5 + 1 ≤ 7 + 1 * (d + 1); omega, by show 8 + (7 + 11) + 136 ≤ 186 + 27 * (d + 1); omega⟩ ⟨Nat.le_of_ble_eq_true rfl, Nat.le_of_ble_eq_true rfl⟩ rfl hl.1 rfl (Nat.le_of_ble_eq_true rfl) d_an_goWhile_99 (fun H locs hW => ?_)
      cases h
      exact wo_vret hx hb hr hlk hW d_an_goWhile_102
    · rw [if_neg c11] at h
      refine lv_aload_n hx hb d_an_goWhile_58 rfl (lv_at hl 0 rfl) ?_
      refine wo_aload_n hx hb d_an_goWhile_59 rfl (lv_at hl 1 rfl) ?_
      refine lv_aload_n hx hb d_an_goWhile_60 rfl (lv_at hl 2 rfl) ?_
      refine lv_iload_n hx hb d_an_goWhile_61 rfl (lv_at hl 3 rfl) ?_
      replace h := bs h
      obtain ⟨w18, hw18, h⟩ := h
      refine cv_an_165 (As := [rb base y1, .ref (base + y2), .int y3]) (rest := []) hx hb hml hown hts hK hG hW (HG.2.2.2.2.2.1 hw18) (HG.2.2.2.2.2.2 hw18) ⟨by show 7 + 1 * d + 1 ≤ 7 + 1 * (d + 1); omega, by show 8 + (6 + 11) + (186 + 27 * d) ≤ 186 + 27 * (d + 1); omega⟩ ⟨Nat.le_of_ble_eq_true rfl, Nat.le_of_ble_eq_true rfl⟩ rfl hl.1 rfl (Nat.le_of_ble_eq_true rfl) d_an_goWhile_62 (fun H locs hW => ?_)
      refine lv_aload_n hx hb d_an_goWhile_65 rfl (lv_at hl 2 rfl) ?_
      refine lv_aload hx hb d_an_goWhile_66 (lv_at hl 4 rfl) ?_
      replace h := bs h
      obtain ⟨w19, hw19, h⟩ := h
      refine cv_an_147 (As := [.ref (base + y5)]) (rest := []) hx hb hml hown hts hK hG hW (c_sa_copy l D cA base hw19) (kb_sa_copy hw19) ⟨by show 1 + 1 ≤ 7 + 1 * (d + 1); omega, by show 8 + (3 + 11) + 21 ≤ 186 + 27 * (d + 1); omega⟩ ⟨Nat.le_of_ble_eq_true rfl, Nat.le_of_ble_eq_true rfl⟩ rfl hl.1 rfl (Nat.le_of_ble_eq_true rfl) d_an_goWhile_68 (fun H locs hW => ?_)
      refine lv_iinc (v := (y7 + (1 : Int32))) (lv' := [(7, .int (y7 + (1 : Int32))), (0, .ref (base + y0)), (1, rb base y1), (2, .ref (base + y2)), (3, .int y3), (5, .ref (base + y5)), (6, .int y6)]) hx hb d_an_goWhile_71 hl (k := 6) rfl rfl (by decide) rfl (fun ls hl => ?_)
      refine lv_goto (tgt := 49) hx hb d_an_goWhile_74 (by decide) ?_
      exact ih y0 y1 y2 y3 y5 y6 (y7 + (1 : Int32)) w19 h _ _ _ hW (lv_sub hl [1, 2, 3, 4, 5, 6, 0] rfl)
set_option maxHeartbeats 4000000 in
set_option maxRecDepth 100000 in
theorem co_an_goWhile (l : Launch) (D : va_G) (cA : Nat → ClassId) (base : Nat) {d : Nat} {g_an_goStatements : Nat → Option Nat → Nat → Int32 → WW → Option WW} {g_an_goStatement : Nat → Option Nat → Nat → Int32 → WW → Option WW} {g_an_goIf : Nat → Option Nat → Nat → Int32 → WW → Option WW} {g_an_goWhile : Nat → Option Nat → Nat → Int32 → WW → Option WW} {g_an_settle : Nat → Option Nat → Nat → Int32 → WW → Option WW} {g_an_goPass : Nat → Option Nat → Nat → Int32 → WW → Option WW} (HG : sA_an6 l D cA base d g_an_goStatements g_an_goStatement g_an_goIf g_an_goWhile g_an_settle g_an_goPass ) {a0 : Nat} {a1 : Option Nat} {a2 : Nat} {a3 : Int32} {w w' : WW} (h : fo_an_goWhile g_an_goStatements g_an_goStatement g_an_goIf g_an_goWhile g_an_settle g_an_goPass a0 a1 a2 a3 w = some w') : mt l D cls (wo_tys cA) cA base y_an_goWhile (Cond.code y_an_goWhile b_an_goWhile 8 (none) :: gt) (rm_an_goWhile (d + 1)) [.ref (base + a0), rb base a1, .ref (base + a2), .int a3] w none w' (rm_an_goWhile (d + 1)).cells (rm_an_goWhile (d + 1)).slots := by
  refine mt_start (by decide) (by simp only [lg_sl_0, lg_sl_1, lg_sl_2, lg_sl_3, lg_sl_rf]; decide) ?_
  intro p e s m below meth c ls hx hb hr hml hown hts hlk hnm hK hG hW hl
  have C : cx b_an_goWhile (none) 8 y_an_goWhile.cls "goWhile" p s m [.ref (base + a0), rb base a1, .ref (base + a2), .int a3].toArray meth c D cA base := ⟨hx, hb, hr, hml, hown, hts, hlk, hnm, hK, hG⟩
  have hl : lv_has ls 8 [(0, .ref (base + a0)), (1, rb base a1), (2, .ref (base + a2)), (3, .int a3)] := by simp only [lv_args_0, lv_args_1, lv_args_2, lv_args_3, lv_args_rf] at hl; exact hl
  unfold fo_an_goWhile at h
  replace h := its h
  obtain ⟨-, h⟩ := h
  refine lv_aload_n hx hb d_an_goWhile_0 rfl (lv_at hl 0 rfl) ?_
  replace h := bs h
  obtain ⟨x1, hx1, h⟩ := h
  refine gf_an_18 hx hb hts hown hK hG hW (gN_s hx1) d_an_goWhile_1 ?_
  refine lv_iconst (v := (3 : Int32)) hx hb d_an_goWhile_4 (by decide) ?_
  refine lv_iload_n hx hb d_an_goWhile_5 rfl (lv_at hl 3 rfl) ?_
  refine lv_imul hx hb d_an_goWhile_6 ?_
  replace h := bs h
  obtain ⟨x2, hx2, h⟩ := h
  refine wo_aald hx hb hK hW (t := 5) rfl (rN_s hx2) d_an_goWhile_7 ?_
  refine lv_astore (lv' := [(4, .ref (base + x2)), (0, .ref (base + a0)), (1, rb base a1), (2, .ref (base + a2)), (3, .int a3)]) hx hb d_an_goWhile_8 hl (by decide) rfl (fun ls hl => ?_)
  refine lv_aload_n hx hb d_an_goWhile_10 rfl (lv_at hl 1 rfl) ?_
  replace h := bs h
  obtain ⟨x3, hx3, h⟩ := h
  refine gf_an_18 hx hb hts hown hK hG hW (gN_s hx3) d_an_goWhile_11 ?_
  refine lv_iconst (v := (3 : Int32)) hx hb d_an_goWhile_14 (by decide) ?_
  refine lv_iload_n hx hb d_an_goWhile_15 rfl (lv_at hl 4 rfl) ?_
  refine lv_imul hx hb d_an_goWhile_16 ?_
  refine lv_iconst (v := (1 : Int32)) hx hb d_an_goWhile_17 (by decide) ?_
  refine lv_iadd hx hb d_an_goWhile_18 ?_
  replace h := bs h
  obtain ⟨x4, hx4, h⟩ := h
  refine wo_aald hx hb hK hW (t := 5) rfl (rN_s hx4) d_an_goWhile_19 ?_
  refine lv_astore (lv' := [(5, .ref (base + x4)), (4, .ref (base + x2)), (0, .ref (base + a0)), (1, rb base a1), (2, .ref (base + a2)), (3, .int a3)]) hx hb d_an_goWhile_20 hl (by decide) rfl (fun ls hl => ?_)
  refine lv_aload hx hb d_an_goWhile_22 (lv_at hl 1 rfl) ?_
  refine lv_aload_n hx hb d_an_goWhile_24 rfl (lv_at hl 4 rfl) ?_
  replace h := bs h
  obtain ⟨w5, hw5, h⟩ := h
  refine cv_an_147 (As := [.ref (base + a2)]) (rest := []) hx hb hml hown hts hK hG hW (c_sa_copy l D cA base hw5) (kb_sa_copy hw5) ⟨by show 1 + 1 ≤ 7 + 1 * (d + 1); omega, by show 8 + (3 + 11) + 21 ≤ 186 + 27 * (d + 1); omega⟩ ⟨Nat.le_of_ble_eq_true rfl, Nat.le_of_ble_eq_true rfl⟩ rfl hl.1 rfl (Nat.le_of_ble_eq_true rfl) d_an_goWhile_25 (fun H locs hW => ?_)
  refine lv_aload_n hx hb d_an_goWhile_28 rfl (lv_at hl 2 rfl) ?_
  replace h := bs h
  obtain ⟨x6, hx6, h⟩ := h
  refine gf_an_50 hx hb hts hown hK hG hW (gI_s hx6) d_an_goWhile_29 ?_
  refine lv_istore (lv' := [(6, .int x6), (5, .ref (base + x4)), (4, .ref (base + x2)), (0, .ref (base + a0)), (1, rb base a1), (2, .ref (base + a2)), (3, .int a3)]) hx hb d_an_goWhile_32 hl (by decide) rfl (fun ls hl => ?_)
  refine lv_aload_n hx hb d_an_goWhile_34 rfl (lv_at hl 3 rfl) ?_
  refine lv_iconst (v := (0 : Int32)) hx hb d_an_goWhile_35 (by decide) ?_
  replace h := its h
  obtain ⟨c8, h⟩ := h
  replace h := bs h
  obtain ⟨w7, hw7, h⟩ := h
  refine pf_an_50 hx hb hts hown hK hG hW (z_n c8) (z_f c8) (pbi hw7 rfl) d_an_goWhile_36 (fun H locs hW => ?_)
  refine lv_aload_n hx hb d_an_goWhile_39 rfl (lv_at hl 3 rfl) ?_
  refine wo_aload_n hx hb d_an_goWhile_40 rfl (lv_at hl 4 rfl) ?_
  refine lv_aload_n hx hb d_an_goWhile_41 rfl (lv_at hl 5 rfl) ?_
  refine lv_iload_n hx hb d_an_goWhile_42 rfl (lv_at hl 6 rfl) ?_
  replace h := bs h
  obtain ⟨w9, hw9, h⟩ := h
  refine cv_an_162 (As := [rb base a1, .ref (base + a2), .int a3]) (rest := []) hx hb hml hown hts hK hG hW (HG.2.2.2.2.1.1 hw9) (HG.2.2.2.2.1.2 hw9) ⟨by show 7 + 1 * d + 1 ≤ 7 + 1 * (d + 1); omega, by show 8 + (7 + 11) + (186 + 27 * d) ≤ 186 + 27 * (d + 1); omega⟩ ⟨Nat.le_of_ble_eq_true rfl, Nat.le_of_ble_eq_true rfl⟩ rfl hl.1 rfl (Nat.le_of_ble_eq_true rfl) d_an_goWhile_43 (fun H locs hW => ?_)
  refine lv_iconst (v := (0 : Int32)) hx hb d_an_goWhile_46 (by decide) ?_
  refine lv_istore (lv' := [(7, .int (0 : Int32)), (6, .int x6), (5, .ref (base + x4)), (4, .ref (base + x2)), (0, .ref (base + a0)), (1, rb base a1), (2, .ref (base + a2)), (3, .int a3)]) hx hb d_an_goWhile_47 hl (by decide) rfl (fun ls hl => ?_)
  exact j_an_goWhile_49 C HG KK a0 a1 a2 a3 x4 x6 (0 : Int32) w9 h _ _ _ hW (lv_sub hl [4, 5, 6, 7, 2, 1, 0] rfl)
theorem d_an_settle_0 : decode b_an_settle 0 = .ok (.aload_n 0, 1) := by decide +kernel
theorem d_an_settle_1 : decode b_an_settle 1 = .ok (.getfield 18, 3) := by decide +kernel
theorem d_an_settle_4 : decode b_an_settle 4 = .ok (.iconst 3, 1) := by decide +kernel
theorem d_an_settle_5 : decode b_an_settle 5 = .ok (.iload_n 3, 1) := by decide +kernel
theorem d_an_settle_6 : decode b_an_settle 6 = .ok (.imul, 1) := by decide +kernel
theorem d_an_settle_7 : decode b_an_settle 7 = .ok (.iconst 1, 1) := by decide +kernel
theorem d_an_settle_8 : decode b_an_settle 8 = .ok (.iadd, 1) := by decide +kernel
theorem d_an_settle_9 : decode b_an_settle 9 = .ok (.aaload, 1) := by decide +kernel
theorem d_an_settle_10 : decode b_an_settle 10 = .ok (.astore 4, 2) := by decide +kernel
theorem d_an_settle_12 : decode b_an_settle 12 = .ok (.aload_n 0, 1) := by decide +kernel
theorem d_an_settle_13 : decode b_an_settle 13 = .ok (.getfield 18, 3) := by decide +kernel
theorem d_an_settle_16 : decode b_an_settle 16 = .ok (.iconst 3, 1) := by decide +kernel
theorem d_an_settle_17 : decode b_an_settle 17 = .ok (.iload_n 3, 1) := by decide +kernel
theorem d_an_settle_18 : decode b_an_settle 18 = .ok (.imul, 1) := by decide +kernel
theorem d_an_settle_19 : decode b_an_settle 19 = .ok (.iconst 2, 1) := by decide +kernel
theorem d_an_settle_20 : decode b_an_settle 20 = .ok (.iadd, 1) := by decide +kernel
theorem d_an_settle_21 : decode b_an_settle 21 = .ok (.aaload, 1) := by decide +kernel
theorem d_an_settle_22 : decode b_an_settle 22 = .ok (.astore 5, 2) := by decide +kernel
theorem d_an_settle_24 : decode b_an_settle 24 = .ok (.iconst 1, 1) := by decide +kernel
theorem d_an_settle_25 : decode b_an_settle 25 = .ok (.istore 6, 2) := by decide +kernel
theorem d_an_settle_27 : decode b_an_settle 27 = .ok (.iload 6, 2) := by decide +kernel
theorem d_an_settle_29 : decode b_an_settle 29 = .ok (.bipush (100), 2) := by decide +kernel
theorem d_an_settle_31 : decode b_an_settle 31 = .ok (.if_icmp .gt (74), 3) := by decide +kernel
theorem d_an_settle_34 : decode b_an_settle 34 = .ok (.aload_n 0, 1) := by decide +kernel
theorem d_an_settle_35 : decode b_an_settle 35 = .ok (.aload_n 1, 1) := by decide +kernel
theorem d_an_settle_36 : decode b_an_settle 36 = .ok (.aload_n 2, 1) := by decide +kernel
theorem d_an_settle_37 : decode b_an_settle 37 = .ok (.iload_n 3, 1) := by decide +kernel
theorem d_an_settle_38 : decode b_an_settle 38 = .ok (.invokevirtual 165, 3) := by decide +kernel
theorem d_an_settle_41 : decode b_an_settle 41 = .ok (.aload 5, 2) := by decide +kernel
theorem d_an_settle_43 : decode b_an_settle 43 = .ok (.aload_n 2, 1) := by decide +kernel
theorem d_an_settle_44 : decode b_an_settle 44 = .ok (.invokevirtual 147, 3) := by decide +kernel
theorem d_an_settle_47 : decode b_an_settle 47 = .ok (.aload 5, 2) := by decide +kernel
theorem d_an_settle_49 : decode b_an_settle 49 = .ok (.aload 4, 2) := by decide +kernel
theorem d_an_settle_51 : decode b_an_settle 51 = .ok (.invokevirtual 160, 3) := by decide +kernel
theorem d_an_settle_54 : decode b_an_settle 54 = .ok (.aload 5, 2) := by decide +kernel
theorem d_an_settle_56 : decode b_an_settle 56 = .ok (.aload_n 2, 1) := by decide +kernel
theorem d_an_settle_57 : decode b_an_settle 57 = .ok (.invokevirtual 168, 3) := by decide +kernel
theorem d_an_settle_60 : decode b_an_settle 60 = .ok (.ifCond .eq (4), 3) := by decide +kernel
theorem d_an_settle_63 : decode b_an_settle 63 = .ok (.return_, 1) := by decide +kernel
theorem d_an_settle_64 : decode b_an_settle 64 = .ok (.iload 6, 2) := by decide +kernel
theorem d_an_settle_66 : decode b_an_settle 66 = .ok (.aload_n 0, 1) := by decide +kernel
theorem d_an_settle_67 : decode b_an_settle 67 = .ok (.getfield 37, 3) := by decide +kernel
theorem d_an_settle_70 : decode b_an_settle 70 = .ok (.if_icmp .gt (12), 3) := by decide +kernel
theorem d_an_settle_73 : decode b_an_settle 73 = .ok (.aload_n 2, 1) := by decide +kernel
theorem d_an_settle_74 : decode b_an_settle 74 = .ok (.aload 5, 2) := by decide +kernel
theorem d_an_settle_76 : decode b_an_settle 76 = .ok (.invokevirtual 147, 3) := by decide +kernel
theorem d_an_settle_79 : decode b_an_settle 79 = .ok (.goto (9), 3) := by decide +kernel
theorem d_an_settle_82 : decode b_an_settle 82 = .ok (.aload_n 2, 1) := by decide +kernel
theorem d_an_settle_83 : decode b_an_settle 83 = .ok (.aload 4, 2) := by decide +kernel
theorem d_an_settle_85 : decode b_an_settle 85 = .ok (.invokevirtual 172, 3) := by decide +kernel
theorem d_an_settle_88 : decode b_an_settle 88 = .ok (.iload 6, 2) := by decide +kernel
theorem d_an_settle_90 : decode b_an_settle 90 = .ok (.bipush (20), 2) := by decide +kernel
theorem d_an_settle_92 : decode b_an_settle 92 = .ok (.if_icmp .le (7), 3) := by decide +kernel
theorem d_an_settle_95 : decode b_an_settle 95 = .ok (.aload_n 2, 1) := by decide +kernel
theorem d_an_settle_96 : decode b_an_settle 96 = .ok (.invokevirtual 175, 3) := by decide +kernel
theorem d_an_settle_99 : decode b_an_settle 99 = .ok (.iinc 6 (1), 3) := by decide +kernel
theorem d_an_settle_102 : decode b_an_settle 102 = .ok (.goto (-75), 3) := by decide +kernel
theorem d_an_settle_105 : decode b_an_settle 105 = .ok (.return_, 1) := by decide +kernel
theorem kbo_an_settle {g_an_goStatements : Nat → Option Nat → Nat → Int32 → WW → Option WW} {g_an_goStatement : Nat → Option Nat → Nat → Int32 → WW → Option WW} {g_an_goIf : Nat → Option Nat → Nat → Int32 → WW → Option WW} {g_an_goWhile : Nat → Option Nat → Nat → Int32 → WW → Option WW} {g_an_settle : Nat → Option Nat → Nat → Int32 → WW → Option WW} {g_an_goPass : Nat → Option Nat → Nat → Int32 → WW → Option WW} {a0 a2 : Nat} {a1 : Option Nat} {a3 : Int32} {w : WW} {r : WW} (h : fo_an_settle g_an_goStatements g_an_goStatement g_an_goIf g_an_goWhile g_an_settle g_an_goPass a0 a1 a2 a3 w = some r) : kb w a0 6 = true := (its h).1
set_option maxHeartbeats 4000000 in
set_option maxRecDepth 100000 in
theorem j_an_settle_99 {p : Program} {l : Launch} {e : Env} {s : State} {m : MethodId} {args : Array Value} {below : List Frame} {meth : Method} {c : Code} {D : va_G} {cA : Nat → ClassId} {base : Nat} {w' : WW} (C : cx b_an_settle (none) 7 y_an_settle.cls "settle" p s m args meth c D cA base) {d : Nat} {g_an_goStatements : Nat → Option Nat → Nat → Int32 → WW → Option WW} {g_an_goStatement : Nat → Option Nat → Nat → Int32 → WW → Option WW} {g_an_goIf : Nat → Option Nat → Nat → Int32 → WW → Option WW} {g_an_goWhile : Nat → Option Nat → Nat → Int32 → WW → Option WW} {g_an_settle : Nat → Option Nat → Nat → Int32 → WW → Option WW} {g_an_goPass : Nat → Option Nat → Nat → Int32 → WW → Option WW} (HG : sA_an6 l D cA base d g_an_goStatements g_an_goStatement g_an_goIf g_an_goWhile g_an_settle g_an_goPass ) {k_27 : Nat → Option Nat → Nat → Int32 → Nat → Nat → Int32 → WW → Option WW} (hk_27 : ∀ (y0 : Nat) (y1 : Option Nat) (y2 : Nat) (y3 : Int32) (y4 : Nat) (y5 : Nat) (y6 : Int32) (w : WW), k_27 y0 y1 y2 y3 y4 y5 y6 w = some w' → ∀ (H : Heap) (locs : List Loc) (ls : Array Slot), wo_S D cls cA base s w H locs → lv_has ls 7 [(0, .ref (base + y0)), (1, rb base y1), (2, .ref (base + y2)), (3, .int y3), (4, .ref (base + y4)), (5, .ref (base + y5)), (6, .int y6)] → W p l e (rm_an_settle (d + 1)) s m args below meth c H locs 0 0 (MQ below (wo_Q D cls cA base none w') args s (rm_an_settle (d + 1)).cells (rm_an_settle (d + 1)).slots (wo_B base)) (F0 m 27 ls [])) : ∀ (y0 : Nat) (y1 : Option Nat) (y2 : Nat) (y3 : Int32) (y4 : Nat) (y5 : Nat) (y6 : Int32) (w : WW), f_an_settle_99 g_an_goStatements g_an_goStatement g_an_goIf g_an_goWhile g_an_settle g_an_goPass k_27 y0 y1 y2 y3 y4 y5 y6 w = some w' → ∀ (H : Heap) (locs : List Loc) (ls : Array Slot), wo_S D cls cA base s w H locs → lv_has ls 7 [(0, .ref (base + y0)), (1, rb base y1), (2, .ref (base + y2)), (3, .int y3), (4, .ref (base + y4)), (5, .ref (base + y5)), (6, .int y6)] → W p l e (rm_an_settle (d + 1)) s m args below meth c H locs 0 0 (MQ below (wo_Q D cls cA base none w') args s (rm_an_settle (d + 1)).cells (rm_an_settle (d + 1)).slots (wo_B base)) (F0 m 99 ls []) := by
  obtain ⟨hx, hb, hr, hml, hown, hts, hlk, hnm, hK, hG⟩ := id C
  intro y0 y1 y2 y3 y4 y5 y6 w h H locs ls hW hl
  unfold f_an_settle_99 at h
  refine lv_iinc (v := (y6 + (1 : Int32))) (lv' := [(6, .int (y6 + (1 : Int32))), (0, .ref (base + y0)), (1, rb base y1), (2, .ref (base + y2)), (3, .int y3), (4, .ref (base + y4)), (5, .ref (base + y5))]) hx hb d_an_settle_99 hl (k := 6) rfl rfl (by decide) rfl (fun ls hl => ?_)
  refine lv_goto (tgt := 27) hx hb d_an_settle_102 (by decide) ?_
  exact hk_27 y0 y1 y2 y3 y4 y5 (y6 + (1 : Int32)) w h _ _ _ hW (lv_sub hl [1, 2, 3, 4, 5, 6, 0] rfl)
set_option maxHeartbeats 4000000 in
set_option maxRecDepth 100000 in
theorem j_an_settle_88 {p : Program} {l : Launch} {e : Env} {s : State} {m : MethodId} {args : Array Value} {below : List Frame} {meth : Method} {c : Code} {D : va_G} {cA : Nat → ClassId} {base : Nat} {w' : WW} (C : cx b_an_settle (none) 7 y_an_settle.cls "settle" p s m args meth c D cA base) {d : Nat} {g_an_goStatements : Nat → Option Nat → Nat → Int32 → WW → Option WW} {g_an_goStatement : Nat → Option Nat → Nat → Int32 → WW → Option WW} {g_an_goIf : Nat → Option Nat → Nat → Int32 → WW → Option WW} {g_an_goWhile : Nat → Option Nat → Nat → Int32 → WW → Option WW} {g_an_settle : Nat → Option Nat → Nat → Int32 → WW → Option WW} {g_an_goPass : Nat → Option Nat → Nat → Int32 → WW → Option WW} (HG : sA_an6 l D cA base d g_an_goStatements g_an_goStatement g_an_goIf g_an_goWhile g_an_settle g_an_goPass ) {k_27 : Nat → Option Nat → Nat → Int32 → Nat → Nat → Int32 → WW → Option WW} (hk_27 : ∀ (y0 : Nat) (y1 : Option Nat) (y2 : Nat) (y3 : Int32) (y4 : Nat) (y5 : Nat) (y6 : Int32) (w : WW), k_27 y0 y1 y2 y3 y4 y5 y6 w = some w' → ∀ (H : Heap) (locs : List Loc) (ls : Array Slot), wo_S D cls cA base s w H locs → lv_has ls 7 [(0, .ref (base + y0)), (1, rb base y1), (2, .ref (base + y2)), (3, .int y3), (4, .ref (base + y4)), (5, .ref (base + y5)), (6, .int y6)] → W p l e (rm_an_settle (d + 1)) s m args below meth c H locs 0 0 (MQ below (wo_Q D cls cA base none w') args s (rm_an_settle (d + 1)).cells (rm_an_settle (d + 1)).slots (wo_B base)) (F0 m 27 ls [])) : ∀ (y0 : Nat) (y1 : Option Nat) (y2 : Nat) (y3 : Int32) (y4 : Nat) (y5 : Nat) (y6 : Int32) (w : WW), f_an_settle_88 g_an_goStatements g_an_goStatement g_an_goIf g_an_goWhile g_an_settle g_an_goPass k_27 y0 y1 y2 y3 y4 y5 y6 w = some w' → ∀ (H : Heap) (locs : List Loc) (ls : Array Slot), wo_S D cls cA base s w H locs → lv_has ls 7 [(0, .ref (base + y0)), (1, rb base y1), (2, .ref (base + y2)), (3, .int y3), (4, .ref (base + y4)), (5, .ref (base + y5)), (6, .int y6)] → W p l e (rm_an_settle (d + 1)) s m args below meth c H locs 0 0 (MQ below (wo_Q D cls cA base none w') args s (rm_an_settle (d + 1)).cells (rm_an_settle (d + 1)).slots (wo_B base)) (F0 m 88 ls []) := by
  obtain ⟨hx, hb, hr, hml, hown, hts, hlk, hnm, hK, hG⟩ := id C
  intro y0 y1 y2 y3 y4 y5 y6 w h H locs ls hW hl
  unfold f_an_settle_88 at h
  refine lv_iload hx hb d_an_settle_88 (lv_at hl 6 rfl) ?_
  refine lv_bipush (v := (20 : Int32)) hx hb d_an_settle_90 (by decide) ?_
  refine lv_icmp_le (tgt := 99) hx hb d_an_settle_92 (by decide) (fun c15 => ?_) (fun c15 => ?_)
  · rw [if_pos c15] at h
    exact j_an_settle_99 C HG hk_27 y0 y1 y2 y3 y4 y5 y6 w h _ _ _ hW (lv_sub hl [0, 1, 2, 3, 4, 5, 6] rfl)
  · rw [if_neg c15] at h
    refine lv_aload_n hx hb d_an_settle_95 rfl (lv_at hl 2 rfl) ?_
    replace h := bs h
    obtain ⟨w16, hw16, h⟩ := h
    refine cv_an_175 (As := []) (rest := []) hx hb hml hown hts hK hG hW (c_sa_setAllInts l D cA base hw16) (kb_sa_setAllInts hw16) ⟨by show 1 + 1 ≤ 7 + 1 * (d + 1); omega, by show 8 + (2 + 11) + 20 ≤ 186 + 27 * (d + 1); omega⟩ ⟨Nat.le_of_ble_eq_true rfl, Nat.le_of_ble_eq_true rfl⟩ rfl hl.1 rfl (Nat.le_of_ble_eq_true rfl) d_an_settle_96 (fun H locs hW => ?_)
    exact j_an_settle_99 C HG hk_27 y0 y1 y2 y3 y4 y5 y6 w16 h _ _ _ hW (lv_sub hl [0, 1, 2, 3, 4, 5, 6] rfl)
set_option maxHeartbeats 4000000 in
set_option maxRecDepth 100000 in
theorem j_an_settle_27 {p : Program} {l : Launch} {e : Env} {s : State} {m : MethodId} {args : Array Value} {below : List Frame} {meth : Method} {c : Code} {D : va_G} {cA : Nat → ClassId} {base : Nat} {w' : WW} (C : cx b_an_settle (none) 7 y_an_settle.cls "settle" p s m args meth c D cA base) {d : Nat} {g_an_goStatements : Nat → Option Nat → Nat → Int32 → WW → Option WW} {g_an_goStatement : Nat → Option Nat → Nat → Int32 → WW → Option WW} {g_an_goIf : Nat → Option Nat → Nat → Int32 → WW → Option WW} {g_an_goWhile : Nat → Option Nat → Nat → Int32 → WW → Option WW} {g_an_settle : Nat → Option Nat → Nat → Int32 → WW → Option WW} {g_an_goPass : Nat → Option Nat → Nat → Int32 → WW → Option WW} (HG : sA_an6 l D cA base d g_an_goStatements g_an_goStatement g_an_goIf g_an_goWhile g_an_settle g_an_goPass )   : ∀ n : Nat, ∀ (y0 : Nat) (y1 : Option Nat) (y2 : Nat) (y3 : Int32) (y4 : Nat) (y5 : Nat) (y6 : Int32) (w : WW), f_an_settle_27 g_an_goStatements g_an_goStatement g_an_goIf g_an_goWhile g_an_settle g_an_goPass n y0 y1 y2 y3 y4 y5 y6 w = some w' → ∀ (H : Heap) (locs : List Loc) (ls : Array Slot), wo_S D cls cA base s w H locs → lv_has ls 7 [(0, .ref (base + y0)), (1, rb base y1), (2, .ref (base + y2)), (3, .int y3), (4, .ref (base + y4)), (5, .ref (base + y5)), (6, .int y6)] → W p l e (rm_an_settle (d + 1)) s m args below meth c H locs 0 0 (MQ below (wo_Q D cls cA base none w') args s (rm_an_settle (d + 1)).cells (rm_an_settle (d + 1)).slots (wo_B base)) (F0 m 27 ls []) := by
  obtain ⟨hx, hb, hr, hml, hown, hts, hlk, hnm, hK, hG⟩ := id C
  intro n
  induction n with
  | zero => intro y0 y1 y2 y3 y4 y5 y6 w h; cases h
  | succ n ih =>
    intro y0 y1 y2 y3 y4 y5 y6 w h H locs ls hW hl
    rw [f_an_settle_27] at h
    refine lv_iload hx hb d_an_settle_27 (lv_at hl 6 rfl) ?_
    refine lv_bipush (v := (100 : Int32)) hx hb d_an_settle_29 (by decide) ?_
    refine lv_icmp_gt (tgt := 105) hx hb d_an_settle_31 (by decide) (fun c5 => ?_) (fun c5 => ?_)
    · rw [if_pos c5] at h
      cases h
      exact wo_vret hx hb hr hlk hW d_an_settle_105
    · rw [if_neg c5] at h
      refine lv_aload_n hx hb d_an_settle_34 rfl (lv_at hl 0 rfl) ?_
      refine wo_aload_n hx hb d_an_settle_35 rfl (lv_at hl 1 rfl) ?_
      refine lv_aload_n hx hb d_an_settle_36 rfl (lv_at hl 2 rfl) ?_
      refine lv_iload_n hx hb d_an_settle_37 rfl (lv_at hl 3 rfl) ?_
      replace h := bs h
      obtain ⟨w6, hw6, h⟩ := h
      refine cv_an_165 (As := [rb base y1, .ref (base + y2), .int y3]) (rest := []) hx hb hml hown hts hK hG hW (HG.2.2.2.2.2.1 hw6) (HG.2.2.2.2.2.2 hw6) ⟨by show 7 + 1 * d + 1 ≤ 7 + 1 * (d + 1); omega, by show 8 + (6 + 11) + (186 + 27 * d) ≤ 186 + 27 * (d + 1); omega⟩ ⟨Nat.le_of_ble_eq_true rfl, Nat.le_of_ble_eq_true rfl⟩ rfl hl.1 rfl (Nat.le_of_ble_eq_true rfl) d_an_settle_38 (fun H locs hW => ?_)
      refine lv_aload hx hb d_an_settle_41 (lv_at hl 5 rfl) ?_
      refine lv_aload_n hx hb d_an_settle_43 rfl (lv_at hl 2 rfl) ?_
      replace h := bs h
      obtain ⟨w7, hw7, h⟩ := h
      refine cv_an_147 (As := [.ref (base + y2)]) (rest := []) hx hb hml hown hts hK hG hW (c_sa_copy l D cA base hw7) (kb_sa_copy hw7) ⟨by show 1 + 1 ≤ 7 + 1 * (d + 1); omega, by show 8 + (3 + 11) + 21 ≤ 186 + 27 * (d + 1); omega⟩ ⟨Nat.le_of_ble_eq_true rfl, Nat.le_of_ble_eq_true rfl⟩ rfl hl.1 rfl (Nat.le_of_ble_eq_true rfl) d_an_settle_44 (fun H locs hW => ?_)
      refine lv_aload hx hb d_an_settle_47 (lv_at hl 5 rfl) ?_
      refine lv_aload hx hb d_an_settle_49 (lv_at hl 4 rfl) ?_
      replace h := bs h
      obtain ⟨w8, hw8, h⟩ := h
      refine cv_an_160 (As := [.ref (base + y4)]) (rest := []) hx hb hml hown hts hK hG hW (c_sa_join l D cA base hw8) (kb_sa_join hw8) ⟨by show 5 + 1 ≤ 7 + 1 * (d + 1); omega, by show 8 + (2 + 11) + 121 ≤ 186 + 27 * (d + 1); omega⟩ ⟨Nat.le_of_ble_eq_true rfl, Nat.le_of_ble_eq_true rfl⟩ rfl hl.1 rfl (Nat.le_of_ble_eq_true rfl) d_an_settle_51 (fun H locs hW => ?_)
      refine lv_aload hx hb d_an_settle_54 (lv_at hl 5 rfl) ?_
      refine lv_aload_n hx hb d_an_settle_56 rfl (lv_at hl 2 rfl) ?_
      replace h := bs2 h
      obtain ⟨x10, w9, hw9, h⟩ := h
      refine cv_an_168 (As := [.ref (base + y2)]) (rest := []) hx hb hml hown hts hK hG hW (c_sa_sameAs l D cA base hw9) (kb_sa_sameAs hw9) ⟨by show 1 + 1 ≤ 7 + 1 * (d + 1); omega, by show 8 + (3 + 11) + 21 ≤ 186 + 27 * (d + 1); omega⟩ ⟨Nat.le_of_ble_eq_true rfl, Nat.le_of_ble_eq_true rfl⟩ rfl hl.1 rfl (Nat.le_of_ble_eq_true rfl) d_an_settle_57 (fun H locs hW => ?_)
      refine lv_if_eq (tgt := 64) hx hb d_an_settle_60 (by decide) (fun c11 => ?_) (fun c11 => ?_)
      · rw [if_pos c11] at h
        refine lv_iload hx hb d_an_settle_64 (lv_at hl 6 rfl) ?_
        refine lv_aload_n hx hb d_an_settle_66 rfl (lv_at hl 0 rfl) ?_
        replace h := bs h
        obtain ⟨x12, hx12, h⟩ := h
        refine gf_an_37 hx hb hts hown hK hG hW (gI_s hx12) d_an_settle_67 ?_
        refine lv_icmp_gt (tgt := 82) hx hb d_an_settle_70 (by decide) (fun c13 => ?_) (fun c13 => ?_)
        · rw [if_pos c13] at h
          refine lv_aload_n hx hb d_an_settle_82 rfl (lv_at hl 2 rfl) ?_
          refine lv_aload hx hb d_an_settle_83 (lv_at hl 4 rfl) ?_
          replace h := bs h
          obtain ⟨w14, hw14, h⟩ := h
          refine cv_an_172 (As := [.ref (base + y4)]) (rest := []) hx hb hml hown hts hK hG hW (c_sa_widen l D cA base hw14) (kb_sa_widen hw14) ⟨by show 5 + 1 ≤ 7 + 1 * (d + 1); omega, by show 8 + (2 + 11) + 121 ≤ 186 + 27 * (d + 1); omega⟩ ⟨Nat.le_of_ble_eq_true rfl, Nat.le_of_ble_eq_true rfl⟩ rfl hl.1 rfl (Nat.le_of_ble_eq_true rfl) d_an_settle_85 (fun H locs hW => ?_)
          exact j_an_settle_88 C HG ih y0 y1 y2 y3 y4 y5 y6 w14 h _ _ _ hW (lv_sub hl [0, 1, 2, 3, 4, 5, 6] rfl)
        · rw [if_neg c13] at h
          refine lv_aload_n hx hb d_an_settle_73 rfl (lv_at hl 2 rfl) ?_
          refine lv_aload hx hb d_an_settle_74 (lv_at hl 5 rfl) ?_
          replace h := bs h
          obtain ⟨w17, hw17, h⟩ := h
          refine cv_an_147 (As := [.ref (base + y5)]) (rest := []) hx hb hml hown hts hK hG hW (c_sa_copy l D cA base hw17) (kb_sa_copy hw17) ⟨by show 1 + 1 ≤ 7 + 1 * (d + 1); omega, by show 8 + (3 + 11) + 21 ≤ 186 + 27 * (d + 1); omega⟩ ⟨Nat.le_of_ble_eq_true rfl, Nat.le_of_ble_eq_true rfl⟩ rfl hl.1 rfl (Nat.le_of_ble_eq_true rfl) d_an_settle_76 (fun H locs hW => ?_)
          refine lv_goto (tgt := 88) hx hb d_an_settle_79 (by decide) ?_
          exact j_an_settle_88 C HG ih y0 y1 y2 y3 y4 y5 y6 w17 h _ _ _ hW (lv_sub hl [0, 1, 2, 3, 4, 5, 6] rfl)
      · rw [if_neg c11] at h
        cases h
        exact wo_vret hx hb hr hlk hW d_an_settle_63
set_option maxHeartbeats 4000000 in
set_option maxRecDepth 100000 in
theorem co_an_settle (l : Launch) (D : va_G) (cA : Nat → ClassId) (base : Nat) {d : Nat} {g_an_goStatements : Nat → Option Nat → Nat → Int32 → WW → Option WW} {g_an_goStatement : Nat → Option Nat → Nat → Int32 → WW → Option WW} {g_an_goIf : Nat → Option Nat → Nat → Int32 → WW → Option WW} {g_an_goWhile : Nat → Option Nat → Nat → Int32 → WW → Option WW} {g_an_settle : Nat → Option Nat → Nat → Int32 → WW → Option WW} {g_an_goPass : Nat → Option Nat → Nat → Int32 → WW → Option WW} (HG : sA_an6 l D cA base d g_an_goStatements g_an_goStatement g_an_goIf g_an_goWhile g_an_settle g_an_goPass ) {a0 : Nat} {a1 : Option Nat} {a2 : Nat} {a3 : Int32} {w w' : WW} (h : fo_an_settle g_an_goStatements g_an_goStatement g_an_goIf g_an_goWhile g_an_settle g_an_goPass a0 a1 a2 a3 w = some w') : mt l D cls (wo_tys cA) cA base y_an_settle (Cond.code y_an_settle b_an_settle 7 (none) :: gt) (rm_an_settle (d + 1)) [.ref (base + a0), rb base a1, .ref (base + a2), .int a3] w none w' (rm_an_settle (d + 1)).cells (rm_an_settle (d + 1)).slots := by
  refine mt_start (by decide) (by simp only [lg_sl_0, lg_sl_1, lg_sl_2, lg_sl_3, lg_sl_rf]; decide) ?_
  intro p e s m below meth c ls hx hb hr hml hown hts hlk hnm hK hG hW hl
  have C : cx b_an_settle (none) 7 y_an_settle.cls "settle" p s m [.ref (base + a0), rb base a1, .ref (base + a2), .int a3].toArray meth c D cA base := ⟨hx, hb, hr, hml, hown, hts, hlk, hnm, hK, hG⟩
  have hl : lv_has ls 7 [(0, .ref (base + a0)), (1, rb base a1), (2, .ref (base + a2)), (3, .int a3)] := by simp only [lv_args_0, lv_args_1, lv_args_2, lv_args_3, lv_args_rf] at hl; exact hl
  unfold fo_an_settle at h
  replace h := its h
  obtain ⟨-, h⟩ := h
  refine lv_aload_n hx hb d_an_settle_0 rfl (lv_at hl 0 rfl) ?_
  replace h := bs h
  obtain ⟨x1, hx1, h⟩ := h
  refine gf_an_18 hx hb hts hown hK hG hW (gN_s hx1) d_an_settle_1 ?_
  refine lv_iconst (v := (3 : Int32)) hx hb d_an_settle_4 (by decide) ?_
  refine lv_iload_n hx hb d_an_settle_5 rfl (lv_at hl 3 rfl) ?_
  refine lv_imul hx hb d_an_settle_6 ?_
  refine lv_iconst (v := (1 : Int32)) hx hb d_an_settle_7 (by decide) ?_
  refine lv_iadd hx hb d_an_settle_8 ?_
  replace h := bs h
  obtain ⟨x2, hx2, h⟩ := h
  refine wo_aald hx hb hK hW (t := 5) rfl (rN_s hx2) d_an_settle_9 ?_
  refine lv_astore (lv' := [(4, .ref (base + x2)), (0, .ref (base + a0)), (1, rb base a1), (2, .ref (base + a2)), (3, .int a3)]) hx hb d_an_settle_10 hl (by decide) rfl (fun ls hl => ?_)
  refine lv_aload_n hx hb d_an_settle_12 rfl (lv_at hl 1 rfl) ?_
  replace h := bs h
  obtain ⟨x3, hx3, h⟩ := h
  refine gf_an_18 hx hb hts hown hK hG hW (gN_s hx3) d_an_settle_13 ?_
  refine lv_iconst (v := (3 : Int32)) hx hb d_an_settle_16 (by decide) ?_
  refine lv_iload_n hx hb d_an_settle_17 rfl (lv_at hl 4 rfl) ?_
  refine lv_imul hx hb d_an_settle_18 ?_
  refine lv_iconst (v := (2 : Int32)) hx hb d_an_settle_19 (by decide) ?_
  refine lv_iadd hx hb d_an_settle_20 ?_
  replace h := bs h
  obtain ⟨x4, hx4, h⟩ := h
  refine wo_aald hx hb hK hW (t := 5) rfl (rN_s hx4) d_an_settle_21 ?_
  refine lv_astore (lv' := [(5, .ref (base + x4)), (4, .ref (base + x2)), (0, .ref (base + a0)), (1, rb base a1), (2, .ref (base + a2)), (3, .int a3)]) hx hb d_an_settle_22 hl (by decide) rfl (fun ls hl => ?_)
  refine lv_iconst (v := (1 : Int32)) hx hb d_an_settle_24 (by decide) ?_
  refine lv_istore (lv' := [(6, .int (1 : Int32)), (5, .ref (base + x4)), (4, .ref (base + x2)), (0, .ref (base + a0)), (1, rb base a1), (2, .ref (base + a2)), (3, .int a3)]) hx hb d_an_settle_25 hl (by decide) rfl (fun ls hl => ?_)
  exact j_an_settle_27 C HG KK a0 a1 a2 a3 x2 x4 (1 : Int32) w h _ _ _ hW (lv_sub hl [3, 4, 5, 6, 2, 1, 0] rfl)
theorem d_an_goPass_0 : decode b_an_goPass 0 = .ok (.aload_n 0, 1) := by decide +kernel
theorem d_an_goPass_1 : decode b_an_goPass 1 = .ok (.getfield 18, 3) := by decide +kernel
theorem d_an_goPass_4 : decode b_an_goPass 4 = .ok (.iconst 3, 1) := by decide +kernel
theorem d_an_goPass_5 : decode b_an_goPass 5 = .ok (.iload_n 3, 1) := by decide +kernel
theorem d_an_goPass_6 : decode b_an_goPass 6 = .ok (.imul, 1) := by decide +kernel
theorem d_an_goPass_7 : decode b_an_goPass 7 = .ok (.aaload, 1) := by decide +kernel
theorem d_an_goPass_8 : decode b_an_goPass 8 = .ok (.astore 4, 2) := by decide +kernel
theorem d_an_goPass_10 : decode b_an_goPass 10 = .ok (.aload_n 0, 1) := by decide +kernel
theorem d_an_goPass_11 : decode b_an_goPass 11 = .ok (.getfield 18, 3) := by decide +kernel
theorem d_an_goPass_14 : decode b_an_goPass 14 = .ok (.iconst 3, 1) := by decide +kernel
theorem d_an_goPass_15 : decode b_an_goPass 15 = .ok (.iload_n 3, 1) := by decide +kernel
theorem d_an_goPass_16 : decode b_an_goPass 16 = .ok (.imul, 1) := by decide +kernel
theorem d_an_goPass_17 : decode b_an_goPass 17 = .ok (.iconst 1, 1) := by decide +kernel
theorem d_an_goPass_18 : decode b_an_goPass 18 = .ok (.iadd, 1) := by decide +kernel
theorem d_an_goPass_19 : decode b_an_goPass 19 = .ok (.aaload, 1) := by decide +kernel
theorem d_an_goPass_20 : decode b_an_goPass 20 = .ok (.astore 5, 2) := by decide +kernel
theorem d_an_goPass_22 : decode b_an_goPass 22 = .ok (.aload_n 0, 1) := by decide +kernel
theorem d_an_goPass_23 : decode b_an_goPass 23 = .ok (.dup, 1) := by decide +kernel
theorem d_an_goPass_24 : decode b_an_goPass 24 = .ok (.getfield 44, 3) := by decide +kernel
theorem d_an_goPass_27 : decode b_an_goPass 27 = .ok (.iconst 1, 1) := by decide +kernel
theorem d_an_goPass_28 : decode b_an_goPass 28 = .ok (.iadd, 1) := by decide +kernel
theorem d_an_goPass_29 : decode b_an_goPass 29 = .ok (.putfield 44, 3) := by decide +kernel
theorem d_an_goPass_32 : decode b_an_goPass 32 = .ok (.aload 5, 2) := by decide +kernel
theorem d_an_goPass_34 : decode b_an_goPass 34 = .ok (.aload_n 2, 1) := by decide +kernel
theorem d_an_goPass_35 : decode b_an_goPass 35 = .ok (.invokevirtual 147, 3) := by decide +kernel
theorem d_an_goPass_38 : decode b_an_goPass 38 = .ok (.aload_n 0, 1) := by decide +kernel
theorem d_an_goPass_39 : decode b_an_goPass 39 = .ok (.aload_n 1, 1) := by decide +kernel
theorem d_an_goPass_40 : decode b_an_goPass 40 = .ok (.aload 5, 2) := by decide +kernel
theorem d_an_goPass_42 : decode b_an_goPass 42 = .ok (.iconst 1, 1) := by decide +kernel
theorem d_an_goPass_43 : decode b_an_goPass 43 = .ok (.invokevirtual 150, 3) := by decide +kernel
theorem d_an_goPass_46 : decode b_an_goPass 46 = .ok (.aload_n 0, 1) := by decide +kernel
theorem d_an_goPass_47 : decode b_an_goPass 47 = .ok (.aload_n 1, 1) := by decide +kernel
theorem d_an_goPass_48 : decode b_an_goPass 48 = .ok (.getfield 154, 3) := by decide +kernel
theorem d_an_goPass_51 : decode b_an_goPass 51 = .ok (.aload 5, 2) := by decide +kernel
theorem d_an_goPass_53 : decode b_an_goPass 53 = .ok (.iload_n 3, 1) := by decide +kernel
theorem d_an_goPass_54 : decode b_an_goPass 54 = .ok (.iconst 1, 1) := by decide +kernel
theorem d_an_goPass_55 : decode b_an_goPass 55 = .ok (.iadd, 1) := by decide +kernel
theorem d_an_goPass_56 : decode b_an_goPass 56 = .ok (.invokevirtual 63, 3) := by decide +kernel
theorem d_an_goPass_59 : decode b_an_goPass 59 = .ok (.aload 5, 2) := by decide +kernel
theorem d_an_goPass_61 : decode b_an_goPass 61 = .ok (.aload 4, 2) := by decide +kernel
theorem d_an_goPass_63 : decode b_an_goPass 63 = .ok (.invokevirtual 160, 3) := by decide +kernel
theorem d_an_goPass_66 : decode b_an_goPass 66 = .ok (.return_, 1) := by decide +kernel
theorem kbo_an_goPass {g_an_goStatements : Nat → Option Nat → Nat → Int32 → WW → Option WW} {g_an_goStatement : Nat → Option Nat → Nat → Int32 → WW → Option WW} {g_an_goIf : Nat → Option Nat → Nat → Int32 → WW → Option WW} {g_an_goWhile : Nat → Option Nat → Nat → Int32 → WW → Option WW} {g_an_settle : Nat → Option Nat → Nat → Int32 → WW → Option WW} {g_an_goPass : Nat → Option Nat → Nat → Int32 → WW → Option WW} {a0 a2 : Nat} {a1 : Option Nat} {a3 : Int32} {w : WW} {r : WW} (h : fo_an_goPass g_an_goStatements g_an_goStatement g_an_goIf g_an_goWhile g_an_settle g_an_goPass a0 a1 a2 a3 w = some r) : kb w a0 6 = true := (its h).1
set_option maxHeartbeats 4000000 in
set_option maxRecDepth 100000 in
theorem co_an_goPass (l : Launch) (D : va_G) (cA : Nat → ClassId) (base : Nat) {d : Nat} {g_an_goStatements : Nat → Option Nat → Nat → Int32 → WW → Option WW} {g_an_goStatement : Nat → Option Nat → Nat → Int32 → WW → Option WW} {g_an_goIf : Nat → Option Nat → Nat → Int32 → WW → Option WW} {g_an_goWhile : Nat → Option Nat → Nat → Int32 → WW → Option WW} {g_an_settle : Nat → Option Nat → Nat → Int32 → WW → Option WW} {g_an_goPass : Nat → Option Nat → Nat → Int32 → WW → Option WW} (HG : sA_an6 l D cA base d g_an_goStatements g_an_goStatement g_an_goIf g_an_goWhile g_an_settle g_an_goPass ) {a0 : Nat} {a1 : Option Nat} {a2 : Nat} {a3 : Int32} {w w' : WW} (h : fo_an_goPass g_an_goStatements g_an_goStatement g_an_goIf g_an_goWhile g_an_settle g_an_goPass a0 a1 a2 a3 w = some w') : mt l D cls (wo_tys cA) cA base y_an_goPass (Cond.code y_an_goPass b_an_goPass 6 (none) :: gt) (rm_an_goPass (d + 1)) [.ref (base + a0), rb base a1, .ref (base + a2), .int a3] w none w' (rm_an_goPass (d + 1)).cells (rm_an_goPass (d + 1)).slots := by
  refine mt_start (by decide) (by simp only [lg_sl_0, lg_sl_1, lg_sl_2, lg_sl_3, lg_sl_rf]; decide) ?_
  intro p e s m below meth c ls hx hb hr hml hown hts hlk hnm hK hG hW hl
  have C : cx b_an_goPass (none) 6 y_an_goPass.cls "goPass" p s m [.ref (base + a0), rb base a1, .ref (base + a2), .int a3].toArray meth c D cA base := ⟨hx, hb, hr, hml, hown, hts, hlk, hnm, hK, hG⟩
  have hl : lv_has ls 6 [(0, .ref (base + a0)), (1, rb base a1), (2, .ref (base + a2)), (3, .int a3)] := by simp only [lv_args_0, lv_args_1, lv_args_2, lv_args_3, lv_args_rf] at hl; exact hl
  unfold fo_an_goPass at h
  replace h := its h
  obtain ⟨-, h⟩ := h
  refine lv_aload_n hx hb d_an_goPass_0 rfl (lv_at hl 0 rfl) ?_
  replace h := bs h
  obtain ⟨x1, hx1, h⟩ := h
  refine gf_an_18 hx hb hts hown hK hG hW (gN_s hx1) d_an_goPass_1 ?_
  refine lv_iconst (v := (3 : Int32)) hx hb d_an_goPass_4 (by decide) ?_
  refine lv_iload_n hx hb d_an_goPass_5 rfl (lv_at hl 3 rfl) ?_
  refine lv_imul hx hb d_an_goPass_6 ?_
  replace h := bs h
  obtain ⟨x2, hx2, h⟩ := h
  refine wo_aald hx hb hK hW (t := 5) rfl (rN_s hx2) d_an_goPass_7 ?_
  refine lv_astore (lv' := [(4, .ref (base + x2)), (0, .ref (base + a0)), (1, rb base a1), (2, .ref (base + a2)), (3, .int a3)]) hx hb d_an_goPass_8 hl (by decide) rfl (fun ls hl => ?_)
  refine lv_aload_n hx hb d_an_goPass_10 rfl (lv_at hl 1 rfl) ?_
  replace h := bs h
  obtain ⟨x3, hx3, h⟩ := h
  refine gf_an_18 hx hb hts hown hK hG hW (gN_s hx3) d_an_goPass_11 ?_
  refine lv_iconst (v := (3 : Int32)) hx hb d_an_goPass_14 (by decide) ?_
  refine lv_iload_n hx hb d_an_goPass_15 rfl (lv_at hl 4 rfl) ?_
  refine lv_imul hx hb d_an_goPass_16 ?_
  refine lv_iconst (v := (1 : Int32)) hx hb d_an_goPass_17 (by decide) ?_
  refine lv_iadd hx hb d_an_goPass_18 ?_
  replace h := bs h
  obtain ⟨x4, hx4, h⟩ := h
  refine wo_aald hx hb hK hW (t := 5) rfl (rN_s hx4) d_an_goPass_19 ?_
  refine lv_astore (lv' := [(5, .ref (base + x4)), (4, .ref (base + x2)), (0, .ref (base + a0)), (1, rb base a1), (2, .ref (base + a2)), (3, .int a3)]) hx hb d_an_goPass_20 hl (by decide) rfl (fun ls hl => ?_)
  refine lv_aload_n hx hb d_an_goPass_22 rfl (lv_at hl 2 rfl) ?_
  refine lv_dup hx hb d_an_goPass_23 rfl ?_
  replace h := bs h
  obtain ⟨x5, hx5, h⟩ := h
  refine gf_an_44 hx hb hts hown hK hG hW (gI_s hx5) d_an_goPass_24 ?_
  refine lv_iconst (v := (1 : Int32)) hx hb d_an_goPass_27 (by decide) ?_
  refine lv_iadd hx hb d_an_goPass_28 ?_
  replace h := bs h
  obtain ⟨w6, hw6, h⟩ := h
  refine pf_an_44 hx hb hts hown hK hG hW rfl rfl (pbi hw6 rfl) d_an_goPass_29 (fun H locs hW => ?_)
  refine lv_aload hx hb d_an_goPass_32 (lv_at hl 0 rfl) ?_
  refine lv_aload_n hx hb d_an_goPass_34 rfl (lv_at hl 4 rfl) ?_
  replace h := bs h
  obtain ⟨w7, hw7, h⟩ := h
  refine cv_an_147 (As := [.ref (base + a2)]) (rest := []) hx hb hml hown hts hK hG hW (c_sa_copy l D cA base hw7) (kb_sa_copy hw7) ⟨by show 1 + 1 ≤ 7 + 1 * (d + 1); omega, by show 8 + (3 + 11) + 21 ≤ 186 + 27 * (d + 1); omega⟩ ⟨Nat.le_of_ble_eq_true rfl, Nat.le_of_ble_eq_true rfl⟩ rfl hl.1 rfl (Nat.le_of_ble_eq_true rfl) d_an_goPass_35 (fun H locs hW => ?_)
  refine lv_aload_n hx hb d_an_goPass_38 rfl (lv_at hl 2 rfl) ?_
  refine wo_aload_n hx hb d_an_goPass_39 rfl (lv_at hl 3 rfl) ?_
  refine lv_aload hx hb d_an_goPass_40 (lv_at hl 0 rfl) ?_
  refine lv_iconst (v := (1 : Int32)) hx hb d_an_goPass_42 (by decide) ?_
  replace h := bs h
  obtain ⟨w8, hw8, h⟩ := h
  refine cv_an_150 (As := [rb base a1, .ref (base + x4), .int (1 : Int32)]) (rest := []) hx hb hml hown hts hK hG hW (c_an_assume l D cA base hw8) (kb_an_assume hw8) ⟨by show 5 + 1 ≤ 7 + 1 * (d + 1); omega, by show 8 + (7 + 11) + 136 ≤ 186 + 27 * (d + 1); omega⟩ ⟨Nat.le_of_ble_eq_true rfl, Nat.le_of_ble_eq_true rfl⟩ rfl hl.1 rfl (Nat.le_of_ble_eq_true rfl) d_an_goPass_43 (fun H locs hW => ?_)
  refine lv_aload_n hx hb d_an_goPass_46 rfl (lv_at hl 2 rfl) ?_
  refine wo_aload_n hx hb d_an_goPass_47 rfl (lv_at hl 3 rfl) ?_
  replace h := bs h
  obtain ⟨x9, ex9, h⟩ := h
  subst ex9
  replace h := bs h
  obtain ⟨x10, hx10, h⟩ := h
  refine gf_an_154 hx hb hts hown hK hG hW (gR_s hx10) d_an_goPass_48 ?_
  have hl : lv_has ls 6 [(5, .ref (base + x4)), (4, .ref (base + x2)), (0, .ref (base + a0)), (1, .ref (base + x9)), (2, .ref (base + a2)), (3, .int a3)] := hl
  refine lv_aload hx hb d_an_goPass_51 (lv_at hl 0 rfl) ?_
  refine lv_iload_n hx hb d_an_goPass_53 rfl (lv_at hl 5 rfl) ?_
  refine lv_iconst (v := (1 : Int32)) hx hb d_an_goPass_54 (by decide) ?_
  refine lv_iadd hx hb d_an_goPass_55 ?_
  replace h := bs h
  obtain ⟨w11, hw11, h⟩ := h
  refine cv_an_63 (As := [rb base x10, .ref (base + x4), .int (a3 + (1 : Int32))]) (rest := []) hx hb hml hown hts hK hG hW (HG.1.1 hw11) (HG.1.2 hw11) ⟨by show 7 + 1 * d + 1 ≤ 7 + 1 * (d + 1); omega, by show 8 + (5 + 11) + (186 + 27 * d) ≤ 186 + 27 * (d + 1); omega⟩ ⟨Nat.le_of_ble_eq_true rfl, Nat.le_of_ble_eq_true rfl⟩ rfl hl.1 rfl (Nat.le_of_ble_eq_true rfl) d_an_goPass_56 (fun H locs hW => ?_)
  refine lv_aload hx hb d_an_goPass_59 (lv_at hl 0 rfl) ?_
  refine lv_aload hx hb d_an_goPass_61 (lv_at hl 1 rfl) ?_
  replace h := bs h
  obtain ⟨w12, hw12, h⟩ := h
  refine cv_an_160 (As := [.ref (base + x2)]) (rest := []) hx hb hml hown hts hK hG hW (c_sa_join l D cA base hw12) (kb_sa_join hw12) ⟨by show 5 + 1 ≤ 7 + 1 * (d + 1); omega, by show 8 + (2 + 11) + 121 ≤ 186 + 27 * (d + 1); omega⟩ ⟨Nat.le_of_ble_eq_true rfl, Nat.le_of_ble_eq_true rfl⟩ rfl hl.1 rfl (Nat.le_of_ble_eq_true rfl) d_an_goPass_63 (fun H locs hW => ?_)
  cases h
  exact wo_vret hx hb hr hlk hW d_an_goPass_66
theorem sAll_an6 (l : Launch) (D : va_G) (cA : Nat → ClassId) (base : Nat) : ∀ d : Nat, sA_an6 l D cA base d (sc_an6 d).1 (sc_an6 d).2.1 (sc_an6 d).2.2.1 (sc_an6 d).2.2.2.1 (sc_an6 d).2.2.2.2.1 (sc_an6 d).2.2.2.2.2 := by
  intro d
  induction d with
  | zero => exact ⟨⟨(fun h => by cases h), (fun h => by cases h)⟩, ⟨(fun h => by cases h), (fun h => by cases h)⟩, ⟨(fun h => by cases h), (fun h => by cases h)⟩, ⟨(fun h => by cases h), (fun h => by cases h)⟩, ⟨(fun h => by cases h), (fun h => by cases h)⟩, ⟨(fun h => by cases h), (fun h => by cases h)⟩⟩
  | succ d ih => exact ⟨⟨fun h => co_an_goStatements l D cA base ih h, fun h => kbo_an_goStatements (g_an_goStatements := (sc_an6 d).1) (g_an_goStatement := (sc_an6 d).2.1) (g_an_goIf := (sc_an6 d).2.2.1) (g_an_goWhile := (sc_an6 d).2.2.2.1) (g_an_settle := (sc_an6 d).2.2.2.2.1) (g_an_goPass := (sc_an6 d).2.2.2.2.2) h⟩, ⟨fun h => co_an_goStatement l D cA base ih h, fun h => kbo_an_goStatement (g_an_goStatements := (sc_an6 d).1) (g_an_goStatement := (sc_an6 d).2.1) (g_an_goIf := (sc_an6 d).2.2.1) (g_an_goWhile := (sc_an6 d).2.2.2.1) (g_an_settle := (sc_an6 d).2.2.2.2.1) (g_an_goPass := (sc_an6 d).2.2.2.2.2) h⟩, ⟨fun h => co_an_goIf l D cA base ih h, fun h => kbo_an_goIf (g_an_goStatements := (sc_an6 d).1) (g_an_goStatement := (sc_an6 d).2.1) (g_an_goIf := (sc_an6 d).2.2.1) (g_an_goWhile := (sc_an6 d).2.2.2.1) (g_an_settle := (sc_an6 d).2.2.2.2.1) (g_an_goPass := (sc_an6 d).2.2.2.2.2) h⟩, ⟨fun h => co_an_goWhile l D cA base ih h, fun h => kbo_an_goWhile (g_an_goStatements := (sc_an6 d).1) (g_an_goStatement := (sc_an6 d).2.1) (g_an_goIf := (sc_an6 d).2.2.1) (g_an_goWhile := (sc_an6 d).2.2.2.1) (g_an_settle := (sc_an6 d).2.2.2.2.1) (g_an_goPass := (sc_an6 d).2.2.2.2.2) h⟩, ⟨fun h => co_an_settle l D cA base ih h, fun h => kbo_an_settle (g_an_goStatements := (sc_an6 d).1) (g_an_goStatement := (sc_an6 d).2.1) (g_an_goIf := (sc_an6 d).2.2.1) (g_an_goWhile := (sc_an6 d).2.2.2.1) (g_an_settle := (sc_an6 d).2.2.2.2.1) (g_an_goPass := (sc_an6 d).2.2.2.2.2) h⟩, ⟨fun h => co_an_goPass l D cA base ih h, fun h => kbo_an_goPass (g_an_goStatements := (sc_an6 d).1) (g_an_goStatement := (sc_an6 d).2.1) (g_an_goIf := (sc_an6 d).2.2.1) (g_an_goWhile := (sc_an6 d).2.2.2.1) (g_an_settle := (sc_an6 d).2.2.2.2.1) (g_an_goPass := (sc_an6 d).2.2.2.2.2) h⟩⟩
theorem c_an_goStatements (l : Launch) (D : va_G) (cA : Nat → ClassId) (base : Nat) {d : Nat} : ∀ {a0 : Nat} {a1 : Option Nat} {a2 : Nat} {a3 : Int32} {w w' : WW}, f_an_goStatements d a0 a1 a2 a3 w = some w' → mt l D cls (wo_tys cA) cA base y_an_goStatements (Cond.code y_an_goStatements b_an_goStatements 5 (none) :: gt) (rm_an_goStatements d) [.ref (base + a0), rb base a1, .ref (base + a2), .int a3] w none w' (rm_an_goStatements d).cells (rm_an_goStatements d).slots := (sAll_an6 l D cA base d).1.1
theorem kb_an_goStatements {d : Nat} : ∀ {a0 : Nat} {a1 : Option Nat} {a2 : Nat} {a3 : Int32} {w : WW} {r : WW}, f_an_goStatements d a0 a1 a2 a3 w = some r → kb w a0 6 = true := by
  intro a0 a1 a2 a3 w r h
  cases d with
  | zero => cases h
  | succ d => exact kbo_an_goStatements (g_an_goStatements := (sc_an6 d).1) (g_an_goStatement := (sc_an6 d).2.1) (g_an_goIf := (sc_an6 d).2.2.1) (g_an_goWhile := (sc_an6 d).2.2.2.1) (g_an_settle := (sc_an6 d).2.2.2.2.1) (g_an_goPass := (sc_an6 d).2.2.2.2.2) h
theorem c_an_goStatement (l : Launch) (D : va_G) (cA : Nat → ClassId) (base : Nat) {d : Nat} : ∀ {a0 : Nat} {a1 : Option Nat} {a2 : Nat} {a3 : Int32} {w w' : WW}, f_an_goStatement d a0 a1 a2 a3 w = some w' → mt l D cls (wo_tys cA) cA base y_an_goStatement (Cond.code y_an_goStatement b_an_goStatement 4 (none) :: gt) (rm_an_goStatement d) [.ref (base + a0), rb base a1, .ref (base + a2), .int a3] w none w' (rm_an_goStatement d).cells (rm_an_goStatement d).slots := (sAll_an6 l D cA base d).2.1.1
theorem kb_an_goStatement {d : Nat} : ∀ {a0 : Nat} {a1 : Option Nat} {a2 : Nat} {a3 : Int32} {w : WW} {r : WW}, f_an_goStatement d a0 a1 a2 a3 w = some r → kb w a0 6 = true := by
  intro a0 a1 a2 a3 w r h
  cases d with
  | zero => cases h
  | succ d => exact kbo_an_goStatement (g_an_goStatements := (sc_an6 d).1) (g_an_goStatement := (sc_an6 d).2.1) (g_an_goIf := (sc_an6 d).2.2.1) (g_an_goWhile := (sc_an6 d).2.2.2.1) (g_an_settle := (sc_an6 d).2.2.2.2.1) (g_an_goPass := (sc_an6 d).2.2.2.2.2) h
theorem c_an_goIf (l : Launch) (D : va_G) (cA : Nat → ClassId) (base : Nat) {d : Nat} : ∀ {a0 : Nat} {a1 : Option Nat} {a2 : Nat} {a3 : Int32} {w w' : WW}, f_an_goIf d a0 a1 a2 a3 w = some w' → mt l D cls (wo_tys cA) cA base y_an_goIf (Cond.code y_an_goIf b_an_goIf 5 (none) :: gt) (rm_an_goIf d) [.ref (base + a0), rb base a1, .ref (base + a2), .int a3] w none w' (rm_an_goIf d).cells (rm_an_goIf d).slots := (sAll_an6 l D cA base d).2.2.1.1
theorem kb_an_goIf {d : Nat} : ∀ {a0 : Nat} {a1 : Option Nat} {a2 : Nat} {a3 : Int32} {w : WW} {r : WW}, f_an_goIf d a0 a1 a2 a3 w = some r → kb w a0 6 = true := by
  intro a0 a1 a2 a3 w r h
  cases d with
  | zero => cases h
  | succ d => exact kbo_an_goIf (g_an_goStatements := (sc_an6 d).1) (g_an_goStatement := (sc_an6 d).2.1) (g_an_goIf := (sc_an6 d).2.2.1) (g_an_goWhile := (sc_an6 d).2.2.2.1) (g_an_settle := (sc_an6 d).2.2.2.2.1) (g_an_goPass := (sc_an6 d).2.2.2.2.2) h
theorem c_an_goWhile (l : Launch) (D : va_G) (cA : Nat → ClassId) (base : Nat) {d : Nat} : ∀ {a0 : Nat} {a1 : Option Nat} {a2 : Nat} {a3 : Int32} {w w' : WW}, f_an_goWhile d a0 a1 a2 a3 w = some w' → mt l D cls (wo_tys cA) cA base y_an_goWhile (Cond.code y_an_goWhile b_an_goWhile 8 (none) :: gt) (rm_an_goWhile d) [.ref (base + a0), rb base a1, .ref (base + a2), .int a3] w none w' (rm_an_goWhile d).cells (rm_an_goWhile d).slots := (sAll_an6 l D cA base d).2.2.2.1.1
theorem kb_an_goWhile {d : Nat} : ∀ {a0 : Nat} {a1 : Option Nat} {a2 : Nat} {a3 : Int32} {w : WW} {r : WW}, f_an_goWhile d a0 a1 a2 a3 w = some r → kb w a0 6 = true := by
  intro a0 a1 a2 a3 w r h
  cases d with
  | zero => cases h
  | succ d => exact kbo_an_goWhile (g_an_goStatements := (sc_an6 d).1) (g_an_goStatement := (sc_an6 d).2.1) (g_an_goIf := (sc_an6 d).2.2.1) (g_an_goWhile := (sc_an6 d).2.2.2.1) (g_an_settle := (sc_an6 d).2.2.2.2.1) (g_an_goPass := (sc_an6 d).2.2.2.2.2) h
theorem c_an_settle (l : Launch) (D : va_G) (cA : Nat → ClassId) (base : Nat) {d : Nat} : ∀ {a0 : Nat} {a1 : Option Nat} {a2 : Nat} {a3 : Int32} {w w' : WW}, f_an_settle d a0 a1 a2 a3 w = some w' → mt l D cls (wo_tys cA) cA base y_an_settle (Cond.code y_an_settle b_an_settle 7 (none) :: gt) (rm_an_settle d) [.ref (base + a0), rb base a1, .ref (base + a2), .int a3] w none w' (rm_an_settle d).cells (rm_an_settle d).slots := (sAll_an6 l D cA base d).2.2.2.2.1.1
theorem kb_an_settle {d : Nat} : ∀ {a0 : Nat} {a1 : Option Nat} {a2 : Nat} {a3 : Int32} {w : WW} {r : WW}, f_an_settle d a0 a1 a2 a3 w = some r → kb w a0 6 = true := by
  intro a0 a1 a2 a3 w r h
  cases d with
  | zero => cases h
  | succ d => exact kbo_an_settle (g_an_goStatements := (sc_an6 d).1) (g_an_goStatement := (sc_an6 d).2.1) (g_an_goIf := (sc_an6 d).2.2.1) (g_an_goWhile := (sc_an6 d).2.2.2.1) (g_an_settle := (sc_an6 d).2.2.2.2.1) (g_an_goPass := (sc_an6 d).2.2.2.2.2) h
theorem c_an_goPass (l : Launch) (D : va_G) (cA : Nat → ClassId) (base : Nat) {d : Nat} : ∀ {a0 : Nat} {a1 : Option Nat} {a2 : Nat} {a3 : Int32} {w w' : WW}, f_an_goPass d a0 a1 a2 a3 w = some w' → mt l D cls (wo_tys cA) cA base y_an_goPass (Cond.code y_an_goPass b_an_goPass 6 (none) :: gt) (rm_an_goPass d) [.ref (base + a0), rb base a1, .ref (base + a2), .int a3] w none w' (rm_an_goPass d).cells (rm_an_goPass d).slots := (sAll_an6 l D cA base d).2.2.2.2.2.1
theorem kb_an_goPass {d : Nat} : ∀ {a0 : Nat} {a1 : Option Nat} {a2 : Nat} {a3 : Int32} {w : WW} {r : WW}, f_an_goPass d a0 a1 a2 a3 w = some r → kb w a0 6 = true := by
  intro a0 a1 a2 a3 w r h
  cases d with
  | zero => cases h
  | succ d => exact kbo_an_goPass (g_an_goStatements := (sc_an6 d).1) (g_an_goStatement := (sc_an6 d).2.1) (g_an_goIf := (sc_an6 d).2.2.1) (g_an_goWhile := (sc_an6 d).2.2.2.1) (g_an_settle := (sc_an6 d).2.2.2.2.1) (g_an_goPass := (sc_an6 d).2.2.2.2.2) h
