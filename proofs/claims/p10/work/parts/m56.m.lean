/-! Methods as functions, and their contracts (by wip/gen/run.py). -/
abbrev b_q_warning : ByteArray := prog_11_method_86_code
def y_q_warning : MethodName := ⟨"AlarmForgeModel", "warning", "(I)I"⟩
def rm_q_warning : Room := { frames := 1, cells := 0, slots := 0, locals := 22 }
theorem d_q_warning_0 : decode b_q_warning 0 = .ok (.iload_n 1, 1) := by decide +kernel
theorem d_q_warning_1 : decode b_q_warning 1 = .ok (.ifCond .lt (11), 3) := by decide +kernel
theorem d_q_warning_4 : decode b_q_warning 4 = .ok (.iload_n 1, 1) := by decide +kernel
theorem d_q_warning_5 : decode b_q_warning 5 = .ok (.aload_n 0, 1) := by decide +kernel
theorem d_q_warning_6 : decode b_q_warning 6 = .ok (.invokevirtual 521, 3) := by decide +kernel
theorem d_q_warning_9 : decode b_q_warning 9 = .ok (.if_icmp .lt (9), 3) := by decide +kernel
theorem d_q_warning_12 : decode b_q_warning 12 = .ok (.aload_n 0, 1) := by decide +kernel
theorem d_q_warning_13 : decode b_q_warning 13 = .ok (.iconst 1, 1) := by decide +kernel
theorem d_q_warning_14 : decode b_q_warning 14 = .ok (.invokevirtual 159, 3) := by decide +kernel
theorem d_q_warning_17 : decode b_q_warning 17 = .ok (.ireturn, 1) := by decide +kernel
theorem d_q_warning_18 : decode b_q_warning 18 = .ok (.aload_n 0, 1) := by decide +kernel
theorem d_q_warning_19 : decode b_q_warning 19 = .ok (.iconst 0, 1) := by decide +kernel
theorem d_q_warning_20 : decode b_q_warning 20 = .ok (.putfield 148, 3) := by decide +kernel
theorem d_q_warning_23 : decode b_q_warning 23 = .ok (.iconst 0, 1) := by decide +kernel
theorem d_q_warning_24 : decode b_q_warning 24 = .ok (.istore_n 2, 1) := by decide +kernel
theorem d_q_warning_25 : decode b_q_warning 25 = .ok (.iconst 0, 1) := by decide +kernel
theorem d_q_warning_26 : decode b_q_warning 26 = .ok (.istore_n 3, 1) := by decide +kernel
theorem d_q_warning_27 : decode b_q_warning 27 = .ok (.iload_n 3, 1) := by decide +kernel
theorem d_q_warning_28 : decode b_q_warning 28 = .ok (.sipush (200), 3) := by decide +kernel
theorem d_q_warning_31 : decode b_q_warning 31 = .ok (.if_icmp .ge (61), 3) := by decide +kernel
theorem d_q_warning_34 : decode b_q_warning 34 = .ok (.iconst 1, 1) := by decide +kernel
theorem d_q_warning_35 : decode b_q_warning 35 = .ok (.istore 4, 2) := by decide +kernel
theorem d_q_warning_37 : decode b_q_warning 37 = .ok (.iload 4, 2) := by decide +kernel
theorem d_q_warning_39 : decode b_q_warning 39 = .ok (.bipush (6), 2) := by decide +kernel
theorem d_q_warning_41 : decode b_q_warning 41 = .ok (.if_icmp .ge (45), 3) := by decide +kernel
theorem d_q_warning_44 : decode b_q_warning 44 = .ok (.aload_n 0, 1) := by decide +kernel
theorem d_q_warning_45 : decode b_q_warning 45 = .ok (.getfield 136, 3) := by decide +kernel
theorem d_q_warning_48 : decode b_q_warning 48 = .ok (.sipush (200), 3) := by decide +kernel
theorem d_q_warning_51 : decode b_q_warning 51 = .ok (.iload 4, 2) := by decide +kernel
theorem d_q_warning_53 : decode b_q_warning 53 = .ok (.imul, 1) := by decide +kernel
theorem d_q_warning_54 : decode b_q_warning 54 = .ok (.iload_n 3, 1) := by decide +kernel
theorem d_q_warning_55 : decode b_q_warning 55 = .ok (.iadd, 1) := by decide +kernel
theorem d_q_warning_56 : decode b_q_warning 56 = .ok (.baload, 1) := by decide +kernel
theorem d_q_warning_57 : decode b_q_warning 57 = .ok (.ifCond .ne (6), 3) := by decide +kernel
theorem d_q_warning_60 : decode b_q_warning 60 = .ok (.goto (20), 3) := by decide +kernel
theorem d_q_warning_63 : decode b_q_warning 63 = .ok (.iload_n 2, 1) := by decide +kernel
theorem d_q_warning_64 : decode b_q_warning 64 = .ok (.iload_n 1, 1) := by decide +kernel
theorem d_q_warning_65 : decode b_q_warning 65 = .ok (.if_icmp .ne (12), 3) := by decide +kernel
theorem d_q_warning_68 : decode b_q_warning 68 = .ok (.sipush (1024), 3) := by decide +kernel
theorem d_q_warning_71 : decode b_q_warning 71 = .ok (.iload 4, 2) := by decide +kernel
theorem d_q_warning_73 : decode b_q_warning 73 = .ok (.imul, 1) := by decide +kernel
theorem d_q_warning_74 : decode b_q_warning 74 = .ok (.iload_n 3, 1) := by decide +kernel
theorem d_q_warning_75 : decode b_q_warning 75 = .ok (.iadd, 1) := by decide +kernel
theorem d_q_warning_76 : decode b_q_warning 76 = .ok (.ireturn, 1) := by decide +kernel
theorem d_q_warning_77 : decode b_q_warning 77 = .ok (.iinc 2 (1), 3) := by decide +kernel
theorem d_q_warning_80 : decode b_q_warning 80 = .ok (.iinc 4 (1), 3) := by decide +kernel
theorem d_q_warning_83 : decode b_q_warning 83 = .ok (.goto (-46), 3) := by decide +kernel
theorem d_q_warning_86 : decode b_q_warning 86 = .ok (.iinc 3 (1), 3) := by decide +kernel
theorem d_q_warning_89 : decode b_q_warning 89 = .ok (.goto (-62), 3) := by decide +kernel
theorem d_q_warning_92 : decode b_q_warning 92 = .ok (.iconst 0, 1) := by decide +kernel
theorem d_q_warning_93 : decode b_q_warning 93 = .ok (.ireturn, 1) := by decide +kernel
theorem kb_q_warning {a0 : Nat} {a1 : Int32} {w : WW} {r : (Int32 × WW)} (h : f_q_warning a0 a1 w = some r) : kb w a0 9 = true := (its h).1
set_option maxHeartbeats 4000000 in
set_option maxRecDepth 100000 in
theorem j_q_warning_12 {p : Program} {l : Launch} {e : Env} {s : State} {m : MethodId} {args : Array Value} {below : List Frame} {meth : Method} {c : Code} {D : va_G} {cA : Nat → ClassId} {base : Nat} {r : Int32} {w' : WW} (C : cx b_q_warning (some .int) 5 y_q_warning.cls "warning" p s m args meth c D cA base)   : ∀ (y0 : Nat) (w : WW), f_q_warning_12 y0 w = some (r, w') → ∀ (H : Heap) (locs : List Loc) (ls : Array Slot), wo_S D cls cA base s w H locs → lv_has ls 5 [(0, .ref (base + y0))] → W p l e rm_q_warning s m args below meth c H locs 0 0 (MQ below (wo_Q D cls cA base (some (.int r)) w') args s rm_q_warning.cells rm_q_warning.slots (wo_B base)) (F0 m 12 ls []) := by
  obtain ⟨hx, hb, hr, hml, hown, hts, hlk, hnm, hK, hG⟩ := id C
  intro y0 w h H locs ls hW hl
  unfold f_q_warning_12 at h
  refine lv_aload_n hx hb d_q_warning_12 rfl (lv_at hl 0 rfl) ?_
  refine lv_iconst (v := (1 : Int32)) hx hb d_q_warning_13 (by decide) ?_
  replace h := bs2 h
  obtain ⟨x3, w2, hw2, h⟩ := h
  refine cv_q_159 (As := [.int (1 : Int32)]) (rest := []) hx hb hml hown hts hK hG hW (c_q_fail l D cA base hw2) (kb_q_fail hw2) ⟨Nat.le_of_ble_eq_true rfl, Nat.le_of_ble_eq_true rfl⟩ ⟨Nat.le_of_ble_eq_true rfl, Nat.le_of_ble_eq_true rfl⟩ rfl hl.1 rfl (Nat.le_of_ble_eq_true rfl) d_q_warning_14 (fun H locs hW => ?_)
  cases h
  exact wo_iret hx hb hr hlk hW d_q_warning_17
set_option maxHeartbeats 4000000 in
set_option maxRecDepth 100000 in
theorem j_q_warning_80 {p : Program} {l : Launch} {e : Env} {s : State} {m : MethodId} {args : Array Value} {below : List Frame} {meth : Method} {c : Code} {D : va_G} {cA : Nat → ClassId} {base : Nat} {r : Int32} {w' : WW} (C : cx b_q_warning (some .int) 5 y_q_warning.cls "warning" p s m args meth c D cA base) {k_37 : Nat → Int32 → Int32 → Int32 → Int32 → WW → Option (Int32 × WW)} (hk_37 : ∀ (y0 : Nat) (y1 : Int32) (y2 : Int32) (y3 : Int32) (y4 : Int32) (w : WW), k_37 y0 y1 y2 y3 y4 w = some (r, w') → ∀ (H : Heap) (locs : List Loc) (ls : Array Slot), wo_S D cls cA base s w H locs → lv_has ls 5 [(0, .ref (base + y0)), (1, .int y1), (2, .int y2), (3, .int y3), (4, .int y4)] → W p l e rm_q_warning s m args below meth c H locs 0 0 (MQ below (wo_Q D cls cA base (some (.int r)) w') args s rm_q_warning.cells rm_q_warning.slots (wo_B base)) (F0 m 37 ls [])) : ∀ (y0 : Nat) (y1 : Int32) (y2 : Int32) (y3 : Int32) (y4 : Int32) (w : WW), f_q_warning_80 k_37 y0 y1 y2 y3 y4 w = some (r, w') → ∀ (H : Heap) (locs : List Loc) (ls : Array Slot), wo_S D cls cA base s w H locs → lv_has ls 5 [(0, .ref (base + y0)), (1, .int y1), (2, .int y2), (3, .int y3), (4, .int y4)] → W p l e rm_q_warning s m args below meth c H locs 0 0 (MQ below (wo_Q D cls cA base (some (.int r)) w') args s rm_q_warning.cells rm_q_warning.slots (wo_B base)) (F0 m 80 ls []) := by
  obtain ⟨hx, hb, hr, hml, hown, hts, hlk, hnm, hK, hG⟩ := id C
  intro y0 y1 y2 y3 y4 w h H locs ls hW hl
  unfold f_q_warning_80 at h
  refine lv_iinc (v := (y4 + (1 : Int32))) (lv' := [(4, .int (y4 + (1 : Int32))), (0, .ref (base + y0)), (1, .int y1), (2, .int y2), (3, .int y3)]) hx hb d_q_warning_80 hl (k := 4) rfl rfl (by decide) rfl (fun ls hl => ?_)
  refine lv_goto (tgt := 37) hx hb d_q_warning_83 (by decide) ?_
  exact hk_37 y0 y1 y2 y3 (y4 + (1 : Int32)) w h _ _ _ hW (lv_sub hl [1, 2, 3, 4, 0] rfl)
set_option maxHeartbeats 4000000 in
set_option maxRecDepth 100000 in
theorem j_q_warning_37 {p : Program} {l : Launch} {e : Env} {s : State} {m : MethodId} {args : Array Value} {below : List Frame} {meth : Method} {c : Code} {D : va_G} {cA : Nat → ClassId} {base : Nat} {r : Int32} {w' : WW} (C : cx b_q_warning (some .int) 5 y_q_warning.cls "warning" p s m args meth c D cA base) {k_27 : Nat → Int32 → Int32 → Int32 → WW → Option (Int32 × WW)} (hk_27 : ∀ (y0 : Nat) (y1 : Int32) (y2 : Int32) (y3 : Int32) (w : WW), k_27 y0 y1 y2 y3 w = some (r, w') → ∀ (H : Heap) (locs : List Loc) (ls : Array Slot), wo_S D cls cA base s w H locs → lv_has ls 5 [(0, .ref (base + y0)), (1, .int y1), (2, .int y2), (3, .int y3)] → W p l e rm_q_warning s m args below meth c H locs 0 0 (MQ below (wo_Q D cls cA base (some (.int r)) w') args s rm_q_warning.cells rm_q_warning.slots (wo_B base)) (F0 m 27 ls [])) : ∀ n : Nat, ∀ (y0 : Nat) (y1 : Int32) (y2 : Int32) (y3 : Int32) (y4 : Int32) (w : WW), f_q_warning_37 k_27 n y0 y1 y2 y3 y4 w = some (r, w') → ∀ (H : Heap) (locs : List Loc) (ls : Array Slot), wo_S D cls cA base s w H locs → lv_has ls 5 [(0, .ref (base + y0)), (1, .int y1), (2, .int y2), (3, .int y3), (4, .int y4)] → W p l e rm_q_warning s m args below meth c H locs 0 0 (MQ below (wo_Q D cls cA base (some (.int r)) w') args s rm_q_warning.cells rm_q_warning.slots (wo_B base)) (F0 m 37 ls []) := by
  obtain ⟨hx, hb, hr, hml, hown, hts, hlk, hnm, hK, hG⟩ := id C
  intro n
  induction n with
  | zero => intro y0 y1 y2 y3 y4 w h; cases h
  | succ n ih =>
    intro y0 y1 y2 y3 y4 w h H locs ls hW hl
    rw [f_q_warning_37] at h
    refine lv_iload hx hb d_q_warning_37 (lv_at hl 4 rfl) ?_
    refine lv_bipush (v := (6 : Int32)) hx hb d_q_warning_39 (by decide) ?_
    refine lv_icmp_ge (tgt := 86) hx hb d_q_warning_41 (by decide) (fun c9 => ?_) (fun c9 => ?_)
    · rw [if_pos c9] at h
      refine lv_iinc (v := (y3 + (1 : Int32))) (lv' := [(3, .int (y3 + (1 : Int32))), (0, .ref (base + y0)), (1, .int y1), (2, .int y2), (4, .int y4)]) hx hb d_q_warning_86 hl (k := 3) rfl rfl (by decide) rfl (fun ls hl => ?_)
      refine lv_goto (tgt := 27) hx hb d_q_warning_89 (by decide) ?_
      exact hk_27 y0 y1 y2 (y3 + (1 : Int32)) w h _ _ _ hW (lv_sub hl [1, 2, 3, 0] rfl)
    · rw [if_neg c9] at h
      refine lv_aload_n hx hb d_q_warning_44 rfl (lv_at hl 0 rfl) ?_
      replace h := bs h
      obtain ⟨x10, hx10, h⟩ := h
      refine gf_q_136 hx hb hts hown hK hG hW (gN_s hx10) d_q_warning_45 ?_
      refine lv_sipush (v := (200 : Int32)) hx hb d_q_warning_48 (by decide) ?_
      refine lv_iload hx hb d_q_warning_51 (lv_at hl 4 rfl) ?_
      refine lv_imul hx hb d_q_warning_53 ?_
      refine lv_iload_n hx hb d_q_warning_54 rfl (lv_at hl 3 rfl) ?_
      refine lv_iadd hx hb d_q_warning_55 ?_
      replace h := bs h
      obtain ⟨x11, hx11, h⟩ := h
      refine wo_zald hx hb hK hW (t := 2) rfl hx11 d_q_warning_56 ?_
      refine lv_if_ne (tgt := 63) hx hb d_q_warning_57 (by decide) (fun c12 => ?_) (fun c12 => ?_)
      · rw [if_neg c12] at h
        refine lv_iload_n hx hb d_q_warning_63 rfl (lv_at hl 2 rfl) ?_
        refine lv_iload_n hx hb d_q_warning_64 rfl (lv_at hl 1 rfl) ?_
        refine lv_icmp_ne (tgt := 77) hx hb d_q_warning_65 (by decide) (fun c13 => ?_) (fun c13 => ?_)
        · rw [if_neg c13] at h
          refine lv_iinc (v := (y2 + (1 : Int32))) (lv' := [(2, .int (y2 + (1 : Int32))), (0, .ref (base + y0)), (1, .int y1), (3, .int y3), (4, .int y4)]) hx hb d_q_warning_77 hl (k := 2) rfl rfl (by decide) rfl (fun ls hl => ?_)
          exact j_q_warning_80 C ih y0 y1 (y2 + (1 : Int32)) y3 y4 w h _ _ _ hW (lv_sub hl [1, 2, 0, 3, 4] rfl)
        · rw [if_pos c13] at h
          refine lv_sipush (v := (1024 : Int32)) hx hb d_q_warning_68 (by decide) ?_
          refine lv_iload hx hb d_q_warning_71 (lv_at hl 4 rfl) ?_
          refine lv_imul hx hb d_q_warning_73 ?_
          refine lv_iload_n hx hb d_q_warning_74 rfl (lv_at hl 3 rfl) ?_
          refine lv_iadd hx hb d_q_warning_75 ?_
          cases h
          exact wo_iret hx hb hr hlk hW d_q_warning_76
      · rw [if_pos c12] at h
        refine lv_goto (tgt := 80) hx hb d_q_warning_60 (by decide) ?_
        exact j_q_warning_80 C ih y0 y1 y2 y3 y4 w h _ _ _ hW (lv_sub hl [0, 1, 2, 3, 4] rfl)
set_option maxHeartbeats 4000000 in
set_option maxRecDepth 100000 in
theorem j_q_warning_27 {p : Program} {l : Launch} {e : Env} {s : State} {m : MethodId} {args : Array Value} {below : List Frame} {meth : Method} {c : Code} {D : va_G} {cA : Nat → ClassId} {base : Nat} {r : Int32} {w' : WW} (C : cx b_q_warning (some .int) 5 y_q_warning.cls "warning" p s m args meth c D cA base)   : ∀ n : Nat, ∀ (y0 : Nat) (y1 : Int32) (y2 : Int32) (y3 : Int32) (w : WW), f_q_warning_27 n y0 y1 y2 y3 w = some (r, w') → ∀ (H : Heap) (locs : List Loc) (ls : Array Slot), wo_S D cls cA base s w H locs → lv_has ls 5 [(0, .ref (base + y0)), (1, .int y1), (2, .int y2), (3, .int y3)] → W p l e rm_q_warning s m args below meth c H locs 0 0 (MQ below (wo_Q D cls cA base (some (.int r)) w') args s rm_q_warning.cells rm_q_warning.slots (wo_B base)) (F0 m 27 ls []) := by
  obtain ⟨hx, hb, hr, hml, hown, hts, hlk, hnm, hK, hG⟩ := id C
  intro n
  induction n with
  | zero => intro y0 y1 y2 y3 w h; cases h
  | succ n ih =>
    intro y0 y1 y2 y3 w h H locs ls hW hl
    rw [f_q_warning_27] at h
    refine lv_iload_n hx hb d_q_warning_27 rfl (lv_at hl 3 rfl) ?_
    refine lv_sipush (v := (200 : Int32)) hx hb d_q_warning_28 (by decide) ?_
    refine lv_icmp_ge (tgt := 92) hx hb d_q_warning_31 (by decide) (fun c8 => ?_) (fun c8 => ?_)
    · rw [if_pos c8] at h
      refine lv_iconst (v := (0 : Int32)) hx hb d_q_warning_92 (by decide) ?_
      cases h
      exact wo_iret hx hb hr hlk hW d_q_warning_93
    · rw [if_neg c8] at h
      refine lv_iconst (v := (1 : Int32)) hx hb d_q_warning_34 (by decide) ?_
      refine lv_istore (lv' := [(4, .int (1 : Int32)), (0, .ref (base + y0)), (1, .int y1), (2, .int y2), (3, .int y3)]) hx hb d_q_warning_35 hl (by decide) rfl (fun ls hl => ?_)
      exact j_q_warning_37 C ih KK y0 y1 y2 y3 (1 : Int32) w h _ _ _ hW (lv_sub hl [1, 2, 3, 4, 0] rfl)
set_option maxHeartbeats 4000000 in
set_option maxRecDepth 100000 in
theorem c_q_warning (l : Launch) (D : va_G) (cA : Nat → ClassId) (base : Nat) {a0 : Nat} {a1 : Int32} {w w' : WW} {r : Int32} (h : f_q_warning a0 a1 w = some (r, w')) : mt l D cls (wo_tys cA) cA base y_q_warning (Cond.code y_q_warning b_q_warning 5 (some .int) :: gt) rm_q_warning [.ref (base + a0), .int a1] w (some (.int r)) w' rm_q_warning.cells rm_q_warning.slots := by
  refine mt_start (by decide) (Nat.le_of_ble_eq_true rfl) ?_
  intro p e s m below meth c ls hx hb hr hml hown hts hlk hnm hK hG hW hl
  have C : cx b_q_warning (some .int) 5 y_q_warning.cls "warning" p s m [.ref (base + a0), .int a1].toArray meth c D cA base := ⟨hx, hb, hr, hml, hown, hts, hlk, hnm, hK, hG⟩
  have hl : lv_has ls 5 [(0, .ref (base + a0)), (1, .int a1)] := hl
  unfold f_q_warning at h
  replace h := its h
  obtain ⟨-, h⟩ := h
  refine lv_iload_n hx hb d_q_warning_0 rfl (lv_at hl 1 rfl) ?_
  refine lv_if_lt (tgt := 12) hx hb d_q_warning_1 (by decide) (fun c1 => ?_) (fun c1 => ?_)
  · rw [if_pos c1] at h
    exact j_q_warning_12 C a0 w h _ _ _ hW (lv_sub hl [0] rfl)
  · rw [if_neg c1] at h
    refine lv_iload_n hx hb d_q_warning_4 rfl (lv_at hl 1 rfl) ?_
    refine lv_aload_n hx hb d_q_warning_5 rfl (lv_at hl 0 rfl) ?_
    replace h := bs2 h
    obtain ⟨x5, w4, hw4, h⟩ := h
    refine cv_q_521 (As := []) (rest := [.int a1]) hx hb hml hown hts hK hG hW (c_q_warnings l D cA base hw4) (kb_q_warnings hw4) ⟨Nat.le_of_ble_eq_true rfl, Nat.le_of_ble_eq_true rfl⟩ ⟨Nat.le_of_ble_eq_true rfl, Nat.le_of_ble_eq_true rfl⟩ rfl hl.1 rfl (Nat.le_of_ble_eq_true rfl) d_q_warning_6 (fun H locs hW => ?_)
    refine lv_icmp_lt (tgt := 18) hx hb d_q_warning_9 (by decide) (fun c6 => ?_) (fun c6 => ?_)
    · rw [if_pos c6] at h
      refine lv_aload_n hx hb d_q_warning_18 rfl (lv_at hl 0 rfl) ?_
      refine lv_iconst (v := (0 : Int32)) hx hb d_q_warning_19 (by decide) ?_
      replace h := bs h
      obtain ⟨w7, hw7, h⟩ := h
      refine pf_q_148 hx hb hts hown hK hG hW rfl rfl (pbi hw7 rfl) d_q_warning_20 (fun H locs hW => ?_)
      refine lv_iconst (v := (0 : Int32)) hx hb d_q_warning_23 (by decide) ?_
      refine lv_istore_n (lv' := [(2, .int (0 : Int32)), (0, .ref (base + a0)), (1, .int a1)]) hx hb d_q_warning_24 rfl hl (by decide) rfl (fun ls hl => ?_)
      refine lv_iconst (v := (0 : Int32)) hx hb d_q_warning_25 (by decide) ?_
      refine lv_istore_n (lv' := [(3, .int (0 : Int32)), (2, .int (0 : Int32)), (0, .ref (base + a0)), (1, .int a1)]) hx hb d_q_warning_26 rfl hl (by decide) rfl (fun ls hl => ?_)
      exact j_q_warning_27 C KK a0 a1 (0 : Int32) (0 : Int32) w7 h _ _ _ hW (lv_sub hl [2, 3, 1, 0] rfl)
    · rw [if_neg c6] at h
      exact j_q_warning_12 C a0 w4 h _ _ _ hW (lv_sub hl [0] rfl)
abbrev b_q_left_II : ByteArray := prog_11_method_87_code
def y_q_left_II : MethodName := ⟨"AlarmForgeModel", "left", "(II)I"⟩
def rm_q_left_II : Room := { frames := 1, cells := 0, slots := 0, locals := 25 }
theorem d_q_left_II_0 : decode b_q_left_II 0 = .ok (.iload_n 2, 1) := by decide +kernel
theorem d_q_left_II_1 : decode b_q_left_II 1 = .ok (.i2l, 1) := by decide +kernel
theorem d_q_left_II_2 : decode b_q_left_II 2 = .ok (.lconst 0, 1) := by decide +kernel
theorem d_q_left_II_3 : decode b_q_left_II 3 = .ok (.ldc2_w 524, 3) := by decide +kernel
theorem d_q_left_II_6 : decode b_q_left_II 6 = .ok (.invokestatic 155, 3) := by decide +kernel
theorem d_q_left_II_9 : decode b_q_left_II 9 = .ok (.ifCond .ne (9), 3) := by decide +kernel
theorem d_q_left_II_12 : decode b_q_left_II 12 = .ok (.aload_n 0, 1) := by decide +kernel
theorem d_q_left_II_13 : decode b_q_left_II 13 = .ok (.iconst 1, 1) := by decide +kernel
theorem d_q_left_II_14 : decode b_q_left_II 14 = .ok (.invokevirtual 159, 3) := by decide +kernel
theorem d_q_left_II_17 : decode b_q_left_II 17 = .ok (.ireturn, 1) := by decide +kernel
theorem d_q_left_II_18 : decode b_q_left_II 18 = .ok (.iload_n 1, 1) := by decide +kernel
theorem d_q_left_II_19 : decode b_q_left_II 19 = .ok (.i2l, 1) := by decide +kernel
theorem d_q_left_II_20 : decode b_q_left_II 20 = .ok (.lconst 0, 1) := by decide +kernel
theorem d_q_left_II_21 : decode b_q_left_II 21 = .ok (.ldc2_w 326, 3) := by decide +kernel
theorem d_q_left_II_24 : decode b_q_left_II 24 = .ok (.invokestatic 155, 3) := by decide +kernel
theorem d_q_left_II_27 : decode b_q_left_II 27 = .ok (.ifCond .ne (23), 3) := by decide +kernel
theorem d_q_left_II_30 : decode b_q_left_II 30 = .ok (.iload_n 1, 1) := by decide +kernel
theorem d_q_left_II_31 : decode b_q_left_II 31 = .ok (.i2l, 1) := by decide +kernel
theorem d_q_left_II_32 : decode b_q_left_II 32 = .ok (.ldc2_w 373, 3) := by decide +kernel
theorem d_q_left_II_35 : decode b_q_left_II 35 = .ok (.ldc2_w 526, 3) := by decide +kernel
theorem d_q_left_II_38 : decode b_q_left_II 38 = .ok (.invokestatic 155, 3) := by decide +kernel
theorem d_q_left_II_41 : decode b_q_left_II 41 = .ok (.ifCond .ne (9), 3) := by decide +kernel
theorem d_q_left_II_44 : decode b_q_left_II 44 = .ok (.aload_n 0, 1) := by decide +kernel
theorem d_q_left_II_45 : decode b_q_left_II 45 = .ok (.iconst 2, 1) := by decide +kernel
theorem d_q_left_II_46 : decode b_q_left_II 46 = .ok (.invokevirtual 159, 3) := by decide +kernel
theorem d_q_left_II_49 : decode b_q_left_II 49 = .ok (.ireturn, 1) := by decide +kernel
theorem d_q_left_II_50 : decode b_q_left_II 50 = .ok (.aload_n 0, 1) := by decide +kernel
theorem d_q_left_II_51 : decode b_q_left_II 51 = .ok (.getfield 506, 3) := by decide +kernel
theorem d_q_left_II_54 : decode b_q_left_II 54 = .ok (.ifCond .ne (9), 3) := by decide +kernel
theorem d_q_left_II_57 : decode b_q_left_II 57 = .ok (.aload_n 0, 1) := by decide +kernel
theorem d_q_left_II_58 : decode b_q_left_II 58 = .ok (.iconst 3, 1) := by decide +kernel
theorem d_q_left_II_59 : decode b_q_left_II 59 = .ok (.invokevirtual 159, 3) := by decide +kernel
theorem d_q_left_II_62 : decode b_q_left_II 62 = .ok (.ireturn, 1) := by decide +kernel
theorem d_q_left_II_63 : decode b_q_left_II 63 = .ok (.iload_n 1, 1) := by decide +kernel
theorem d_q_left_II_64 : decode b_q_left_II 64 = .ok (.bipush (6), 2) := by decide +kernel
theorem d_q_left_II_66 : decode b_q_left_II 66 = .ok (.if_icmp .ge (7), 3) := by decide +kernel
theorem d_q_left_II_69 : decode b_q_left_II 69 = .ok (.iload_n 1, 1) := by decide +kernel
theorem d_q_left_II_70 : decode b_q_left_II 70 = .ok (.goto (6), 3) := by decide +kernel
theorem d_q_left_II_73 : decode b_q_left_II 73 = .ok (.iload_n 1, 1) := by decide +kernel
theorem d_q_left_II_74 : decode b_q_left_II 74 = .ok (.iconst 4, 1) := by decide +kernel
theorem d_q_left_II_75 : decode b_q_left_II 75 = .ok (.isub, 1) := by decide +kernel
theorem d_q_left_II_76 : decode b_q_left_II 76 = .ok (.istore_n 3, 1) := by decide +kernel
theorem d_q_left_II_77 : decode b_q_left_II 77 = .ok (.aload_n 0, 1) := by decide +kernel
theorem d_q_left_II_78 : decode b_q_left_II 78 = .ok (.getfield 133, 3) := by decide +kernel
theorem d_q_left_II_81 : decode b_q_left_II 81 = .ok (.iconst 0, 1) := by decide +kernel
theorem d_q_left_II_82 : decode b_q_left_II 82 = .ok (.baload, 1) := by decide +kernel
theorem d_q_left_II_83 : decode b_q_left_II 83 = .ok (.ifCond .ne (19), 3) := by decide +kernel
theorem d_q_left_II_86 : decode b_q_left_II 86 = .ok (.iload_n 2, 1) := by decide +kernel
theorem d_q_left_II_87 : decode b_q_left_II 87 = .ok (.iconst 4, 1) := by decide +kernel
theorem d_q_left_II_88 : decode b_q_left_II 88 = .ok (.if_icmp .ge (20), 3) := by decide +kernel
theorem d_q_left_II_91 : decode b_q_left_II 91 = .ok (.aload_n 0, 1) := by decide +kernel
theorem d_q_left_II_92 : decode b_q_left_II 92 = .ok (.getfield 124, 3) := by decide +kernel
theorem d_q_left_II_95 : decode b_q_left_II 95 = .ok (.iload_n 3, 1) := by decide +kernel
theorem d_q_left_II_96 : decode b_q_left_II 96 = .ok (.laload, 1) := by decide +kernel
theorem d_q_left_II_97 : decode b_q_left_II 97 = .ok (.lconst 0, 1) := by decide +kernel
theorem d_q_left_II_98 : decode b_q_left_II 98 = .ok (.lcmp, 1) := by decide +kernel
theorem d_q_left_II_99 : decode b_q_left_II 99 = .ok (.ifCond .ge (9), 3) := by decide +kernel
theorem d_q_left_II_102 : decode b_q_left_II 102 = .ok (.aload_n 0, 1) := by decide +kernel
theorem d_q_left_II_103 : decode b_q_left_II 103 = .ok (.iconst 4, 1) := by decide +kernel
theorem d_q_left_II_104 : decode b_q_left_II 104 = .ok (.invokevirtual 159, 3) := by decide +kernel
theorem d_q_left_II_107 : decode b_q_left_II 107 = .ok (.ireturn, 1) := by decide +kernel
theorem d_q_left_II_108 : decode b_q_left_II 108 = .ok (.aload_n 0, 1) := by decide +kernel
theorem d_q_left_II_109 : decode b_q_left_II 109 = .ok (.iconst 0, 1) := by decide +kernel
theorem d_q_left_II_110 : decode b_q_left_II 110 = .ok (.putfield 148, 3) := by decide +kernel
theorem d_q_left_II_113 : decode b_q_left_II 113 = .ok (.iload_n 2, 1) := by decide +kernel
theorem d_q_left_II_114 : decode b_q_left_II 114 = .ok (.iconst 4, 1) := by decide +kernel
theorem d_q_left_II_115 : decode b_q_left_II 115 = .ok (.if_icmp .ne (24), 3) := by decide +kernel
theorem d_q_left_II_118 : decode b_q_left_II 118 = .ok (.iload_n 1, 1) := by decide +kernel
theorem d_q_left_II_119 : decode b_q_left_II 119 = .ok (.bipush (6), 2) := by decide +kernel
theorem d_q_left_II_121 : decode b_q_left_II 121 = .ok (.if_icmp .ge (16), 3) := by decide +kernel
theorem d_q_left_II_124 : decode b_q_left_II 124 = .ok (.aload_n 0, 1) := by decide +kernel
theorem d_q_left_II_125 : decode b_q_left_II 125 = .ok (.getfield 130, 3) := by decide +kernel
theorem d_q_left_II_128 : decode b_q_left_II 128 = .ok (.iload_n 1, 1) := by decide +kernel
theorem d_q_left_II_129 : decode b_q_left_II 129 = .ok (.baload, 1) := by decide +kernel
theorem d_q_left_II_130 : decode b_q_left_II 130 = .ok (.ifCond .eq (7), 3) := by decide +kernel
theorem d_q_left_II_133 : decode b_q_left_II 133 = .ok (.iconst 1, 1) := by decide +kernel
theorem d_q_left_II_134 : decode b_q_left_II 134 = .ok (.goto (4), 3) := by decide +kernel
theorem d_q_left_II_137 : decode b_q_left_II 137 = .ok (.iconst 0, 1) := by decide +kernel
theorem d_q_left_II_138 : decode b_q_left_II 138 = .ok (.ireturn, 1) := by decide +kernel
theorem d_q_left_II_139 : decode b_q_left_II 139 = .ok (.iload_n 2, 1) := by decide +kernel
theorem d_q_left_II_140 : decode b_q_left_II 140 = .ok (.ifCond .ne (12), 3) := by decide +kernel
theorem d_q_left_II_143 : decode b_q_left_II 143 = .ok (.aload_n 0, 1) := by decide +kernel
theorem d_q_left_II_144 : decode b_q_left_II 144 = .ok (.getfield 117, 3) := by decide +kernel
theorem d_q_left_II_147 : decode b_q_left_II 147 = .ok (.iload_n 3, 1) := by decide +kernel
theorem d_q_left_II_148 : decode b_q_left_II 148 = .ok (.laload, 1) := by decide +kernel
theorem d_q_left_II_149 : decode b_q_left_II 149 = .ok (.goto (37), 3) := by decide +kernel
theorem d_q_left_II_152 : decode b_q_left_II 152 = .ok (.iload_n 2, 1) := by decide +kernel
theorem d_q_left_II_153 : decode b_q_left_II 153 = .ok (.iconst 1, 1) := by decide +kernel
theorem d_q_left_II_154 : decode b_q_left_II 154 = .ok (.if_icmp .ne (12), 3) := by decide +kernel
theorem d_q_left_II_157 : decode b_q_left_II 157 = .ok (.aload_n 0, 1) := by decide +kernel
theorem d_q_left_II_158 : decode b_q_left_II 158 = .ok (.getfield 121, 3) := by decide +kernel
theorem d_q_left_II_161 : decode b_q_left_II 161 = .ok (.iload_n 3, 1) := by decide +kernel
theorem d_q_left_II_162 : decode b_q_left_II 162 = .ok (.laload, 1) := by decide +kernel
theorem d_q_left_II_163 : decode b_q_left_II 163 = .ok (.goto (23), 3) := by decide +kernel
theorem d_q_left_II_166 : decode b_q_left_II 166 = .ok (.iload_n 2, 1) := by decide +kernel
theorem d_q_left_II_167 : decode b_q_left_II 167 = .ok (.iconst 2, 1) := by decide +kernel
theorem d_q_left_II_168 : decode b_q_left_II 168 = .ok (.if_icmp .ne (12), 3) := by decide +kernel
theorem d_q_left_II_171 : decode b_q_left_II 171 = .ok (.aload_n 0, 1) := by decide +kernel
theorem d_q_left_II_172 : decode b_q_left_II 172 = .ok (.getfield 124, 3) := by decide +kernel
theorem d_q_left_II_175 : decode b_q_left_II 175 = .ok (.iload_n 3, 1) := by decide +kernel
theorem d_q_left_II_176 : decode b_q_left_II 176 = .ok (.laload, 1) := by decide +kernel
theorem d_q_left_II_177 : decode b_q_left_II 177 = .ok (.goto (9), 3) := by decide +kernel
theorem d_q_left_II_180 : decode b_q_left_II 180 = .ok (.aload_n 0, 1) := by decide +kernel
theorem d_q_left_II_181 : decode b_q_left_II 181 = .ok (.getfield 127, 3) := by decide +kernel
theorem d_q_left_II_184 : decode b_q_left_II 184 = .ok (.iload_n 3, 1) := by decide +kernel
theorem d_q_left_II_185 : decode b_q_left_II 185 = .ok (.laload, 1) := by decide +kernel
theorem d_q_left_II_186 : decode b_q_left_II 186 = .ok (.l2i, 1) := by decide +kernel
theorem d_q_left_II_187 : decode b_q_left_II 187 = .ok (.ireturn, 1) := by decide +kernel
theorem kb_q_left_II {a0 : Nat} {a1 : Int32} {a2 : Int32} {w : WW} {r : (Int32 × WW)} (h : f_q_left_II a0 a1 a2 w = some r) : kb w a0 9 = true := (its h).1
set_option maxHeartbeats 4000000 in
set_option maxRecDepth 100000 in
theorem j_q_left_II_102 {p : Program} {l : Launch} {e : Env} {s : State} {m : MethodId} {args : Array Value} {below : List Frame} {meth : Method} {c : Code} {D : va_G} {cA : Nat → ClassId} {base : Nat} {r : Int32} {w' : WW} (C : cx b_q_left_II (some .int) 4 y_q_left_II.cls "left" p s m args meth c D cA base)   : ∀ (y0 : Nat) (w : WW), f_q_left_II_102 y0 w = some (r, w') → ∀ (H : Heap) (locs : List Loc) (ls : Array Slot), wo_S D cls cA base s w H locs → lv_has ls 4 [(0, .ref (base + y0))] → W p l e rm_q_left_II s m args below meth c H locs 0 0 (MQ below (wo_Q D cls cA base (some (.int r)) w') args s rm_q_left_II.cells rm_q_left_II.slots (wo_B base)) (F0 m 102 ls []) := by
  obtain ⟨hx, hb, hr, hml, hown, hts, hlk, hnm, hK, hG⟩ := id C
  intro y0 w h H locs ls hW hl
  unfold f_q_left_II_102 at h
  refine lv_aload_n hx hb d_q_left_II_102 rfl (lv_at hl 0 rfl) ?_
  refine lv_iconst (v := (4 : Int32)) hx hb d_q_left_II_103 (by decide) ?_
  replace h := bs2 h
  obtain ⟨x14, w13, hw13, h⟩ := h
  refine cv_q_159 (As := [.int (4 : Int32)]) (rest := []) hx hb hml hown hts hK hG hW (c_q_fail l D cA base hw13) (kb_q_fail hw13) ⟨Nat.le_of_ble_eq_true rfl, Nat.le_of_ble_eq_true rfl⟩ ⟨Nat.le_of_ble_eq_true rfl, Nat.le_of_ble_eq_true rfl⟩ rfl hl.1 rfl (Nat.le_of_ble_eq_true rfl) d_q_left_II_104 (fun H locs hW => ?_)
  cases h
  exact wo_iret hx hb hr hlk hW d_q_left_II_107
set_option maxHeartbeats 4000000 in
set_option maxRecDepth 100000 in
theorem j_q_left_II_186 {p : Program} {l : Launch} {e : Env} {s : State} {m : MethodId} {args : Array Value} {below : List Frame} {meth : Method} {c : Code} {D : va_G} {cA : Nat → ClassId} {base : Nat} {r : Int32} {w' : WW} (C : cx b_q_left_II (some .int) 4 y_q_left_II.cls "left" p s m args meth c D cA base)   : ∀ (z0 : Int64) (w : WW), f_q_left_II_186 z0 w = some (r, w') → ∀ (H : Heap) (locs : List Loc) (ls : Array Slot), wo_S D cls cA base s w H locs → lv_has ls 4 [] → W p l e rm_q_left_II s m args below meth c H locs 0 0 (MQ below (wo_Q D cls cA base (some (.int r)) w') args s rm_q_left_II.cells rm_q_left_II.slots (wo_B base)) (F0 m 186 ls [.long z0]) := by
  obtain ⟨hx, hb, hr, hml, hown, hts, hlk, hnm, hK, hG⟩ := id C
  intro z0 w h H locs ls hW hl
  unfold f_q_left_II_186 at h
  refine lv_l2i hx hb d_q_left_II_186 rfl ?_
  cases h
  exact wo_iret hx hb hr hlk hW d_q_left_II_187
set_option maxHeartbeats 4000000 in
set_option maxRecDepth 100000 in
theorem j_q_left_II_138 {p : Program} {l : Launch} {e : Env} {s : State} {m : MethodId} {args : Array Value} {below : List Frame} {meth : Method} {c : Code} {D : va_G} {cA : Nat → ClassId} {base : Nat} {r : Int32} {w' : WW} (C : cx b_q_left_II (some .int) 4 y_q_left_II.cls "left" p s m args meth c D cA base)   : ∀ (z0 : Int32) (w : WW), f_q_left_II_138 z0 w = some (r, w') → ∀ (H : Heap) (locs : List Loc) (ls : Array Slot), wo_S D cls cA base s w H locs → lv_has ls 4 [] → W p l e rm_q_left_II s m args below meth c H locs 0 0 (MQ below (wo_Q D cls cA base (some (.int r)) w') args s rm_q_left_II.cells rm_q_left_II.slots (wo_B base)) (F0 m 138 ls [.int z0]) := by
  obtain ⟨hx, hb, hr, hml, hown, hts, hlk, hnm, hK, hG⟩ := id C
  intro z0 w h H locs ls hW hl
  unfold f_q_left_II_138 at h
  cases h
  exact wo_iret hx hb hr hlk hW d_q_left_II_138
set_option maxHeartbeats 4000000 in
set_option maxRecDepth 100000 in
theorem j_q_left_II_137 {p : Program} {l : Launch} {e : Env} {s : State} {m : MethodId} {args : Array Value} {below : List Frame} {meth : Method} {c : Code} {D : va_G} {cA : Nat → ClassId} {base : Nat} {r : Int32} {w' : WW} (C : cx b_q_left_II (some .int) 4 y_q_left_II.cls "left" p s m args meth c D cA base)   : ∀  (w : WW), f_q_left_II_137  w = some (r, w') → ∀ (H : Heap) (locs : List Loc) (ls : Array Slot), wo_S D cls cA base s w H locs → lv_has ls 4 [] → W p l e rm_q_left_II s m args below meth c H locs 0 0 (MQ below (wo_Q D cls cA base (some (.int r)) w') args s rm_q_left_II.cells rm_q_left_II.slots (wo_B base)) (F0 m 137 ls []) := by
  obtain ⟨hx, hb, hr, hml, hown, hts, hlk, hnm, hK, hG⟩ := id C
  intro  w h H locs ls hW hl
  unfold f_q_left_II_137 at h
  refine lv_iconst (v := (0 : Int32)) hx hb d_q_left_II_137 (by decide) ?_
  exact j_q_left_II_138 C (0 : Int32) w h _ _ _ hW (lv_sub hl [] rfl)
set_option maxHeartbeats 4000000 in
set_option maxRecDepth 100000 in
theorem j_q_left_II_108 {p : Program} {l : Launch} {e : Env} {s : State} {m : MethodId} {args : Array Value} {below : List Frame} {meth : Method} {c : Code} {D : va_G} {cA : Nat → ClassId} {base : Nat} {r : Int32} {w' : WW} (C : cx b_q_left_II (some .int) 4 y_q_left_II.cls "left" p s m args meth c D cA base)   : ∀ (y0 : Nat) (y1 : Int32) (y2 : Int32) (y3 : Int32) (w : WW), f_q_left_II_108 y0 y1 y2 y3 w = some (r, w') → ∀ (H : Heap) (locs : List Loc) (ls : Array Slot), wo_S D cls cA base s w H locs → lv_has ls 4 [(0, .ref (base + y0)), (1, .int y1), (2, .int y2), (3, .int y3)] → W p l e rm_q_left_II s m args below meth c H locs 0 0 (MQ below (wo_Q D cls cA base (some (.int r)) w') args s rm_q_left_II.cells rm_q_left_II.slots (wo_B base)) (F0 m 108 ls []) := by
  obtain ⟨hx, hb, hr, hml, hown, hts, hlk, hnm, hK, hG⟩ := id C
  intro y0 y1 y2 y3 w h H locs ls hW hl
  unfold f_q_left_II_108 at h
  refine lv_aload_n hx hb d_q_left_II_108 rfl (lv_at hl 0 rfl) ?_
  refine lv_iconst (v := (0 : Int32)) hx hb d_q_left_II_109 (by decide) ?_
  replace h := bs h
  obtain ⟨w16, hw16, h⟩ := h
  refine pf_q_148 hx hb hts hown hK hG hW rfl rfl (pbi hw16 rfl) d_q_left_II_110 (fun H locs hW => ?_)
  refine lv_iload_n hx hb d_q_left_II_113 rfl (lv_at hl 2 rfl) ?_
  refine lv_iconst (v := (4 : Int32)) hx hb d_q_left_II_114 (by decide) ?_
  refine lv_icmp_ne (tgt := 139) hx hb d_q_left_II_115 (by decide) (fun c17 => ?_) (fun c17 => ?_)
  · rw [if_neg c17] at h
    refine lv_iload_n hx hb d_q_left_II_139 rfl (lv_at hl 2 rfl) ?_
    refine lv_if_ne (tgt := 152) hx hb d_q_left_II_140 (by decide) (fun c18 => ?_) (fun c18 => ?_)
    · rw [if_neg c18] at h
      refine lv_iload_n hx hb d_q_left_II_152 rfl (lv_at hl 2 rfl) ?_
      refine lv_iconst (v := (1 : Int32)) hx hb d_q_left_II_153 (by decide) ?_
      refine lv_icmp_ne (tgt := 166) hx hb d_q_left_II_154 (by decide) (fun c19 => ?_) (fun c19 => ?_)
      · rw [if_neg c19] at h
        refine lv_iload_n hx hb d_q_left_II_166 rfl (lv_at hl 2 rfl) ?_
        refine lv_iconst (v := (2 : Int32)) hx hb d_q_left_II_167 (by decide) ?_
        refine lv_icmp_ne (tgt := 180) hx hb d_q_left_II_168 (by decide) (fun c20 => ?_) (fun c20 => ?_)
        · rw [if_neg c20] at h
          refine lv_aload_n hx hb d_q_left_II_180 rfl (lv_at hl 0 rfl) ?_
          replace h := bs h
          obtain ⟨x21, hx21, h⟩ := h
          refine gf_q_127 hx hb hts hown hK hG hW (gN_s hx21) d_q_left_II_181 ?_
          refine lv_iload_n hx hb d_q_left_II_184 rfl (lv_at hl 3 rfl) ?_
          replace h := bs h
          obtain ⟨x22, hx22, h⟩ := h
          refine wo_lald hx hb hK hW (t := 1) rfl hx22 d_q_left_II_185 ?_
          exact j_q_left_II_186 C x22 w16 h _ _ _ hW (lv_sub hl [] rfl)
        · rw [if_pos c20] at h
          refine lv_aload_n hx hb d_q_left_II_171 rfl (lv_at hl 0 rfl) ?_
          replace h := bs h
          obtain ⟨x23, hx23, h⟩ := h
          refine gf_q_124 hx hb hts hown hK hG hW (gN_s hx23) d_q_left_II_172 ?_
          refine lv_iload_n hx hb d_q_left_II_175 rfl (lv_at hl 3 rfl) ?_
          replace h := bs h
          obtain ⟨x24, hx24, h⟩ := h
          refine wo_lald hx hb hK hW (t := 1) rfl hx24 d_q_left_II_176 ?_
          refine lv_goto (tgt := 186) hx hb d_q_left_II_177 (by decide) ?_
          exact j_q_left_II_186 C x24 w16 h _ _ _ hW (lv_sub hl [] rfl)
      · rw [if_pos c19] at h
        refine lv_aload_n hx hb d_q_left_II_157 rfl (lv_at hl 0 rfl) ?_
        replace h := bs h
        obtain ⟨x25, hx25, h⟩ := h
        refine gf_q_121 hx hb hts hown hK hG hW (gN_s hx25) d_q_left_II_158 ?_
        refine lv_iload_n hx hb d_q_left_II_161 rfl (lv_at hl 3 rfl) ?_
        replace h := bs h
        obtain ⟨x26, hx26, h⟩ := h
        refine wo_lald hx hb hK hW (t := 1) rfl hx26 d_q_left_II_162 ?_
        refine lv_goto (tgt := 186) hx hb d_q_left_II_163 (by decide) ?_
        exact j_q_left_II_186 C x26 w16 h _ _ _ hW (lv_sub hl [] rfl)
    · rw [if_pos c18] at h
      refine lv_aload_n hx hb d_q_left_II_143 rfl (lv_at hl 0 rfl) ?_
      replace h := bs h
      obtain ⟨x27, hx27, h⟩ := h
      refine gf_q_117 hx hb hts hown hK hG hW (gN_s hx27) d_q_left_II_144 ?_
      refine lv_iload_n hx hb d_q_left_II_147 rfl (lv_at hl 3 rfl) ?_
      replace h := bs h
      obtain ⟨x28, hx28, h⟩ := h
      refine wo_lald hx hb hK hW (t := 1) rfl hx28 d_q_left_II_148 ?_
      refine lv_goto (tgt := 186) hx hb d_q_left_II_149 (by decide) ?_
      exact j_q_left_II_186 C x28 w16 h _ _ _ hW (lv_sub hl [] rfl)
  · rw [if_pos c17] at h
    refine lv_iload_n hx hb d_q_left_II_118 rfl (lv_at hl 1 rfl) ?_
    refine lv_bipush (v := (6 : Int32)) hx hb d_q_left_II_119 (by decide) ?_
    refine lv_icmp_ge (tgt := 137) hx hb d_q_left_II_121 (by decide) (fun c29 => ?_) (fun c29 => ?_)
    · rw [if_pos c29] at h
      exact j_q_left_II_137 C w16 h _ _ _ hW (lv_sub hl [] rfl)
    · rw [if_neg c29] at h
      refine lv_aload_n hx hb d_q_left_II_124 rfl (lv_at hl 0 rfl) ?_
      replace h := bs h
      obtain ⟨x30, hx30, h⟩ := h
      refine gf_q_130 hx hb hts hown hK hG hW (gN_s hx30) d_q_left_II_125 ?_
      refine lv_iload_n hx hb d_q_left_II_128 rfl (lv_at hl 1 rfl) ?_
      replace h := bs h
      obtain ⟨x31, hx31, h⟩ := h
      refine wo_zald hx hb hK hW (t := 2) rfl hx31 d_q_left_II_129 ?_
      refine lv_if_eq (tgt := 137) hx hb d_q_left_II_130 (by decide) (fun c32 => ?_) (fun c32 => ?_)
      · rw [if_pos c32] at h
        exact j_q_left_II_137 C w16 h _ _ _ hW (lv_sub hl [] rfl)
      · rw [if_neg c32] at h
        refine lv_iconst (v := (1 : Int32)) hx hb d_q_left_II_133 (by decide) ?_
        refine lv_goto (tgt := 138) hx hb d_q_left_II_134 (by decide) ?_
        exact j_q_left_II_138 C (1 : Int32) w16 h _ _ _ hW (lv_sub hl [] rfl)
set_option maxHeartbeats 4000000 in
set_option maxRecDepth 100000 in
theorem j_q_left_II_76 {p : Program} {l : Launch} {e : Env} {s : State} {m : MethodId} {args : Array Value} {below : List Frame} {meth : Method} {c : Code} {D : va_G} {cA : Nat → ClassId} {base : Nat} {r : Int32} {w' : WW} (C : cx b_q_left_II (some .int) 4 y_q_left_II.cls "left" p s m args meth c D cA base)   : ∀ (y0 : Nat) (y1 : Int32) (y2 : Int32) (z0 : Int32) (w : WW), f_q_left_II_76 y0 y1 y2 z0 w = some (r, w') → ∀ (H : Heap) (locs : List Loc) (ls : Array Slot), wo_S D cls cA base s w H locs → lv_has ls 4 [(0, .ref (base + y0)), (1, .int y1), (2, .int y2)] → W p l e rm_q_left_II s m args below meth c H locs 0 0 (MQ below (wo_Q D cls cA base (some (.int r)) w') args s rm_q_left_II.cells rm_q_left_II.slots (wo_B base)) (F0 m 76 ls [.int z0]) := by
  obtain ⟨hx, hb, hr, hml, hown, hts, hlk, hnm, hK, hG⟩ := id C
  intro y0 y1 y2 z0 w h H locs ls hW hl
  unfold f_q_left_II_76 at h
  refine lv_istore_n (lv' := [(3, .int z0), (0, .ref (base + y0)), (1, .int y1), (2, .int y2)]) hx hb d_q_left_II_76 rfl hl (by decide) rfl (fun ls hl => ?_)
  refine lv_aload_n hx hb d_q_left_II_77 rfl (lv_at hl 1 rfl) ?_
  replace h := bs h
  obtain ⟨x10, hx10, h⟩ := h
  refine gf_q_133 hx hb hts hown hK hG hW (gN_s hx10) d_q_left_II_78 ?_
  refine lv_iconst (v := (0 : Int32)) hx hb d_q_left_II_81 (by decide) ?_
  replace h := bs h
  obtain ⟨x11, hx11, h⟩ := h
  refine wo_zald hx hb hK hW (t := 2) rfl hx11 d_q_left_II_82 ?_
  refine lv_if_ne (tgt := 102) hx hb d_q_left_II_83 (by decide) (fun c12 => ?_) (fun c12 => ?_)
  · rw [if_neg c12] at h
    exact j_q_left_II_102 C y0 w h _ _ _ hW (lv_sub hl [1] rfl)
  · rw [if_pos c12] at h
    refine lv_iload_n hx hb d_q_left_II_86 rfl (lv_at hl 3 rfl) ?_
    refine lv_iconst (v := (4 : Int32)) hx hb d_q_left_II_87 (by decide) ?_
    refine lv_icmp_ge (tgt := 108) hx hb d_q_left_II_88 (by decide) (fun c15 => ?_) (fun c15 => ?_)
    · rw [if_pos c15] at h
      exact j_q_left_II_108 C y0 y1 y2 z0 w h _ _ _ hW (lv_sub hl [1, 2, 3, 0] rfl)
    · rw [if_neg c15] at h
      refine lv_aload_n hx hb d_q_left_II_91 rfl (lv_at hl 1 rfl) ?_
      replace h := bs h
      obtain ⟨x33, hx33, h⟩ := h
      refine gf_q_124 hx hb hts hown hK hG hW (gN_s hx33) d_q_left_II_92 ?_
      refine lv_iload_n hx hb d_q_left_II_95 rfl (lv_at hl 0 rfl) ?_
      replace h := bs h
      obtain ⟨x34, hx34, h⟩ := h
      refine wo_lald hx hb hK hW (t := 1) rfl hx34 d_q_left_II_96 ?_
      refine lv_lconst (v := (0 : Int64)) hx hb d_q_left_II_97 (by decide) ?_
      refine lc_ge (tgt := 108) hx hb d_q_left_II_98 d_q_left_II_99 (by decide) (fun c35 => ?_) (fun c35 => ?_)
      · rw [if_pos c35] at h
        exact j_q_left_II_108 C y0 y1 y2 z0 w h _ _ _ hW (lv_sub hl [1, 2, 3, 0] rfl)
      · rw [if_neg c35] at h
        exact j_q_left_II_102 C y0 w h _ _ _ hW (lv_sub hl [1] rfl)
set_option maxHeartbeats 4000000 in
set_option maxRecDepth 100000 in
theorem j_q_left_II_50 {p : Program} {l : Launch} {e : Env} {s : State} {m : MethodId} {args : Array Value} {below : List Frame} {meth : Method} {c : Code} {D : va_G} {cA : Nat → ClassId} {base : Nat} {r : Int32} {w' : WW} (C : cx b_q_left_II (some .int) 4 y_q_left_II.cls "left" p s m args meth c D cA base)   : ∀ (y0 : Nat) (y1 : Int32) (y2 : Int32) (w : WW), f_q_left_II_50 y0 y1 y2 w = some (r, w') → ∀ (H : Heap) (locs : List Loc) (ls : Array Slot), wo_S D cls cA base s w H locs → lv_has ls 4 [(0, .ref (base + y0)), (1, .int y1), (2, .int y2)] → W p l e rm_q_left_II s m args below meth c H locs 0 0 (MQ below (wo_Q D cls cA base (some (.int r)) w') args s rm_q_left_II.cells rm_q_left_II.slots (wo_B base)) (F0 m 50 ls []) := by
  obtain ⟨hx, hb, hr, hml, hown, hts, hlk, hnm, hK, hG⟩ := id C
  intro y0 y1 y2 w h H locs ls hW hl
  unfold f_q_left_II_50 at h
  refine lv_aload_n hx hb d_q_left_II_50 rfl (lv_at hl 0 rfl) ?_
  replace h := bs h
  obtain ⟨x7, hx7, h⟩ := h
  refine gf_q_506 hx hb hts hown hK hG hW (gI_s hx7) d_q_left_II_51 ?_
  refine lv_if_ne (tgt := 63) hx hb d_q_left_II_54 (by decide) (fun c8 => ?_) (fun c8 => ?_)
  · rw [if_neg c8] at h
    refine lv_iload_n hx hb d_q_left_II_63 rfl (lv_at hl 1 rfl) ?_
    refine lv_bipush (v := (6 : Int32)) hx hb d_q_left_II_64 (by decide) ?_
    refine lv_icmp_ge (tgt := 73) hx hb d_q_left_II_66 (by decide) (fun c9 => ?_) (fun c9 => ?_)
    · rw [if_pos c9] at h
      refine lv_iload_n hx hb d_q_left_II_73 rfl (lv_at hl 1 rfl) ?_
      refine lv_iconst (v := (4 : Int32)) hx hb d_q_left_II_74 (by decide) ?_
      refine lv_isub hx hb d_q_left_II_75 ?_
      exact j_q_left_II_76 C y0 y1 y2 (y1 - (4 : Int32)) w h _ _ _ hW (lv_sub hl [0, 1, 2] rfl)
    · rw [if_neg c9] at h
      refine lv_iload_n hx hb d_q_left_II_69 rfl (lv_at hl 1 rfl) ?_
      refine lv_goto (tgt := 76) hx hb d_q_left_II_70 (by decide) ?_
      exact j_q_left_II_76 C y0 y1 y2 y1 w h _ _ _ hW (lv_sub hl [0, 1, 2] rfl)
  · rw [if_pos c8] at h
    refine lv_aload_n hx hb d_q_left_II_57 rfl (lv_at hl 0 rfl) ?_
    refine lv_iconst (v := (3 : Int32)) hx hb d_q_left_II_58 (by decide) ?_
    replace h := bs2 h
    obtain ⟨x37, w36, hw36, h⟩ := h
    refine cv_q_159 (As := [.int (3 : Int32)]) (rest := []) hx hb hml hown hts hK hG hW (c_q_fail l D cA base hw36) (kb_q_fail hw36) ⟨Nat.le_of_ble_eq_true rfl, Nat.le_of_ble_eq_true rfl⟩ ⟨Nat.le_of_ble_eq_true rfl, Nat.le_of_ble_eq_true rfl⟩ rfl hl.1 rfl (Nat.le_of_ble_eq_true rfl) d_q_left_II_59 (fun H locs hW => ?_)
    cases h
    exact wo_iret hx hb hr hlk hW d_q_left_II_62
set_option maxHeartbeats 4000000 in
set_option maxRecDepth 100000 in
theorem c_q_left_II (l : Launch) (D : va_G) (cA : Nat → ClassId) (base : Nat) {a0 : Nat} {a1 : Int32} {a2 : Int32} {w w' : WW} {r : Int32} (h : f_q_left_II a0 a1 a2 w = some (r, w')) : mt l D cls (wo_tys cA) cA base y_q_left_II (Cond.code y_q_left_II b_q_left_II 4 (some .int) :: gt) rm_q_left_II [.ref (base + a0), .int a1, .int a2] w (some (.int r)) w' rm_q_left_II.cells rm_q_left_II.slots := by
  refine mt_start (by decide) (Nat.le_of_ble_eq_true rfl) ?_
  intro p e s m below meth c ls hx hb hr hml hown hts hlk hnm hK hG hW hl
  have C : cx b_q_left_II (some .int) 4 y_q_left_II.cls "left" p s m [.ref (base + a0), .int a1, .int a2].toArray meth c D cA base := ⟨hx, hb, hr, hml, hown, hts, hlk, hnm, hK, hG⟩
  have hl : lv_has ls 4 [(0, .ref (base + a0)), (1, .int a1), (2, .int a2)] := hl
  unfold f_q_left_II at h
  replace h := its h
  obtain ⟨-, h⟩ := h
  refine lv_iload_n hx hb d_q_left_II_0 rfl (lv_at hl 2 rfl) ?_
  refine lv_i2l hx hb d_q_left_II_1 rfl ?_
  refine lv_lconst (v := (0 : Int64)) hx hb d_q_left_II_2 (by decide) ?_
  refine lv_ldc2 (own := Rc_q) (v := (4 : Int64)) hx hb hown (hts (.constantLong "AlarmForgeModel" 524 (4 : Int64)) (gt_of (i := 1728) (by decide +kernel) (by decide +kernel))) d_q_left_II_3 ?_
  replace h := bs2 h
  obtain ⟨x2, w1, hw1, h⟩ := h
  refine cs_q_155 (As := [.long (Int32.toInt64 a2), .long (0 : Int64), .long (4 : Int64)]) (rest := []) hx hb hml hown hts hK hG hW (c_q_in l D cA base hw1) ⟨Nat.le_of_ble_eq_true rfl, Nat.le_of_ble_eq_true rfl⟩ ⟨Nat.le_of_ble_eq_true rfl, Nat.le_of_ble_eq_true rfl⟩ rfl hl.1 rfl (Nat.le_of_ble_eq_true rfl) d_q_left_II_6 (fun H locs hW => ?_)
  refine lv_if_ne (tgt := 18) hx hb d_q_left_II_9 (by decide) (fun c3 => ?_) (fun c3 => ?_)
  · rw [if_neg c3] at h
    refine lv_iload_n hx hb d_q_left_II_18 rfl (lv_at hl 1 rfl) ?_
    refine lv_i2l hx hb d_q_left_II_19 rfl ?_
    refine lv_lconst (v := (0 : Int64)) hx hb d_q_left_II_20 (by decide) ?_
    refine lv_ldc2 (own := Rc_q) (v := (5 : Int64)) hx hb hown (hts (.constantLong "AlarmForgeModel" 326 (5 : Int64)) (gt_of (i := 1522) (by decide +kernel) (by decide +kernel))) d_q_left_II_21 ?_
    replace h := bs2 h
    obtain ⟨x5, w4, hw4, h⟩ := h
    refine cs_q_155 (As := [.long (Int32.toInt64 a1), .long (0 : Int64), .long (5 : Int64)]) (rest := []) hx hb hml hown hts hK hG hW (c_q_in l D cA base hw4) ⟨Nat.le_of_ble_eq_true rfl, Nat.le_of_ble_eq_true rfl⟩ ⟨Nat.le_of_ble_eq_true rfl, Nat.le_of_ble_eq_true rfl⟩ rfl hl.1 rfl (Nat.le_of_ble_eq_true rfl) d_q_left_II_24 (fun H locs hW => ?_)
    refine lv_if_ne (tgt := 50) hx hb d_q_left_II_27 (by decide) (fun c6 => ?_) (fun c6 => ?_)
    · rw [if_neg c6] at h
      exact j_q_left_II_50 C a0 a1 a2 w4 h _ _ _ hW (lv_sub hl [0, 1, 2] rfl)
    · rw [if_pos c6] at h
      refine lv_iload_n hx hb d_q_left_II_30 rfl (lv_at hl 1 rfl) ?_
      refine lv_i2l hx hb d_q_left_II_31 rfl ?_
      refine lv_ldc2 (own := Rc_q) (v := (10 : Int64)) hx hb hown (hts (.constantLong "AlarmForgeModel" 373 (10 : Int64)) (gt_of (i := 1567) (by decide +kernel) (by decide +kernel))) d_q_left_II_32 ?_
      refine lv_ldc2 (own := Rc_q) (v := (17 : Int64)) hx hb hown (hts (.constantLong "AlarmForgeModel" 526 (17 : Int64)) (gt_of (i := 1729) (by decide +kernel) (by decide +kernel))) d_q_left_II_35 ?_
      replace h := bs2 h
      obtain ⟨x39, w38, hw38, h⟩ := h
      refine cs_q_155 (As := [.long (Int32.toInt64 a1), .long (10 : Int64), .long (17 : Int64)]) (rest := []) hx hb hml hown hts hK hG hW (c_q_in l D cA base hw38) ⟨Nat.le_of_ble_eq_true rfl, Nat.le_of_ble_eq_true rfl⟩ ⟨Nat.le_of_ble_eq_true rfl, Nat.le_of_ble_eq_true rfl⟩ rfl hl.1 rfl (Nat.le_of_ble_eq_true rfl) d_q_left_II_38 (fun H locs hW => ?_)
      refine lv_if_ne (tgt := 50) hx hb d_q_left_II_41 (by decide) (fun c40 => ?_) (fun c40 => ?_)
      · rw [if_neg c40] at h
        exact j_q_left_II_50 C a0 a1 a2 w38 h _ _ _ hW (lv_sub hl [0, 1, 2] rfl)
      · rw [if_pos c40] at h
        refine lv_aload_n hx hb d_q_left_II_44 rfl (lv_at hl 0 rfl) ?_
        refine lv_iconst (v := (2 : Int32)) hx hb d_q_left_II_45 (by decide) ?_
        replace h := bs2 h
        obtain ⟨x42, w41, hw41, h⟩ := h
        refine cv_q_159 (As := [.int (2 : Int32)]) (rest := []) hx hb hml hown hts hK hG hW (c_q_fail l D cA base hw41) (kb_q_fail hw41) ⟨Nat.le_of_ble_eq_true rfl, Nat.le_of_ble_eq_true rfl⟩ ⟨Nat.le_of_ble_eq_true rfl, Nat.le_of_ble_eq_true rfl⟩ rfl hl.1 rfl (Nat.le_of_ble_eq_true rfl) d_q_left_II_46 (fun H locs hW => ?_)
        cases h
        exact wo_iret hx hb hr hlk hW d_q_left_II_49
  · rw [if_pos c3] at h
    refine lv_aload_n hx hb d_q_left_II_12 rfl (lv_at hl 0 rfl) ?_
    refine lv_iconst (v := (1 : Int32)) hx hb d_q_left_II_13 (by decide) ?_
    replace h := bs2 h
    obtain ⟨x44, w43, hw43, h⟩ := h
    refine cv_q_159 (As := [.int (1 : Int32)]) (rest := []) hx hb hml hown hts hK hG hW (c_q_fail l D cA base hw43) (kb_q_fail hw43) ⟨Nat.le_of_ble_eq_true rfl, Nat.le_of_ble_eq_true rfl⟩ ⟨Nat.le_of_ble_eq_true rfl, Nat.le_of_ble_eq_true rfl⟩ rfl hl.1 rfl (Nat.le_of_ble_eq_true rfl) d_q_left_II_14 (fun H locs hW => ?_)
    cases h
    exact wo_iret hx hb hr hlk hW d_q_left_II_17
abbrev b_q_count : ByteArray := prog_11_method_88_code
def y_q_count : MethodName := ⟨"AlarmForgeModel", "count", "(I)I"⟩
def rm_q_count : Room := { frames := 1, cells := 0, slots := 0, locals := 25 }
theorem d_q_count_0 : decode b_q_count 0 = .ok (.iload_n 1, 1) := by decide +kernel
theorem d_q_count_1 : decode b_q_count 1 = .ok (.i2l, 1) := by decide +kernel
theorem d_q_count_2 : decode b_q_count 2 = .ok (.lconst 0, 1) := by decide +kernel
theorem d_q_count_3 : decode b_q_count 3 = .ok (.ldc2_w 528, 3) := by decide +kernel
theorem d_q_count_6 : decode b_q_count 6 = .ok (.invokestatic 155, 3) := by decide +kernel
theorem d_q_count_9 : decode b_q_count 9 = .ok (.ifCond .ne (9), 3) := by decide +kernel
theorem d_q_count_12 : decode b_q_count 12 = .ok (.aload_n 0, 1) := by decide +kernel
theorem d_q_count_13 : decode b_q_count 13 = .ok (.iconst 1, 1) := by decide +kernel
theorem d_q_count_14 : decode b_q_count 14 = .ok (.invokevirtual 159, 3) := by decide +kernel
theorem d_q_count_17 : decode b_q_count 17 = .ok (.ireturn, 1) := by decide +kernel
theorem d_q_count_18 : decode b_q_count 18 = .ok (.aload_n 0, 1) := by decide +kernel
theorem d_q_count_19 : decode b_q_count 19 = .ok (.iconst 0, 1) := by decide +kernel
theorem d_q_count_20 : decode b_q_count 20 = .ok (.putfield 148, 3) := by decide +kernel
theorem d_q_count_23 : decode b_q_count 23 = .ok (.iload_n 1, 1) := by decide +kernel
theorem d_q_count_24 : decode b_q_count 24 = .ok (.tableswitch (86) (0) (5) #[40, 45, 50, 71, 76, 81], 40) := by decide +kernel
theorem d_q_count_64 : decode b_q_count 64 = .ok (.aload_n 0, 1) := by decide +kernel
theorem d_q_count_65 : decode b_q_count 65 = .ok (.getfield 163, 3) := by decide +kernel
theorem d_q_count_68 : decode b_q_count 68 = .ok (.ireturn, 1) := by decide +kernel
theorem d_q_count_69 : decode b_q_count 69 = .ok (.aload_n 0, 1) := by decide +kernel
theorem d_q_count_70 : decode b_q_count 70 = .ok (.getfield 328, 3) := by decide +kernel
theorem d_q_count_73 : decode b_q_count 73 = .ok (.ireturn, 1) := by decide +kernel
theorem d_q_count_74 : decode b_q_count 74 = .ok (.aload_n 0, 1) := by decide +kernel
theorem d_q_count_75 : decode b_q_count 75 = .ok (.getfield 323, 3) := by decide +kernel
theorem d_q_count_78 : decode b_q_count 78 = .ok (.ifCond .eq (15), 3) := by decide +kernel
theorem d_q_count_81 : decode b_q_count 81 = .ok (.aload_n 0, 1) := by decide +kernel
theorem d_q_count_82 : decode b_q_count 82 = .ok (.getfield 66, 3) := by decide +kernel
theorem d_q_count_85 : decode b_q_count 85 = .ok (.aload_n 0, 1) := by decide +kernel
theorem d_q_count_86 : decode b_q_count 86 = .ok (.getfield 308, 3) := by decide +kernel
theorem d_q_count_89 : decode b_q_count 89 = .ok (.iaload, 1) := by decide +kernel
theorem d_q_count_90 : decode b_q_count 90 = .ok (.goto (4), 3) := by decide +kernel
theorem d_q_count_93 : decode b_q_count 93 = .ok (.iconst 0, 1) := by decide +kernel
theorem d_q_count_94 : decode b_q_count 94 = .ok (.ireturn, 1) := by decide +kernel
theorem d_q_count_95 : decode b_q_count 95 = .ok (.aload_n 0, 1) := by decide +kernel
theorem d_q_count_96 : decode b_q_count 96 = .ok (.getfield 496, 3) := by decide +kernel
theorem d_q_count_99 : decode b_q_count 99 = .ok (.ireturn, 1) := by decide +kernel
theorem d_q_count_100 : decode b_q_count 100 = .ok (.aload_n 0, 1) := by decide +kernel
theorem d_q_count_101 : decode b_q_count 101 = .ok (.invokevirtual 521, 3) := by decide +kernel
theorem d_q_count_104 : decode b_q_count 104 = .ok (.ireturn, 1) := by decide +kernel
theorem d_q_count_105 : decode b_q_count 105 = .ok (.aload_n 0, 1) := by decide +kernel
theorem d_q_count_106 : decode b_q_count 106 = .ok (.getfield 20, 3) := by decide +kernel
theorem d_q_count_109 : decode b_q_count 109 = .ok (.ireturn, 1) := by decide +kernel
theorem d_q_count_110 : decode b_q_count 110 = .ok (.aload_n 0, 1) := by decide +kernel
theorem d_q_count_111 : decode b_q_count 111 = .ok (.getfield 23, 3) := by decide +kernel
theorem d_q_count_114 : decode b_q_count 114 = .ok (.ireturn, 1) := by decide +kernel
theorem kb_q_count {a0 : Nat} {a1 : Int32} {w : WW} {r : (Int32 × WW)} (h : f_q_count a0 a1 w = some r) : kb w a0 9 = true := (its h).1
set_option maxHeartbeats 4000000 in
set_option maxRecDepth 100000 in
theorem j_q_count_94 {p : Program} {l : Launch} {e : Env} {s : State} {m : MethodId} {args : Array Value} {below : List Frame} {meth : Method} {c : Code} {D : va_G} {cA : Nat → ClassId} {base : Nat} {r : Int32} {w' : WW} (C : cx b_q_count (some .int) 2 y_q_count.cls "count" p s m args meth c D cA base)   : ∀ (z0 : Int32) (w : WW), f_q_count_94 z0 w = some (r, w') → ∀ (H : Heap) (locs : List Loc) (ls : Array Slot), wo_S D cls cA base s w H locs → lv_has ls 2 [] → W p l e rm_q_count s m args below meth c H locs 0 0 (MQ below (wo_Q D cls cA base (some (.int r)) w') args s rm_q_count.cells rm_q_count.slots (wo_B base)) (F0 m 94 ls [.int z0]) := by
  obtain ⟨hx, hb, hr, hml, hown, hts, hlk, hnm, hK, hG⟩ := id C
  intro z0 w h H locs ls hW hl
  unfold f_q_count_94 at h
  cases h
  exact wo_iret hx hb hr hlk hW d_q_count_94
set_option maxHeartbeats 4000000 in
set_option maxRecDepth 100000 in
theorem c_q_count (l : Launch) (D : va_G) (cA : Nat → ClassId) (base : Nat) {a0 : Nat} {a1 : Int32} {w w' : WW} {r : Int32} (h : f_q_count a0 a1 w = some (r, w')) : mt l D cls (wo_tys cA) cA base y_q_count (Cond.code y_q_count b_q_count 2 (some .int) :: gt) rm_q_count [.ref (base + a0), .int a1] w (some (.int r)) w' rm_q_count.cells rm_q_count.slots := by
  refine mt_start (by decide) (Nat.le_of_ble_eq_true rfl) ?_
  intro p e s m below meth c ls hx hb hr hml hown hts hlk hnm hK hG hW hl
  have C : cx b_q_count (some .int) 2 y_q_count.cls "count" p s m [.ref (base + a0), .int a1].toArray meth c D cA base := ⟨hx, hb, hr, hml, hown, hts, hlk, hnm, hK, hG⟩
  have hl : lv_has ls 2 [(0, .ref (base + a0)), (1, .int a1)] := hl
  unfold f_q_count at h
  replace h := its h
  obtain ⟨-, h⟩ := h
  refine lv_iload_n hx hb d_q_count_0 rfl (lv_at hl 1 rfl) ?_
  refine lv_i2l hx hb d_q_count_1 rfl ?_
  refine lv_lconst (v := (0 : Int64)) hx hb d_q_count_2 (by decide) ?_
  refine lv_ldc2 (own := Rc_q) (v := (6 : Int64)) hx hb hown (hts (.constantLong "AlarmForgeModel" 528 (6 : Int64)) (gt_of (i := 1734) (by decide +kernel) (by decide +kernel))) d_q_count_3 ?_
  replace h := bs2 h
  obtain ⟨x2, w1, hw1, h⟩ := h
  refine cs_q_155 (As := [.long (Int32.toInt64 a1), .long (0 : Int64), .long (6 : Int64)]) (rest := []) hx hb hml hown hts hK hG hW (c_q_in l D cA base hw1) ⟨Nat.le_of_ble_eq_true rfl, Nat.le_of_ble_eq_true rfl⟩ ⟨Nat.le_of_ble_eq_true rfl, Nat.le_of_ble_eq_true rfl⟩ rfl hl.1 rfl (Nat.le_of_ble_eq_true rfl) d_q_count_6 (fun H locs hW => ?_)
  refine lv_if_ne (tgt := 18) hx hb d_q_count_9 (by decide) (fun c3 => ?_) (fun c3 => ?_)
  · rw [if_neg c3] at h
    refine lv_aload_n hx hb d_q_count_18 rfl (lv_at hl 0 rfl) ?_
    refine lv_iconst (v := (0 : Int32)) hx hb d_q_count_19 (by decide) ?_
    replace h := bs h
    obtain ⟨w4, hw4, h⟩ := h
    refine pf_q_148 hx hb hts hown hK hG hW rfl rfl (pbi hw4 rfl) d_q_count_20 (fun H locs hW => ?_)
    refine lv_iload_n hx hb d_q_count_23 rfl (lv_at hl 1 rfl) ?_
    by_cases c5 : a1 = (0 : Int32)
    · rw [if_pos c5] at h
      refine lv_tableIn (off := 40) (tgt := 64) hx hb d_q_count_24 (by rw [c5]; decide) (by rw [c5]; decide) (by rw [c5]; rfl) (by decide) ?_
      refine lv_aload_n hx hb d_q_count_64 rfl (lv_at hl 0 rfl) ?_
      replace h := bs h
      obtain ⟨x6, hx6, h⟩ := h
      refine gf_q_163 hx hb hts hown hK hG hW (gI_s hx6) d_q_count_65 ?_
      cases h
      exact wo_iret hx hb hr hlk hW d_q_count_68
    · rw [if_neg c5] at h
      by_cases c7 : a1 = (1 : Int32)
      · rw [if_pos c7] at h
        refine lv_tableIn (off := 45) (tgt := 69) hx hb d_q_count_24 (by rw [c7]; decide) (by rw [c7]; decide) (by rw [c7]; rfl) (by decide) ?_
        refine lv_aload_n hx hb d_q_count_69 rfl (lv_at hl 0 rfl) ?_
        replace h := bs h
        obtain ⟨x8, hx8, h⟩ := h
        refine gf_q_328 hx hb hts hown hK hG hW (gI_s hx8) d_q_count_70 ?_
        cases h
        exact wo_iret hx hb hr hlk hW d_q_count_73
      · rw [if_neg c7] at h
        by_cases c9 : a1 = (2 : Int32)
        · rw [if_pos c9] at h
          refine lv_tableIn (off := 50) (tgt := 74) hx hb d_q_count_24 (by rw [c9]; decide) (by rw [c9]; decide) (by rw [c9]; rfl) (by decide) ?_
          refine lv_aload_n hx hb d_q_count_74 rfl (lv_at hl 0 rfl) ?_
          replace h := bs h
          obtain ⟨x10, hx10, h⟩ := h
          refine gf_q_323 hx hb hts hown hK hG hW (gI_s hx10) d_q_count_75 ?_
          refine lv_if_eq (tgt := 93) hx hb d_q_count_78 (by decide) (fun c11 => ?_) (fun c11 => ?_)
          · rw [if_pos c11] at h
            refine lv_iconst (v := (0 : Int32)) hx hb d_q_count_93 (by decide) ?_
            exact j_q_count_94 C (0 : Int32) w4 h _ _ _ hW (lv_sub hl [] rfl)
          · rw [if_neg c11] at h
            refine lv_aload_n hx hb d_q_count_81 rfl (lv_at hl 0 rfl) ?_
            replace h := bs h
            obtain ⟨x12, hx12, h⟩ := h
            refine gf_q_66 hx hb hts hown hK hG hW (gN_s hx12) d_q_count_82 ?_
            refine lv_aload_n hx hb d_q_count_85 rfl (lv_at hl 0 rfl) ?_
            replace h := bs h
            obtain ⟨x13, hx13, h⟩ := h
            refine gf_q_308 hx hb hts hown hK hG hW (gI_s hx13) d_q_count_86 ?_
            replace h := bs h
            obtain ⟨x14, hx14, h⟩ := h
            refine wo_iald hx hb hK hW (t := 0) rfl hx14 d_q_count_89 ?_
            refine lv_goto (tgt := 94) hx hb d_q_count_90 (by decide) ?_
            exact j_q_count_94 C x14 w4 h _ _ _ hW (lv_sub hl [] rfl)
        · rw [if_neg c9] at h
          by_cases c15 : a1 = (3 : Int32)
          · rw [if_pos c15] at h
            refine lv_tableIn (off := 71) (tgt := 95) hx hb d_q_count_24 (by rw [c15]; decide) (by rw [c15]; decide) (by rw [c15]; rfl) (by decide) ?_
            refine lv_aload_n hx hb d_q_count_95 rfl (lv_at hl 0 rfl) ?_
            replace h := bs h
            obtain ⟨x16, hx16, h⟩ := h
            refine gf_q_496 hx hb hts hown hK hG hW (gI_s hx16) d_q_count_96 ?_
            cases h
            exact wo_iret hx hb hr hlk hW d_q_count_99
          · rw [if_neg c15] at h
            by_cases c17 : a1 = (4 : Int32)
            · rw [if_pos c17] at h
              refine lv_tableIn (off := 76) (tgt := 100) hx hb d_q_count_24 (by rw [c17]; decide) (by rw [c17]; decide) (by rw [c17]; rfl) (by decide) ?_
              refine lv_aload_n hx hb d_q_count_100 rfl (lv_at hl 0 rfl) ?_
              replace h := bs2 h
              obtain ⟨x19, w18, hw18, h⟩ := h
              refine cv_q_521 (As := []) (rest := []) hx hb hml hown hts hK hG hW (c_q_warnings l D cA base hw18) (kb_q_warnings hw18) ⟨Nat.le_of_ble_eq_true rfl, Nat.le_of_ble_eq_true rfl⟩ ⟨Nat.le_of_ble_eq_true rfl, Nat.le_of_ble_eq_true rfl⟩ rfl hl.1 rfl (Nat.le_of_ble_eq_true rfl) d_q_count_101 (fun H locs hW => ?_)
              cases h
              exact wo_iret hx hb hr hlk hW d_q_count_104
            · rw [if_neg c17] at h
              by_cases c20 : a1 = (5 : Int32)
              · rw [if_pos c20] at h
                refine lv_tableIn (off := 81) (tgt := 105) hx hb d_q_count_24 (by rw [c20]; decide) (by rw [c20]; decide) (by rw [c20]; rfl) (by decide) ?_
                refine lv_aload_n hx hb d_q_count_105 rfl (lv_at hl 0 rfl) ?_
                replace h := bs h
                obtain ⟨x21, hx21, h⟩ := h
                refine gf_q_20 hx hb hts hown hK hG hW (gI_s hx21) d_q_count_106 ?_
                cases h
                exact wo_iret hx hb hr hlk hW d_q_count_109
              · rw [if_neg c20] at h
                refine lv_tableOut (tgt := 110) hx hb d_q_count_24 (by have n0 := lv_neT c5 (show (0 : Int32).toInt = 0 from rfl); have n1 := lv_neT c7 (show (1 : Int32).toInt = 1 from rfl); have n2 := lv_neT c9 (show (2 : Int32).toInt = 2 from rfl); have n3 := lv_neT c15 (show (3 : Int32).toInt = 3 from rfl); have n4 := lv_neT c17 (show (4 : Int32).toInt = 4 from rfl); have n5 := lv_neT c20 (show (5 : Int32).toInt = 5 from rfl); omega) (by decide) ?_
                refine lv_aload_n hx hb d_q_count_110 rfl (lv_at hl 0 rfl) ?_
                replace h := bs h
                obtain ⟨x22, hx22, h⟩ := h
                refine gf_q_23 hx hb hts hown hK hG hW (gI_s hx22) d_q_count_111 ?_
                cases h
                exact wo_iret hx hb hr hlk hW d_q_count_114
  · rw [if_pos c3] at h
    refine lv_aload_n hx hb d_q_count_12 rfl (lv_at hl 0 rfl) ?_
    refine lv_iconst (v := (1 : Int32)) hx hb d_q_count_13 (by decide) ?_
    replace h := bs2 h
    obtain ⟨x24, w23, hw23, h⟩ := h
    refine cv_q_159 (As := [.int (1 : Int32)]) (rest := []) hx hb hml hown hts hK hG hW (c_q_fail l D cA base hw23) (kb_q_fail hw23) ⟨Nat.le_of_ble_eq_true rfl, Nat.le_of_ble_eq_true rfl⟩ ⟨Nat.le_of_ble_eq_true rfl, Nat.le_of_ble_eq_true rfl⟩ rfl hl.1 rfl (Nat.le_of_ble_eq_true rfl) d_q_count_14 (fun H locs hW => ?_)
    cases h
    exact wo_iret hx hb hr hlk hW d_q_count_17
