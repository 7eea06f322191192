/-! Methods as functions, and their contracts (by wip/gen/run.py). -/
abbrev b_ru_holds : ByteArray := prog_6_method_13_code
def y_ru_holds : MethodName := ⟨"AlarmForge$Runner", "holds", "(LAlarmForge$Statement;)Z"⟩
def rm_ru_holds : Room := { frames := 10, cells := 0, slots := 0, locals := 199 }
def rx_ru_holds : Room := { frames := 10, cells := 1, slots := 6, locals := 199 }
theorem d_ru_holds_0 : decode b_ru_holds 0 = .ok (.aload_n 0, 1) := by decide +kernel
theorem d_ru_holds_1 : decode b_ru_holds 1 = .ok (.aload_n 1, 1) := by decide +kernel
theorem d_ru_holds_2 : decode b_ru_holds 2 = .ok (.getfield 79, 3) := by decide +kernel
theorem d_ru_holds_5 : decode b_ru_holds 5 = .ok (.aload_n 1, 1) := by decide +kernel
theorem d_ru_holds_6 : decode b_ru_holds 6 = .ok (.getfield 120, 3) := by decide +kernel
theorem d_ru_holds_9 : decode b_ru_holds 9 = .ok (.iconst 0, 1) := by decide +kernel
theorem d_ru_holds_10 : decode b_ru_holds 10 = .ok (.invokevirtual 85, 3) := by decide +kernel
theorem d_ru_holds_13 : decode b_ru_holds 13 = .ok (.istore_n 2, 1) := by decide +kernel
theorem d_ru_holds_14 : decode b_ru_holds 14 = .ok (.aload_n 0, 1) := by decide +kernel
theorem d_ru_holds_15 : decode b_ru_holds 15 = .ok (.aload_n 1, 1) := by decide +kernel
theorem d_ru_holds_16 : decode b_ru_holds 16 = .ok (.getfield 120, 3) := by decide +kernel
theorem d_ru_holds_19 : decode b_ru_holds 19 = .ok (.aload_n 1, 1) := by decide +kernel
theorem d_ru_holds_20 : decode b_ru_holds 20 = .ok (.getfield 82, 3) := by decide +kernel
theorem d_ru_holds_23 : decode b_ru_holds 23 = .ok (.iconst 1, 1) := by decide +kernel
theorem d_ru_holds_24 : decode b_ru_holds 24 = .ok (.invokevirtual 85, 3) := by decide +kernel
theorem d_ru_holds_27 : decode b_ru_holds 27 = .ok (.istore_n 3, 1) := by decide +kernel
theorem d_ru_holds_28 : decode b_ru_holds 28 = .ok (.aload_n 1, 1) := by decide +kernel
theorem d_ru_holds_29 : decode b_ru_holds 29 = .ok (.getfield 126, 3) := by decide +kernel
theorem d_ru_holds_32 : decode b_ru_holds 32 = .ok (.lookupswitch (69) #[(60, 58), (256, 36), (257, 47)], 36) := by decide +kernel
theorem d_ru_holds_68 : decode b_ru_holds 68 = .ok (.iload_n 2, 1) := by decide +kernel
theorem d_ru_holds_69 : decode b_ru_holds 69 = .ok (.iload_n 3, 1) := by decide +kernel
theorem d_ru_holds_70 : decode b_ru_holds 70 = .ok (.if_icmp .ne (7), 3) := by decide +kernel
theorem d_ru_holds_73 : decode b_ru_holds 73 = .ok (.iconst 1, 1) := by decide +kernel
theorem d_ru_holds_74 : decode b_ru_holds 74 = .ok (.goto (4), 3) := by decide +kernel
theorem d_ru_holds_77 : decode b_ru_holds 77 = .ok (.iconst 0, 1) := by decide +kernel
theorem d_ru_holds_78 : decode b_ru_holds 78 = .ok (.ireturn, 1) := by decide +kernel
theorem d_ru_holds_79 : decode b_ru_holds 79 = .ok (.iload_n 2, 1) := by decide +kernel
theorem d_ru_holds_80 : decode b_ru_holds 80 = .ok (.iload_n 3, 1) := by decide +kernel
theorem d_ru_holds_81 : decode b_ru_holds 81 = .ok (.if_icmp .eq (7), 3) := by decide +kernel
theorem d_ru_holds_84 : decode b_ru_holds 84 = .ok (.iconst 1, 1) := by decide +kernel
theorem d_ru_holds_85 : decode b_ru_holds 85 = .ok (.goto (4), 3) := by decide +kernel
theorem d_ru_holds_88 : decode b_ru_holds 88 = .ok (.iconst 0, 1) := by decide +kernel
theorem d_ru_holds_89 : decode b_ru_holds 89 = .ok (.ireturn, 1) := by decide +kernel
theorem d_ru_holds_90 : decode b_ru_holds 90 = .ok (.iload_n 2, 1) := by decide +kernel
theorem d_ru_holds_91 : decode b_ru_holds 91 = .ok (.iload_n 3, 1) := by decide +kernel
theorem d_ru_holds_92 : decode b_ru_holds 92 = .ok (.if_icmp .ge (7), 3) := by decide +kernel
theorem d_ru_holds_95 : decode b_ru_holds 95 = .ok (.iconst 1, 1) := by decide +kernel
theorem d_ru_holds_96 : decode b_ru_holds 96 = .ok (.goto (4), 3) := by decide +kernel
theorem d_ru_holds_99 : decode b_ru_holds 99 = .ok (.iconst 0, 1) := by decide +kernel
theorem d_ru_holds_100 : decode b_ru_holds 100 = .ok (.ireturn, 1) := by decide +kernel
theorem d_ru_holds_101 : decode b_ru_holds 101 = .ok (.iload_n 2, 1) := by decide +kernel
theorem d_ru_holds_102 : decode b_ru_holds 102 = .ok (.iload_n 3, 1) := by decide +kernel
theorem d_ru_holds_103 : decode b_ru_holds 103 = .ok (.if_icmp .gt (7), 3) := by decide +kernel
theorem d_ru_holds_106 : decode b_ru_holds 106 = .ok (.iconst 1, 1) := by decide +kernel
theorem d_ru_holds_107 : decode b_ru_holds 107 = .ok (.goto (4), 3) := by decide +kernel
theorem d_ru_holds_110 : decode b_ru_holds 110 = .ok (.iconst 0, 1) := by decide +kernel
theorem d_ru_holds_111 : decode b_ru_holds 111 = .ok (.ireturn, 1) := by decide +kernel
theorem kb_ru_holds {a0 : Nat} {a1 : Option Nat} {w : WW} {r : ((Int32 ⊕ String) × WW)} (h : f_ru_holds a0 a1 w = some r) : kb w a0 5 = true := (its h).1
set_option maxHeartbeats 4000000 in
set_option maxRecDepth 100000 in
theorem j_ru_holds_100 {p : Program} {l : Launch} {e : Env} {s : State} {m : MethodId} {args : Array Value} {below : List Frame} {meth : Method} {c : Code} {D : va_G} {cA : Nat → ClassId} {base : Nat} {r : Int32} {w' : WW} (C : cx b_ru_holds (some .boolean) 4 y_ru_holds.cls "holds" p s m args meth c D cA base)   : ∀ (z0 : Int32) (w : WW), f_ru_holds_100 z0 w = some (.inl r, w') → ∀ (H : Heap) (locs : List Loc) (ls : Array Slot), wo_S D cls cA base s w H locs → lv_has ls 4 [] → W p l e rm_ru_holds s m args below meth c H locs 0 0 (MQ below (wo_Q D cls cA base (some (.int r)) w') args s rm_ru_holds.cells rm_ru_holds.slots (wo_B base)) (F0 m 100 ls [.int z0]) := by
  obtain ⟨hx, hb, hr, hml, hown, hts, hlk, hnm, hK, hG⟩ := id C
  intro z0 w h H locs ls hW hl
  unfold f_ru_holds_100 at h
  replace h := its h
  obtain ⟨c13, h⟩ := h
  cases h
  exact wo_zret hx hb hr hlk hW c13 d_ru_holds_100
set_option maxHeartbeats 4000000 in
set_option maxRecDepth 100000 in
theorem j_ru_holds_78 {p : Program} {l : Launch} {e : Env} {s : State} {m : MethodId} {args : Array Value} {below : List Frame} {meth : Method} {c : Code} {D : va_G} {cA : Nat → ClassId} {base : Nat} {r : Int32} {w' : WW} (C : cx b_ru_holds (some .boolean) 4 y_ru_holds.cls "holds" p s m args meth c D cA base)   : ∀ (z0 : Int32) (w : WW), f_ru_holds_78 z0 w = some (.inl r, w') → ∀ (H : Heap) (locs : List Loc) (ls : Array Slot), wo_S D cls cA base s w H locs → lv_has ls 4 [] → W p l e rm_ru_holds s m args below meth c H locs 0 0 (MQ below (wo_Q D cls cA base (some (.int r)) w') args s rm_ru_holds.cells rm_ru_holds.slots (wo_B base)) (F0 m 78 ls [.int z0]) := by
  obtain ⟨hx, hb, hr, hml, hown, hts, hlk, hnm, hK, hG⟩ := id C
  intro z0 w h H locs ls hW hl
  unfold f_ru_holds_78 at h
  replace h := its h
  obtain ⟨c16, h⟩ := h
  cases h
  exact wo_zret hx hb hr hlk hW c16 d_ru_holds_78
set_option maxHeartbeats 4000000 in
set_option maxRecDepth 100000 in
theorem j_ru_holds_89 {p : Program} {l : Launch} {e : Env} {s : State} {m : MethodId} {args : Array Value} {below : List Frame} {meth : Method} {c : Code} {D : va_G} {cA : Nat → ClassId} {base : Nat} {r : Int32} {w' : WW} (C : cx b_ru_holds (some .boolean) 4 y_ru_holds.cls "holds" p s m args meth c D cA base)   : ∀ (z0 : Int32) (w : WW), f_ru_holds_89 z0 w = some (.inl r, w') → ∀ (H : Heap) (locs : List Loc) (ls : Array Slot), wo_S D cls cA base s w H locs → lv_has ls 4 [] → W p l e rm_ru_holds s m args below meth c H locs 0 0 (MQ below (wo_Q D cls cA base (some (.int r)) w') args s rm_ru_holds.cells rm_ru_holds.slots (wo_B base)) (F0 m 89 ls [.int z0]) := by
  obtain ⟨hx, hb, hr, hml, hown, hts, hlk, hnm, hK, hG⟩ := id C
  intro z0 w h H locs ls hW hl
  unfold f_ru_holds_89 at h
  replace h := its h
  obtain ⟨c19, h⟩ := h
  cases h
  exact wo_zret hx hb hr hlk hW c19 d_ru_holds_89
set_option maxHeartbeats 4000000 in
set_option maxRecDepth 100000 in
theorem j_ru_holds_111 {p : Program} {l : Launch} {e : Env} {s : State} {m : MethodId} {args : Array Value} {below : List Frame} {meth : Method} {c : Code} {D : va_G} {cA : Nat → ClassId} {base : Nat} {r : Int32} {w' : WW} (C : cx b_ru_holds (some .boolean) 4 y_ru_holds.cls "holds" p s m args meth c D cA base)   : ∀ (z0 : Int32) (w : WW), f_ru_holds_111 z0 w = some (.inl r, w') → ∀ (H : Heap) (locs : List Loc) (ls : Array Slot), wo_S D cls cA base s w H locs → lv_has ls 4 [] → W p l e rm_ru_holds s m args below meth c H locs 0 0 (MQ below (wo_Q D cls cA base (some (.int r)) w') args s rm_ru_holds.cells rm_ru_holds.slots (wo_B base)) (F0 m 111 ls [.int z0]) := by
  obtain ⟨hx, hb, hr, hml, hown, hts, hlk, hnm, hK, hG⟩ := id C
  intro z0 w h H locs ls hW hl
  unfold f_ru_holds_111 at h
  replace h := its h
  obtain ⟨c21, h⟩ := h
  cases h
  exact wo_zret hx hb hr hlk hW c21 d_ru_holds_111
set_option maxHeartbeats 4000000 in
set_option maxRecDepth 100000 in
theorem c_ru_holds (l : Launch) (D : va_G) (cA : Nat → ClassId) (base : Nat) {a0 : Nat} {a1 : Option Nat} {w w' : WW} {r : Int32} (h : f_ru_holds a0 a1 w = some (.inl r, w')) : mt l D cls (wo_tys cA) cA base y_ru_holds (Cond.code y_ru_holds b_ru_holds 4 (some .boolean) :: gt) rm_ru_holds [.ref (base + a0), rb base a1] w (some (.int r)) w' rm_ru_holds.cells rm_ru_holds.slots := by
  refine mt_start (by decide) (by simp only [lg_sl_0, lg_sl_1, lg_sl_2, lg_sl_3, lg_sl_rf]; decide) ?_
  intro p e s m below meth c ls hx hb hr hml hown hts hlk hnm hK hG hW hl
  have C : cx b_ru_holds (some .boolean) 4 y_ru_holds.cls "holds" p s m [.ref (base + a0), rb base a1].toArray meth c D cA base := ⟨hx, hb, hr, hml, hown, hts, hlk, hnm, hK, hG⟩
  have hl : lv_has ls 4 [(0, .ref (base + a0)), (1, rb base a1)] := by simp only [lv_args_0, lv_args_1, lv_args_2, lv_args_3, lv_args_rf] at hl; exact hl
  unfold f_ru_holds at h
  replace h := its h
  obtain ⟨-, h⟩ := h
  refine lv_aload_n hx hb d_ru_holds_0 rfl (lv_at hl 0 rfl) ?_
  refine wo_aload_n hx hb d_ru_holds_1 rfl (lv_at hl 1 rfl) ?_
  replace h := bs h
  obtain ⟨x1, ex1, h⟩ := h
  subst ex1
  replace h := bs h
  obtain ⟨x2, hx2, h⟩ := h
  refine gf_ru_79 hx hb hts hown hK hG hW (gI_s hx2) d_ru_holds_2 ?_
  have hl : lv_has ls 4 [(0, .ref (base + a0)), (1, .ref (base + x1))] := hl
  refine lv_aload_n hx hb d_ru_holds_5 rfl (lv_at hl 1 rfl) ?_
  replace h := bs h
  obtain ⟨x3, hx3, h⟩ := h
  refine gf_ru_120 hx hb hts hown hK hG hW (gI_s hx3) d_ru_holds_6 ?_
  refine lv_iconst (v := (0 : Int32)) hx hb d_ru_holds_9 (by decide) ?_
  replace h := bsx h
  obtain ⟨x5, w4, hw4, h⟩ := h
  refine cv_ru_85 (As := [.int x2, .int x3, .int (0 : Int32)]) (rest := []) hx hb hml hown hts hK hG hW (c_ru_workOut l D cA base hw4) (kb_ru_workOut hw4) ⟨Nat.le_of_ble_eq_true rfl, Nat.le_of_ble_eq_true rfl⟩ ⟨Nat.le_of_ble_eq_true rfl, Nat.le_of_ble_eq_true rfl⟩ rfl hl.1 rfl (Nat.le_of_ble_eq_true rfl) d_ru_holds_10 (fun H locs hW => ?_)
  refine lv_istore_n (lv' := [(2, .int x5), (0, .ref (base + a0)), (1, .ref (base + x1))]) hx hb d_ru_holds_13 rfl hl (by decide) rfl (fun ls hl => ?_)
  refine lv_aload_n hx hb d_ru_holds_14 rfl (lv_at hl 1 rfl) ?_
  refine lv_aload_n hx hb d_ru_holds_15 rfl (lv_at hl 2 rfl) ?_
  replace h := bs h
  obtain ⟨x6, hx6, h⟩ := h
  refine gf_ru_120 hx hb hts hown hK hG hW (gI_s hx6) d_ru_holds_16 ?_
  refine lv_aload_n hx hb d_ru_holds_19 rfl (lv_at hl 2 rfl) ?_
  replace h := bs h
  obtain ⟨x7, hx7, h⟩ := h
  refine gf_ru_82 hx hb hts hown hK hG hW (gI_s hx7) d_ru_holds_20 ?_
  refine lv_iconst (v := (1 : Int32)) hx hb d_ru_holds_23 (by decide) ?_
  replace h := bsx h
  obtain ⟨x9, w8, hw8, h⟩ := h
  refine cv_ru_85 (As := [.int x6, .int x7, .int (1 : Int32)]) (rest := []) hx hb hml hown hts hK hG hW (c_ru_workOut l D cA base hw8) (kb_ru_workOut hw8) ⟨Nat.le_of_ble_eq_true rfl, Nat.le_of_ble_eq_true rfl⟩ ⟨Nat.le_of_ble_eq_true rfl, Nat.le_of_ble_eq_true rfl⟩ rfl hl.1 rfl (Nat.le_of_ble_eq_true rfl) d_ru_holds_24 (fun H locs hW => ?_)
  refine lv_istore_n (lv' := [(3, .int x9), (2, .int x5), (0, .ref (base + a0)), (1, .ref (base + x1))]) hx hb d_ru_holds_27 rfl hl (by decide) rfl (fun ls hl => ?_)
  refine lv_aload_n hx hb d_ru_holds_28 rfl (lv_at hl 3 rfl) ?_
  replace h := bs h
  obtain ⟨x10, hx10, h⟩ := h
  refine gf_ru_126 hx hb hts hown hK hG hW (gI_s hx10) d_ru_holds_29 ?_
  by_cases c11 : x10 = (60 : Int32)
  · rw [if_pos c11] at h
    refine lv_lookup (off := 58) (tgt := 90) hx hb d_ru_holds_32 (by decide) (by rw [c11]; rfl) (by decide) ?_
    refine lv_iload_n hx hb d_ru_holds_90 rfl (lv_at hl 1 rfl) ?_
    refine lv_iload_n hx hb d_ru_holds_91 rfl (lv_at hl 0 rfl) ?_
    refine lv_icmp_ge (tgt := 99) hx hb d_ru_holds_92 (by decide) (fun c12 => ?_) (fun c12 => ?_)
    · rw [if_pos c12] at h
      refine lv_iconst (v := (0 : Int32)) hx hb d_ru_holds_99 (by decide) ?_
      exact j_ru_holds_100 C (0 : Int32) w8 h _ _ _ hW (lv_sub hl [] rfl)
    · rw [if_neg c12] at h
      refine lv_iconst (v := (1 : Int32)) hx hb d_ru_holds_95 (by decide) ?_
      refine lv_goto (tgt := 100) hx hb d_ru_holds_96 (by decide) ?_
      exact j_ru_holds_100 C (1 : Int32) w8 h _ _ _ hW (lv_sub hl [] rfl)
  · rw [if_neg c11] at h
    by_cases c14 : x10 = (256 : Int32)
    · rw [if_pos c14] at h
      refine lv_lookup (off := 36) (tgt := 68) hx hb d_ru_holds_32 (by decide) (by rw [c14]; rfl) (by decide) ?_
      refine lv_iload_n hx hb d_ru_holds_68 rfl (lv_at hl 1 rfl) ?_
      refine lv_iload_n hx hb d_ru_holds_69 rfl (lv_at hl 0 rfl) ?_
      refine lv_icmp_ne (tgt := 77) hx hb d_ru_holds_70 (by decide) (fun c15 => ?_) (fun c15 => ?_)
      · rw [if_neg c15] at h
        refine lv_iconst (v := (0 : Int32)) hx hb d_ru_holds_77 (by decide) ?_
        exact j_ru_holds_78 C (0 : Int32) w8 h _ _ _ hW (lv_sub hl [] rfl)
      · rw [if_pos c15] at h
        refine lv_iconst (v := (1 : Int32)) hx hb d_ru_holds_73 (by decide) ?_
        refine lv_goto (tgt := 78) hx hb d_ru_holds_74 (by decide) ?_
        exact j_ru_holds_78 C (1 : Int32) w8 h _ _ _ hW (lv_sub hl [] rfl)
    · rw [if_neg c14] at h
      by_cases c17 : x10 = (257 : Int32)
      · rw [if_pos c17] at h
        refine lv_lookup (off := 47) (tgt := 79) hx hb d_ru_holds_32 (by decide) (by rw [c17]; rfl) (by decide) ?_
        refine lv_iload_n hx hb d_ru_holds_79 rfl (lv_at hl 1 rfl) ?_
        refine lv_iload_n hx hb d_ru_holds_80 rfl (lv_at hl 0 rfl) ?_
        refine lv_icmp_eq (tgt := 88) hx hb d_ru_holds_81 (by decide) (fun c18 => ?_) (fun c18 => ?_)
        · rw [if_pos c18] at h
          refine lv_iconst (v := (0 : Int32)) hx hb d_ru_holds_88 (by decide) ?_
          exact j_ru_holds_89 C (0 : Int32) w8 h _ _ _ hW (lv_sub hl [] rfl)
        · rw [if_neg c18] at h
          refine lv_iconst (v := (1 : Int32)) hx hb d_ru_holds_84 (by decide) ?_
          refine lv_goto (tgt := 89) hx hb d_ru_holds_85 (by decide) ?_
          exact j_ru_holds_89 C (1 : Int32) w8 h _ _ _ hW (lv_sub hl [] rfl)
      · rw [if_neg c17] at h
        refine lv_lookup (off := 69) (tgt := 101) hx hb d_ru_holds_32 (by decide) (by rw [lv_osw c11 (show (60 : Int32).toInt = 60 from rfl)]; rw [lv_osw c14 (show (256 : Int32).toInt = 256 from rfl)]; rw [lv_osw c17 (show (257 : Int32).toInt = 257 from rfl)]; rfl) (by decide) ?_
        refine lv_iload_n hx hb d_ru_holds_101 rfl (lv_at hl 1 rfl) ?_
        refine lv_iload_n hx hb d_ru_holds_102 rfl (lv_at hl 0 rfl) ?_
        refine lv_icmp_gt (tgt := 110) hx hb d_ru_holds_103 (by decide) (fun c20 => ?_) (fun c20 => ?_)
        · rw [if_pos c20] at h
          refine lv_iconst (v := (0 : Int32)) hx hb d_ru_holds_110 (by decide) ?_
          exact j_ru_holds_111 C (0 : Int32) w8 h _ _ _ hW (lv_sub hl [] rfl)
        · rw [if_neg c20] at h
          refine lv_iconst (v := (1 : Int32)) hx hb d_ru_holds_106 (by decide) ?_
          refine lv_goto (tgt := 111) hx hb d_ru_holds_107 (by decide) ?_
          exact j_ru_holds_111 C (1 : Int32) w8 h _ _ _ hW (lv_sub hl [] rfl)
set_option maxHeartbeats 4000000 in
set_option maxRecDepth 100000 in
theorem jx_ru_holds_100 {p : Program} {l : Launch} {e : Env} {s : State} {m : MethodId} {args : Array Value} {below : List Frame} {meth : Method} {c : Code} {D : va_G} {cA : Nat → ClassId} {base : Nat} {E : String} {w' : WW} (C : cx b_ru_holds (some .boolean) 4 y_ru_holds.cls "holds" p s m args meth c D cA base ∧ (∀ x ∈ c.exceptionTable.toList, ∀ k : Nat, covers x k = false) ∧ l.stackTraces = false)   : ∀ (z0 : Int32) (w : WW), f_ru_holds_100 z0 w = some (.inr E, w') → ∀ (H : Heap) (locs : List Loc) (ls : Array Slot), wo_S D cls cA base s w H locs → lv_has ls 4 [] → W p l e rx_ru_holds s m args below meth c H locs 0 0 (XQ below (wo_X D cls cA base E w' rx_ru_holds.cells rx_ru_holds.slots) args s) (F0 m 100 ls [.int z0]) := by
  obtain ⟨hx, hb, hr, hml, hown, hts, hlk, hnm, hK, hG⟩ := id C.1
  have hnt := C.2.1
  have hst := C.2.2
  intro z0 w h H locs ls hW hl
  unfold f_ru_holds_100 at h
  replace h := its h
  obtain ⟨c13, h⟩ := h
  cases h
set_option maxHeartbeats 4000000 in
set_option maxRecDepth 100000 in
theorem jx_ru_holds_78 {p : Program} {l : Launch} {e : Env} {s : State} {m : MethodId} {args : Array Value} {below : List Frame} {meth : Method} {c : Code} {D : va_G} {cA : Nat → ClassId} {base : Nat} {E : String} {w' : WW} (C : cx b_ru_holds (some .boolean) 4 y_ru_holds.cls "holds" p s m args meth c D cA base ∧ (∀ x ∈ c.exceptionTable.toList, ∀ k : Nat, covers x k = false) ∧ l.stackTraces = false)   : ∀ (z0 : Int32) (w : WW), f_ru_holds_78 z0 w = some (.inr E, w') → ∀ (H : Heap) (locs : List Loc) (ls : Array Slot), wo_S D cls cA base s w H locs → lv_has ls 4 [] → W p l e rx_ru_holds s m args below meth c H locs 0 0 (XQ below (wo_X D cls cA base E w' rx_ru_holds.cells rx_ru_holds.slots) args s) (F0 m 78 ls [.int z0]) := by
  obtain ⟨hx, hb, hr, hml, hown, hts, hlk, hnm, hK, hG⟩ := id C.1
  have hnt := C.2.1
  have hst := C.2.2
  intro z0 w h H locs ls hW hl
  unfold f_ru_holds_78 at h
  replace h := its h
  obtain ⟨c16, h⟩ := h
  cases h
set_option maxHeartbeats 4000000 in
set_option maxRecDepth 100000 in
theorem jx_ru_holds_89 {p : Program} {l : Launch} {e : Env} {s : State} {m : MethodId} {args : Array Value} {below : List Frame} {meth : Method} {c : Code} {D : va_G} {cA : Nat → ClassId} {base : Nat} {E : String} {w' : WW} (C : cx b_ru_holds (some .boolean) 4 y_ru_holds.cls "holds" p s m args meth c D cA base ∧ (∀ x ∈ c.exceptionTable.toList, ∀ k : Nat, covers x k = false) ∧ l.stackTraces = false)   : ∀ (z0 : Int32) (w : WW), f_ru_holds_89 z0 w = some (.inr E, w') → ∀ (H : Heap) (locs : List Loc) (ls : Array Slot), wo_S D cls cA base s w H locs → lv_has ls 4 [] → W p l e rx_ru_holds s m args below meth c H locs 0 0 (XQ below (wo_X D cls cA base E w' rx_ru_holds.cells rx_ru_holds.slots) args s) (F0 m 89 ls [.int z0]) := by
  obtain ⟨hx, hb, hr, hml, hown, hts, hlk, hnm, hK, hG⟩ := id C.1
  have hnt := C.2.1
  have hst := C.2.2
  intro z0 w h H locs ls hW hl
  unfold f_ru_holds_89 at h
  replace h := its h
  obtain ⟨c19, h⟩ := h
  cases h
set_option maxHeartbeats 4000000 in
set_option maxRecDepth 100000 in
theorem jx_ru_holds_111 {p : Program} {l : Launch} {e : Env} {s : State} {m : MethodId} {args : Array Value} {below : List Frame} {meth : Method} {c : Code} {D : va_G} {cA : Nat → ClassId} {base : Nat} {E : String} {w' : WW} (C : cx b_ru_holds (some .boolean) 4 y_ru_holds.cls "holds" p s m args meth c D cA base ∧ (∀ x ∈ c.exceptionTable.toList, ∀ k : Nat, covers x k = false) ∧ l.stackTraces = false)   : ∀ (z0 : Int32) (w : WW), f_ru_holds_111 z0 w = some (.inr E, w') → ∀ (H : Heap) (locs : List Loc) (ls : Array Slot), wo_S D cls cA base s w H locs → lv_has ls 4 [] → W p l e rx_ru_holds s m args below meth c H locs 0 0 (XQ below (wo_X D cls cA base E w' rx_ru_holds.cells rx_ru_holds.slots) args s) (F0 m 111 ls [.int z0]) := by
  obtain ⟨hx, hb, hr, hml, hown, hts, hlk, hnm, hK, hG⟩ := id C.1
  have hnt := C.2.1
  have hst := C.2.2
  intro z0 w h H locs ls hW hl
  unfold f_ru_holds_111 at h
  replace h := its h
  obtain ⟨c21, h⟩ := h
  cases h
set_option maxHeartbeats 4000000 in
set_option maxRecDepth 100000 in
theorem x_ru_holds (l : Launch) (hst : l.stackTraces = false) (D : va_G) (cA : Nat → ClassId) (base : Nat) {a0 : Nat} {a1 : Option Nat} {w w' : WW} {E : String} (h : f_ru_holds a0 a1 w = some (.inr E, w')) : xt l D cls (wo_tys cA) cA base y_ru_holds (Cond.code y_ru_holds b_ru_holds 4 (some .boolean) :: gt) rx_ru_holds [.ref (base + a0), rb base a1] w E w' rx_ru_holds.cells rx_ru_holds.slots := by
  refine xt_start (by decide) (by simp only [lg_sl_0, lg_sl_1, lg_sl_2, lg_sl_3, lg_sl_rf]; decide) ?_
  intro p e s m below meth c ls hx hb hr hml hown hts hlk hnm hK hG hW hl hnt
  have C : cx b_ru_holds (some .boolean) 4 y_ru_holds.cls "holds" p s m [.ref (base + a0), rb base a1].toArray meth c D cA base ∧ (∀ x ∈ c.exceptionTable.toList, ∀ k : Nat, covers x k = false) ∧ l.stackTraces = false := ⟨⟨hx, hb, hr, hml, hown, hts, hlk, hnm, hK, hG⟩, hnt, hst⟩
  have hl : lv_has ls 4 [(0, .ref (base + a0)), (1, rb base a1)] := by simp only [lv_args_0, lv_args_1, lv_args_2, lv_args_3, lv_args_rf] at hl; exact hl
  unfold f_ru_holds at h
  replace h := its h
  obtain ⟨-, h⟩ := h
  refine lv_aload_n hx hb d_ru_holds_0 rfl (lv_at hl 0 rfl) ?_
  refine wo_aload_n hx hb d_ru_holds_1 rfl (lv_at hl 1 rfl) ?_
  replace h := bs h
  obtain ⟨x1, ex1, h⟩ := h
  subst ex1
  replace h := bs h
  obtain ⟨x2, hx2, h⟩ := h
  refine gf_ru_79 hx hb hts hown hK hG hW (gI_s hx2) d_ru_holds_2 ?_
  have hl : lv_has ls 4 [(0, .ref (base + a0)), (1, .ref (base + x1))] := hl
  refine lv_aload_n hx hb d_ru_holds_5 rfl (lv_at hl 1 rfl) ?_
  replace h := bs h
  obtain ⟨x3, hx3, h⟩ := h
  refine gf_ru_120 hx hb hts hown hK hG hW (gI_s hx3) d_ru_holds_6 ?_
  refine lv_iconst (v := (0 : Int32)) hx hb d_ru_holds_9 (by decide) ?_
  rcases bsy h with hw4 | ⟨x5, w4, hw4, hnw4⟩
  · exact xv_ru_85 (As := [.int x2, .int x3, .int (0 : Int32)]) (rest := []) hx hb hml hown hts hK hG hW (x_ru_workOut l hst D cA base hw4) (kb_ru_workOut hw4) ⟨Nat.le_of_ble_eq_true rfl, Nat.le_of_ble_eq_true rfl⟩ ⟨Nat.le_of_ble_eq_true rfl, Nat.le_of_ble_eq_true rfl⟩ rfl hl.1 rfl (Nat.le_of_ble_eq_true rfl) d_ru_holds_10 (fun H locs q ce hW h1 h2 h3 => wo_xout hnt hlk hW h1 h2 h3 (Nat.le_of_ble_eq_true rfl) (Nat.le_of_ble_eq_true rfl))
  clear h
  have h := hnw4
  clear hnw4
  refine cv_ru_85 (As := [.int x2, .int x3, .int (0 : Int32)]) (rest := []) hx hb hml hown hts hK hG hW (c_ru_workOut l D cA base hw4) (kb_ru_workOut hw4) ⟨Nat.le_of_ble_eq_true rfl, Nat.le_of_ble_eq_true rfl⟩ ⟨Nat.le_of_ble_eq_true rfl, Nat.le_of_ble_eq_true rfl⟩ rfl hl.1 rfl (Nat.le_of_ble_eq_true rfl) d_ru_holds_10 (fun H locs hW => ?_)
  refine lv_istore_n (lv' := [(2, .int x5), (0, .ref (base + a0)), (1, .ref (base + x1))]) hx hb d_ru_holds_13 rfl hl (by decide) rfl (fun ls hl => ?_)
  refine lv_aload_n hx hb d_ru_holds_14 rfl (lv_at hl 1 rfl) ?_
  refine lv_aload_n hx hb d_ru_holds_15 rfl (lv_at hl 2 rfl) ?_
  replace h := bs h
  obtain ⟨x6, hx6, h⟩ := h
  refine gf_ru_120 hx hb hts hown hK hG hW (gI_s hx6) d_ru_holds_16 ?_
  refine lv_aload_n hx hb d_ru_holds_19 rfl (lv_at hl 2 rfl) ?_
  replace h := bs h
  obtain ⟨x7, hx7, h⟩ := h
  refine gf_ru_82 hx hb hts hown hK hG hW (gI_s hx7) d_ru_holds_20 ?_
  refine lv_iconst (v := (1 : Int32)) hx hb d_ru_holds_23 (by decide) ?_
  rcases bsy h with hw8 | ⟨x9, w8, hw8, hnw8⟩
  · exact xv_ru_85 (As := [.int x6, .int x7, .int (1 : Int32)]) (rest := []) hx hb hml hown hts hK hG hW (x_ru_workOut l hst D cA base hw8) (kb_ru_workOut hw8) ⟨Nat.le_of_ble_eq_true rfl, Nat.le_of_ble_eq_true rfl⟩ ⟨Nat.le_of_ble_eq_true rfl, Nat.le_of_ble_eq_true rfl⟩ rfl hl.1 rfl (Nat.le_of_ble_eq_true rfl) d_ru_holds_24 (fun H locs q ce hW h1 h2 h3 => wo_xout hnt hlk hW h1 h2 h3 (Nat.le_of_ble_eq_true rfl) (Nat.le_of_ble_eq_true rfl))
  clear h
  have h := hnw8
  clear hnw8
  refine cv_ru_85 (As := [.int x6, .int x7, .int (1 : Int32)]) (rest := []) hx hb hml hown hts hK hG hW (c_ru_workOut l D cA base hw8) (kb_ru_workOut hw8) ⟨Nat.le_of_ble_eq_true rfl, Nat.le_of_ble_eq_true rfl⟩ ⟨Nat.le_of_ble_eq_true rfl, Nat.le_of_ble_eq_true rfl⟩ rfl hl.1 rfl (Nat.le_of_ble_eq_true rfl) d_ru_holds_24 (fun H locs hW => ?_)
  refine lv_istore_n (lv' := [(3, .int x9), (2, .int x5), (0, .ref (base + a0)), (1, .ref (base + x1))]) hx hb d_ru_holds_27 rfl hl (by decide) rfl (fun ls hl => ?_)
  refine lv_aload_n hx hb d_ru_holds_28 rfl (lv_at hl 3 rfl) ?_
  replace h := bs h
  obtain ⟨x10, hx10, h⟩ := h
  refine gf_ru_126 hx hb hts hown hK hG hW (gI_s hx10) d_ru_holds_29 ?_
  by_cases c11 : x10 = (60 : Int32)
  · rw [if_pos c11] at h
    refine lv_lookup (off := 58) (tgt := 90) hx hb d_ru_holds_32 (by decide) (by rw [c11]; rfl) (by decide) ?_
    refine lv_iload_n hx hb d_ru_holds_90 rfl (lv_at hl 1 rfl) ?_
    refine lv_iload_n hx hb d_ru_holds_91 rfl (lv_at hl 0 rfl) ?_
    refine lv_icmp_ge (tgt := 99) hx hb d_ru_holds_92 (by decide) (fun c12 => ?_) (fun c12 => ?_)
    · rw [if_pos c12] at h
      refine lv_iconst (v := (0 : Int32)) hx hb d_ru_holds_99 (by decide) ?_
      exact jx_ru_holds_100 C (0 : Int32) w8 h _ _ _ hW (lv_sub hl [] rfl)
    · rw [if_neg c12] at h
      refine lv_iconst (v := (1 : Int32)) hx hb d_ru_holds_95 (by decide) ?_
      refine lv_goto (tgt := 100) hx hb d_ru_holds_96 (by decide) ?_
      exact jx_ru_holds_100 C (1 : Int32) w8 h _ _ _ hW (lv_sub hl [] rfl)
  · rw [if_neg c11] at h
    by_cases c14 : x10 = (256 : Int32)
    · rw [if_pos c14] at h
      refine lv_lookup (off := 36) (tgt := 68) hx hb d_ru_holds_32 (by decide) (by rw [c14]; rfl) (by decide) ?_
      refine lv_iload_n hx hb d_ru_holds_68 rfl (lv_at hl 1 rfl) ?_
      refine lv_iload_n hx hb d_ru_holds_69 rfl (lv_at hl 0 rfl) ?_
      refine lv_icmp_ne (tgt := 77) hx hb d_ru_holds_70 (by decide) (fun c15 => ?_) (fun c15 => ?_)
      · rw [if_neg c15] at h
        refine lv_iconst (v := (0 : Int32)) hx hb d_ru_holds_77 (by decide) ?_
        exact jx_ru_holds_78 C (0 : Int32) w8 h _ _ _ hW (lv_sub hl [] rfl)
      · rw [if_pos c15] at h
        refine lv_iconst (v := (1 : Int32)) hx hb d_ru_holds_73 (by decide) ?_
        refine lv_goto (tgt := 78) hx hb d_ru_holds_74 (by decide) ?_
        exact jx_ru_holds_78 C (1 : Int32) w8 h _ _ _ hW (lv_sub hl [] rfl)
    · rw [if_neg c14] at h
      by_cases c17 : x10 = (257 : Int32)
      · rw [if_pos c17] at h
        refine lv_lookup (off := 47) (tgt := 79) hx hb d_ru_holds_32 (by decide) (by rw [c17]; rfl) (by decide) ?_
        refine lv_iload_n hx hb d_ru_holds_79 rfl (lv_at hl 1 rfl) ?_
        refine lv_iload_n hx hb d_ru_holds_80 rfl (lv_at hl 0 rfl) ?_
        refine lv_icmp_eq (tgt := 88) hx hb d_ru_holds_81 (by decide) (fun c18 => ?_) (fun c18 => ?_)
        · rw [if_pos c18] at h
          refine lv_iconst (v := (0 : Int32)) hx hb d_ru_holds_88 (by decide) ?_
          exact jx_ru_holds_89 C (0 : Int32) w8 h _ _ _ hW (lv_sub hl [] rfl)
        · rw [if_neg c18] at h
          refine lv_iconst (v := (1 : Int32)) hx hb d_ru_holds_84 (by decide) ?_
          refine lv_goto (tgt := 89) hx hb d_ru_holds_85 (by decide) ?_
          exact jx_ru_holds_89 C (1 : Int32) w8 h _ _ _ hW (lv_sub hl [] rfl)
      · rw [if_neg c17] at h
        refine lv_lookup (off := 69) (tgt := 101) hx hb d_ru_holds_32 (by decide) (by rw [lv_osw c11 (show (60 : Int32).toInt = 60 from rfl)]; rw [lv_osw c14 (show (256 : Int32).toInt = 256 from rfl)]; rw [lv_osw c17 (show (257 : Int32).toInt = 257 from rfl)]; rfl) (by decide) ?_
        refine lv_iload_n hx hb d_ru_holds_101 rfl (lv_at hl 1 rfl) ?_
        refine lv_iload_n hx hb d_ru_holds_102 rfl (lv_at hl 0 rfl) ?_
        refine lv_icmp_gt (tgt := 110) hx hb d_ru_holds_103 (by decide) (fun c20 => ?_) (fun c20 => ?_)
        · rw [if_pos c20] at h
          refine lv_iconst (v := (0 : Int32)) hx hb d_ru_holds_110 (by decide) ?_
          exact jx_ru_holds_111 C (0 : Int32) w8 h _ _ _ hW (lv_sub hl [] rfl)
        · rw [if_neg c20] at h
          refine lv_iconst (v := (1 : Int32)) hx hb d_ru_holds_106 (by decide) ?_
          refine lv_goto (tgt := 111) hx hb d_ru_holds_107 (by decide) ?_
          exact jx_ru_holds_111 C (1 : Int32) w8 h _ _ _ hW (lv_sub hl [] rfl)
abbrev b_ru_doStatements : ByteArray := prog_6_method_5_code
def y_ru_doStatements : MethodName := ⟨"AlarmForge$Runner", "doStatements", "(LAlarmForge$Statement;I)Z"⟩
def rm_ru_doStatements (d : Nat) : Room := { frames := 11 + 1 * d, cells := 0, slots := 0, locals := 222 + 23 * d }
def rx_ru_doStatements (d : Nat) : Room := { frames := 11 + 1 * d, cells := 1, slots := 6, locals := 222 + 23 * d }
abbrev b_ru_doStatement : ByteArray := prog_6_method_7_code
def y_ru_doStatement : MethodName := ⟨"AlarmForge$Runner", "doStatement", "(LAlarmForge$Statement;I)Z"⟩
def rm_ru_doStatement (d : Nat) : Room := { frames := 11 + 1 * d, cells := 0, slots := 0, locals := 222 + 23 * d }
def rx_ru_doStatement (d : Nat) : Room := { frames := 11 + 1 * d, cells := 1, slots := 6, locals := 222 + 23 * d }
abbrev b_ru_doWhile : ByteArray := prog_6_method_8_code
def y_ru_doWhile : MethodName := ⟨"AlarmForge$Runner", "doWhile", "(LAlarmForge$Statement;I)Z"⟩
def rm_ru_doWhile (d : Nat) : Room := { frames := 11 + 1 * d, cells := 0, slots := 0, locals := 222 + 23 * d }
def rx_ru_doWhile (d : Nat) : Room := { frames := 11 + 1 * d, cells := 1, slots := 6, locals := 222 + 23 * d }
def sA_ru3 (l : Launch) (D : va_G) (cA : Nat → ClassId) (base d : Nat) (g_ru_doStatements : Nat → Option Nat → Int32 → WW → Option ((Int32 ⊕ String) × WW)) (g_ru_doStatement : Nat → Option Nat → Int32 → WW → Option ((Int32 ⊕ String) × WW)) (g_ru_doWhile : Nat → Option Nat → Int32 → WW → Option ((Int32 ⊕ String) × WW)) : Prop := ((∀ {a0 : Nat} {a1 : Option Nat} {a2 : Int32} {w w' : WW} {r : Int32}, g_ru_doStatements a0 a1 a2 w = some (.inl r, w') → mt l D cls (wo_tys cA) cA base y_ru_doStatements (Cond.code y_ru_doStatements b_ru_doStatements 4 (some .boolean) :: gt) (rm_ru_doStatements d) [.ref (base + a0), rb base a1, .int a2] w (some (.int r)) w' (rm_ru_doStatements d).cells (rm_ru_doStatements d).slots) ∧ (∀ {a0 : Nat} {a1 : Option Nat} {a2 : Int32} {w : WW} {r : ((Int32 ⊕ String) × WW)}, g_ru_doStatements a0 a1 a2 w = some r → kb w a0 5 = true)) ∧ ((∀ {a0 : Nat} {a1 : Option Nat} {a2 : Int32} {w w' : WW} {r : Int32}, g_ru_doStatement a0 a1 a2 w = some (.inl r, w') → mt l D cls (wo_tys cA) cA base y_ru_doStatement (Cond.code y_ru_doStatement b_ru_doStatement 3 (some .boolean) :: gt) (rm_ru_doStatement d) [.ref (base + a0), rb base a1, .int a2] w (some (.int r)) w' (rm_ru_doStatement d).cells (rm_ru_doStatement d).slots) ∧ (∀ {a0 : Nat} {a1 : Option Nat} {a2 : Int32} {w : WW} {r : ((Int32 ⊕ String) × WW)}, g_ru_doStatement a0 a1 a2 w = some r → kb w a0 5 = true)) ∧ ((∀ {a0 : Nat} {a1 : Option Nat} {a2 : Int32} {w w' : WW} {r : Int32}, g_ru_doWhile a0 a1 a2 w = some (.inl r, w') → mt l D cls (wo_tys cA) cA base y_ru_doWhile (Cond.code y_ru_doWhile b_ru_doWhile 4 (some .boolean) :: gt) (rm_ru_doWhile d) [.ref (base + a0), rb base a1, .int a2] w (some (.int r)) w' (rm_ru_doWhile d).cells (rm_ru_doWhile d).slots) ∧ (∀ {a0 : Nat} {a1 : Option Nat} {a2 : Int32} {w : WW} {r : ((Int32 ⊕ String) × WW)}, g_ru_doWhile a0 a1 a2 w = some r → kb w a0 5 = true))
def sX_ru3 (l : Launch) (D : va_G) (cA : Nat → ClassId) (base d : Nat) (g_ru_doStatements : Nat → Option Nat → Int32 → WW → Option ((Int32 ⊕ String) × WW)) (g_ru_doStatement : Nat → Option Nat → Int32 → WW → Option ((Int32 ⊕ String) × WW)) (g_ru_doWhile : Nat → Option Nat → Int32 → WW → Option ((Int32 ⊕ String) × WW)) : Prop := (∀ {a0 : Nat} {a1 : Option Nat} {a2 : Int32} {w w' : WW} {E : String}, g_ru_doStatements a0 a1 a2 w = some (.inr E, w') → xt l D cls (wo_tys cA) cA base y_ru_doStatements (Cond.code y_ru_doStatements b_ru_doStatements 4 (some .boolean) :: gt) (rx_ru_doStatements d) [.ref (base + a0), rb base a1, .int a2] w E w' (rx_ru_doStatements d).cells (rx_ru_doStatements d).slots) ∧ (∀ {a0 : Nat} {a1 : Option Nat} {a2 : Int32} {w w' : WW} {E : String}, g_ru_doStatement a0 a1 a2 w = some (.inr E, w') → xt l D cls (wo_tys cA) cA base y_ru_doStatement (Cond.code y_ru_doStatement b_ru_doStatement 3 (some .boolean) :: gt) (rx_ru_doStatement d) [.ref (base + a0), rb base a1, .int a2] w E w' (rx_ru_doStatement d).cells (rx_ru_doStatement d).slots) ∧ (∀ {a0 : Nat} {a1 : Option Nat} {a2 : Int32} {w w' : WW} {E : String}, g_ru_doWhile a0 a1 a2 w = some (.inr E, w') → xt l D cls (wo_tys cA) cA base y_ru_doWhile (Cond.code y_ru_doWhile b_ru_doWhile 4 (some .boolean) :: gt) (rx_ru_doWhile d) [.ref (base + a0), rb base a1, .int a2] w E w' (rx_ru_doWhile d).cells (rx_ru_doWhile d).slots)
theorem cv_ru_61 {p : Program} {l : Launch} {e : Env} {R : Room} {s : State} {m : MethodId} {args : Array Value} {below : List Frame} {meth : Method} {c : Code} {H : Heap} {locs : List Loc} {cells slots : Nat} {Q : State → Prop} {D : va_G} {cA : Nat → ClassId} {base : Nat} {w w' : WW} {cc : ByteArray} {pc nL : Nat} {ls : Array Slot} {rest st0 As : List Value} {ov : Option Value} {b : Nat} (hx : p.tables.exec = Jvm.exec) (hb : c.code = cc) (hml : c.maxLocals = nL) (hown : s.vm.findClass Rc_ru = some m.cls) (hts : ∀ w ∈ gt, w.before args s = true) (hK : va_K D cls (wo_tys cA) s) (hG : wo_G cA base s) (hW : wo_S D cls cA base s w H locs) (hM : mt l D cls (wo_tys cA) cA base y_ru_mayBegin (Cond.code y_ru_mayBegin b_ru_mayBegin 1 (some .boolean) :: gt) rm_ru_mayBegin (.ref (base + b) :: As) w ov w' rm_ru_mayBegin.cells rm_ru_mayBegin.slots) (hkb : kb w b 5 = true) (hR : rm_ru_mayBegin.frames + 1 ≤ R.frames ∧ 8 + (1 + 11) + rm_ru_mayBegin.locals ≤ R.locals) (hf : cells + rm_ru_mayBegin.cells ≤ R.cells ∧ slots + rm_ru_mayBegin.slots ≤ R.slots) (hn : As.length = 0) (hsz : ls.size = nL) (hst : st0 = As.reverse ++ .ref (base + b) :: rest) (hcat : (rest.map fun v => v.category).sum ≤ 8) (hdg : decode cc pc = .ok (.invokevirtual 61, 3)) (kk : ∀ (H1 : Heap) (locs1 : List Loc), wo_S D cls cA base s w' H1 locs1 → W p l e R s m args below meth c H1 locs1 (cells + rm_ru_mayBegin.cells) (slots + rm_ru_mayBegin.slots) Q (F0 m (pc + 3) ls (ov.toList ++ rest))) : W p l e R s m args below meth c H locs cells slots Q (F0 m pc ls st0) :=
  wo_callV (C := Rc_ru) hx hb hml hown hts hK hG hW hM hkb rfl (gt_of (i := 766) (by decide +kernel) (by decide +kernel)) (gt_of (i := 768) (by decide +kernel) (by decide +kernel)) (gt_sel (i := 23) (by decide +kernel) (by decide +kernel)) (gt_of (i := 6) (by decide +kernel) (by decide +kernel)) (gt_of (i := 769) (by decide +kernel) (by decide +kernel)) (by decide +kernel) hR hf hn hsz hst hcat hdg kk
theorem xv_ru_65 {p : Program} {l : Launch} {e : Env} {R : Room} {s : State} {m : MethodId} {args : Array Value} {below : List Frame} {meth : Method} {c : Code} {H : Heap} {locs : List Loc} {cells slots : Nat} {Q : State → Prop} {D : va_G} {cA : Nat → ClassId} {base : Nat} {w w' : WW} {cc : ByteArray} {pc nL d : Nat} {ls : Array Slot} {rest st0 As : List Value} {E : String} {b : Nat} (hx : p.tables.exec = Jvm.exec) (hb : c.code = cc) (hml : c.maxLocals = nL) (hown : s.vm.findClass Rc_ru = some m.cls) (hts : ∀ w ∈ gt, w.before args s = true) (hK : va_K D cls (wo_tys cA) s) (hG : wo_G cA base s) (hW : wo_S D cls cA base s w H locs) (hM : xt l D cls (wo_tys cA) cA base y_ru_doStatement (Cond.code y_ru_doStatement b_ru_doStatement 3 (some .boolean) :: gt) (rx_ru_doStatement d) (.ref (base + b) :: As) w E w' (rx_ru_doStatement d).cells (rx_ru_doStatement d).slots) (hkb : kb w b 5 = true) (hR : (rx_ru_doStatement d).frames + 1 ≤ R.frames ∧ 8 + (3 + 11) + (rx_ru_doStatement d).locals ≤ R.locals) (hf : cells + (rx_ru_doStatement d).cells ≤ R.cells ∧ slots + (rx_ru_doStatement d).slots ≤ R.slots) (hn : As.length = 2) (hsz : ls.size = nL) (hst : st0 = As.reverse ++ .ref (base + b) :: rest) (hcat : (rest.map fun v => v.category).sum ≤ 8) (hdg : decode cc pc = .ok (.invokevirtual 65, 3)) (kk : ∀ (H1 : Heap) (locs1 : List Loc) (q : Addr) (ce : Cell), wo_S D cls cA base s w' H1 locs1 → H1[q]? = some ce → ce.vm = .none → s.vm.findClass E = some ce.cls → XW p l e R s m args below meth c H1 locs1 (cells + (rx_ru_doStatement d).cells) (slots + (rx_ru_doStatement d).slots) Q (F0 m pc ls rest) q) : W p l e R s m args below meth c H locs cells slots Q (F0 m pc ls st0) :=
  wo_xcallV (C := Rc_ru) hx hb hml hown hts hK hG hW hM hkb rfl (gt_of (i := 770) (by decide +kernel) (by decide +kernel)) (gt_of (i := 772) (by decide +kernel) (by decide +kernel)) (gt_sel (i := 24) (by decide +kernel) (by decide +kernel)) (gt_of (i := 6) (by decide +kernel) (by decide +kernel)) (gt_of (i := 773) (by decide +kernel) (by decide +kernel)) (by decide +kernel) hR hf hn hsz hst hcat hdg kk
theorem cv_ru_65 {p : Program} {l : Launch} {e : Env} {R : Room} {s : State} {m : MethodId} {args : Array Value} {below : List Frame} {meth : Method} {c : Code} {H : Heap} {locs : List Loc} {cells slots : Nat} {Q : State → Prop} {D : va_G} {cA : Nat → ClassId} {base : Nat} {w w' : WW} {cc : ByteArray} {pc nL d : Nat} {ls : Array Slot} {rest st0 As : List Value} {ov : Option Value} {b : Nat} (hx : p.tables.exec = Jvm.exec) (hb : c.code = cc) (hml : c.maxLocals = nL) (hown : s.vm.findClass Rc_ru = some m.cls) (hts : ∀ w ∈ gt, w.before args s = true) (hK : va_K D cls (wo_tys cA) s) (hG : wo_G cA base s) (hW : wo_S D cls cA base s w H locs) (hM : mt l D cls (wo_tys cA) cA base y_ru_doStatement (Cond.code y_ru_doStatement b_ru_doStatement 3 (some .boolean) :: gt) (rm_ru_doStatement d) (.ref (base + b) :: As) w ov w' (rm_ru_doStatement d).cells (rm_ru_doStatement d).slots) (hkb : kb w b 5 = true) (hR : (rm_ru_doStatement d).frames + 1 ≤ R.frames ∧ 8 + (3 + 11) + (rm_ru_doStatement d).locals ≤ R.locals) (hf : cells + (rm_ru_doStatement d).cells ≤ R.cells ∧ slots + (rm_ru_doStatement d).slots ≤ R.slots) (hn : As.length = 2) (hsz : ls.size = nL) (hst : st0 = As.reverse ++ .ref (base + b) :: rest) (hcat : (rest.map fun v => v.category).sum ≤ 8) (hdg : decode cc pc = .ok (.invokevirtual 65, 3)) (kk : ∀ (H1 : Heap) (locs1 : List Loc), wo_S D cls cA base s w' H1 locs1 → W p l e R s m args below meth c H1 locs1 (cells + (rm_ru_doStatement d).cells) (slots + (rm_ru_doStatement d).slots) Q (F0 m (pc + 3) ls (ov.toList ++ rest))) : W p l e R s m args below meth c H locs cells slots Q (F0 m pc ls st0) :=
  wo_callV (C := Rc_ru) hx hb hml hown hts hK hG hW hM hkb rfl (gt_of (i := 770) (by decide +kernel) (by decide +kernel)) (gt_of (i := 772) (by decide +kernel) (by decide +kernel)) (gt_sel (i := 24) (by decide +kernel) (by decide +kernel)) (gt_of (i := 6) (by decide +kernel) (by decide +kernel)) (gt_of (i := 773) (by decide +kernel) (by decide +kernel)) (by decide +kernel) hR hf hn hsz hst hcat hdg kk
theorem cv_ru_89 {p : Program} {l : Launch} {e : Env} {R : Room} {s : State} {m : MethodId} {args : Array Value} {below : List Frame} {meth : Method} {c : Code} {H : Heap} {locs : List Loc} {cells slots : Nat} {Q : State → Prop} {D : va_G} {cA : Nat → ClassId} {base : Nat} {w w' : WW} {cc : ByteArray} {pc nL : Nat} {ls : Array Slot} {rest st0 As : List Value} {ov : Option Value} {b : Nat} (hx : p.tables.exec = Jvm.exec) (hb : c.code = cc) (hml : c.maxLocals = nL) (hown : s.vm.findClass Rc_ru = some m.cls) (hts : ∀ w ∈ gt, w.before args s = true) (hK : va_K D cls (wo_tys cA) s) (hG : wo_G cA base s) (hW : wo_S D cls cA base s w H locs) (hM : mt l D cls (wo_tys cA) cA base y_ru_assign (Cond.code y_ru_assign b_ru_assign 3 (none) :: gt) rm_ru_assign (.ref (base + b) :: As) w ov w' rm_ru_assign.cells rm_ru_assign.slots) (hkb : kb w b 5 = true) (hR : rm_ru_assign.frames + 1 ≤ R.frames ∧ 8 + (3 + 11) + rm_ru_assign.locals ≤ R.locals) (hf : cells + rm_ru_assign.cells ≤ R.cells ∧ slots + rm_ru_assign.slots ≤ R.slots) (hn : As.length = 2) (hsz : ls.size = nL) (hst : st0 = As.reverse ++ .ref (base + b) :: rest) (hcat : (rest.map fun v => v.category).sum ≤ 8) (hdg : decode cc pc = .ok (.invokevirtual 89, 3)) (kk : ∀ (H1 : Heap) (locs1 : List Loc), wo_S D cls cA base s w' H1 locs1 → W p l e R s m args below meth c H1 locs1 (cells + rm_ru_assign.cells) (slots + rm_ru_assign.slots) Q (F0 m (pc + 3) ls (ov.toList ++ rest))) : W p l e R s m args below meth c H locs cells slots Q (F0 m pc ls st0) :=
  wo_callV (C := Rc_ru) hx hb hml hown hts hK hG hW hM hkb rfl (gt_of (i := 855) (by decide +kernel) (by decide +kernel)) (gt_of (i := 857) (by decide +kernel) (by decide +kernel)) (gt_sel (i := 32) (by decide +kernel) (by decide +kernel)) (gt_of (i := 6) (by decide +kernel) (by decide +kernel)) (gt_of (i := 858) (by decide +kernel) (by decide +kernel)) (by decide +kernel) hR hf hn hsz hst hcat hdg kk
theorem cv_ru_93 {p : Program} {l : Launch} {e : Env} {R : Room} {s : State} {m : MethodId} {args : Array Value} {below : List Frame} {meth : Method} {c : Code} {H : Heap} {locs : List Loc} {cells slots : Nat} {Q : State → Prop} {D : va_G} {cA : Nat → ClassId} {base : Nat} {w w' : WW} {cc : ByteArray} {pc nL : Nat} {ls : Array Slot} {rest st0 As : List Value} {ov : Option Value} {b : Nat} (hx : p.tables.exec = Jvm.exec) (hb : c.code = cc) (hml : c.maxLocals = nL) (hown : s.vm.findClass Rc_ru = some m.cls) (hts : ∀ w ∈ gt, w.before args s = true) (hK : va_K D cls (wo_tys cA) s) (hG : wo_G cA base s) (hW : wo_S D cls cA base s w H locs) (hM : mt l D cls (wo_tys cA) cA base y_ru_nextInput (Cond.code y_ru_nextInput b_ru_nextInput 1 (some .int) :: gt) rm_ru_nextInput (.ref (base + b) :: As) w ov w' rm_ru_nextInput.cells rm_ru_nextInput.slots) (hkb : kb w b 5 = true) (hR : rm_ru_nextInput.frames + 1 ≤ R.frames ∧ 8 + (1 + 11) + rm_ru_nextInput.locals ≤ R.locals) (hf : cells + rm_ru_nextInput.cells ≤ R.cells ∧ slots + rm_ru_nextInput.slots ≤ R.slots) (hn : As.length = 0) (hsz : ls.size = nL) (hst : st0 = As.reverse ++ .ref (base + b) :: rest) (hcat : (rest.map fun v => v.category).sum ≤ 8) (hdg : decode cc pc = .ok (.invokevirtual 93, 3)) (kk : ∀ (H1 : Heap) (locs1 : List Loc), wo_S D cls cA base s w' H1 locs1 → W p l e R s m args below meth c H1 locs1 (cells + rm_ru_nextInput.cells) (slots + rm_ru_nextInput.slots) Q (F0 m (pc + 3) ls (ov.toList ++ rest))) : W p l e R s m args below meth c H locs cells slots Q (F0 m pc ls st0) :=
  wo_callV (C := Rc_ru) hx hb hml hown hts hK hG hW hM hkb rfl (gt_of (i := 859) (by decide +kernel) (by decide +kernel)) (gt_of (i := 861) (by decide +kernel) (by decide +kernel)) (gt_sel (i := 33) (by decide +kernel) (by decide +kernel)) (gt_of (i := 6) (by decide +kernel) (by decide +kernel)) (gt_of (i := 862) (by decide +kernel) (by decide +kernel)) (by decide +kernel) hR hf hn hsz hst hcat hdg kk
theorem xv_ru_97 {p : Program} {l : Launch} {e : Env} {R : Room} {s : State} {m : MethodId} {args : Array Value} {below : List Frame} {meth : Method} {c : Code} {H : Heap} {locs : List Loc} {cells slots : Nat} {Q : State → Prop} {D : va_G} {cA : Nat → ClassId} {base : Nat} {w w' : WW} {cc : ByteArray} {pc nL : Nat} {ls : Array Slot} {rest st0 As : List Value} {E : String} {b : Nat} (hx : p.tables.exec = Jvm.exec) (hb : c.code = cc) (hml : c.maxLocals = nL) (hown : s.vm.findClass Rc_ru = some m.cls) (hts : ∀ w ∈ gt, w.before args s = true) (hK : va_K D cls (wo_tys cA) s) (hG : wo_G cA base s) (hW : wo_S D cls cA base s w H locs) (hM : xt l D cls (wo_tys cA) cA base y_ru_store (Cond.code y_ru_store b_ru_store 3 (none) :: gt) rx_ru_store (.ref (base + b) :: As) w E w' rx_ru_store.cells rx_ru_store.slots) (hkb : kb w b 5 = true) (hR : rx_ru_store.frames + 1 ≤ R.frames ∧ 8 + (3 + 11) + rx_ru_store.locals ≤ R.locals) (hf : cells + rx_ru_store.cells ≤ R.cells ∧ slots + rx_ru_store.slots ≤ R.slots) (hn : As.length = 1) (hsz : ls.size = nL) (hst : st0 = As.reverse ++ .ref (base + b) :: rest) (hcat : (rest.map fun v => v.category).sum ≤ 8) (hdg : decode cc pc = .ok (.invokevirtual 97, 3)) (kk : ∀ (H1 : Heap) (locs1 : List Loc) (q : Addr) (ce : Cell), wo_S D cls cA base s w' H1 locs1 → H1[q]? = some ce → ce.vm = .none → s.vm.findClass E = some ce.cls → XW p l e R s m args below meth c H1 locs1 (cells + rx_ru_store.cells) (slots + rx_ru_store.slots) Q (F0 m pc ls rest) q) : W p l e R s m args below meth c H locs cells slots Q (F0 m pc ls st0) :=
  wo_xcallV (C := Rc_ru) hx hb hml hown hts hK hG hW hM hkb rfl (gt_of (i := 863) (by decide +kernel) (by decide +kernel)) (gt_of (i := 865) (by decide +kernel) (by decide +kernel)) (gt_sel (i := 34) (by decide +kernel) (by decide +kernel)) (gt_of (i := 6) (by decide +kernel) (by decide +kernel)) (gt_of (i := 866) (by decide +kernel) (by decide +kernel)) (by decide +kernel) hR hf hn hsz hst hcat hdg kk
theorem cv_ru_97 {p : Program} {l : Launch} {e : Env} {R : Room} {s : State} {m : MethodId} {args : Array Value} {below : List Frame} {meth : Method} {c : Code} {H : Heap} {locs : List Loc} {cells slots : Nat} {Q : State → Prop} {D : va_G} {cA : Nat → ClassId} {base : Nat} {w w' : WW} {cc : ByteArray} {pc nL : Nat} {ls : Array Slot} {rest st0 As : List Value} {ov : Option Value} {b : Nat} (hx : p.tables.exec = Jvm.exec) (hb : c.code = cc) (hml : c.maxLocals = nL) (hown : s.vm.findClass Rc_ru = some m.cls) (hts : ∀ w ∈ gt, w.before args s = true) (hK : va_K D cls (wo_tys cA) s) (hG : wo_G cA base s) (hW : wo_S D cls cA base s w H locs) (hM : mt l D cls (wo_tys cA) cA base y_ru_store (Cond.code y_ru_store b_ru_store 3 (none) :: gt) rm_ru_store (.ref (base + b) :: As) w ov w' rm_ru_store.cells rm_ru_store.slots) (hkb : kb w b 5 = true) (hR : rm_ru_store.frames + 1 ≤ R.frames ∧ 8 + (3 + 11) + rm_ru_store.locals ≤ R.locals) (hf : cells + rm_ru_store.cells ≤ R.cells ∧ slots + rm_ru_store.slots ≤ R.slots) (hn : As.length = 1) (hsz : ls.size = nL) (hst : st0 = As.reverse ++ .ref (base + b) :: rest) (hcat : (rest.map fun v => v.category).sum ≤ 8) (hdg : decode cc pc = .ok (.invokevirtual 97, 3)) (kk : ∀ (H1 : Heap) (locs1 : List Loc), wo_S D cls cA base s w' H1 locs1 → W p l e R s m args below meth c H1 locs1 (cells + rm_ru_store.cells) (slots + rm_ru_store.slots) Q (F0 m (pc + 3) ls (ov.toList ++ rest))) : W p l e R s m args below meth c H locs cells slots Q (F0 m pc ls st0) :=
  wo_callV (C := Rc_ru) hx hb hml hown hts hK hG hW hM hkb rfl (gt_of (i := 863) (by decide +kernel) (by decide +kernel)) (gt_of (i := 865) (by decide +kernel) (by decide +kernel)) (gt_sel (i := 34) (by decide +kernel) (by decide +kernel)) (gt_of (i := 6) (by decide +kernel) (by decide +kernel)) (gt_of (i := 866) (by decide +kernel) (by decide +kernel)) (by decide +kernel) hR hf hn hsz hst hcat hdg kk
theorem xv_ru_101 {p : Program} {l : Launch} {e : Env} {R : Room} {s : State} {m : MethodId} {args : Array Value} {below : List Frame} {meth : Method} {c : Code} {H : Heap} {locs : List Loc} {cells slots : Nat} {Q : State → Prop} {D : va_G} {cA : Nat → ClassId} {base : Nat} {w w' : WW} {cc : ByteArray} {pc nL : Nat} {ls : Array Slot} {rest st0 As : List Value} {E : String} {b : Nat} (hx : p.tables.exec = Jvm.exec) (hb : c.code = cc) (hml : c.maxLocals = nL) (hown : s.vm.findClass Rc_ru = some m.cls) (hts : ∀ w ∈ gt, w.before args s = true) (hK : va_K D cls (wo_tys cA) s) (hG : wo_G cA base s) (hW : wo_S D cls cA base s w H locs) (hM : xt l D cls (wo_tys cA) cA base y_ru_holds (Cond.code y_ru_holds b_ru_holds 4 (some .boolean) :: gt) rx_ru_holds (.ref (base + b) :: As) w E w' rx_ru_holds.cells rx_ru_holds.slots) (hkb : kb w b 5 = true) (hR : rx_ru_holds.frames + 1 ≤ R.frames ∧ 8 + (4 + 11) + rx_ru_holds.locals ≤ R.locals) (hf : cells + rx_ru_holds.cells ≤ R.cells ∧ slots + rx_ru_holds.slots ≤ R.slots) (hn : As.length = 1) (hsz : ls.size = nL) (hst : st0 = As.reverse ++ .ref (base + b) :: rest) (hcat : (rest.map fun v => v.category).sum ≤ 8) (hdg : decode cc pc = .ok (.invokevirtual 101, 3)) (kk : ∀ (H1 : Heap) (locs1 : List Loc) (q : Addr) (ce : Cell), wo_S D cls cA base s w' H1 locs1 → H1[q]? = some ce → ce.vm = .none → s.vm.findClass E = some ce.cls → XW p l e R s m args below meth c H1 locs1 (cells + rx_ru_holds.cells) (slots + rx_ru_holds.slots) Q (F0 m pc ls rest) q) : W p l e R s m args below meth c H locs cells slots Q (F0 m pc ls st0) :=
  wo_xcallV (C := Rc_ru) hx hb hml hown hts hK hG hW hM hkb rfl (gt_of (i := 867) (by decide +kernel) (by decide +kernel)) (gt_of (i := 869) (by decide +kernel) (by decide +kernel)) (gt_sel (i := 35) (by decide +kernel) (by decide +kernel)) (gt_of (i := 6) (by decide +kernel) (by decide +kernel)) (gt_of (i := 870) (by decide +kernel) (by decide +kernel)) (by decide +kernel) hR hf hn hsz hst hcat hdg kk
theorem cv_ru_101 {p : Program} {l : Launch} {e : Env} {R : Room} {s : State} {m : MethodId} {args : Array Value} {below : List Frame} {meth : Method} {c : Code} {H : Heap} {locs : List Loc} {cells slots : Nat} {Q : State → Prop} {D : va_G} {cA : Nat → ClassId} {base : Nat} {w w' : WW} {cc : ByteArray} {pc nL : Nat} {ls : Array Slot} {rest st0 As : List Value} {ov : Option Value} {b : Nat} (hx : p.tables.exec = Jvm.exec) (hb : c.code = cc) (hml : c.maxLocals = nL) (hown : s.vm.findClass Rc_ru = some m.cls) (hts : ∀ w ∈ gt, w.before args s = true) (hK : va_K D cls (wo_tys cA) s) (hG : wo_G cA base s) (hW : wo_S D cls cA base s w H locs) (hM : mt l D cls (wo_tys cA) cA base y_ru_holds (Cond.code y_ru_holds b_ru_holds 4 (some .boolean) :: gt) rm_ru_holds (.ref (base + b) :: As) w ov w' rm_ru_holds.cells rm_ru_holds.slots) (hkb : kb w b 5 = true) (hR : rm_ru_holds.frames + 1 ≤ R.frames ∧ 8 + (4 + 11) + rm_ru_holds.locals ≤ R.locals) (hf : cells + rm_ru_holds.cells ≤ R.cells ∧ slots + rm_ru_holds.slots ≤ R.slots) (hn : As.length = 1) (hsz : ls.size = nL) (hst : st0 = As.reverse ++ .ref (base + b) :: rest) (hcat : (rest.map fun v => v.category).sum ≤ 8) (hdg : decode cc pc = .ok (.invokevirtual 101, 3)) (kk : ∀ (H1 : Heap) (locs1 : List Loc), wo_S D cls cA base s w' H1 locs1 → W p l e R s m args below meth c H1 locs1 (cells + rm_ru_holds.cells) (slots + rm_ru_holds.slots) Q (F0 m (pc + 3) ls (ov.toList ++ rest))) : W p l e R s m args below meth c H locs cells slots Q (F0 m pc ls st0) :=
  wo_callV (C := Rc_ru) hx hb hml hown hts hK hG hW hM hkb rfl (gt_of (i := 867) (by decide +kernel) (by decide +kernel)) (gt_of (i := 869) (by decide +kernel) (by decide +kernel)) (gt_sel (i := 35) (by decide +kernel) (by decide +kernel)) (gt_of (i := 6) (by decide +kernel) (by decide +kernel)) (gt_of (i := 870) (by decide +kernel) (by decide +kernel)) (by decide +kernel) hR hf hn hsz hst hcat hdg kk
theorem xv_ru_48 {p : Program} {l : Launch} {e : Env} {R : Room} {s : State} {m : MethodId} {args : Array Value} {below : List Frame} {meth : Method} {c : Code} {H : Heap} {locs : List Loc} {cells slots : Nat} {Q : State → Prop} {D : va_G} {cA : Nat → ClassId} {base : Nat} {w w' : WW} {cc : ByteArray} {pc nL d : Nat} {ls : Array Slot} {rest st0 As : List Value} {E : String} {b : Nat} (hx : p.tables.exec = Jvm.exec) (hb : c.code = cc) (hml : c.maxLocals = nL) (hown : s.vm.findClass Rc_ru = some m.cls) (hts : ∀ w ∈ gt, w.before args s = true) (hK : va_K D cls (wo_tys cA) s) (hG : wo_G cA base s) (hW : wo_S D cls cA base s w H locs) (hM : xt l D cls (wo_tys cA) cA base y_ru_doStatements (Cond.code y_ru_doStatements b_ru_doStatements 4 (some .boolean) :: gt) (rx_ru_doStatements d) (.ref (base + b) :: As) w E w' (rx_ru_doStatements d).cells (rx_ru_doStatements d).slots) (hkb : kb w b 5 = true) (hR : (rx_ru_doStatements d).frames + 1 ≤ R.frames ∧ 8 + (4 + 11) + (rx_ru_doStatements d).locals ≤ R.locals) (hf : cells + (rx_ru_doStatements d).cells ≤ R.cells ∧ slots + (rx_ru_doStatements d).slots ≤ R.slots) (hn : As.length = 2) (hsz : ls.size = nL) (hst : st0 = As.reverse ++ .ref (base + b) :: rest) (hcat : (rest.map fun v => v.category).sum ≤ 8) (hdg : decode cc pc = .ok (.invokevirtual 48, 3)) (kk : ∀ (H1 : Heap) (locs1 : List Loc) (q : Addr) (ce : Cell), wo_S D cls cA base s w' H1 locs1 → H1[q]? = some ce → ce.vm = .none → s.vm.findClass E = some ce.cls → XW p l e R s m args below meth c H1 locs1 (cells + (rx_ru_doStatements d).cells) (slots + (rx_ru_doStatements d).slots) Q (F0 m pc ls rest) q) : W p l e R s m args below meth c H locs cells slots Q (F0 m pc ls st0) :=
  wo_xcallV (C := Rc_ru) hx hb hml hown hts hK hG hW hM hkb rfl (gt_of (i := 762) (by decide +kernel) (by decide +kernel)) (gt_of (i := 764) (by decide +kernel) (by decide +kernel)) (gt_sel (i := 22) (by decide +kernel) (by decide +kernel)) (gt_of (i := 6) (by decide +kernel) (by decide +kernel)) (gt_of (i := 765) (by decide +kernel) (by decide +kernel)) (by decide +kernel) hR hf hn hsz hst hcat hdg kk
theorem cv_ru_48 {p : Program} {l : Launch} {e : Env} {R : Room} {s : State} {m : MethodId} {args : Array Value} {below : List Frame} {meth : Method} {c : Code} {H : Heap} {locs : List Loc} {cells slots : Nat} {Q : State → Prop} {D : va_G} {cA : Nat → ClassId} {base : Nat} {w w' : WW} {cc : ByteArray} {pc nL d : Nat} {ls : Array Slot} {rest st0 As : List Value} {ov : Option Value} {b : Nat} (hx : p.tables.exec = Jvm.exec) (hb : c.code = cc) (hml : c.maxLocals = nL) (hown : s.vm.findClass Rc_ru = some m.cls) (hts : ∀ w ∈ gt, w.before args s = true) (hK : va_K D cls (wo_tys cA) s) (hG : wo_G cA base s) (hW : wo_S D cls cA base s w H locs) (hM : mt l D cls (wo_tys cA) cA base y_ru_doStatements (Cond.code y_ru_doStatements b_ru_doStatements 4 (some .boolean) :: gt) (rm_ru_doStatements d) (.ref (base + b) :: As) w ov w' (rm_ru_doStatements d).cells (rm_ru_doStatements d).slots) (hkb : kb w b 5 = true) (hR : (rm_ru_doStatements d).frames + 1 ≤ R.frames ∧ 8 + (4 + 11) + (rm_ru_doStatements d).locals ≤ R.locals) (hf : cells + (rm_ru_doStatements d).cells ≤ R.cells ∧ slots + (rm_ru_doStatements d).slots ≤ R.slots) (hn : As.length = 2) (hsz : ls.size = nL) (hst : st0 = As.reverse ++ .ref (base + b) :: rest) (hcat : (rest.map fun v => v.category).sum ≤ 8) (hdg : decode cc pc = .ok (.invokevirtual 48, 3)) (kk : ∀ (H1 : Heap) (locs1 : List Loc), wo_S D cls cA base s w' H1 locs1 → W p l e R s m args below meth c H1 locs1 (cells + (rm_ru_doStatements d).cells) (slots + (rm_ru_doStatements d).slots) Q (F0 m (pc + 3) ls (ov.toList ++ rest))) : W p l e R s m args below meth c H locs cells slots Q (F0 m pc ls st0) :=
  wo_callV (C := Rc_ru) hx hb hml hown hts hK hG hW hM hkb rfl (gt_of (i := 762) (by decide +kernel) (by decide +kernel)) (gt_of (i := 764) (by decide +kernel) (by decide +kernel)) (gt_sel (i := 22) (by decide +kernel) (by decide +kernel)) (gt_of (i := 6) (by decide +kernel) (by decide +kernel)) (gt_of (i := 765) (by decide +kernel) (by decide +kernel)) (by decide +kernel) hR hf hn hsz hst hcat hdg kk
theorem xv_ru_111 {p : Program} {l : Launch} {e : Env} {R : Room} {s : State} {m : MethodId} {args : Array Value} {below : List Frame} {meth : Method} {c : Code} {H : Heap} {locs : List Loc} {cells slots : Nat} {Q : State → Prop} {D : va_G} {cA : Nat → ClassId} {base : Nat} {w w' : WW} {cc : ByteArray} {pc nL d : Nat} {ls : Array Slot} {rest st0 As : List Value} {E : String} {b : Nat} (hx : p.tables.exec = Jvm.exec) (hb : c.code = cc) (hml : c.maxLocals = nL) (hown : s.vm.findClass Rc_ru = some m.cls) (hts : ∀ w ∈ gt, w.before args s = true) (hK : va_K D cls (wo_tys cA) s) (hG : wo_G cA base s) (hW : wo_S D cls cA base s w H locs) (hM : xt l D cls (wo_tys cA) cA base y_ru_doWhile (Cond.code y_ru_doWhile b_ru_doWhile 4 (some .boolean) :: gt) (rx_ru_doWhile d) (.ref (base + b) :: As) w E w' (rx_ru_doWhile d).cells (rx_ru_doWhile d).slots) (hkb : kb w b 5 = true) (hR : (rx_ru_doWhile d).frames + 1 ≤ R.frames ∧ 8 + (4 + 11) + (rx_ru_doWhile d).locals ≤ R.locals) (hf : cells + (rx_ru_doWhile d).cells ≤ R.cells ∧ slots + (rx_ru_doWhile d).slots ≤ R.slots) (hn : As.length = 2) (hsz : ls.size = nL) (hst : st0 = As.reverse ++ .ref (base + b) :: rest) (hcat : (rest.map fun v => v.category).sum ≤ 8) (hdg : decode cc pc = .ok (.invokevirtual 111, 3)) (kk : ∀ (H1 : Heap) (locs1 : List Loc) (q : Addr) (ce : Cell), wo_S D cls cA base s w' H1 locs1 → H1[q]? = some ce → ce.vm = .none → s.vm.findClass E = some ce.cls → XW p l e R s m args below meth c H1 locs1 (cells + (rx_ru_doWhile d).cells) (slots + (rx_ru_doWhile d).slots) Q (F0 m pc ls rest) q) : W p l e R s m args below meth c H locs cells slots Q (F0 m pc ls st0) :=
  wo_xcallV (C := Rc_ru) hx hb hml hown hts hK hG hW hM hkb rfl (gt_of (i := 871) (by decide +kernel) (by decide +kernel)) (gt_of (i := 873) (by decide +kernel) (by decide +kernel)) (gt_sel (i := 36) (by decide +kernel) (by decide +kernel)) (gt_of (i := 6) (by decide +kernel) (by decide +kernel)) (gt_of (i := 874) (by decide +kernel) (by decide +kernel)) (by decide +kernel) hR hf hn hsz hst hcat hdg kk
theorem cv_ru_111 {p : Program} {l : Launch} {e : Env} {R : Room} {s : State} {m : MethodId} {args : Array Value} {below : List Frame} {meth : Method} {c : Code} {H : Heap} {locs : List Loc} {cells slots : Nat} {Q : State → Prop} {D : va_G} {cA : Nat → ClassId} {base : Nat} {w w' : WW} {cc : ByteArray} {pc nL d : Nat} {ls : Array Slot} {rest st0 As : List Value} {ov : Option Value} {b : Nat} (hx : p.tables.exec = Jvm.exec) (hb : c.code = cc) (hml : c.maxLocals = nL) (hown : s.vm.findClass Rc_ru = some m.cls) (hts : ∀ w ∈ gt, w.before args s = true) (hK : va_K D cls (wo_tys cA) s) (hG : wo_G cA base s) (hW : wo_S D cls cA base s w H locs) (hM : mt l D cls (wo_tys cA) cA base y_ru_doWhile (Cond.code y_ru_doWhile b_ru_doWhile 4 (some .boolean) :: gt) (rm_ru_doWhile d) (.ref (base + b) :: As) w ov w' (rm_ru_doWhile d).cells (rm_ru_doWhile d).slots) (hkb : kb w b 5 = true) (hR : (rm_ru_doWhile d).frames + 1 ≤ R.frames ∧ 8 + (4 + 11) + (rm_ru_doWhile d).locals ≤ R.locals) (hf : cells + (rm_ru_doWhile d).cells ≤ R.cells ∧ slots + (rm_ru_doWhile d).slots ≤ R.slots) (hn : As.length = 2) (hsz : ls.size = nL) (hst : st0 = As.reverse ++ .ref (base + b) :: rest) (hcat : (rest.map fun v => v.category).sum ≤ 8) (hdg : decode cc pc = .ok (.invokevirtual 111, 3)) (kk : ∀ (H1 : Heap) (locs1 : List Loc), wo_S D cls cA base s w' H1 locs1 → W p l e R s m args below meth c H1 locs1 (cells + (rm_ru_doWhile d).cells) (slots + (rm_ru_doWhile d).slots) Q (F0 m (pc + 3) ls (ov.toList ++ rest))) : W p l e R s m args below meth c H locs cells slots Q (F0 m pc ls st0) :=
  wo_callV (C := Rc_ru) hx hb hml hown hts hK hG hW hM hkb rfl (gt_of (i := 871) (by decide +kernel) (by decide +kernel)) (gt_of (i := 873) (by decide +kernel) (by decide +kernel)) (gt_sel (i := 36) (by decide +kernel) (by decide +kernel)) (gt_of (i := 6) (by decide +kernel) (by decide +kernel)) (gt_of (i := 874) (by decide +kernel) (by decide +kernel)) (by decide +kernel) hR hf hn hsz hst hcat hdg kk
theorem d_ru_doStatements_0 : decode b_ru_doStatements 0 = .ok (.iload_n 2, 1) := by decide +kernel
theorem d_ru_doStatements_1 : decode b_ru_doStatements 1 = .ok (.iconst 3, 1) := by decide +kernel
theorem d_ru_doStatements_2 : decode b_ru_doStatements 2 = .ok (.if_icmp .le (5), 3) := by decide +kernel
theorem d_ru_doStatements_5 : decode b_ru_doStatements 5 = .ok (.iconst 0, 1) := by decide +kernel
theorem d_ru_doStatements_6 : decode b_ru_doStatements 6 = .ok (.ireturn, 1) := by decide +kernel
theorem d_ru_doStatements_7 : decode b_ru_doStatements 7 = .ok (.aload_n 1, 1) := by decide +kernel
theorem d_ru_doStatements_8 : decode b_ru_doStatements 8 = .ok (.astore_n 3, 1) := by decide +kernel
theorem d_ru_doStatements_9 : decode b_ru_doStatements 9 = .ok (.aload_n 3, 1) := by decide +kernel
theorem d_ru_doStatements_10 : decode b_ru_doStatements 10 = .ok (.ifnull (29), 3) := by decide +kernel
theorem d_ru_doStatements_13 : decode b_ru_doStatements 13 = .ok (.aload_n 0, 1) := by decide +kernel
theorem d_ru_doStatements_14 : decode b_ru_doStatements 14 = .ok (.invokevirtual 61, 3) := by decide +kernel
theorem d_ru_doStatements_17 : decode b_ru_doStatements 17 = .ok (.ifCond .eq (12), 3) := by decide +kernel
theorem d_ru_doStatements_20 : decode b_ru_doStatements 20 = .ok (.aload_n 0, 1) := by decide +kernel
theorem d_ru_doStatements_21 : decode b_ru_doStatements 21 = .ok (.aload_n 3, 1) := by decide +kernel
theorem d_ru_doStatements_22 : decode b_ru_doStatements 22 = .ok (.iload_n 2, 1) := by decide +kernel
theorem d_ru_doStatements_23 : decode b_ru_doStatements 23 = .ok (.invokevirtual 65, 3) := by decide +kernel
theorem d_ru_doStatements_26 : decode b_ru_doStatements 26 = .ok (.ifCond .ne (5), 3) := by decide +kernel
theorem d_ru_doStatements_29 : decode b_ru_doStatements 29 = .ok (.iconst 0, 1) := by decide +kernel
theorem d_ru_doStatements_30 : decode b_ru_doStatements 30 = .ok (.ireturn, 1) := by decide +kernel
theorem d_ru_doStatements_31 : decode b_ru_doStatements 31 = .ok (.aload_n 3, 1) := by decide +kernel
theorem d_ru_doStatements_32 : decode b_ru_doStatements 32 = .ok (.getfield 68, 3) := by decide +kernel
theorem d_ru_doStatements_35 : decode b_ru_doStatements 35 = .ok (.astore_n 3, 1) := by decide +kernel
theorem d_ru_doStatements_36 : decode b_ru_doStatements 36 = .ok (.goto (-27), 3) := by decide +kernel
theorem d_ru_doStatements_39 : decode b_ru_doStatements 39 = .ok (.iconst 1, 1) := by decide +kernel
theorem d_ru_doStatements_40 : decode b_ru_doStatements 40 = .ok (.ireturn, 1) := by decide +kernel
theorem kbo_ru_doStatements {g_ru_doStatements : Nat → Option Nat → Int32 → WW → Option ((Int32 ⊕ String) × WW)} {g_ru_doStatement : Nat → Option Nat → Int32 → WW → Option ((Int32 ⊕ String) × WW)} {g_ru_doWhile : Nat → Option Nat → Int32 → WW → Option ((Int32 ⊕ String) × WW)} {a0 : Nat} {a1 : Option Nat} {a2 : Int32} {w : WW} {r : ((Int32 ⊕ String) × WW)} (h : fo_ru_doStatements g_ru_doStatements g_ru_doStatement g_ru_doWhile a0 a1 a2 w = some r) : kb w a0 5 = true := (its h).1
set_option maxHeartbeats 4000000 in
set_option maxRecDepth 100000 in
theorem j_ru_doStatements_29 {p : Program} {l : Launch} {e : Env} {s : State} {m : MethodId} {args : Array Value} {below : List Frame} {meth : Method} {c : Code} {D : va_G} {cA : Nat → ClassId} {base : Nat} {r : Int32} {w' : WW} (C : cx b_ru_doStatements (some .boolean) 4 y_ru_doStatements.cls "doStatements" p s m args meth c D cA base) {d : Nat} {g_ru_doStatements : Nat → Option Nat → Int32 → WW → Option ((Int32 ⊕ String) × WW)} {g_ru_doStatement : Nat → Option Nat → Int32 → WW → Option ((Int32 ⊕ String) × WW)} {g_ru_doWhile : Nat → Option Nat → Int32 → WW → Option ((Int32 ⊕ String) × WW)} (HG : sA_ru3 l D cA base d g_ru_doStatements g_ru_doStatement g_ru_doWhile )   : ∀  (w : WW), f_ru_doStatements_29 g_ru_doStatements g_ru_doStatement g_ru_doWhile  w = some (.inl r, w') → ∀ (H : Heap) (locs : List Loc) (ls : Array Slot), wo_S D cls cA base s w H locs → lv_has ls 4 [] → W p l e (rm_ru_doStatements (d + 1)) s m args below meth c H locs 0 0 (MQ below (wo_Q D cls cA base (some (.int r)) w') args s (rm_ru_doStatements (d + 1)).cells (rm_ru_doStatements (d + 1)).slots (wo_B base)) (F0 m 29 ls []) := by
  obtain ⟨hx, hb, hr, hml, hown, hts, hlk, hnm, hK, hG⟩ := id C
  intro  w h H locs ls hW hl
  unfold f_ru_doStatements_29 at h
  refine lv_iconst (v := (0 : Int32)) hx hb d_ru_doStatements_29 (by decide) ?_
  replace h := its h
  obtain ⟨c7, h⟩ := h
  cases h
  exact wo_zret hx hb hr hlk hW c7 d_ru_doStatements_30
set_option maxHeartbeats 4000000 in
set_option maxRecDepth 100000 in
theorem j_ru_doStatements_9 {p : Program} {l : Launch} {e : Env} {s : State} {m : MethodId} {args : Array Value} {below : List Frame} {meth : Method} {c : Code} {D : va_G} {cA : Nat → ClassId} {base : Nat} {r : Int32} {w' : WW} (C : cx b_ru_doStatements (some .boolean) 4 y_ru_doStatements.cls "doStatements" p s m args meth c D cA base) {d : Nat} {g_ru_doStatements : Nat → Option Nat → Int32 → WW → Option ((Int32 ⊕ String) × WW)} {g_ru_doStatement : Nat → Option Nat → Int32 → WW → Option ((Int32 ⊕ String) × WW)} {g_ru_doWhile : Nat → Option Nat → Int32 → WW → Option ((Int32 ⊕ String) × WW)} (HG : sA_ru3 l D cA base d g_ru_doStatements g_ru_doStatement g_ru_doWhile )   : ∀ n : Nat, ∀ (y0 : Nat) (y2 : Int32) (y3 : Option Nat) (w : WW), f_ru_doStatements_9 g_ru_doStatements g_ru_doStatement g_ru_doWhile n y0 y2 y3 w = some (.inl r, w') → ∀ (H : Heap) (locs : List Loc) (ls : Array Slot), wo_S D cls cA base s w H locs → lv_has ls 4 [(0, .ref (base + y0)), (2, .int y2), (3, rb base y3)] → W p l e (rm_ru_doStatements (d + 1)) s m args below meth c H locs 0 0 (MQ below (wo_Q D cls cA base (some (.int r)) w') args s (rm_ru_doStatements (d + 1)).cells (rm_ru_doStatements (d + 1)).slots (wo_B base)) (F0 m 9 ls []) := by
  obtain ⟨hx, hb, hr, hml, hown, hts, hlk, hnm, hK, hG⟩ := id C
  intro n
  induction n with
  | zero => intro y0 y2 y3 w h; cases h
  | succ n ih =>
    intro y0 y2 y3 w h H locs ls hW hl
    rw [f_ru_doStatements_9] at h
    refine wo_aload_n hx hb d_ru_doStatements_9 rfl (lv_at hl 2 rfl) ?_
    refine wo_ifnull (tgt := 39) hx hb d_ru_doStatements_10 (by decide) (fun ex2 => ?_) (fun x2 ex2 => ?_)
    · subst ex2
      dsimp only [nl] at h
      have hl : lv_has ls 4 [(0, .ref (base + y0)), (2, .int y2), (3, rb base none)] := hl
      refine lv_iconst (v := (1 : Int32)) hx hb d_ru_doStatements_39 (by decide) ?_
      replace h := its h
      obtain ⟨c3, h⟩ := h
      cases h
      exact wo_zret hx hb hr hlk hW c3 d_ru_doStatements_40
    · subst ex2
      dsimp only [nl] at h
      have hl : lv_has ls 4 [(0, .ref (base + y0)), (2, .int y2), (3, .ref (base + x2))] := hl
      refine lv_aload_n hx hb d_ru_doStatements_13 rfl (lv_at hl 0 rfl) ?_
      replace h := bs2 h
      obtain ⟨x5, w4, hw4, h⟩ := h
      refine cv_ru_61 (As := []) (rest := []) hx hb hml hown hts hK hG hW (c_ru_mayBegin l D cA base hw4) (kb_ru_mayBegin hw4) ⟨by show 0 + 1 ≤ 11 + 1 * (d + 1); omega, by show 8 + (1 + 11) + 0 ≤ 222 + 23 * (d + 1); omega⟩ ⟨Nat.le_of_ble_eq_true rfl, Nat.le_of_ble_eq_true rfl⟩ rfl hl.1 rfl (Nat.le_of_ble_eq_true rfl) d_ru_doStatements_14 (fun H locs hW => ?_)
      refine lv_if_eq (tgt := 29) hx hb d_ru_doStatements_17 (by decide) (fun c6 => ?_) (fun c6 => ?_)
      · rw [if_pos c6] at h
        exact j_ru_doStatements_29 C HG w4 h _ _ _ hW (lv_sub hl [] rfl)
      · rw [if_neg c6] at h
        refine lv_aload_n hx hb d_ru_doStatements_20 rfl (lv_at hl 0 rfl) ?_
        refine lv_aload_n hx hb d_ru_doStatements_21 rfl (lv_at hl 2 rfl) ?_
        refine lv_iload_n hx hb d_ru_doStatements_22 rfl (lv_at hl 1 rfl) ?_
        replace h := bsx h
        obtain ⟨x9, w8, hw8, h⟩ := h
        refine cv_ru_65 (As := [rb base (some x2), .int y2]) (rest := []) hx hb hml hown hts hK hG hW (HG.2.1.1 hw8) (HG.2.1.2 hw8) ⟨by show 11 + 1 * d + 1 ≤ 11 + 1 * (d + 1); omega, by show 8 + (3 + 11) + (222 + 23 * d) ≤ 222 + 23 * (d + 1); omega⟩ ⟨Nat.le_of_ble_eq_true rfl, Nat.le_of_ble_eq_true rfl⟩ rfl hl.1 rfl (Nat.le_of_ble_eq_true rfl) d_ru_doStatements_23 (fun H locs hW => ?_)
        refine lv_if_ne (tgt := 31) hx hb d_ru_doStatements_26 (by decide) (fun c10 => ?_) (fun c10 => ?_)
        · rw [if_neg c10] at h
          refine lv_aload_n hx hb d_ru_doStatements_31 rfl (lv_at hl 2 rfl) ?_
          replace h := bs h
          obtain ⟨x11, hx11, h⟩ := h
          refine gf_ru_68 hx hb hts hown hK hG hW (gR_s hx11) d_ru_doStatements_32 ?_
          refine wo_astore_n (lv' := [(3, rb base x11), (0, .ref (base + y0)), (2, .int y2)]) hx hb d_ru_doStatements_35 rfl hl (by decide) rfl (fun ls hl => ?_)
          refine lv_goto (tgt := 9) hx hb d_ru_doStatements_36 (by decide) ?_
          exact ih y0 y2 x11 w8 h _ _ _ hW (lv_sub hl [1, 2, 0] rfl)
        · rw [if_pos c10] at h
          exact j_ru_doStatements_29 C HG w8 h _ _ _ hW (lv_sub hl [] rfl)
set_option maxHeartbeats 4000000 in
set_option maxRecDepth 100000 in
theorem co_ru_doStatements (l : Launch) (D : va_G) (cA : Nat → ClassId) (base : Nat) {d : Nat} {g_ru_doStatements : Nat → Option Nat → Int32 → WW → Option ((Int32 ⊕ String) × WW)} {g_ru_doStatement : Nat → Option Nat → Int32 → WW → Option ((Int32 ⊕ String) × WW)} {g_ru_doWhile : Nat → Option Nat → Int32 → WW → Option ((Int32 ⊕ String) × WW)} (HG : sA_ru3 l D cA base d g_ru_doStatements g_ru_doStatement g_ru_doWhile ) {a0 : Nat} {a1 : Option Nat} {a2 : Int32} {w w' : WW} {r : Int32} (h : fo_ru_doStatements g_ru_doStatements g_ru_doStatement g_ru_doWhile a0 a1 a2 w = some (.inl r, w')) : mt l D cls (wo_tys cA) cA base y_ru_doStatements (Cond.code y_ru_doStatements b_ru_doStatements 4 (some .boolean) :: gt) (rm_ru_doStatements (d + 1)) [.ref (base + a0), rb base a1, .int a2] w (some (.int r)) w' (rm_ru_doStatements (d + 1)).cells (rm_ru_doStatements (d + 1)).slots := by
  refine mt_start (by decide) (by simp only [lg_sl_0, lg_sl_1, lg_sl_2, lg_sl_3, lg_sl_rf]; decide) ?_
  intro p e s m below meth c ls hx hb hr hml hown hts hlk hnm hK hG hW hl
  have C : cx b_ru_doStatements (some .boolean) 4 y_ru_doStatements.cls "doStatements" p s m [.ref (base + a0), rb base a1, .int a2].toArray meth c D cA base := ⟨hx, hb, hr, hml, hown, hts, hlk, hnm, hK, hG⟩
  have hl : lv_has ls 4 [(0, .ref (base + a0)), (1, rb base a1), (2, .int a2)] := by simp only [lv_args_0, lv_args_1, lv_args_2, lv_args_3, lv_args_rf] at hl; exact hl
  unfold fo_ru_doStatements at h
  replace h := its h
  obtain ⟨-, h⟩ := h
  refine lv_iload_n hx hb d_ru_doStatements_0 rfl (lv_at hl 2 rfl) ?_
  refine lv_iconst (v := (3 : Int32)) hx hb d_ru_doStatements_1 (by decide) ?_
  refine lv_icmp_le (tgt := 7) hx hb d_ru_doStatements_2 (by decide) (fun c1 => ?_) (fun c1 => ?_)
  · rw [if_pos c1] at h
    refine wo_aload_n hx hb d_ru_doStatements_7 rfl (lv_at hl 1 rfl) ?_
    refine wo_astore_n (lv' := [(3, rb base a1), (0, .ref (base + a0)), (1, rb base a1), (2, .int a2)]) hx hb d_ru_doStatements_8 rfl hl (by decide) rfl (fun ls hl => ?_)
    exact j_ru_doStatements_9 C HG KK a0 a2 a1 w h _ _ _ hW (lv_sub hl [1, 3, 0] rfl)
  · rw [if_neg c1] at h
    refine lv_iconst (v := (0 : Int32)) hx hb d_ru_doStatements_5 (by decide) ?_
    replace h := its h
    obtain ⟨c12, h⟩ := h
    cases h
    exact wo_zret hx hb hr hlk hW c12 d_ru_doStatements_6
set_option maxHeartbeats 4000000 in
set_option maxRecDepth 100000 in
theorem jx_ru_doStatements_29 {p : Program} {l : Launch} {e : Env} {s : State} {m : MethodId} {args : Array Value} {below : List Frame} {meth : Method} {c : Code} {D : va_G} {cA : Nat → ClassId} {base : Nat} {E : String} {w' : WW} (C : cx b_ru_doStatements (some .boolean) 4 y_ru_doStatements.cls "doStatements" p s m args meth c D cA base ∧ (∀ x ∈ c.exceptionTable.toList, ∀ k : Nat, covers x k = false) ∧ l.stackTraces = false) {d : Nat} {g_ru_doStatements : Nat → Option Nat → Int32 → WW → Option ((Int32 ⊕ String) × WW)} {g_ru_doStatement : Nat → Option Nat → Int32 → WW → Option ((Int32 ⊕ String) × WW)} {g_ru_doWhile : Nat → Option Nat → Int32 → WW → Option ((Int32 ⊕ String) × WW)} (HG : sA_ru3 l D cA base d g_ru_doStatements g_ru_doStatement g_ru_doWhile ) (HX : sX_ru3 l D cA base d g_ru_doStatements g_ru_doStatement g_ru_doWhile )   : ∀  (w : WW), f_ru_doStatements_29 g_ru_doStatements g_ru_doStatement g_ru_doWhile  w = some (.inr E, w') → ∀ (H : Heap) (locs : List Loc) (ls : Array Slot), wo_S D cls cA base s w H locs → lv_has ls 4 [] → W p l e (rx_ru_doStatements (d + 1)) s m args below meth c H locs 0 0 (XQ below (wo_X D cls cA base E w' (rx_ru_doStatements (d + 1)).cells (rx_ru_doStatements (d + 1)).slots) args s) (F0 m 29 ls []) := by
  obtain ⟨hx, hb, hr, hml, hown, hts, hlk, hnm, hK, hG⟩ := id C.1
  have hnt := C.2.1
  have hst := C.2.2
  intro  w h H locs ls hW hl
  unfold f_ru_doStatements_29 at h
  refine lv_iconst (v := (0 : Int32)) hx hb d_ru_doStatements_29 (by decide) ?_
  replace h := its h
  obtain ⟨c7, h⟩ := h
  cases h
set_option maxHeartbeats 4000000 in
set_option maxRecDepth 100000 in
theorem jx_ru_doStatements_9 {p : Program} {l : Launch} {e : Env} {s : State} {m : MethodId} {args : Array Value} {below : List Frame} {meth : Method} {c : Code} {D : va_G} {cA : Nat → ClassId} {base : Nat} {E : String} {w' : WW} (C : cx b_ru_doStatements (some .boolean) 4 y_ru_doStatements.cls "doStatements" p s m args meth c D cA base ∧ (∀ x ∈ c.exceptionTable.toList, ∀ k : Nat, covers x k = false) ∧ l.stackTraces = false) {d : Nat} {g_ru_doStatements : Nat → Option Nat → Int32 → WW → Option ((Int32 ⊕ String) × WW)} {g_ru_doStatement : Nat → Option Nat → Int32 → WW → Option ((Int32 ⊕ String) × WW)} {g_ru_doWhile : Nat → Option Nat → Int32 → WW → Option ((Int32 ⊕ String) × WW)} (HG : sA_ru3 l D cA base d g_ru_doStatements g_ru_doStatement g_ru_doWhile ) (HX : sX_ru3 l D cA base d g_ru_doStatements g_ru_doStatement g_ru_doWhile )   : ∀ n : Nat, ∀ (y0 : Nat) (y2 : Int32) (y3 : Option Nat) (w : WW), f_ru_doStatements_9 g_ru_doStatements g_ru_doStatement g_ru_doWhile n y0 y2 y3 w = some (.inr E, w') → ∀ (H : Heap) (locs : List Loc) (ls : Array Slot), wo_S D cls cA base s w H locs → lv_has ls 4 [(0, .ref (base + y0)), (2, .int y2), (3, rb base y3)] → W p l e (rx_ru_doStatements (d + 1)) s m args below meth c H locs 0 0 (XQ below (wo_X D cls cA base E w' (rx_ru_doStatements (d + 1)).cells (rx_ru_doStatements (d + 1)).slots) args s) (F0 m 9 ls []) := by
  obtain ⟨hx, hb, hr, hml, hown, hts, hlk, hnm, hK, hG⟩ := id C.1
  have hnt := C.2.1
  have hst := C.2.2
  intro n
  induction n with
  | zero => intro y0 y2 y3 w h; cases h
  | succ n ih =>
    intro y0 y2 y3 w h H locs ls hW hl
    rw [f_ru_doStatements_9] at h
    refine wo_aload_n hx hb d_ru_doStatements_9 rfl (lv_at hl 2 rfl) ?_
    refine wo_ifnull (tgt := 39) hx hb d_ru_doStatements_10 (by decide) (fun ex2 => ?_) (fun x2 ex2 => ?_)
    · subst ex2
      dsimp only [nl] at h
      have hl : lv_has ls 4 [(0, .ref (base + y0)), (2, .int y2), (3, rb base none)] := hl
      refine lv_iconst (v := (1 : Int32)) hx hb d_ru_doStatements_39 (by decide) ?_
      replace h := its h
      obtain ⟨c3, h⟩ := h
      cases h
    · subst ex2
      dsimp only [nl] at h
      have hl : lv_has ls 4 [(0, .ref (base + y0)), (2, .int y2), (3, .ref (base + x2))] := hl
      refine lv_aload_n hx hb d_ru_doStatements_13 rfl (lv_at hl 0 rfl) ?_
      replace h := bs2 h
      obtain ⟨x5, w4, hw4, h⟩ := h
      refine cv_ru_61 (As := []) (rest := []) hx hb hml hown hts hK hG hW (c_ru_mayBegin l D cA base hw4) (kb_ru_mayBegin hw4) ⟨by show 0 + 1 ≤ 11 + 1 * (d + 1); omega, by show 8 + (1 + 11) + 0 ≤ 222 + 23 * (d + 1); omega⟩ ⟨Nat.le_of_ble_eq_true rfl, Nat.le_of_ble_eq_true rfl⟩ rfl hl.1 rfl (Nat.le_of_ble_eq_true rfl) d_ru_doStatements_14 (fun H locs hW => ?_)
      refine lv_if_eq (tgt := 29) hx hb d_ru_doStatements_17 (by decide) (fun c6 => ?_) (fun c6 => ?_)
      · rw [if_pos c6] at h
        exact jx_ru_doStatements_29 C HG HX w4 h _ _ _ hW (lv_sub hl [] rfl)
      · rw [if_neg c6] at h
        refine lv_aload_n hx hb d_ru_doStatements_20 rfl (lv_at hl 0 rfl) ?_
        refine lv_aload_n hx hb d_ru_doStatements_21 rfl (lv_at hl 2 rfl) ?_
        refine lv_iload_n hx hb d_ru_doStatements_22 rfl (lv_at hl 1 rfl) ?_
        rcases bsy h with hw8 | ⟨x9, w8, hw8, hnw8⟩
        · exact xv_ru_65 (As := [rb base (some x2), .int y2]) (rest := []) hx hb hml hown hts hK hG hW (HX.2.1 hw8) (HG.2.1.2 hw8) ⟨by show 11 + 1 * d + 1 ≤ 11 + 1 * (d + 1); omega, by show 8 + (3 + 11) + (222 + 23 * d) ≤ 222 + 23 * (d + 1); omega⟩ ⟨Nat.le_of_ble_eq_true rfl, Nat.le_of_ble_eq_true rfl⟩ rfl hl.1 rfl (Nat.le_of_ble_eq_true rfl) d_ru_doStatements_23 (fun H locs q ce hW h1 h2 h3 => wo_xout hnt hlk hW h1 h2 h3 (Nat.le_of_ble_eq_true rfl) (Nat.le_of_ble_eq_true rfl))
        clear h
        have h := hnw8
        clear hnw8
        refine cv_ru_65 (As := [rb base (some x2), .int y2]) (rest := []) hx hb hml hown hts hK hG hW (HG.2.1.1 hw8) (HG.2.1.2 hw8) ⟨by show 11 + 1 * d + 1 ≤ 11 + 1 * (d + 1); omega, by show 8 + (3 + 11) + (222 + 23 * d) ≤ 222 + 23 * (d + 1); omega⟩ ⟨Nat.le_of_ble_eq_true rfl, Nat.le_of_ble_eq_true rfl⟩ rfl hl.1 rfl (Nat.le_of_ble_eq_true rfl) d_ru_doStatements_23 (fun H locs hW => ?_)
        refine lv_if_ne (tgt := 31) hx hb d_ru_doStatements_26 (by decide) (fun c10 => ?_) (fun c10 => ?_)
        · rw [if_neg c10] at h
          refine lv_aload_n hx hb d_ru_doStatements_31 rfl (lv_at hl 2 rfl) ?_
          replace h := bs h
          obtain ⟨x11, hx11, h⟩ := h
          refine gf_ru_68 hx hb hts hown hK hG hW (gR_s hx11) d_ru_doStatements_32 ?_
          refine wo_astore_n (lv' := [(3, rb base x11), (0, .ref (base + y0)), (2, .int y2)]) hx hb d_ru_doStatements_35 rfl hl (by decide) rfl (fun ls hl => ?_)
          refine lv_goto (tgt := 9) hx hb d_ru_doStatements_36 (by decide) ?_
          exact ih y0 y2 x11 w8 h _ _ _ hW (lv_sub hl [1, 2, 0] rfl)
        · rw [if_pos c10] at h
          exact jx_ru_doStatements_29 C HG HX w8 h _ _ _ hW (lv_sub hl [] rfl)
set_option maxHeartbeats 4000000 in
set_option maxRecDepth 100000 in
theorem xo_ru_doStatements (l : Launch) (hst : l.stackTraces = false) (D : va_G) (cA : Nat → ClassId) (base : Nat) {d : Nat} {g_ru_doStatements : Nat → Option Nat → Int32 → WW → Option ((Int32 ⊕ String) × WW)} {g_ru_doStatement : Nat → Option Nat → Int32 → WW → Option ((Int32 ⊕ String) × WW)} {g_ru_doWhile : Nat → Option Nat → Int32 → WW → Option ((Int32 ⊕ String) × WW)} (HG : sA_ru3 l D cA base d g_ru_doStatements g_ru_doStatement g_ru_doWhile ) (HX : sX_ru3 l D cA base d g_ru_doStatements g_ru_doStatement g_ru_doWhile ) {a0 : Nat} {a1 : Option Nat} {a2 : Int32} {w w' : WW} {E : String} (h : fo_ru_doStatements g_ru_doStatements g_ru_doStatement g_ru_doWhile a0 a1 a2 w = some (.inr E, w')) : xt l D cls (wo_tys cA) cA base y_ru_doStatements (Cond.code y_ru_doStatements b_ru_doStatements 4 (some .boolean) :: gt) (rx_ru_doStatements (d + 1)) [.ref (base + a0), rb base a1, .int a2] w E w' (rx_ru_doStatements (d + 1)).cells (rx_ru_doStatements (d + 1)).slots := by
  refine xt_start (by decide) (by simp only [lg_sl_0, lg_sl_1, lg_sl_2, lg_sl_3, lg_sl_rf]; decide) ?_
  intro p e s m below meth c ls hx hb hr hml hown hts hlk hnm hK hG hW hl hnt
  have C : cx b_ru_doStatements (some .boolean) 4 y_ru_doStatements.cls "doStatements" p s m [.ref (base + a0), rb base a1, .int a2].toArray meth c D cA base ∧ (∀ x ∈ c.exceptionTable.toList, ∀ k : Nat, covers x k = false) ∧ l.stackTraces = false := ⟨⟨hx, hb, hr, hml, hown, hts, hlk, hnm, hK, hG⟩, hnt, hst⟩
  have hl : lv_has ls 4 [(0, .ref (base + a0)), (1, rb base a1), (2, .int a2)] := by simp only [lv_args_0, lv_args_1, lv_args_2, lv_args_3, lv_args_rf] at hl; exact hl
  unfold fo_ru_doStatements at h
  replace h := its h
  obtain ⟨-, h⟩ := h
  refine lv_iload_n hx hb d_ru_doStatements_0 rfl (lv_at hl 2 rfl) ?_
  refine lv_iconst (v := (3 : Int32)) hx hb d_ru_doStatements_1 (by decide) ?_
  refine lv_icmp_le (tgt := 7) hx hb d_ru_doStatements_2 (by decide) (fun c1 => ?_) (fun c1 => ?_)
  · rw [if_pos c1] at h
    refine wo_aload_n hx hb d_ru_doStatements_7 rfl (lv_at hl 1 rfl) ?_
    refine wo_astore_n (lv' := [(3, rb base a1), (0, .ref (base + a0)), (1, rb base a1), (2, .int a2)]) hx hb d_ru_doStatements_8 rfl hl (by decide) rfl (fun ls hl => ?_)
    exact jx_ru_doStatements_9 C HG HX KK a0 a2 a1 w h _ _ _ hW (lv_sub hl [1, 3, 0] rfl)
  · rw [if_neg c1] at h
    refine lv_iconst (v := (0 : Int32)) hx hb d_ru_doStatements_5 (by decide) ?_
    replace h := its h
    obtain ⟨c12, h⟩ := h
    cases h
theorem d_ru_doStatement_0 : decode b_ru_doStatement 0 = .ok (.aload_n 1, 1) := by decide +kernel
theorem d_ru_doStatement_1 : decode b_ru_doStatement 1 = .ok (.getfield 73, 3) := by decide +kernel
theorem d_ru_doStatement_4 : decode b_ru_doStatement 4 = .ok (.tableswitch (122) (2) (8) #[44, 81, 88, 122, 115, 122, 67], 44) := by decide +kernel
theorem d_ru_doStatement_48 : decode b_ru_doStatement 48 = .ok (.aload_n 0, 1) := by decide +kernel
theorem d_ru_doStatement_49 : decode b_ru_doStatement 49 = .ok (.aload_n 1, 1) := by decide +kernel
theorem d_ru_doStatement_50 : decode b_ru_doStatement 50 = .ok (.getfield 76, 3) := by decide +kernel
theorem d_ru_doStatement_53 : decode b_ru_doStatement 53 = .ok (.aload_n 0, 1) := by decide +kernel
theorem d_ru_doStatement_54 : decode b_ru_doStatement 54 = .ok (.aload_n 1, 1) := by decide +kernel
theorem d_ru_doStatement_55 : decode b_ru_doStatement 55 = .ok (.getfield 79, 3) := by decide +kernel
theorem d_ru_doStatement_58 : decode b_ru_doStatement 58 = .ok (.aload_n 1, 1) := by decide +kernel
theorem d_ru_doStatement_59 : decode b_ru_doStatement 59 = .ok (.getfield 82, 3) := by decide +kernel
theorem d_ru_doStatement_62 : decode b_ru_doStatement 62 = .ok (.iconst 0, 1) := by decide +kernel
theorem d_ru_doStatement_63 : decode b_ru_doStatement 63 = .ok (.invokevirtual 85, 3) := by decide +kernel
theorem d_ru_doStatement_66 : decode b_ru_doStatement 66 = .ok (.invokevirtual 89, 3) := by decide +kernel
theorem d_ru_doStatement_69 : decode b_ru_doStatement 69 = .ok (.iconst 1, 1) := by decide +kernel
theorem d_ru_doStatement_70 : decode b_ru_doStatement 70 = .ok (.ireturn, 1) := by decide +kernel
theorem d_ru_doStatement_71 : decode b_ru_doStatement 71 = .ok (.aload_n 0, 1) := by decide +kernel
theorem d_ru_doStatement_72 : decode b_ru_doStatement 72 = .ok (.aload_n 1, 1) := by decide +kernel
theorem d_ru_doStatement_73 : decode b_ru_doStatement 73 = .ok (.getfield 76, 3) := by decide +kernel
theorem d_ru_doStatement_76 : decode b_ru_doStatement 76 = .ok (.aload_n 0, 1) := by decide +kernel
theorem d_ru_doStatement_77 : decode b_ru_doStatement 77 = .ok (.invokevirtual 93, 3) := by decide +kernel
theorem d_ru_doStatement_80 : decode b_ru_doStatement 80 = .ok (.invokevirtual 89, 3) := by decide +kernel
theorem d_ru_doStatement_83 : decode b_ru_doStatement 83 = .ok (.iconst 1, 1) := by decide +kernel
theorem d_ru_doStatement_84 : decode b_ru_doStatement 84 = .ok (.ireturn, 1) := by decide +kernel
theorem d_ru_doStatement_85 : decode b_ru_doStatement 85 = .ok (.aload_n 0, 1) := by decide +kernel
theorem d_ru_doStatement_86 : decode b_ru_doStatement 86 = .ok (.aload_n 1, 1) := by decide +kernel
theorem d_ru_doStatement_87 : decode b_ru_doStatement 87 = .ok (.invokevirtual 97, 3) := by decide +kernel
theorem d_ru_doStatement_90 : decode b_ru_doStatement 90 = .ok (.iconst 1, 1) := by decide +kernel
theorem d_ru_doStatement_91 : decode b_ru_doStatement 91 = .ok (.ireturn, 1) := by decide +kernel
theorem d_ru_doStatement_92 : decode b_ru_doStatement 92 = .ok (.aload_n 0, 1) := by decide +kernel
theorem d_ru_doStatement_93 : decode b_ru_doStatement 93 = .ok (.aload_n 0, 1) := by decide +kernel
theorem d_ru_doStatement_94 : decode b_ru_doStatement 94 = .ok (.aload_n 1, 1) := by decide +kernel
theorem d_ru_doStatement_95 : decode b_ru_doStatement 95 = .ok (.invokevirtual 101, 3) := by decide +kernel
theorem d_ru_doStatement_98 : decode b_ru_doStatement 98 = .ok (.ifCond .eq (10), 3) := by decide +kernel
theorem d_ru_doStatement_101 : decode b_ru_doStatement 101 = .ok (.aload_n 1, 1) := by decide +kernel
theorem d_ru_doStatement_102 : decode b_ru_doStatement 102 = .ok (.getfield 105, 3) := by decide +kernel
theorem d_ru_doStatement_105 : decode b_ru_doStatement 105 = .ok (.goto (7), 3) := by decide +kernel
theorem d_ru_doStatement_108 : decode b_ru_doStatement 108 = .ok (.aload_n 1, 1) := by decide +kernel
theorem d_ru_doStatement_109 : decode b_ru_doStatement 109 = .ok (.getfield 108, 3) := by decide +kernel
theorem d_ru_doStatement_112 : decode b_ru_doStatement 112 = .ok (.iload_n 2, 1) := by decide +kernel
theorem d_ru_doStatement_113 : decode b_ru_doStatement 113 = .ok (.iconst 1, 1) := by decide +kernel
theorem d_ru_doStatement_114 : decode b_ru_doStatement 114 = .ok (.iadd, 1) := by decide +kernel
theorem d_ru_doStatement_115 : decode b_ru_doStatement 115 = .ok (.invokevirtual 48, 3) := by decide +kernel
theorem d_ru_doStatement_118 : decode b_ru_doStatement 118 = .ok (.ireturn, 1) := by decide +kernel
theorem d_ru_doStatement_119 : decode b_ru_doStatement 119 = .ok (.aload_n 0, 1) := by decide +kernel
theorem d_ru_doStatement_120 : decode b_ru_doStatement 120 = .ok (.aload_n 1, 1) := by decide +kernel
theorem d_ru_doStatement_121 : decode b_ru_doStatement 121 = .ok (.iload_n 2, 1) := by decide +kernel
theorem d_ru_doStatement_122 : decode b_ru_doStatement 122 = .ok (.invokevirtual 111, 3) := by decide +kernel
theorem d_ru_doStatement_125 : decode b_ru_doStatement 125 = .ok (.ireturn, 1) := by decide +kernel
theorem d_ru_doStatement_126 : decode b_ru_doStatement 126 = .ok (.aload_n 0, 1) := by decide +kernel
theorem d_ru_doStatement_127 : decode b_ru_doStatement 127 = .ok (.aload_n 1, 1) := by decide +kernel
theorem d_ru_doStatement_128 : decode b_ru_doStatement 128 = .ok (.invokevirtual 101, 3) := by decide +kernel
theorem d_ru_doStatement_131 : decode b_ru_doStatement 131 = .ok (.ifCond .ne (12), 3) := by decide +kernel
theorem d_ru_doStatement_134 : decode b_ru_doStatement 134 = .ok (.aload_n 0, 1) := by decide +kernel
theorem d_ru_doStatement_135 : decode b_ru_doStatement 135 = .ok (.iconst 5, 1) := by decide +kernel
theorem d_ru_doStatement_136 : decode b_ru_doStatement 136 = .ok (.aload_n 1, 1) := by decide +kernel
theorem d_ru_doStatement_137 : decode b_ru_doStatement 137 = .ok (.getfield 114, 3) := by decide +kernel
theorem d_ru_doStatement_140 : decode b_ru_doStatement 140 = .ok (.invokevirtual 117, 3) := by decide +kernel
theorem d_ru_doStatement_143 : decode b_ru_doStatement 143 = .ok (.iconst 1, 1) := by decide +kernel
theorem d_ru_doStatement_144 : decode b_ru_doStatement 144 = .ok (.ireturn, 1) := by decide +kernel
theorem kbo_ru_doStatement {g_ru_doStatements : Nat → Option Nat → Int32 → WW → Option ((Int32 ⊕ String) × WW)} {g_ru_doStatement : Nat → Option Nat → Int32 → WW → Option ((Int32 ⊕ String) × WW)} {g_ru_doWhile : Nat → Option Nat → Int32 → WW → Option ((Int32 ⊕ String) × WW)} {a0 : Nat} {a1 : Option Nat} {a2 : Int32} {w : WW} {r : ((Int32 ⊕ String) × WW)} (h : fo_ru_doStatement g_ru_doStatements g_ru_doStatement g_ru_doWhile a0 a1 a2 w = some r) : kb w a0 5 = true := (its h).1
set_option maxHeartbeats 4000000 in
set_option maxRecDepth 100000 in
theorem j_ru_doStatement_112 {p : Program} {l : Launch} {e : Env} {s : State} {m : MethodId} {args : Array Value} {below : List Frame} {meth : Method} {c : Code} {D : va_G} {cA : Nat → ClassId} {base : Nat} {r : Int32} {w' : WW} (C : cx b_ru_doStatement (some .boolean) 3 y_ru_doStatement.cls "doStatement" p s m args meth c D cA base) {d : Nat} {g_ru_doStatements : Nat → Option Nat → Int32 → WW → Option ((Int32 ⊕ String) × WW)} {g_ru_doStatement : Nat → Option Nat → Int32 → WW → Option ((Int32 ⊕ String) × WW)} {g_ru_doWhile : Nat → Option Nat → Int32 → WW → Option ((Int32 ⊕ String) × WW)} (HG : sA_ru3 l D cA base d g_ru_doStatements g_ru_doStatement g_ru_doWhile )   : ∀ (y2 : Int32) (z0 : Nat) (z1 : Option Nat) (w : WW), f_ru_doStatement_112 g_ru_doStatements g_ru_doStatement g_ru_doWhile y2 z0 z1 w = some (.inl r, w') → ∀ (H : Heap) (locs : List Loc) (ls : Array Slot), wo_S D cls cA base s w H locs → lv_has ls 3 [(2, .int y2)] → W p l e (rm_ru_doStatement (d + 1)) s m args below meth c H locs 0 0 (MQ below (wo_Q D cls cA base (some (.int r)) w') args s (rm_ru_doStatement (d + 1)).cells (rm_ru_doStatement (d + 1)).slots (wo_B base)) (F0 m 112 ls [rb base z1, .ref (base + z0)]) := by
  obtain ⟨hx, hb, hr, hml, hown, hts, hlk, hnm, hK, hG⟩ := id C
  intro y2 z0 z1 w h H locs ls hW hl
  unfold f_ru_doStatement_112 at h
  refine lv_iload_n hx hb d_ru_doStatement_112 rfl (lv_at hl 0 rfl) ?_
  refine lv_iconst (v := (1 : Int32)) hx hb d_ru_doStatement_113 (by decide) ?_
  refine lv_iadd hx hb d_ru_doStatement_114 ?_
  replace h := bsx h
  obtain ⟨x21, w20, hw20, h⟩ := h
  refine cv_ru_48 (As := [rb base z1, .int (y2 + (1 : Int32))]) (rest := []) hx hb hml hown hts hK hG hW (HG.1.1 hw20) (HG.1.2 hw20) ⟨by show 11 + 1 * d + 1 ≤ 11 + 1 * (d + 1); omega, by show 8 + (4 + 11) + (222 + 23 * d) ≤ 222 + 23 * (d + 1); omega⟩ ⟨Nat.le_of_ble_eq_true rfl, Nat.le_of_ble_eq_true rfl⟩ rfl hl.1 rfl (Nat.le_of_ble_eq_true rfl) d_ru_doStatement_115 (fun H locs hW => ?_)
  replace h := its h
  obtain ⟨c22, h⟩ := h
  cases h
  exact wo_zret hx hb hr hlk hW c22 d_ru_doStatement_118
set_option maxHeartbeats 4000000 in
set_option maxRecDepth 100000 in
theorem j_ru_doStatement_143 {p : Program} {l : Launch} {e : Env} {s : State} {m : MethodId} {args : Array Value} {below : List Frame} {meth : Method} {c : Code} {D : va_G} {cA : Nat → ClassId} {base : Nat} {r : Int32} {w' : WW} (C : cx b_ru_doStatement (some .boolean) 3 y_ru_doStatement.cls "doStatement" p s m args meth c D cA base) {d : Nat} {g_ru_doStatements : Nat → Option Nat → Int32 → WW → Option ((Int32 ⊕ String) × WW)} {g_ru_doStatement : Nat → Option Nat → Int32 → WW → Option ((Int32 ⊕ String) × WW)} {g_ru_doWhile : Nat → Option Nat → Int32 → WW → Option ((Int32 ⊕ String) × WW)} (HG : sA_ru3 l D cA base d g_ru_doStatements g_ru_doStatement g_ru_doWhile )   : ∀  (w : WW), f_ru_doStatement_143 g_ru_doStatements g_ru_doStatement g_ru_doWhile  w = some (.inl r, w') → ∀ (H : Heap) (locs : List Loc) (ls : Array Slot), wo_S D cls cA base s w H locs → lv_has ls 3 [] → W p l e (rm_ru_doStatement (d + 1)) s m args below meth c H locs 0 0 (MQ below (wo_Q D cls cA base (some (.int r)) w') args s (rm_ru_doStatement (d + 1)).cells (rm_ru_doStatement (d + 1)).slots (wo_B base)) (F0 m 143 ls []) := by
  obtain ⟨hx, hb, hr, hml, hown, hts, hlk, hnm, hK, hG⟩ := id C
  intro  w h H locs ls hW hl
  unfold f_ru_doStatement_143 at h
  refine lv_iconst (v := (1 : Int32)) hx hb d_ru_doStatement_143 (by decide) ?_
  replace h := its h
  obtain ⟨c28, h⟩ := h
  cases h
  exact wo_zret hx hb hr hlk hW c28 d_ru_doStatement_144
set_option maxHeartbeats 4000000 in
set_option maxRecDepth 100000 in
theorem co_ru_doStatement (l : Launch) (D : va_G) (cA : Nat → ClassId) (base : Nat) {d : Nat} {g_ru_doStatements : Nat → Option Nat → Int32 → WW → Option ((Int32 ⊕ String) × WW)} {g_ru_doStatement : Nat → Option Nat → Int32 → WW → Option ((Int32 ⊕ String) × WW)} {g_ru_doWhile : Nat → Option Nat → Int32 → WW → Option ((Int32 ⊕ String) × WW)} (HG : sA_ru3 l D cA base d g_ru_doStatements g_ru_doStatement g_ru_doWhile ) {a0 : Nat} {a1 : Option Nat} {a2 : Int32} {w w' : WW} {r : Int32} (h : fo_ru_doStatement g_ru_doStatements g_ru_doStatement g_ru_doWhile a0 a1 a2 w = some (.inl r, w')) : mt l D cls (wo_tys cA) cA base y_ru_doStatement (Cond.code y_ru_doStatement b_ru_doStatement 3 (some .boolean) :: gt) (rm_ru_doStatement (d + 1)) [.ref (base + a0), rb base a1, .int a2] w (some (.int r)) w' (rm_ru_doStatement (d + 1)).cells (rm_ru_doStatement (d + 1)).slots := by
  refine mt_start (by decide) (by simp only [lg_sl_0, lg_sl_1, lg_sl_2, lg_sl_3, lg_sl_rf]; decide) ?_
  intro p e s m below meth c ls hx hb hr hml hown hts hlk hnm hK hG hW hl
  have C : cx b_ru_doStatement (some .boolean) 3 y_ru_doStatement.cls "doStatement" p s m [.ref (base + a0), rb base a1, .int a2].toArray meth c D cA base := ⟨hx, hb, hr, hml, hown, hts, hlk, hnm, hK, hG⟩
  have hl : lv_has ls 3 [(0, .ref (base + a0)), (1, rb base a1), (2, .int a2)] := by simp only [lv_args_0, lv_args_1, lv_args_2, lv_args_3, lv_args_rf] at hl; exact hl
  unfold fo_ru_doStatement at h
  replace h := its h
  obtain ⟨-, h⟩ := h
  refine wo_aload_n hx hb d_ru_doStatement_0 rfl (lv_at hl 1 rfl) ?_
  replace h := bs h
  obtain ⟨x1, ex1, h⟩ := h
  subst ex1
  replace h := bs h
  obtain ⟨x2, hx2, h⟩ := h
  refine gf_ru_73 hx hb hts hown hK hG hW (gI_s hx2) d_ru_doStatement_1 ?_
  have hl : lv_has ls 3 [(0, .ref (base + a0)), (1, .ref (base + x1)), (2, .int a2)] := hl
  by_cases c3 : x2 = (2 : Int32)
  · rw [if_pos c3] at h
    refine lv_tableIn (off := 44) (tgt := 48) hx hb d_ru_doStatement_4 (by rw [c3]; decide) (by rw [c3]; decide) (by rw [c3]; rfl) (by decide) ?_
    refine lv_aload_n hx hb d_ru_doStatement_48 rfl (lv_at hl 0 rfl) ?_
    refine lv_aload_n hx hb d_ru_doStatement_49 rfl (lv_at hl 1 rfl) ?_
    replace h := bs h
    obtain ⟨x4, hx4, h⟩ := h
    refine gf_ru_76 hx hb hts hown hK hG hW (gI_s hx4) d_ru_doStatement_50 ?_
    refine lv_aload_n hx hb d_ru_doStatement_53 rfl (lv_at hl 0 rfl) ?_
    refine lv_aload_n hx hb d_ru_doStatement_54 rfl (lv_at hl 1 rfl) ?_
    replace h := bs h
    obtain ⟨x5, hx5, h⟩ := h
    refine gf_ru_79 hx hb hts hown hK hG hW (gI_s hx5) d_ru_doStatement_55 ?_
    refine lv_aload_n hx hb d_ru_doStatement_58 rfl (lv_at hl 1 rfl) ?_
    replace h := bs h
    obtain ⟨x6, hx6, h⟩ := h
    refine gf_ru_82 hx hb hts hown hK hG hW (gI_s hx6) d_ru_doStatement_59 ?_
    refine lv_iconst (v := (0 : Int32)) hx hb d_ru_doStatement_62 (by decide) ?_
    replace h := bsx h
    obtain ⟨x8, w7, hw7, h⟩ := h
    refine cv_ru_85 (As := [.int x5, .int x6, .int (0 : Int32)]) (rest := [.int x4, .ref (base + a0)]) hx hb hml hown hts hK hG hW (c_ru_workOut l D cA base hw7) (kb_ru_workOut hw7) ⟨by show 9 + 1 ≤ 11 + 1 * (d + 1); omega, by show 8 + (6 + 11) + 174 ≤ 222 + 23 * (d + 1); omega⟩ ⟨Nat.le_of_ble_eq_true rfl, Nat.le_of_ble_eq_true rfl⟩ rfl hl.1 rfl (Nat.le_of_ble_eq_true rfl) d_ru_doStatement_63 (fun H locs hW => ?_)
    replace h := bs h
    obtain ⟨w9, hw9, h⟩ := h
    refine cv_ru_89 (As := [.int x4, .int x8]) (rest := []) hx hb hml hown hts hK hG hW (c_ru_assign l D cA base hw9) (kb_ru_assign hw9) ⟨by show 0 + 1 ≤ 11 + 1 * (d + 1); omega, by show 8 + (3 + 11) + 0 ≤ 222 + 23 * (d + 1); omega⟩ ⟨Nat.le_of_ble_eq_true rfl, Nat.le_of_ble_eq_true rfl⟩ rfl hl.1 rfl (Nat.le_of_ble_eq_true rfl) d_ru_doStatement_66 (fun H locs hW => ?_)
    refine lv_iconst (v := (1 : Int32)) hx hb d_ru_doStatement_69 (by decide) ?_
    replace h := its h
    obtain ⟨c10, h⟩ := h
    cases h
    exact wo_zret hx hb hr hlk hW c10 d_ru_doStatement_70
  · rw [if_neg c3] at h
    by_cases c11 : x2 = (3 : Int32)
    · rw [if_pos c11] at h
      refine lv_tableIn (off := 81) (tgt := 85) hx hb d_ru_doStatement_4 (by rw [c11]; decide) (by rw [c11]; decide) (by rw [c11]; rfl) (by decide) ?_
      refine lv_aload_n hx hb d_ru_doStatement_85 rfl (lv_at hl 0 rfl) ?_
      refine lv_aload_n hx hb d_ru_doStatement_86 rfl (lv_at hl 1 rfl) ?_
      replace h := bsx h
      obtain ⟨x13, w12, hw12, h⟩ := h
      refine cv_ru_97 (As := [rb base (some x1)]) (rest := []) hx hb hml hown hts hK hG hW (c_ru_store l D cA base hw12) (kb_ru_store hw12) ⟨by show 10 + 1 ≤ 11 + 1 * (d + 1); omega, by show 8 + (3 + 11) + 199 ≤ 222 + 23 * (d + 1); omega⟩ ⟨Nat.le_of_ble_eq_true rfl, Nat.le_of_ble_eq_true rfl⟩ rfl hl.1 rfl (Nat.le_of_ble_eq_true rfl) d_ru_doStatement_87 (fun H locs hW => ?_)
      refine lv_iconst (v := (1 : Int32)) hx hb d_ru_doStatement_90 (by decide) ?_
      replace h := its h
      obtain ⟨c14, h⟩ := h
      cases h
      exact wo_zret hx hb hr hlk hW c14 d_ru_doStatement_91
    · rw [if_neg c11] at h
      by_cases c15 : x2 = (4 : Int32)
      · rw [if_pos c15] at h
        refine lv_tableIn (off := 88) (tgt := 92) hx hb d_ru_doStatement_4 (by rw [c15]; decide) (by rw [c15]; decide) (by rw [c15]; rfl) (by decide) ?_
        refine lv_aload_n hx hb d_ru_doStatement_92 rfl (lv_at hl 0 rfl) ?_
        refine lv_aload_n hx hb d_ru_doStatement_93 rfl (lv_at hl 0 rfl) ?_
        refine lv_aload_n hx hb d_ru_doStatement_94 rfl (lv_at hl 1 rfl) ?_
        replace h := bsx h
        obtain ⟨x17, w16, hw16, h⟩ := h
        refine cv_ru_101 (As := [rb base (some x1)]) (rest := [.ref (base + a0)]) hx hb hml hown hts hK hG hW (c_ru_holds l D cA base hw16) (kb_ru_holds hw16) ⟨by show 10 + 1 ≤ 11 + 1 * (d + 1); omega, by show 8 + (4 + 11) + 199 ≤ 222 + 23 * (d + 1); omega⟩ ⟨Nat.le_of_ble_eq_true rfl, Nat.le_of_ble_eq_true rfl⟩ rfl hl.1 rfl (Nat.le_of_ble_eq_true rfl) d_ru_doStatement_95 (fun H locs hW => ?_)
        refine lv_if_eq (tgt := 108) hx hb d_ru_doStatement_98 (by decide) (fun c18 => ?_) (fun c18 => ?_)
        · rw [if_pos c18] at h
          refine lv_aload_n hx hb d_ru_doStatement_108 rfl (lv_at hl 1 rfl) ?_
          replace h := bs h
          obtain ⟨x19, hx19, h⟩ := h
          refine gf_ru_108 hx hb hts hown hK hG hW (gR_s hx19) d_ru_doStatement_109 ?_
          exact j_ru_doStatement_112 C HG a2 a0 x19 w16 h _ _ _ hW (lv_sub hl [2] rfl)
        · rw [if_neg c18] at h
          refine lv_aload_n hx hb d_ru_doStatement_101 rfl (lv_at hl 1 rfl) ?_
          replace h := bs h
          obtain ⟨x23, hx23, h⟩ := h
          refine gf_ru_105 hx hb hts hown hK hG hW (gR_s hx23) d_ru_doStatement_102 ?_
          refine lv_goto (tgt := 112) hx hb d_ru_doStatement_105 (by decide) ?_
          exact j_ru_doStatement_112 C HG a2 a0 x23 w16 h _ _ _ hW (lv_sub hl [2] rfl)
      · rw [if_neg c15] at h
        by_cases c24 : x2 = (5 : Int32)
        · rw [if_pos c24] at h
          refine lv_tableIn (off := 122) (tgt := 126) hx hb d_ru_doStatement_4 (by rw [c24]; decide) (by rw [c24]; decide) (by rw [c24]; rfl) (by decide) ?_
          refine lv_aload_n hx hb d_ru_doStatement_126 rfl (lv_at hl 0 rfl) ?_
          refine lv_aload_n hx hb d_ru_doStatement_127 rfl (lv_at hl 1 rfl) ?_
          replace h := bsx h
          obtain ⟨x26, w25, hw25, h⟩ := h
          refine cv_ru_101 (As := [rb base (some x1)]) (rest := []) hx hb hml hown hts hK hG hW (c_ru_holds l D cA base hw25) (kb_ru_holds hw25) ⟨by show 10 + 1 ≤ 11 + 1 * (d + 1); omega, by show 8 + (4 + 11) + 199 ≤ 222 + 23 * (d + 1); omega⟩ ⟨Nat.le_of_ble_eq_true rfl, Nat.le_of_ble_eq_true rfl⟩ rfl hl.1 rfl (Nat.le_of_ble_eq_true rfl) d_ru_doStatement_128 (fun H locs hW => ?_)
          refine lv_if_ne (tgt := 143) hx hb d_ru_doStatement_131 (by decide) (fun c27 => ?_) (fun c27 => ?_)
          · rw [if_neg c27] at h
            exact j_ru_doStatement_143 C HG w25 h _ _ _ hW (lv_sub hl [] rfl)
          · rw [if_pos c27] at h
            refine lv_aload_n hx hb d_ru_doStatement_134 rfl (lv_at hl 0 rfl) ?_
            refine lv_iconst (v := (5 : Int32)) hx hb d_ru_doStatement_135 (by decide) ?_
            refine lv_aload_n hx hb d_ru_doStatement_136 rfl (lv_at hl 1 rfl) ?_
            replace h := bs h
            obtain ⟨x29, hx29, h⟩ := h
            refine gf_ru_114 hx hb hts hown hK hG hW (gI_s hx29) d_ru_doStatement_137 ?_
            replace h := bsx h
            obtain ⟨x31, w30, hw30, h⟩ := h
            refine cv_ru_117 (As := [.int (5 : Int32), .int x29]) (rest := []) hx hb hml hown hts hK hG hW (c_ru_fail l D cA base hw30) (kb_ru_fail hw30) ⟨by show 6 + 1 ≤ 11 + 1 * (d + 1); omega, by show 8 + (3 + 11) + 100 ≤ 222 + 23 * (d + 1); omega⟩ ⟨Nat.le_of_ble_eq_true rfl, Nat.le_of_ble_eq_true rfl⟩ rfl hl.1 rfl (Nat.le_of_ble_eq_true rfl) d_ru_doStatement_140 (fun H locs hW => ?_)
            exact j_ru_doStatement_143 C HG w30 h _ _ _ hW (lv_sub hl [] rfl)
        · rw [if_neg c24] at h
          by_cases c32 : x2 = (6 : Int32)
          · rw [if_pos c32] at h
            refine lv_tableIn (off := 115) (tgt := 119) hx hb d_ru_doStatement_4 (by rw [c32]; decide) (by rw [c32]; decide) (by rw [c32]; rfl) (by decide) ?_
            refine lv_aload_n hx hb d_ru_doStatement_119 rfl (lv_at hl 0 rfl) ?_
            refine lv_aload_n hx hb d_ru_doStatement_120 rfl (lv_at hl 1 rfl) ?_
            refine lv_iload_n hx hb d_ru_doStatement_121 rfl (lv_at hl 2 rfl) ?_
            replace h := bsx h
            obtain ⟨x34, w33, hw33, h⟩ := h
            refine cv_ru_111 (As := [rb base (some x1), .int a2]) (rest := []) hx hb hml hown hts hK hG hW (HG.2.2.1 hw33) (HG.2.2.2 hw33) ⟨by show 11 + 1 * d + 1 ≤ 11 + 1 * (d + 1); omega, by show 8 + (4 + 11) + (222 + 23 * d) ≤ 222 + 23 * (d + 1); omega⟩ ⟨Nat.le_of_ble_eq_true rfl, Nat.le_of_ble_eq_true rfl⟩ rfl hl.1 rfl (Nat.le_of_ble_eq_true rfl) d_ru_doStatement_122 (fun H locs hW => ?_)
            replace h := its h
            obtain ⟨c35, h⟩ := h
            cases h
            exact wo_zret hx hb hr hlk hW c35 d_ru_doStatement_125
          · rw [if_neg c32] at h
            by_cases c36 : x2 = (7 : Int32)
            · rw [if_pos c36] at h
              refine lv_tableIn (off := 122) (tgt := 126) hx hb d_ru_doStatement_4 (by rw [c36]; decide) (by rw [c36]; decide) (by rw [c36]; rfl) (by decide) ?_
              refine lv_aload_n hx hb d_ru_doStatement_126 rfl (lv_at hl 0 rfl) ?_
              refine lv_aload_n hx hb d_ru_doStatement_127 rfl (lv_at hl 1 rfl) ?_
              replace h := bsx h
              obtain ⟨x38, w37, hw37, h⟩ := h
              refine cv_ru_101 (As := [rb base (some x1)]) (rest := []) hx hb hml hown hts hK hG hW (c_ru_holds l D cA base hw37) (kb_ru_holds hw37) ⟨by show 10 + 1 ≤ 11 + 1 * (d + 1); omega, by show 8 + (4 + 11) + 199 ≤ 222 + 23 * (d + 1); omega⟩ ⟨Nat.le_of_ble_eq_true rfl, Nat.le_of_ble_eq_true rfl⟩ rfl hl.1 rfl (Nat.le_of_ble_eq_true rfl) d_ru_doStatement_128 (fun H locs hW => ?_)
              refine lv_if_ne (tgt := 143) hx hb d_ru_doStatement_131 (by decide) (fun c39 => ?_) (fun c39 => ?_)
              · rw [if_neg c39] at h
                exact j_ru_doStatement_143 C HG w37 h _ _ _ hW (lv_sub hl [] rfl)
              · rw [if_pos c39] at h
                refine lv_aload_n hx hb d_ru_doStatement_134 rfl (lv_at hl 0 rfl) ?_
                refine lv_iconst (v := (5 : Int32)) hx hb d_ru_doStatement_135 (by decide) ?_
                refine lv_aload_n hx hb d_ru_doStatement_136 rfl (lv_at hl 1 rfl) ?_
                replace h := bs h
                obtain ⟨x40, hx40, h⟩ := h
                refine gf_ru_114 hx hb hts hown hK hG hW (gI_s hx40) d_ru_doStatement_137 ?_
                replace h := bsx h
                obtain ⟨x42, w41, hw41, h⟩ := h
                refine cv_ru_117 (As := [.int (5 : Int32), .int x40]) (rest := []) hx hb hml hown hts hK hG hW (c_ru_fail l D cA base hw41) (kb_ru_fail hw41) ⟨by show 6 + 1 ≤ 11 + 1 * (d + 1); omega, by show 8 + (3 + 11) + 100 ≤ 222 + 23 * (d + 1); omega⟩ ⟨Nat.le_of_ble_eq_true rfl, Nat.le_of_ble_eq_true rfl⟩ rfl hl.1 rfl (Nat.le_of_ble_eq_true rfl) d_ru_doStatement_140 (fun H locs hW => ?_)
                exact j_ru_doStatement_143 C HG w41 h _ _ _ hW (lv_sub hl [] rfl)
            · rw [if_neg c36] at h
              by_cases c43 : x2 = (8 : Int32)
              · rw [if_pos c43] at h
                refine lv_tableIn (off := 67) (tgt := 71) hx hb d_ru_doStatement_4 (by rw [c43]; decide) (by rw [c43]; decide) (by rw [c43]; rfl) (by decide) ?_
                refine lv_aload_n hx hb d_ru_doStatement_71 rfl (lv_at hl 0 rfl) ?_
                refine lv_aload_n hx hb d_ru_doStatement_72 rfl (lv_at hl 1 rfl) ?_
                replace h := bs h
                obtain ⟨x44, hx44, h⟩ := h
                refine gf_ru_76 hx hb hts hown hK hG hW (gI_s hx44) d_ru_doStatement_73 ?_
                refine lv_aload_n hx hb d_ru_doStatement_76 rfl (lv_at hl 0 rfl) ?_
                replace h := bs2 h
                obtain ⟨x46, w45, hw45, h⟩ := h
                refine cv_ru_93 (As := []) (rest := [.int x44, .ref (base + a0)]) hx hb hml hown hts hK hG hW (c_ru_nextInput l D cA base hw45) (kb_ru_nextInput hw45) ⟨by show 0 + 1 ≤ 11 + 1 * (d + 1); omega, by show 8 + (1 + 11) + 0 ≤ 222 + 23 * (d + 1); omega⟩ ⟨Nat.le_of_ble_eq_true rfl, Nat.le_of_ble_eq_true rfl⟩ rfl hl.1 rfl (Nat.le_of_ble_eq_true rfl) d_ru_doStatement_77 (fun H locs hW => ?_)
                replace h := bs h
                obtain ⟨w47, hw47, h⟩ := h
                refine cv_ru_89 (As := [.int x44, .int x46]) (rest := []) hx hb hml hown hts hK hG hW (c_ru_assign l D cA base hw47) (kb_ru_assign hw47) ⟨by show 0 + 1 ≤ 11 + 1 * (d + 1); omega, by show 8 + (3 + 11) + 0 ≤ 222 + 23 * (d + 1); omega⟩ ⟨Nat.le_of_ble_eq_true rfl, Nat.le_of_ble_eq_true rfl⟩ rfl hl.1 rfl (Nat.le_of_ble_eq_true rfl) d_ru_doStatement_80 (fun H locs hW => ?_)
                refine lv_iconst (v := (1 : Int32)) hx hb d_ru_doStatement_83 (by decide) ?_
                replace h := its h
                obtain ⟨c48, h⟩ := h
                cases h
                exact wo_zret hx hb hr hlk hW c48 d_ru_doStatement_84
              · rw [if_neg c43] at h
                refine lv_tableOut (tgt := 126) hx hb d_ru_doStatement_4 (by have n0 := lv_neT c3 (show (2 : Int32).toInt = 2 from rfl); have n1 := lv_neT c11 (show (3 : Int32).toInt = 3 from rfl); have n2 := lv_neT c15 (show (4 : Int32).toInt = 4 from rfl); have n3 := lv_neT c24 (show (5 : Int32).toInt = 5 from rfl); have n4 := lv_neT c32 (show (6 : Int32).toInt = 6 from rfl); have n5 := lv_neT c36 (show (7 : Int32).toInt = 7 from rfl); have n6 := lv_neT c43 (show (8 : Int32).toInt = 8 from rfl); omega) (by decide) ?_
                refine lv_aload_n hx hb d_ru_doStatement_126 rfl (lv_at hl 0 rfl) ?_
                refine lv_aload_n hx hb d_ru_doStatement_127 rfl (lv_at hl 1 rfl) ?_
                replace h := bsx h
                obtain ⟨x50, w49, hw49, h⟩ := h
                refine cv_ru_101 (As := [rb base (some x1)]) (rest := []) hx hb hml hown hts hK hG hW (c_ru_holds l D cA base hw49) (kb_ru_holds hw49) ⟨by show 10 + 1 ≤ 11 + 1 * (d + 1); omega, by show 8 + (4 + 11) + 199 ≤ 222 + 23 * (d + 1); omega⟩ ⟨Nat.le_of_ble_eq_true rfl, Nat.le_of_ble_eq_true rfl⟩ rfl hl.1 rfl (Nat.le_of_ble_eq_true rfl) d_ru_doStatement_128 (fun H locs hW => ?_)
                refine lv_if_ne (tgt := 143) hx hb d_ru_doStatement_131 (by decide) (fun c51 => ?_) (fun c51 => ?_)
                · rw [if_neg c51] at h
                  exact j_ru_doStatement_143 C HG w49 h _ _ _ hW (lv_sub hl [] rfl)
                · rw [if_pos c51] at h
                  refine lv_aload_n hx hb d_ru_doStatement_134 rfl (lv_at hl 0 rfl) ?_
                  refine lv_iconst (v := (5 : Int32)) hx hb d_ru_doStatement_135 (by decide) ?_
                  refine lv_aload_n hx hb d_ru_doStatement_136 rfl (lv_at hl 1 rfl) ?_
                  replace h := bs h
                  obtain ⟨x52, hx52, h⟩ := h
                  refine gf_ru_114 hx hb hts hown hK hG hW (gI_s hx52) d_ru_doStatement_137 ?_
                  replace h := bsx h
                  obtain ⟨x54, w53, hw53, h⟩ := h
                  refine cv_ru_117 (As := [.int (5 : Int32), .int x52]) (rest := []) hx hb hml hown hts hK hG hW (c_ru_fail l D cA base hw53) (kb_ru_fail hw53) ⟨by show 6 + 1 ≤ 11 + 1 * (d + 1); omega, by show 8 + (3 + 11) + 100 ≤ 222 + 23 * (d + 1); omega⟩ ⟨Nat.le_of_ble_eq_true rfl, Nat.le_of_ble_eq_true rfl⟩ rfl hl.1 rfl (Nat.le_of_ble_eq_true rfl) d_ru_doStatement_140 (fun H locs hW => ?_)
                  exact j_ru_doStatement_143 C HG w53 h _ _ _ hW (lv_sub hl [] rfl)
set_option maxHeartbeats 4000000 in
set_option maxRecDepth 100000 in
theorem jx_ru_doStatement_112 {p : Program} {l : Launch} {e : Env} {s : State} {m : MethodId} {args : Array Value} {below : List Frame} {meth : Method} {c : Code} {D : va_G} {cA : Nat → ClassId} {base : Nat} {E : String} {w' : WW} (C : cx b_ru_doStatement (some .boolean) 3 y_ru_doStatement.cls "doStatement" p s m args meth c D cA base ∧ (∀ x ∈ c.exceptionTable.toList, ∀ k : Nat, covers x k = false) ∧ l.stackTraces = false) {d : Nat} {g_ru_doStatements : Nat → Option Nat → Int32 → WW → Option ((Int32 ⊕ String) × WW)} {g_ru_doStatement : Nat → Option Nat → Int32 → WW → Option ((Int32 ⊕ String) × WW)} {g_ru_doWhile : Nat → Option Nat → Int32 → WW → Option ((Int32 ⊕ String) × WW)} (HG : sA_ru3 l D cA base d g_ru_doStatements g_ru_doStatement g_ru_doWhile ) (HX : sX_ru3 l D cA base d g_ru_doStatements g_ru_doStatement g_ru_doWhile )   : ∀ (y2 : Int32) (z0 : Nat) (z1 : Option Nat) (w : WW), f_ru_doStatement_112 g_ru_doStatements g_ru_doStatement g_ru_doWhile y2 z0 z1 w = some (.inr E, w') → ∀ (H : Heap) (locs : List Loc) (ls : Array Slot), wo_S D cls cA base s w H locs → lv_has ls 3 [(2, .int y2)] → W p l e (rx_ru_doStatement (d + 1)) s m args below meth c H locs 0 0 (XQ below (wo_X D cls cA base E w' (rx_ru_doStatement (d + 1)).cells (rx_ru_doStatement (d + 1)).slots) args s) (F0 m 112 ls [rb base z1, .ref (base + z0)]) := by
  obtain ⟨hx, hb, hr, hml, hown, hts, hlk, hnm, hK, hG⟩ := id C.1
  have hnt := C.2.1
  have hst := C.2.2
  intro y2 z0 z1 w h H locs ls hW hl
  unfold f_ru_doStatement_112 at h
  refine lv_iload_n hx hb d_ru_doStatement_112 rfl (lv_at hl 0 rfl) ?_
  refine lv_iconst (v := (1 : Int32)) hx hb d_ru_doStatement_113 (by decide) ?_
  refine lv_iadd hx hb d_ru_doStatement_114 ?_
  rcases bsy h with hw20 | ⟨x21, w20, hw20, hnw20⟩
  · exact xv_ru_48 (As := [rb base z1, .int (y2 + (1 : Int32))]) (rest := []) hx hb hml hown hts hK hG hW (HX.1 hw20) (HG.1.2 hw20) ⟨by show 11 + 1 * d + 1 ≤ 11 + 1 * (d + 1); omega, by show 8 + (4 + 11) + (222 + 23 * d) ≤ 222 + 23 * (d + 1); omega⟩ ⟨Nat.le_of_ble_eq_true rfl, Nat.le_of_ble_eq_true rfl⟩ rfl hl.1 rfl (Nat.le_of_ble_eq_true rfl) d_ru_doStatement_115 (fun H locs q ce hW h1 h2 h3 => wo_xout hnt hlk hW h1 h2 h3 (Nat.le_of_ble_eq_true rfl) (Nat.le_of_ble_eq_true rfl))
  clear h
  have h := hnw20
  clear hnw20
  refine cv_ru_48 (As := [rb base z1, .int (y2 + (1 : Int32))]) (rest := []) hx hb hml hown hts hK hG hW (HG.1.1 hw20) (HG.1.2 hw20) ⟨by show 11 + 1 * d + 1 ≤ 11 + 1 * (d + 1); omega, by show 8 + (4 + 11) + (222 + 23 * d) ≤ 222 + 23 * (d + 1); omega⟩ ⟨Nat.le_of_ble_eq_true rfl, Nat.le_of_ble_eq_true rfl⟩ rfl hl.1 rfl (Nat.le_of_ble_eq_true rfl) d_ru_doStatement_115 (fun H locs hW => ?_)
  replace h := its h
  obtain ⟨c22, h⟩ := h
  cases h
set_option maxHeartbeats 4000000 in
set_option maxRecDepth 100000 in
theorem jx_ru_doStatement_143 {p : Program} {l : Launch} {e : Env} {s : State} {m : MethodId} {args : Array Value} {below : List Frame} {meth : Method} {c : Code} {D : va_G} {cA : Nat → ClassId} {base : Nat} {E : String} {w' : WW} (C : cx b_ru_doStatement (some .boolean) 3 y_ru_doStatement.cls "doStatement" p s m args meth c D cA base ∧ (∀ x ∈ c.exceptionTable.toList, ∀ k : Nat, covers x k = false) ∧ l.stackTraces = false) {d : Nat} {g_ru_doStatements : Nat → Option Nat → Int32 → WW → Option ((Int32 ⊕ String) × WW)} {g_ru_doStatement : Nat → Option Nat → Int32 → WW → Option ((Int32 ⊕ String) × WW)} {g_ru_doWhile : Nat → Option Nat → Int32 → WW → Option ((Int32 ⊕ String) × WW)} (HG : sA_ru3 l D cA base d g_ru_doStatements g_ru_doStatement g_ru_doWhile ) (HX : sX_ru3 l D cA base d g_ru_doStatements g_ru_doStatement g_ru_doWhile )   : ∀  (w : WW), f_ru_doStatement_143 g_ru_doStatements g_ru_doStatement g_ru_doWhile  w = some (.inr E, w') → ∀ (H : Heap) (locs : List Loc) (ls : Array Slot), wo_S D cls cA base s w H locs → lv_has ls 3 [] → W p l e (rx_ru_doStatement (d + 1)) s m args below meth c H locs 0 0 (XQ below (wo_X D cls cA base E w' (rx_ru_doStatement (d + 1)).cells (rx_ru_doStatement (d + 1)).slots) args s) (F0 m 143 ls []) := by
  obtain ⟨hx, hb, hr, hml, hown, hts, hlk, hnm, hK, hG⟩ := id C.1
  have hnt := C.2.1
  have hst := C.2.2
  intro  w h H locs ls hW hl
  unfold f_ru_doStatement_143 at h
  refine lv_iconst (v := (1 : Int32)) hx hb d_ru_doStatement_143 (by decide) ?_
  replace h := its h
  obtain ⟨c28, h⟩ := h
  cases h
set_option maxHeartbeats 4000000 in
set_option maxRecDepth 100000 in
theorem xo_ru_doStatement (l : Launch) (hst : l.stackTraces = false) (D : va_G) (cA : Nat → ClassId) (base : Nat) {d : Nat} {g_ru_doStatements : Nat → Option Nat → Int32 → WW → Option ((Int32 ⊕ String) × WW)} {g_ru_doStatement : Nat → Option Nat → Int32 → WW → Option ((Int32 ⊕ String) × WW)} {g_ru_doWhile : Nat → Option Nat → Int32 → WW → Option ((Int32 ⊕ String) × WW)} (HG : sA_ru3 l D cA base d g_ru_doStatements g_ru_doStatement g_ru_doWhile ) (HX : sX_ru3 l D cA base d g_ru_doStatements g_ru_doStatement g_ru_doWhile ) {a0 : Nat} {a1 : Option Nat} {a2 : Int32} {w w' : WW} {E : String} (h : fo_ru_doStatement g_ru_doStatements g_ru_doStatement g_ru_doWhile a0 a1 a2 w = some (.inr E, w')) : xt l D cls (wo_tys cA) cA base y_ru_doStatement (Cond.code y_ru_doStatement b_ru_doStatement 3 (some .boolean) :: gt) (rx_ru_doStatement (d + 1)) [.ref (base + a0), rb base a1, .int a2] w E w' (rx_ru_doStatement (d + 1)).cells (rx_ru_doStatement (d + 1)).slots := by
  refine xt_start (by decide) (by simp only [lg_sl_0, lg_sl_1, lg_sl_2, lg_sl_3, lg_sl_rf]; decide) ?_
  intro p e s m below meth c ls hx hb hr hml hown hts hlk hnm hK hG hW hl hnt
  have C : cx b_ru_doStatement (some .boolean) 3 y_ru_doStatement.cls "doStatement" p s m [.ref (base + a0), rb base a1, .int a2].toArray meth c D cA base ∧ (∀ x ∈ c.exceptionTable.toList, ∀ k : Nat, covers x k = false) ∧ l.stackTraces = false := ⟨⟨hx, hb, hr, hml, hown, hts, hlk, hnm, hK, hG⟩, hnt, hst⟩
  have hl : lv_has ls 3 [(0, .ref (base + a0)), (1, rb base a1), (2, .int a2)] := by simp only [lv_args_0, lv_args_1, lv_args_2, lv_args_3, lv_args_rf] at hl; exact hl
  unfold fo_ru_doStatement at h
  replace h := its h
  obtain ⟨-, h⟩ := h
  refine wo_aload_n hx hb d_ru_doStatement_0 rfl (lv_at hl 1 rfl) ?_
  replace h := bs h
  obtain ⟨x1, ex1, h⟩ := h
  subst ex1
  replace h := bs h
  obtain ⟨x2, hx2, h⟩ := h
  refine gf_ru_73 hx hb hts hown hK hG hW (gI_s hx2) d_ru_doStatement_1 ?_
  have hl : lv_has ls 3 [(0, .ref (base + a0)), (1, .ref (base + x1)), (2, .int a2)] := hl
  by_cases c3 : x2 = (2 : Int32)
  · rw [if_pos c3] at h
    refine lv_tableIn (off := 44) (tgt := 48) hx hb d_ru_doStatement_4 (by rw [c3]; decide) (by rw [c3]; decide) (by rw [c3]; rfl) (by decide) ?_
    refine lv_aload_n hx hb d_ru_doStatement_48 rfl (lv_at hl 0 rfl) ?_
    refine lv_aload_n hx hb d_ru_doStatement_49 rfl (lv_at hl 1 rfl) ?_
    replace h := bs h
    obtain ⟨x4, hx4, h⟩ := h
    refine gf_ru_76 hx hb hts hown hK hG hW (gI_s hx4) d_ru_doStatement_50 ?_
    refine lv_aload_n hx hb d_ru_doStatement_53 rfl (lv_at hl 0 rfl) ?_
    refine lv_aload_n hx hb d_ru_doStatement_54 rfl (lv_at hl 1 rfl) ?_
    replace h := bs h
    obtain ⟨x5, hx5, h⟩ := h
    refine gf_ru_79 hx hb hts hown hK hG hW (gI_s hx5) d_ru_doStatement_55 ?_
    refine lv_aload_n hx hb d_ru_doStatement_58 rfl (lv_at hl 1 rfl) ?_
    replace h := bs h
    obtain ⟨x6, hx6, h⟩ := h
    refine gf_ru_82 hx hb hts hown hK hG hW (gI_s hx6) d_ru_doStatement_59 ?_
    refine lv_iconst (v := (0 : Int32)) hx hb d_ru_doStatement_62 (by decide) ?_
    rcases bsy h with hw7 | ⟨x8, w7, hw7, hnw7⟩
    · exact xv_ru_85 (As := [.int x5, .int x6, .int (0 : Int32)]) (rest := [.int x4, .ref (base + a0)]) hx hb hml hown hts hK hG hW (x_ru_workOut l hst D cA base hw7) (kb_ru_workOut hw7) ⟨by show 9 + 1 ≤ 11 + 1 * (d + 1); omega, by show 8 + (6 + 11) + 174 ≤ 222 + 23 * (d + 1); omega⟩ ⟨Nat.le_of_ble_eq_true rfl, Nat.le_of_ble_eq_true rfl⟩ rfl hl.1 rfl (Nat.le_of_ble_eq_true rfl) d_ru_doStatement_63 (fun H locs q ce hW h1 h2 h3 => wo_xout hnt hlk hW h1 h2 h3 (Nat.le_of_ble_eq_true rfl) (Nat.le_of_ble_eq_true rfl))
    clear h
    have h := hnw7
    clear hnw7
    refine cv_ru_85 (As := [.int x5, .int x6, .int (0 : Int32)]) (rest := [.int x4, .ref (base + a0)]) hx hb hml hown hts hK hG hW (c_ru_workOut l D cA base hw7) (kb_ru_workOut hw7) ⟨by show 9 + 1 ≤ 11 + 1 * (d + 1); omega, by show 8 + (6 + 11) + 174 ≤ 222 + 23 * (d + 1); omega⟩ ⟨Nat.le_of_ble_eq_true rfl, Nat.le_of_ble_eq_true rfl⟩ rfl hl.1 rfl (Nat.le_of_ble_eq_true rfl) d_ru_doStatement_63 (fun H locs hW => ?_)
    replace h := bs h
    obtain ⟨w9, hw9, h⟩ := h
    refine cv_ru_89 (As := [.int x4, .int x8]) (rest := []) hx hb hml hown hts hK hG hW (c_ru_assign l D cA base hw9) (kb_ru_assign hw9) ⟨by show 0 + 1 ≤ 11 + 1 * (d + 1); omega, by show 8 + (3 + 11) + 0 ≤ 222 + 23 * (d + 1); omega⟩ ⟨Nat.le_of_ble_eq_true rfl, Nat.le_of_ble_eq_true rfl⟩ rfl hl.1 rfl (Nat.le_of_ble_eq_true rfl) d_ru_doStatement_66 (fun H locs hW => ?_)
    refine lv_iconst (v := (1 : Int32)) hx hb d_ru_doStatement_69 (by decide) ?_
    replace h := its h
    obtain ⟨c10, h⟩ := h
    cases h
  · rw [if_neg c3] at h
    by_cases c11 : x2 = (3 : Int32)
    · rw [if_pos c11] at h
      refine lv_tableIn (off := 81) (tgt := 85) hx hb d_ru_doStatement_4 (by rw [c11]; decide) (by rw [c11]; decide) (by rw [c11]; rfl) (by decide) ?_
      refine lv_aload_n hx hb d_ru_doStatement_85 rfl (lv_at hl 0 rfl) ?_
      refine lv_aload_n hx hb d_ru_doStatement_86 rfl (lv_at hl 1 rfl) ?_
      rcases bsy h with hw12 | ⟨x13, w12, hw12, hnw12⟩
      · exact xv_ru_97 (As := [rb base (some x1)]) (rest := []) hx hb hml hown hts hK hG hW (x_ru_store l hst D cA base hw12) (kb_ru_store hw12) ⟨by show 10 + 1 ≤ 11 + 1 * (d + 1); omega, by show 8 + (3 + 11) + 199 ≤ 222 + 23 * (d + 1); omega⟩ ⟨Nat.le_of_ble_eq_true rfl, Nat.le_of_ble_eq_true rfl⟩ rfl hl.1 rfl (Nat.le_of_ble_eq_true rfl) d_ru_doStatement_87 (fun H locs q ce hW h1 h2 h3 => wo_xout hnt hlk hW h1 h2 h3 (Nat.le_of_ble_eq_true rfl) (Nat.le_of_ble_eq_true rfl))
      clear h
      have h := hnw12
      clear hnw12
      refine cv_ru_97 (As := [rb base (some x1)]) (rest := []) hx hb hml hown hts hK hG hW (c_ru_store l D cA base hw12) (kb_ru_store hw12) ⟨by show 10 + 1 ≤ 11 + 1 * (d + 1); omega, by show 8 + (3 + 11) + 199 ≤ 222 + 23 * (d + 1); omega⟩ ⟨Nat.le_of_ble_eq_true rfl, Nat.le_of_ble_eq_true rfl⟩ rfl hl.1 rfl (Nat.le_of_ble_eq_true rfl) d_ru_doStatement_87 (fun H locs hW => ?_)
      refine lv_iconst (v := (1 : Int32)) hx hb d_ru_doStatement_90 (by decide) ?_
      replace h := its h
      obtain ⟨c14, h⟩ := h
      cases h
    · rw [if_neg c11] at h
      by_cases c15 : x2 = (4 : Int32)
      · rw [if_pos c15] at h
        refine lv_tableIn (off := 88) (tgt := 92) hx hb d_ru_doStatement_4 (by rw [c15]; decide) (by rw [c15]; decide) (by rw [c15]; rfl) (by decide) ?_
        refine lv_aload_n hx hb d_ru_doStatement_92 rfl (lv_at hl 0 rfl) ?_
        refine lv_aload_n hx hb d_ru_doStatement_93 rfl (lv_at hl 0 rfl) ?_
        refine lv_aload_n hx hb d_ru_doStatement_94 rfl (lv_at hl 1 rfl) ?_
        rcases bsy h with hw16 | ⟨x17, w16, hw16, hnw16⟩
        · exact xv_ru_101 (As := [rb base (some x1)]) (rest := [.ref (base + a0)]) hx hb hml hown hts hK hG hW (x_ru_holds l hst D cA base hw16) (kb_ru_holds hw16) ⟨by show 10 + 1 ≤ 11 + 1 * (d + 1); omega, by show 8 + (4 + 11) + 199 ≤ 222 + 23 * (d + 1); omega⟩ ⟨Nat.le_of_ble_eq_true rfl, Nat.le_of_ble_eq_true rfl⟩ rfl hl.1 rfl (Nat.le_of_ble_eq_true rfl) d_ru_doStatement_95 (fun H locs q ce hW h1 h2 h3 => wo_xout hnt hlk hW h1 h2 h3 (Nat.le_of_ble_eq_true rfl) (Nat.le_of_ble_eq_true rfl))
        clear h
        have h := hnw16
        clear hnw16
        refine cv_ru_101 (As := [rb base (some x1)]) (rest := [.ref (base + a0)]) hx hb hml hown hts hK hG hW (c_ru_holds l D cA base hw16) (kb_ru_holds hw16) ⟨by show 10 + 1 ≤ 11 + 1 * (d + 1); omega, by show 8 + (4 + 11) + 199 ≤ 222 + 23 * (d + 1); omega⟩ ⟨Nat.le_of_ble_eq_true rfl, Nat.le_of_ble_eq_true rfl⟩ rfl hl.1 rfl (Nat.le_of_ble_eq_true rfl) d_ru_doStatement_95 (fun H locs hW => ?_)
        refine lv_if_eq (tgt := 108) hx hb d_ru_doStatement_98 (by decide) (fun c18 => ?_) (fun c18 => ?_)
        · rw [if_pos c18] at h
          refine lv_aload_n hx hb d_ru_doStatement_108 rfl (lv_at hl 1 rfl) ?_
          replace h := bs h
          obtain ⟨x19, hx19, h⟩ := h
          refine gf_ru_108 hx hb hts hown hK hG hW (gR_s hx19) d_ru_doStatement_109 ?_
          exact jx_ru_doStatement_112 C HG HX a2 a0 x19 w16 h _ _ _ hW (lv_sub hl [2] rfl)
        · rw [if_neg c18] at h
          refine lv_aload_n hx hb d_ru_doStatement_101 rfl (lv_at hl 1 rfl) ?_
          replace h := bs h
          obtain ⟨x23, hx23, h⟩ := h
          refine gf_ru_105 hx hb hts hown hK hG hW (gR_s hx23) d_ru_doStatement_102 ?_
          refine lv_goto (tgt := 112) hx hb d_ru_doStatement_105 (by decide) ?_
          exact jx_ru_doStatement_112 C HG HX a2 a0 x23 w16 h _ _ _ hW (lv_sub hl [2] rfl)
      · rw [if_neg c15] at h
        by_cases c24 : x2 = (5 : Int32)
        · rw [if_pos c24] at h
          refine lv_tableIn (off := 122) (tgt := 126) hx hb d_ru_doStatement_4 (by rw [c24]; decide) (by rw [c24]; decide) (by rw [c24]; rfl) (by decide) ?_
          refine lv_aload_n hx hb d_ru_doStatement_126 rfl (lv_at hl 0 rfl) ?_
          refine lv_aload_n hx hb d_ru_doStatement_127 rfl (lv_at hl 1 rfl) ?_
          rcases bsy h with hw25 | ⟨x26, w25, hw25, hnw25⟩
          · exact xv_ru_101 (As := [rb base (some x1)]) (rest := []) hx hb hml hown hts hK hG hW (x_ru_holds l hst D cA base hw25) (kb_ru_holds hw25) ⟨by show 10 + 1 ≤ 11 + 1 * (d + 1); omega, by show 8 + (4 + 11) + 199 ≤ 222 + 23 * (d + 1); omega⟩ ⟨Nat.le_of_ble_eq_true rfl, Nat.le_of_ble_eq_true rfl⟩ rfl hl.1 rfl (Nat.le_of_ble_eq_true rfl) d_ru_doStatement_128 (fun H locs q ce hW h1 h2 h3 => wo_xout hnt hlk hW h1 h2 h3 (Nat.le_of_ble_eq_true rfl) (Nat.le_of_ble_eq_true rfl))
          clear h
          have h := hnw25
          clear hnw25
          refine cv_ru_101 (As := [rb base (some x1)]) (rest := []) hx hb hml hown hts hK hG hW (c_ru_holds l D cA base hw25) (kb_ru_holds hw25) ⟨by show 10 + 1 ≤ 11 + 1 * (d + 1); omega, by show 8 + (4 + 11) + 199 ≤ 222 + 23 * (d + 1); omega⟩ ⟨Nat.le_of_ble_eq_true rfl, Nat.le_of_ble_eq_true rfl⟩ rfl hl.1 rfl (Nat.le_of_ble_eq_true rfl) d_ru_doStatement_128 (fun H locs hW => ?_)
          refine lv_if_ne (tgt := 143) hx hb d_ru_doStatement_131 (by decide) (fun c27 => ?_) (fun c27 => ?_)
          · rw [if_neg c27] at h
            exact jx_ru_doStatement_143 C HG HX w25 h _ _ _ hW (lv_sub hl [] rfl)
          · rw [if_pos c27] at h
            refine lv_aload_n hx hb d_ru_doStatement_134 rfl (lv_at hl 0 rfl) ?_
            refine lv_iconst (v := (5 : Int32)) hx hb d_ru_doStatement_135 (by decide) ?_
            refine lv_aload_n hx hb d_ru_doStatement_136 rfl (lv_at hl 1 rfl) ?_
            replace h := bs h
            obtain ⟨x29, hx29, h⟩ := h
            refine gf_ru_114 hx hb hts hown hK hG hW (gI_s hx29) d_ru_doStatement_137 ?_
            rcases bsy h with hw30 | ⟨x31, w30, hw30, hnw30⟩
            · exact xv_ru_117 (As := [.int (5 : Int32), .int x29]) (rest := []) hx hb hml hown hts hK hG hW (x_ru_fail l hst D cA base hw30) (kb_ru_fail hw30) ⟨by show 6 + 1 ≤ 11 + 1 * (d + 1); omega, by show 8 + (3 + 11) + 100 ≤ 222 + 23 * (d + 1); omega⟩ ⟨Nat.le_of_ble_eq_true rfl, Nat.le_of_ble_eq_true rfl⟩ rfl hl.1 rfl (Nat.le_of_ble_eq_true rfl) d_ru_doStatement_140 (fun H locs q ce hW h1 h2 h3 => wo_xout hnt hlk hW h1 h2 h3 (Nat.le_of_ble_eq_true rfl) (Nat.le_of_ble_eq_true rfl))
            clear h
            have h := hnw30
            clear hnw30
            refine cv_ru_117 (As := [.int (5 : Int32), .int x29]) (rest := []) hx hb hml hown hts hK hG hW (c_ru_fail l D cA base hw30) (kb_ru_fail hw30) ⟨by show 6 + 1 ≤ 11 + 1 * (d + 1); omega, by show 8 + (3 + 11) + 100 ≤ 222 + 23 * (d + 1); omega⟩ ⟨Nat.le_of_ble_eq_true rfl, Nat.le_of_ble_eq_true rfl⟩ rfl hl.1 rfl (Nat.le_of_ble_eq_true rfl) d_ru_doStatement_140 (fun H locs hW => ?_)
            exact jx_ru_doStatement_143 C HG HX w30 h _ _ _ hW (lv_sub hl [] rfl)
        · rw [if_neg c24] at h
          by_cases c32 : x2 = (6 : Int32)
          · rw [if_pos c32] at h
            refine lv_tableIn (off := 115) (tgt := 119) hx hb d_ru_doStatement_4 (by rw [c32]; decide) (by rw [c32]; decide) (by rw [c32]; rfl) (by decide) ?_
            refine lv_aload_n hx hb d_ru_doStatement_119 rfl (lv_at hl 0 rfl) ?_
            refine lv_aload_n hx hb d_ru_doStatement_120 rfl (lv_at hl 1 rfl) ?_
            refine lv_iload_n hx hb d_ru_doStatement_121 rfl (lv_at hl 2 rfl) ?_
            rcases bsy h with hw33 | ⟨x34, w33, hw33, hnw33⟩
            · exact xv_ru_111 (As := [rb base (some x1), .int a2]) (rest := []) hx hb hml hown hts hK hG hW (HX.2.2 hw33) (HG.2.2.2 hw33) ⟨by show 11 + 1 * d + 1 ≤ 11 + 1 * (d + 1); omega, by show 8 + (4 + 11) + (222 + 23 * d) ≤ 222 + 23 * (d + 1); omega⟩ ⟨Nat.le_of_ble_eq_true rfl, Nat.le_of_ble_eq_true rfl⟩ rfl hl.1 rfl (Nat.le_of_ble_eq_true rfl) d_ru_doStatement_122 (fun H locs q ce hW h1 h2 h3 => wo_xout hnt hlk hW h1 h2 h3 (Nat.le_of_ble_eq_true rfl) (Nat.le_of_ble_eq_true rfl))
            clear h
            have h := hnw33
            clear hnw33
            refine cv_ru_111 (As := [rb base (some x1), .int a2]) (rest := []) hx hb hml hown hts hK hG hW (HG.2.2.1 hw33) (HG.2.2.2 hw33) ⟨by show 11 + 1 * d + 1 ≤ 11 + 1 * (d + 1); omega, by show 8 + (4 + 11) + (222 + 23 * d) ≤ 222 + 23 * (d + 1); omega⟩ ⟨Nat.le_of_ble_eq_true rfl, Nat.le_of_ble_eq_true rfl⟩ rfl hl.1 rfl (Nat.le_of_ble_eq_true rfl) d_ru_doStatement_122 (fun H locs hW => ?_)
            replace h := its h
            obtain ⟨c35, h⟩ := h
            cases h
          · rw [if_neg c32] at h
            by_cases c36 : x2 = (7 : Int32)
            · rw [if_pos c36] at h
              refine lv_tableIn (off := 122) (tgt := 126) hx hb d_ru_doStatement_4 (by rw [c36]; decide) (by rw [c36]; decide) (by rw [c36]; rfl) (by decide) ?_
              refine lv_aload_n hx hb d_ru_doStatement_126 rfl (lv_at hl 0 rfl) ?_
              refine lv_aload_n hx hb d_ru_doStatement_127 rfl (lv_at hl 1 rfl) ?_
              rcases bsy h with hw37 | ⟨x38, w37, hw37, hnw37⟩
              · exact xv_ru_101 (As := [rb base (some x1)]) (rest := []) hx hb hml hown hts hK hG hW (x_ru_holds l hst D cA base hw37) (kb_ru_holds hw37) ⟨by show 10 + 1 ≤ 11 + 1 * (d + 1); omega, by show 8 + (4 + 11) + 199 ≤ 222 + 23 * (d + 1); omega⟩ ⟨Nat.le_of_ble_eq_true rfl, Nat.le_of_ble_eq_true rfl⟩ rfl hl.1 rfl (Nat.le_of_ble_eq_true rfl) d_ru_doStatement_128 (fun H locs q ce hW h1 h2 h3 => wo_xout hnt hlk hW h1 h2 h3 (Nat.le_of_ble_eq_true rfl) (Nat.le_of_ble_eq_true rfl))
              clear h
              have h := hnw37
              clear hnw37
              refine cv_ru_101 (As := [rb base (some x1)]) (rest := []) hx hb hml hown hts hK hG hW (c_ru_holds l D cA base hw37) (kb_ru_holds hw37) ⟨by show 10 + 1 ≤ 11 + 1 * (d + 1); omega, by show 8 + (4 + 11) + 199 ≤ 222 + 23 * (d + 1); omega⟩ ⟨Nat.le_of_ble_eq_true rfl, Nat.le_of_ble_eq_true rfl⟩ rfl hl.1 rfl (Nat.le_of_ble_eq_true rfl) d_ru_doStatement_128 (fun H locs hW => ?_)
              refine lv_if_ne (tgt := 143) hx hb d_ru_doStatement_131 (by decide) (fun c39 => ?_) (fun c39 => ?_)
              · rw [if_neg c39] at h
                exact jx_ru_doStatement_143 C HG HX w37 h _ _ _ hW (lv_sub hl [] rfl)
              · rw [if_pos c39] at h
                refine lv_aload_n hx hb d_ru_doStatement_134 rfl (lv_at hl 0 rfl) ?_
                refine lv_iconst (v := (5 : Int32)) hx hb d_ru_doStatement_135 (by decide) ?_
                refine lv_aload_n hx hb d_ru_doStatement_136 rfl (lv_at hl 1 rfl) ?_
                replace h := bs h
                obtain ⟨x40, hx40, h⟩ := h
                refine gf_ru_114 hx hb hts hown hK hG hW (gI_s hx40) d_ru_doStatement_137 ?_
                rcases bsy h with hw41 | ⟨x42, w41, hw41, hnw41⟩
                · exact xv_ru_117 (As := [.int (5 : Int32), .int x40]) (rest := []) hx hb hml hown hts hK hG hW (x_ru_fail l hst D cA base hw41) (kb_ru_fail hw41) ⟨by show 6 + 1 ≤ 11 + 1 * (d + 1); omega, by show 8 + (3 + 11) + 100 ≤ 222 + 23 * (d + 1); omega⟩ ⟨Nat.le_of_ble_eq_true rfl, Nat.le_of_ble_eq_true rfl⟩ rfl hl.1 rfl (Nat.le_of_ble_eq_true rfl) d_ru_doStatement_140 (fun H locs q ce hW h1 h2 h3 => wo_xout hnt hlk hW h1 h2 h3 (Nat.le_of_ble_eq_true rfl) (Nat.le_of_ble_eq_true rfl))
                clear h
                have h := hnw41
                clear hnw41
                refine cv_ru_117 (As := [.int (5 : Int32), .int x40]) (rest := []) hx hb hml hown hts hK hG hW (c_ru_fail l D cA base hw41) (kb_ru_fail hw41) ⟨by show 6 + 1 ≤ 11 + 1 * (d + 1); omega, by show 8 + (3 + 11) + 100 ≤ 222 + 23 * (d + 1); omega⟩ ⟨Nat.le_of_ble_eq_true rfl, Nat.le_of_ble_eq_true rfl⟩ rfl hl.1 rfl (Nat.le_of_ble_eq_true rfl) d_ru_doStatement_140 (fun H locs hW => ?_)
                exact jx_ru_doStatement_143 C HG HX w41 h _ _ _ hW (lv_sub hl [] rfl)
            · rw [if_neg c36] at h
              by_cases c43 : x2 = (8 : Int32)
              · rw [if_pos c43] at h
                refine lv_tableIn (off := 67) (tgt := 71) hx hb d_ru_doStatement_4 (by rw [c43]; decide) (by rw [c43]; decide) (by rw [c43]; rfl) (by decide) ?_
                refine lv_aload_n hx hb d_ru_doStatement_71 rfl (lv_at hl 0 rfl) ?_
                refine lv_aload_n hx hb d_ru_doStatement_72 rfl (lv_at hl 1 rfl) ?_
                replace h := bs h
                obtain ⟨x44, hx44, h⟩ := h
                refine gf_ru_76 hx hb hts hown hK hG hW (gI_s hx44) d_ru_doStatement_73 ?_
                refine lv_aload_n hx hb d_ru_doStatement_76 rfl (lv_at hl 0 rfl) ?_
                replace h := bs2 h
                obtain ⟨x46, w45, hw45, h⟩ := h
                refine cv_ru_93 (As := []) (rest := [.int x44, .ref (base + a0)]) hx hb hml hown hts hK hG hW (c_ru_nextInput l D cA base hw45) (kb_ru_nextInput hw45) ⟨by show 0 + 1 ≤ 11 + 1 * (d + 1); omega, by show 8 + (1 + 11) + 0 ≤ 222 + 23 * (d + 1); omega⟩ ⟨Nat.le_of_ble_eq_true rfl, Nat.le_of_ble_eq_true rfl⟩ rfl hl.1 rfl (Nat.le_of_ble_eq_true rfl) d_ru_doStatement_77 (fun H locs hW => ?_)
                replace h := bs h
                obtain ⟨w47, hw47, h⟩ := h
                refine cv_ru_89 (As := [.int x44, .int x46]) (rest := []) hx hb hml hown hts hK hG hW (c_ru_assign l D cA base hw47) (kb_ru_assign hw47) ⟨by show 0 + 1 ≤ 11 + 1 * (d + 1); omega, by show 8 + (3 + 11) + 0 ≤ 222 + 23 * (d + 1); omega⟩ ⟨Nat.le_of_ble_eq_true rfl, Nat.le_of_ble_eq_true rfl⟩ rfl hl.1 rfl (Nat.le_of_ble_eq_true rfl) d_ru_doStatement_80 (fun H locs hW => ?_)
                refine lv_iconst (v := (1 : Int32)) hx hb d_ru_doStatement_83 (by decide) ?_
                replace h := its h
                obtain ⟨c48, h⟩ := h
                cases h
              · rw [if_neg c43] at h
                refine lv_tableOut (tgt := 126) hx hb d_ru_doStatement_4 (by have n0 := lv_neT c3 (show (2 : Int32).toInt = 2 from rfl); have n1 := lv_neT c11 (show (3 : Int32).toInt = 3 from rfl); have n2 := lv_neT c15 (show (4 : Int32).toInt = 4 from rfl); have n3 := lv_neT c24 (show (5 : Int32).toInt = 5 from rfl); have n4 := lv_neT c32 (show (6 : Int32).toInt = 6 from rfl); have n5 := lv_neT c36 (show (7 : Int32).toInt = 7 from rfl); have n6 := lv_neT c43 (show (8 : Int32).toInt = 8 from rfl); omega) (by decide) ?_
                refine lv_aload_n hx hb d_ru_doStatement_126 rfl (lv_at hl 0 rfl) ?_
                refine lv_aload_n hx hb d_ru_doStatement_127 rfl (lv_at hl 1 rfl) ?_
                rcases bsy h with hw49 | ⟨x50, w49, hw49, hnw49⟩
                · exact xv_ru_101 (As := [rb base (some x1)]) (rest := []) hx hb hml hown hts hK hG hW (x_ru_holds l hst D cA base hw49) (kb_ru_holds hw49) ⟨by show 10 + 1 ≤ 11 + 1 * (d + 1); omega, by show 8 + (4 + 11) + 199 ≤ 222 + 23 * (d + 1); omega⟩ ⟨Nat.le_of_ble_eq_true rfl, Nat.le_of_ble_eq_true rfl⟩ rfl hl.1 rfl (Nat.le_of_ble_eq_true rfl) d_ru_doStatement_128 (fun H locs q ce hW h1 h2 h3 => wo_xout hnt hlk hW h1 h2 h3 (Nat.le_of_ble_eq_true rfl) (Nat.le_of_ble_eq_true rfl))
                clear h
                have h := hnw49
                clear hnw49
                refine cv_ru_101 (As := [rb base (some x1)]) (rest := []) hx hb hml hown hts hK hG hW (c_ru_holds l D cA base hw49) (kb_ru_holds hw49) ⟨by show 10 + 1 ≤ 11 + 1 * (d + 1); omega, by show 8 + (4 + 11) + 199 ≤ 222 + 23 * (d + 1); omega⟩ ⟨Nat.le_of_ble_eq_true rfl, Nat.le_of_ble_eq_true rfl⟩ rfl hl.1 rfl (Nat.le_of_ble_eq_true rfl) d_ru_doStatement_128 (fun H locs hW => ?_)
                refine lv_if_ne (tgt := 143) hx hb d_ru_doStatement_131 (by decide) (fun c51 => ?_) (fun c51 => ?_)
                · rw [if_neg c51] at h
                  exact jx_ru_doStatement_143 C HG HX w49 h _ _ _ hW (lv_sub hl [] rfl)
                · rw [if_pos c51] at h
                  refine lv_aload_n hx hb d_ru_doStatement_134 rfl (lv_at hl 0 rfl) ?_
                  refine lv_iconst (v := (5 : Int32)) hx hb d_ru_doStatement_135 (by decide) ?_
                  refine lv_aload_n hx hb d_ru_doStatement_136 rfl (lv_at hl 1 rfl) ?_
                  replace h := bs h
                  obtain ⟨x52, hx52, h⟩ := h
                  refine gf_ru_114 hx hb hts hown hK hG hW (gI_s hx52) d_ru_doStatement_137 ?_
                  rcases bsy h with hw53 | ⟨x54, w53, hw53, hnw53⟩
                  · exact xv_ru_117 (As := [.int (5 : Int32), .int x52]) (rest := []) hx hb hml hown hts hK hG hW (x_ru_fail l hst D cA base hw53) (kb_ru_fail hw53) ⟨by show 6 + 1 ≤ 11 + 1 * (d + 1); omega, by show 8 + (3 + 11) + 100 ≤ 222 + 23 * (d + 1); omega⟩ ⟨Nat.le_of_ble_eq_true rfl, Nat.le_of_ble_eq_true rfl⟩ rfl hl.1 rfl (Nat.le_of_ble_eq_true rfl) d_ru_doStatement_140 (fun H locs q ce hW h1 h2 h3 => wo_xout hnt hlk hW h1 h2 h3 (Nat.le_of_ble_eq_true rfl) (Nat.le_of_ble_eq_true rfl))
                  clear h
                  have h := hnw53
                  clear hnw53
                  refine cv_ru_117 (As := [.int (5 : Int32), .int x52]) (rest := []) hx hb hml hown hts hK hG hW (c_ru_fail l D cA base hw53) (kb_ru_fail hw53) ⟨by show 6 + 1 ≤ 11 + 1 * (d + 1); omega, by show 8 + (3 + 11) + 100 ≤ 222 + 23 * (d + 1); omega⟩ ⟨Nat.le_of_ble_eq_true rfl, Nat.le_of_ble_eq_true rfl⟩ rfl hl.1 rfl (Nat.le_of_ble_eq_true rfl) d_ru_doStatement_140 (fun H locs hW => ?_)
                  exact jx_ru_doStatement_143 C HG HX w53 h _ _ _ hW (lv_sub hl [] rfl)
theorem d_ru_doWhile_0 : decode b_ru_doWhile 0 = .ok (.iconst 0, 1) := by decide +kernel
theorem d_ru_doWhile_1 : decode b_ru_doWhile 1 = .ok (.istore_n 3, 1) := by decide +kernel
theorem d_ru_doWhile_2 : decode b_ru_doWhile 2 = .ok (.iload_n 3, 1) := by decide +kernel
theorem d_ru_doWhile_3 : decode b_ru_doWhile 3 = .ok (.sipush (500), 3) := by decide +kernel
theorem d_ru_doWhile_6 : decode b_ru_doWhile 6 = .ok (.if_icmp .gt (42), 3) := by decide +kernel
theorem d_ru_doWhile_9 : decode b_ru_doWhile 9 = .ok (.aload_n 0, 1) := by decide +kernel
theorem d_ru_doWhile_10 : decode b_ru_doWhile 10 = .ok (.aload_n 1, 1) := by decide +kernel
theorem d_ru_doWhile_11 : decode b_ru_doWhile 11 = .ok (.invokevirtual 101, 3) := by decide +kernel
theorem d_ru_doWhile_14 : decode b_ru_doWhile 14 = .ok (.ifCond .ne (5), 3) := by decide +kernel
theorem d_ru_doWhile_17 : decode b_ru_doWhile 17 = .ok (.iconst 1, 1) := by decide +kernel
theorem d_ru_doWhile_18 : decode b_ru_doWhile 18 = .ok (.ireturn, 1) := by decide +kernel
theorem d_ru_doWhile_19 : decode b_ru_doWhile 19 = .ok (.aload_n 0, 1) := by decide +kernel
theorem d_ru_doWhile_20 : decode b_ru_doWhile 20 = .ok (.aload_n 1, 1) := by decide +kernel
theorem d_ru_doWhile_21 : decode b_ru_doWhile 21 = .ok (.getfield 105, 3) := by decide +kernel
theorem d_ru_doWhile_24 : decode b_ru_doWhile 24 = .ok (.iload_n 2, 1) := by decide +kernel
theorem d_ru_doWhile_25 : decode b_ru_doWhile 25 = .ok (.iconst 1, 1) := by decide +kernel
theorem d_ru_doWhile_26 : decode b_ru_doWhile 26 = .ok (.iadd, 1) := by decide +kernel
theorem d_ru_doWhile_27 : decode b_ru_doWhile 27 = .ok (.invokevirtual 48, 3) := by decide +kernel
theorem d_ru_doWhile_30 : decode b_ru_doWhile 30 = .ok (.ifCond .eq (10), 3) := by decide +kernel
theorem d_ru_doWhile_33 : decode b_ru_doWhile 33 = .ok (.aload_n 0, 1) := by decide +kernel
theorem d_ru_doWhile_34 : decode b_ru_doWhile 34 = .ok (.invokevirtual 61, 3) := by decide +kernel
theorem d_ru_doWhile_37 : decode b_ru_doWhile 37 = .ok (.ifCond .ne (5), 3) := by decide +kernel
theorem d_ru_doWhile_40 : decode b_ru_doWhile 40 = .ok (.iconst 0, 1) := by decide +kernel
theorem d_ru_doWhile_41 : decode b_ru_doWhile 41 = .ok (.ireturn, 1) := by decide +kernel
theorem d_ru_doWhile_42 : decode b_ru_doWhile 42 = .ok (.iinc 3 (1), 3) := by decide +kernel
theorem d_ru_doWhile_45 : decode b_ru_doWhile 45 = .ok (.goto (-43), 3) := by decide +kernel
theorem d_ru_doWhile_48 : decode b_ru_doWhile 48 = .ok (.iconst 0, 1) := by decide +kernel
theorem d_ru_doWhile_49 : decode b_ru_doWhile 49 = .ok (.ireturn, 1) := by decide +kernel
theorem kbo_ru_doWhile {g_ru_doStatements : Nat → Option Nat → Int32 → WW → Option ((Int32 ⊕ String) × WW)} {g_ru_doStatement : Nat → Option Nat → Int32 → WW → Option ((Int32 ⊕ String) × WW)} {g_ru_doWhile : Nat → Option Nat → Int32 → WW → Option ((Int32 ⊕ String) × WW)} {a0 : Nat} {a1 : Option Nat} {a2 : Int32} {w : WW} {r : ((Int32 ⊕ String) × WW)} (h : fo_ru_doWhile g_ru_doStatements g_ru_doStatement g_ru_doWhile a0 a1 a2 w = some r) : kb w a0 5 = true := (its h).1
set_option maxHeartbeats 4000000 in
set_option maxRecDepth 100000 in
theorem j_ru_doWhile_40 {p : Program} {l : Launch} {e : Env} {s : State} {m : MethodId} {args : Array Value} {below : List Frame} {meth : Method} {c : Code} {D : va_G} {cA : Nat → ClassId} {base : Nat} {r : Int32} {w' : WW} (C : cx b_ru_doWhile (some .boolean) 4 y_ru_doWhile.cls "doWhile" p s m args meth c D cA base) {d : Nat} {g_ru_doStatements : Nat → Option Nat → Int32 → WW → Option ((Int32 ⊕ String) × WW)} {g_ru_doStatement : Nat → Option Nat → Int32 → WW → Option ((Int32 ⊕ String) × WW)} {g_ru_doWhile : Nat → Option Nat → Int32 → WW → Option ((Int32 ⊕ String) × WW)} (HG : sA_ru3 l D cA base d g_ru_doStatements g_ru_doStatement g_ru_doWhile )   : ∀  (w : WW), f_ru_doWhile_40 g_ru_doStatements g_ru_doStatement g_ru_doWhile  w = some (.inl r, w') → ∀ (H : Heap) (locs : List Loc) (ls : Array Slot), wo_S D cls cA base s w H locs → lv_has ls 4 [] → W p l e (rm_ru_doWhile (d + 1)) s m args below meth c H locs 0 0 (MQ below (wo_Q D cls cA base (some (.int r)) w') args s (rm_ru_doWhile (d + 1)).cells (rm_ru_doWhile (d + 1)).slots (wo_B base)) (F0 m 40 ls []) := by
  obtain ⟨hx, hb, hr, hml, hown, hts, hlk, hnm, hK, hG⟩ := id C
  intro  w h H locs ls hW hl
  unfold f_ru_doWhile_40 at h
  refine lv_iconst (v := (0 : Int32)) hx hb d_ru_doWhile_40 (by decide) ?_
  replace h := its h
  obtain ⟨c11, h⟩ := h
  cases h
  exact wo_zret hx hb hr hlk hW c11 d_ru_doWhile_41
set_option maxHeartbeats 4000000 in
set_option maxRecDepth 100000 in
theorem j_ru_doWhile_2 {p : Program} {l : Launch} {e : Env} {s : State} {m : MethodId} {args : Array Value} {below : List Frame} {meth : Method} {c : Code} {D : va_G} {cA : Nat → ClassId} {base : Nat} {r : Int32} {w' : WW} (C : cx b_ru_doWhile (some .boolean) 4 y_ru_doWhile.cls "doWhile" p s m args meth c D cA base) {d : Nat} {g_ru_doStatements : Nat → Option Nat → Int32 → WW → Option ((Int32 ⊕ String) × WW)} {g_ru_doStatement : Nat → Option Nat → Int32 → WW → Option ((Int32 ⊕ String) × WW)} {g_ru_doWhile : Nat → Option Nat → Int32 → WW → Option ((Int32 ⊕ String) × WW)} (HG : sA_ru3 l D cA base d g_ru_doStatements g_ru_doStatement g_ru_doWhile )   : ∀ n : Nat, ∀ (y0 : Nat) (y1 : Option Nat) (y2 : Int32) (y3 : Int32) (w : WW), f_ru_doWhile_2 g_ru_doStatements g_ru_doStatement g_ru_doWhile n y0 y1 y2 y3 w = some (.inl r, w') → ∀ (H : Heap) (locs : List Loc) (ls : Array Slot), wo_S D cls cA base s w H locs → lv_has ls 4 [(0, .ref (base + y0)), (1, rb base y1), (2, .int y2), (3, .int y3)] → W p l e (rm_ru_doWhile (d + 1)) s m args below meth c H locs 0 0 (MQ below (wo_Q D cls cA base (some (.int r)) w') args s (rm_ru_doWhile (d + 1)).cells (rm_ru_doWhile (d + 1)).slots (wo_B base)) (F0 m 2 ls []) := by
  obtain ⟨hx, hb, hr, hml, hown, hts, hlk, hnm, hK, hG⟩ := id C
  intro n
  induction n with
  | zero => intro y0 y1 y2 y3 w h; cases h
  | succ n ih =>
    intro y0 y1 y2 y3 w h H locs ls hW hl
    rw [f_ru_doWhile_2] at h
    refine lv_iload_n hx hb d_ru_doWhile_2 rfl (lv_at hl 3 rfl) ?_
    refine lv_sipush (v := (500 : Int32)) hx hb d_ru_doWhile_3 (by decide) ?_
    refine lv_icmp_gt (tgt := 48) hx hb d_ru_doWhile_6 (by decide) (fun c1 => ?_) (fun c1 => ?_)
    · rw [if_pos c1] at h
      refine lv_iconst (v := (0 : Int32)) hx hb d_ru_doWhile_48 (by decide) ?_
      replace h := its h
      obtain ⟨c2, h⟩ := h
      cases h
      exact wo_zret hx hb hr hlk hW c2 d_ru_doWhile_49
    · rw [if_neg c1] at h
      refine lv_aload_n hx hb d_ru_doWhile_9 rfl (lv_at hl 0 rfl) ?_
      refine wo_aload_n hx hb d_ru_doWhile_10 rfl (lv_at hl 1 rfl) ?_
      replace h := bsx h
      obtain ⟨x4, w3, hw3, h⟩ := h
      refine cv_ru_101 (As := [rb base y1]) (rest := []) hx hb hml hown hts hK hG hW (c_ru_holds l D cA base hw3) (kb_ru_holds hw3) ⟨by show 10 + 1 ≤ 11 + 1 * (d + 1); omega, by show 8 + (4 + 11) + 199 ≤ 222 + 23 * (d + 1); omega⟩ ⟨Nat.le_of_ble_eq_true rfl, Nat.le_of_ble_eq_true rfl⟩ rfl hl.1 rfl (Nat.le_of_ble_eq_true rfl) d_ru_doWhile_11 (fun H locs hW => ?_)
      refine lv_if_ne (tgt := 19) hx hb d_ru_doWhile_14 (by decide) (fun c5 => ?_) (fun c5 => ?_)
      · rw [if_neg c5] at h
        refine lv_aload_n hx hb d_ru_doWhile_19 rfl (lv_at hl 0 rfl) ?_
        refine wo_aload_n hx hb d_ru_doWhile_20 rfl (lv_at hl 1 rfl) ?_
        replace h := bs h
        obtain ⟨x6, ex6, h⟩ := h
        subst ex6
        replace h := bs h
        obtain ⟨x7, hx7, h⟩ := h
        refine gf_ru_105 hx hb hts hown hK hG hW (gR_s hx7) d_ru_doWhile_21 ?_
        have hl : lv_has ls 4 [(0, .ref (base + y0)), (1, .ref (base + x6)), (2, .int y2), (3, .int y3)] := hl
        refine lv_iload_n hx hb d_ru_doWhile_24 rfl (lv_at hl 2 rfl) ?_
        refine lv_iconst (v := (1 : Int32)) hx hb d_ru_doWhile_25 (by decide) ?_
        refine lv_iadd hx hb d_ru_doWhile_26 ?_
        replace h := bsx h
        obtain ⟨x9, w8, hw8, h⟩ := h
        refine cv_ru_48 (As := [rb base x7, .int (y2 + (1 : Int32))]) (rest := []) hx hb hml hown hts hK hG hW (HG.1.1 hw8) (HG.1.2 hw8) ⟨by show 11 + 1 * d + 1 ≤ 11 + 1 * (d + 1); omega, by show 8 + (4 + 11) + (222 + 23 * d) ≤ 222 + 23 * (d + 1); omega⟩ ⟨Nat.le_of_ble_eq_true rfl, Nat.le_of_ble_eq_true rfl⟩ rfl hl.1 rfl (Nat.le_of_ble_eq_true rfl) d_ru_doWhile_27 (fun H locs hW => ?_)
        refine lv_if_eq (tgt := 40) hx hb d_ru_doWhile_30 (by decide) (fun c10 => ?_) (fun c10 => ?_)
        · rw [if_pos c10] at h
          exact j_ru_doWhile_40 C HG w8 h _ _ _ hW (lv_sub hl [] rfl)
        · rw [if_neg c10] at h
          refine lv_aload_n hx hb d_ru_doWhile_33 rfl (lv_at hl 0 rfl) ?_
          replace h := bs2 h
          obtain ⟨x13, w12, hw12, h⟩ := h
          refine cv_ru_61 (As := []) (rest := []) hx hb hml hown hts hK hG hW (c_ru_mayBegin l D cA base hw12) (kb_ru_mayBegin hw12) ⟨by show 0 + 1 ≤ 11 + 1 * (d + 1); omega, by show 8 + (1 + 11) + 0 ≤ 222 + 23 * (d + 1); omega⟩ ⟨Nat.le_of_ble_eq_true rfl, Nat.le_of_ble_eq_true rfl⟩ rfl hl.1 rfl (Nat.le_of_ble_eq_true rfl) d_ru_doWhile_34 (fun H locs hW => ?_)
          refine lv_if_ne (tgt := 42) hx hb d_ru_doWhile_37 (by decide) (fun c14 => ?_) (fun c14 => ?_)
          · rw [if_neg c14] at h
            refine lv_iinc (v := (y3 + (1 : Int32))) (lv' := [(3, .int (y3 + (1 : Int32))), (0, .ref (base + y0)), (1, .ref (base + x6)), (2, .int y2)]) hx hb d_ru_doWhile_42 hl (k := 3) rfl rfl (by decide) rfl (fun ls hl => ?_)
            refine lv_goto (tgt := 2) hx hb d_ru_doWhile_45 (by decide) ?_
            exact ih y0 (some x6) y2 (y3 + (1 : Int32)) w12 h _ _ _ hW (lv_sub hl [1, 2, 3, 0] rfl)
          · rw [if_pos c14] at h
            exact j_ru_doWhile_40 C HG w12 h _ _ _ hW (lv_sub hl [] rfl)
      · rw [if_pos c5] at h
        refine lv_iconst (v := (1 : Int32)) hx hb d_ru_doWhile_17 (by decide) ?_
        replace h := its h
        obtain ⟨c15, h⟩ := h
        cases h
        exact wo_zret hx hb hr hlk hW c15 d_ru_doWhile_18
set_option maxHeartbeats 4000000 in
set_option maxRecDepth 100000 in
theorem co_ru_doWhile (l : Launch) (D : va_G) (cA : Nat → ClassId) (base : Nat) {d : Nat} {g_ru_doStatements : Nat → Option Nat → Int32 → WW → Option ((Int32 ⊕ String) × WW)} {g_ru_doStatement : Nat → Option Nat → Int32 → WW → Option ((Int32 ⊕ String) × WW)} {g_ru_doWhile : Nat → Option Nat → Int32 → WW → Option ((Int32 ⊕ String) × WW)} (HG : sA_ru3 l D cA base d g_ru_doStatements g_ru_doStatement g_ru_doWhile ) {a0 : Nat} {a1 : Option Nat} {a2 : Int32} {w w' : WW} {r : Int32} (h : fo_ru_doWhile g_ru_doStatements g_ru_doStatement g_ru_doWhile a0 a1 a2 w = some (.inl r, w')) : mt l D cls (wo_tys cA) cA base y_ru_doWhile (Cond.code y_ru_doWhile b_ru_doWhile 4 (some .boolean) :: gt) (rm_ru_doWhile (d + 1)) [.ref (base + a0), rb base a1, .int a2] w (some (.int r)) w' (rm_ru_doWhile (d + 1)).cells (rm_ru_doWhile (d + 1)).slots := by
  refine mt_start (by decide) (by simp only [lg_sl_0, lg_sl_1, lg_sl_2, lg_sl_3, lg_sl_rf]; decide) ?_
  intro p e s m below meth c ls hx hb hr hml hown hts hlk hnm hK hG hW hl
  have C : cx b_ru_doWhile (some .boolean) 4 y_ru_doWhile.cls "doWhile" p s m [.ref (base + a0), rb base a1, .int a2].toArray meth c D cA base := ⟨hx, hb, hr, hml, hown, hts, hlk, hnm, hK, hG⟩
  have hl : lv_has ls 4 [(0, .ref (base + a0)), (1, rb base a1), (2, .int a2)] := by simp only [lv_args_0, lv_args_1, lv_args_2, lv_args_3, lv_args_rf] at hl; exact hl
  unfold fo_ru_doWhile at h
  replace h := its h
  obtain ⟨-, h⟩ := h
  refine lv_iconst (v := (0 : Int32)) hx hb d_ru_doWhile_0 (by decide) ?_
  refine lv_istore_n (lv' := [(3, .int (0 : Int32)), (0, .ref (base + a0)), (1, rb base a1), (2, .int a2)]) hx hb d_ru_doWhile_1 rfl hl (by decide) rfl (fun ls hl => ?_)
  exact j_ru_doWhile_2 C HG KK a0 a1 a2 (0 : Int32) w h _ _ _ hW (lv_sub hl [1, 2, 3, 0] rfl)
set_option maxHeartbeats 4000000 in
set_option maxRecDepth 100000 in
theorem jx_ru_doWhile_40 {p : Program} {l : Launch} {e : Env} {s : State} {m : MethodId} {args : Array Value} {below : List Frame} {meth : Method} {c : Code} {D : va_G} {cA : Nat → ClassId} {base : Nat} {E : String} {w' : WW} (C : cx b_ru_doWhile (some .boolean) 4 y_ru_doWhile.cls "doWhile" p s m args meth c D cA base ∧ (∀ x ∈ c.exceptionTable.toList, ∀ k : Nat, covers x k = false) ∧ l.stackTraces = false) {d : Nat} {g_ru_doStatements : Nat → Option Nat → Int32 → WW → Option ((Int32 ⊕ String) × WW)} {g_ru_doStatement : Nat → Option Nat → Int32 → WW → Option ((Int32 ⊕ String) × WW)} {g_ru_doWhile : Nat → Option Nat → Int32 → WW → Option ((Int32 ⊕ String) × WW)} (HG : sA_ru3 l D cA base d g_ru_doStatements g_ru_doStatement g_ru_doWhile ) (HX : sX_ru3 l D cA base d g_ru_doStatements g_ru_doStatement g_ru_doWhile )   : ∀  (w : WW), f_ru_doWhile_40 g_ru_doStatements g_ru_doStatement g_ru_doWhile  w = some (.inr E, w') → ∀ (H : Heap) (locs : List Loc) (ls : Array Slot), wo_S D cls cA base s w H locs → lv_has ls 4 [] → W p l e (rx_ru_doWhile (d + 1)) s m args below meth c H locs 0 0 (XQ below (wo_X D cls cA base E w' (rx_ru_doWhile (d + 1)).cells (rx_ru_doWhile (d + 1)).slots) args s) (F0 m 40 ls []) := by
  obtain ⟨hx, hb, hr, hml, hown, hts, hlk, hnm, hK, hG⟩ := id C.1
  have hnt := C.2.1
  have hst := C.2.2
  intro  w h H locs ls hW hl
  unfold f_ru_doWhile_40 at h
  refine lv_iconst (v := (0 : Int32)) hx hb d_ru_doWhile_40 (by decide) ?_
  replace h := its h
  obtain ⟨c11, h⟩ := h
  cases h
set_option maxHeartbeats 4000000 in
set_option maxRecDepth 100000 in
theorem jx_ru_doWhile_2 {p : Program} {l : Launch} {e : Env} {s : State} {m : MethodId} {args : Array Value} {below : List Frame} {meth : Method} {c : Code} {D : va_G} {cA : Nat → ClassId} {base : Nat} {E : String} {w' : WW} (C : cx b_ru_doWhile (some .boolean) 4 y_ru_doWhile.cls "doWhile" p s m args meth c D cA base ∧ (∀ x ∈ c.exceptionTable.toList, ∀ k : Nat, covers x k = false) ∧ l.stackTraces = false) {d : Nat} {g_ru_doStatements : Nat → Option Nat → Int32 → WW → Option ((Int32 ⊕ String) × WW)} {g_ru_doStatement : Nat → Option Nat → Int32 → WW → Option ((Int32 ⊕ String) × WW)} {g_ru_doWhile : Nat → Option Nat → Int32 → WW → Option ((Int32 ⊕ String) × WW)} (HG : sA_ru3 l D cA base d g_ru_doStatements g_ru_doStatement g_ru_doWhile ) (HX : sX_ru3 l D cA base d g_ru_doStatements g_ru_doStatement g_ru_doWhile )   : ∀ n : Nat, ∀ (y0 : Nat) (y1 : Option Nat) (y2 : Int32) (y3 : Int32) (w : WW), f_ru_doWhile_2 g_ru_doStatements g_ru_doStatement g_ru_doWhile n y0 y1 y2 y3 w = some (.inr E, w') → ∀ (H : Heap) (locs : List Loc) (ls : Array Slot), wo_S D cls cA base s w H locs → lv_has ls 4 [(0, .ref (base + y0)), (1, rb base y1), (2, .int y2), (3, .int y3)] → W p l e (rx_ru_doWhile (d + 1)) s m args below meth c H locs 0 0 (XQ below (wo_X D cls cA base E w' (rx_ru_doWhile (d + 1)).cells (rx_ru_doWhile (d + 1)).slots) args s) (F0 m 2 ls []) := by
  obtain ⟨hx, hb, hr, hml, hown, hts, hlk, hnm, hK, hG⟩ := id C.1
  have hnt := C.2.1
  have hst := C.2.2
  intro n
  induction n with
  | zero => intro y0 y1 y2 y3 w h; cases h
  | succ n ih =>
    intro y0 y1 y2 y3 w h H locs ls hW hl
    rw [f_ru_doWhile_2] at h
    refine lv_iload_n hx hb d_ru_doWhile_2 rfl (lv_at hl 3 rfl) ?_
    refine lv_sipush (v := (500 : Int32)) hx hb d_ru_doWhile_3 (by decide) ?_
    refine lv_icmp_gt (tgt := 48) hx hb d_ru_doWhile_6 (by decide) (fun c1 => ?_) (fun c1 => ?_)
    · rw [if_pos c1] at h
      refine lv_iconst (v := (0 : Int32)) hx hb d_ru_doWhile_48 (by decide) ?_
      replace h := its h
      obtain ⟨c2, h⟩ := h
      cases h
    · rw [if_neg c1] at h
      refine lv_aload_n hx hb d_ru_doWhile_9 rfl (lv_at hl 0 rfl) ?_
      refine wo_aload_n hx hb d_ru_doWhile_10 rfl (lv_at hl 1 rfl) ?_
      rcases bsy h with hw3 | ⟨x4, w3, hw3, hnw3⟩
      · exact xv_ru_101 (As := [rb base y1]) (rest := []) hx hb hml hown hts hK hG hW (x_ru_holds l hst D cA base hw3) (kb_ru_holds hw3) ⟨by show 10 + 1 ≤ 11 + 1 * (d + 1); omega, by show 8 + (4 + 11) + 199 ≤ 222 + 23 * (d + 1); omega⟩ ⟨Nat.le_of_ble_eq_true rfl, Nat.le_of_ble_eq_true rfl⟩ rfl hl.1 rfl (Nat.le_of_ble_eq_true rfl) d_ru_doWhile_11 (fun H locs q ce hW h1 h2 h3 => wo_xout hnt hlk hW h1 h2 h3 (Nat.le_of_ble_eq_true rfl) (Nat.le_of_ble_eq_true rfl))
      clear h
      have h := hnw3
      clear hnw3
      refine cv_ru_101 (As := [rb base y1]) (rest := []) hx hb hml hown hts hK hG hW (c_ru_holds l D cA base hw3) (kb_ru_holds hw3) ⟨by show 10 + 1 ≤ 11 + 1 * (d + 1); omega, by show 8 + (4 + 11) + 199 ≤ 222 + 23 * (d + 1); omega⟩ ⟨Nat.le_of_ble_eq_true rfl, Nat.le_of_ble_eq_true rfl⟩ rfl hl.1 rfl (Nat.le_of_ble_eq_true rfl) d_ru_doWhile_11 (fun H locs hW => ?_)
      refine lv_if_ne (tgt := 19) hx hb d_ru_doWhile_14 (by decide) (fun c5 => ?_) (fun c5 => ?_)
      · rw [if_neg c5] at h
        refine lv_aload_n hx hb d_ru_doWhile_19 rfl (lv_at hl 0 rfl) ?_
        refine wo_aload_n hx hb d_ru_doWhile_20 rfl (lv_at hl 1 rfl) ?_
        replace h := bs h
        obtain ⟨x6, ex6, h⟩ := h
        subst ex6
        replace h := bs h
        obtain ⟨x7, hx7, h⟩ := h
        refine gf_ru_105 hx hb hts hown hK hG hW (gR_s hx7) d_ru_doWhile_21 ?_
        have hl : lv_has ls 4 [(0, .ref (base + y0)), (1, .ref (base + x6)), (2, .int y2), (3, .int y3)] := hl
        refine lv_iload_n hx hb d_ru_doWhile_24 rfl (lv_at hl 2 rfl) ?_
        refine lv_iconst (v := (1 : Int32)) hx hb d_ru_doWhile_25 (by decide) ?_
        refine lv_iadd hx hb d_ru_doWhile_26 ?_
        rcases bsy h with hw8 | ⟨x9, w8, hw8, hnw8⟩
        · exact xv_ru_48 (As := [rb base x7, .int (y2 + (1 : Int32))]) (rest := []) hx hb hml hown hts hK hG hW (HX.1 hw8) (HG.1.2 hw8) ⟨by show 11 + 1 * d + 1 ≤ 11 + 1 * (d + 1); omega, by show 8 + (4 + 11) + (222 + 23 * d) ≤ 222 + 23 * (d + 1); omega⟩ ⟨Nat.le_of_ble_eq_true rfl, Nat.le_of_ble_eq_true rfl⟩ rfl hl.1 rfl (Nat.le_of_ble_eq_true rfl) d_ru_doWhile_27 (fun H locs q ce hW h1 h2 h3 => wo_xout hnt hlk hW h1 h2 h3 (Nat.le_of_ble_eq_true rfl) (Nat.le_of_ble_eq_true rfl))
        clear h
        have h := hnw8
        clear hnw8
        refine cv_ru_48 (As := [rb base x7, .int (y2 + (1 : Int32))]) (rest := []) hx hb hml hown hts hK hG hW (HG.1.1 hw8) (HG.1.2 hw8) ⟨by show 11 + 1 * d + 1 ≤ 11 + 1 * (d + 1); omega, by show 8 + (4 + 11) + (222 + 23 * d) ≤ 222 + 23 * (d + 1); omega⟩ ⟨Nat.le_of_ble_eq_true rfl, Nat.le_of_ble_eq_true rfl⟩ rfl hl.1 rfl (Nat.le_of_ble_eq_true rfl) d_ru_doWhile_27 (fun H locs hW => ?_)
        refine lv_if_eq (tgt := 40) hx hb d_ru_doWhile_30 (by decide) (fun c10 => ?_) (fun c10 => ?_)
        · rw [if_pos c10] at h
          exact jx_ru_doWhile_40 C HG HX w8 h _ _ _ hW (lv_sub hl [] rfl)
        · rw [if_neg c10] at h
          refine lv_aload_n hx hb d_ru_doWhile_33 rfl (lv_at hl 0 rfl) ?_
          replace h := bs2 h
          obtain ⟨x13, w12, hw12, h⟩ := h
          refine cv_ru_61 (As := []) (rest := []) hx hb hml hown hts hK hG hW (c_ru_mayBegin l D cA base hw12) (kb_ru_mayBegin hw12) ⟨by show 0 + 1 ≤ 11 + 1 * (d + 1); omega, by show 8 + (1 + 11) + 0 ≤ 222 + 23 * (d + 1); omega⟩ ⟨Nat.le_of_ble_eq_true rfl, Nat.le_of_ble_eq_true rfl⟩ rfl hl.1 rfl (Nat.le_of_ble_eq_true rfl) d_ru_doWhile_34 (fun H locs hW => ?_)
          refine lv_if_ne (tgt := 42) hx hb d_ru_doWhile_37 (by decide) (fun c14 => ?_) (fun c14 => ?_)
          · rw [if_neg c14] at h
            refine lv_iinc (v := (y3 + (1 : Int32))) (lv' := [(3, .int (y3 + (1 : Int32))), (0, .ref (base + y0)), (1, .ref (base + x6)), (2, .int y2)]) hx hb d_ru_doWhile_42 hl (k := 3) rfl rfl (by decide) rfl (fun ls hl => ?_)
            refine lv_goto (tgt := 2) hx hb d_ru_doWhile_45 (by decide) ?_
            exact ih y0 (some x6) y2 (y3 + (1 : Int32)) w12 h _ _ _ hW (lv_sub hl [1, 2, 3, 0] rfl)
          · rw [if_pos c14] at h
            exact jx_ru_doWhile_40 C HG HX w12 h _ _ _ hW (lv_sub hl [] rfl)
      · rw [if_pos c5] at h
        refine lv_iconst (v := (1 : Int32)) hx hb d_ru_doWhile_17 (by decide) ?_
        replace h := its h
        obtain ⟨c15, h⟩ := h
        cases h
set_option maxHeartbeats 4000000 in
set_option maxRecDepth 100000 in
theorem xo_ru_doWhile (l : Launch) (hst : l.stackTraces = false) (D : va_G) (cA : Nat → ClassId) (base : Nat) {d : Nat} {g_ru_doStatements : Nat → Option Nat → Int32 → WW → Option ((Int32 ⊕ String) × WW)} {g_ru_doStatement : Nat → Option Nat → Int32 → WW → Option ((Int32 ⊕ String) × WW)} {g_ru_doWhile : Nat → Option Nat → Int32 → WW → Option ((Int32 ⊕ String) × WW)} (HG : sA_ru3 l D cA base d g_ru_doStatements g_ru_doStatement g_ru_doWhile ) (HX : sX_ru3 l D cA base d g_ru_doStatements g_ru_doStatement g_ru_doWhile ) {a0 : Nat} {a1 : Option Nat} {a2 : Int32} {w w' : WW} {E : String} (h : fo_ru_doWhile g_ru_doStatements g_ru_doStatement g_ru_doWhile a0 a1 a2 w = some (.inr E, w')) : xt l D cls (wo_tys cA) cA base y_ru_doWhile (Cond.code y_ru_doWhile b_ru_doWhile 4 (some .boolean) :: gt) (rx_ru_doWhile (d + 1)) [.ref (base + a0), rb base a1, .int a2] w E w' (rx_ru_doWhile (d + 1)).cells (rx_ru_doWhile (d + 1)).slots := by
  refine xt_start (by decide) (by simp only [lg_sl_0, lg_sl_1, lg_sl_2, lg_sl_3, lg_sl_rf]; decide) ?_
  intro p e s m below meth c ls hx hb hr hml hown hts hlk hnm hK hG hW hl hnt
  have C : cx b_ru_doWhile (some .boolean) 4 y_ru_doWhile.cls "doWhile" p s m [.ref (base + a0), rb base a1, .int a2].toArray meth c D cA base ∧ (∀ x ∈ c.exceptionTable.toList, ∀ k : Nat, covers x k = false) ∧ l.stackTraces = false := ⟨⟨hx, hb, hr, hml, hown, hts, hlk, hnm, hK, hG⟩, hnt, hst⟩
  have hl : lv_has ls 4 [(0, .ref (base + a0)), (1, rb base a1), (2, .int a2)] := by simp only [lv_args_0, lv_args_1, lv_args_2, lv_args_3, lv_args_rf] at hl; exact hl
  unfold fo_ru_doWhile at h
  replace h := its h
  obtain ⟨-, h⟩ := h
  refine lv_iconst (v := (0 : Int32)) hx hb d_ru_doWhile_0 (by decide) ?_
  refine lv_istore_n (lv' := [(3, .int (0 : Int32)), (0, .ref (base + a0)), (1, rb base a1), (2, .int a2)]) hx hb d_ru_doWhile_1 rfl hl (by decide) rfl (fun ls hl => ?_)
  exact jx_ru_doWhile_2 C HG HX KK a0 a1 a2 (0 : Int32) w h _ _ _ hW (lv_sub hl [1, 2, 3, 0] rfl)
theorem sAll_ru3 (l : Launch) (D : va_G) (cA : Nat → ClassId) (base : Nat) : ∀ d : Nat, sA_ru3 l D cA base d (sc_ru3 d).1 (sc_ru3 d).2.1 (sc_ru3 d).2.2 := by
  intro d
  induction d with
  | zero => exact ⟨⟨(fun h => by cases h), (fun h => by cases h)⟩, ⟨(fun h => by cases h), (fun h => by cases h)⟩, ⟨(fun h => by cases h), (fun h => by cases h)⟩⟩
  | succ d ih => exact ⟨⟨fun h => co_ru_doStatements l D cA base ih h, fun h => kbo_ru_doStatements (g_ru_doStatements := (sc_ru3 d).1) (g_ru_doStatement := (sc_ru3 d).2.1) (g_ru_doWhile := (sc_ru3 d).2.2) h⟩, ⟨fun h => co_ru_doStatement l D cA base ih h, fun h => kbo_ru_doStatement (g_ru_doStatements := (sc_ru3 d).1) (g_ru_doStatement := (sc_ru3 d).2.1) (g_ru_doWhile := (sc_ru3 d).2.2) h⟩, ⟨fun h => co_ru_doWhile l D cA base ih h, fun h => kbo_ru_doWhile (g_ru_doStatements := (sc_ru3 d).1) (g_ru_doStatement := (sc_ru3 d).2.1) (g_ru_doWhile := (sc_ru3 d).2.2) h⟩⟩
theorem sXll_ru3 (l : Launch) (hst : l.stackTraces = false) (D : va_G) (cA : Nat → ClassId) (base : Nat) : ∀ d : Nat, sX_ru3 l D cA base d (sc_ru3 d).1 (sc_ru3 d).2.1 (sc_ru3 d).2.2 := by
  intro d
  induction d with
  | zero => exact ⟨(fun h => by cases h), (fun h => by cases h), (fun h => by cases h)⟩
  | succ d ih => exact ⟨fun h => xo_ru_doStatements l hst D cA base (sAll_ru3 l D cA base d) ih h, fun h => xo_ru_doStatement l hst D cA base (sAll_ru3 l D cA base d) ih h, fun h => xo_ru_doWhile l hst D cA base (sAll_ru3 l D cA base d) ih h⟩
theorem c_ru_doStatements (l : Launch) (D : va_G) (cA : Nat → ClassId) (base : Nat) {d : Nat} : ∀ {a0 : Nat} {a1 : Option Nat} {a2 : Int32} {w w' : WW} {r : Int32}, f_ru_doStatements d a0 a1 a2 w = some (.inl r, w') → mt l D cls (wo_tys cA) cA base y_ru_doStatements (Cond.code y_ru_doStatements b_ru_doStatements 4 (some .boolean) :: gt) (rm_ru_doStatements d) [.ref (base + a0), rb base a1, .int a2] w (some (.int r)) w' (rm_ru_doStatements d).cells (rm_ru_doStatements d).slots := (sAll_ru3 l D cA base d).1.1
theorem kb_ru_doStatements {d : Nat} : ∀ {a0 : Nat} {a1 : Option Nat} {a2 : Int32} {w : WW} {r : ((Int32 ⊕ String) × WW)}, f_ru_doStatements d a0 a1 a2 w = some r → kb w a0 5 = true := by
  intro a0 a1 a2 w r h
  cases d with
  | zero => cases h
  | succ d => exact kbo_ru_doStatements (g_ru_doStatements := (sc_ru3 d).1) (g_ru_doStatement := (sc_ru3 d).2.1) (g_ru_doWhile := (sc_ru3 d).2.2) h
theorem x_ru_doStatements (l : Launch) (hst : l.stackTraces = false) (D : va_G) (cA : Nat → ClassId) (base : Nat) {d : Nat} : ∀ {a0 : Nat} {a1 : Option Nat} {a2 : Int32} {w w' : WW} {E : String}, f_ru_doStatements d a0 a1 a2 w = some (.inr E, w') → xt l D cls (wo_tys cA) cA base y_ru_doStatements (Cond.code y_ru_doStatements b_ru_doStatements 4 (some .boolean) :: gt) (rx_ru_doStatements d) [.ref (base + a0), rb base a1, .int a2] w E w' (rx_ru_doStatements d).cells (rx_ru_doStatements d).slots := (sXll_ru3 l hst D cA base d).1
theorem c_ru_doStatement (l : Launch) (D : va_G) (cA : Nat → ClassId) (base : Nat) {d : Nat} : ∀ {a0 : Nat} {a1 : Option Nat} {a2 : Int32} {w w' : WW} {r : Int32}, f_ru_doStatement d a0 a1 a2 w = some (.inl r, w') → mt l D cls (wo_tys cA) cA base y_ru_doStatement (Cond.code y_ru_doStatement b_ru_doStatement 3 (some .boolean) :: gt) (rm_ru_doStatement d) [.ref (base + a0), rb base a1, .int a2] w (some (.int r)) w' (rm_ru_doStatement d).cells (rm_ru_doStatement d).slots := (sAll_ru3 l D cA base d).2.1.1
theorem kb_ru_doStatement {d : Nat} : ∀ {a0 : Nat} {a1 : Option Nat} {a2 : Int32} {w : WW} {r : ((Int32 ⊕ String) × WW)}, f_ru_doStatement d a0 a1 a2 w = some r → kb w a0 5 = true := by
  intro a0 a1 a2 w r h
  cases d with
  | zero => cases h
  | succ d => exact kbo_ru_doStatement (g_ru_doStatements := (sc_ru3 d).1) (g_ru_doStatement := (sc_ru3 d).2.1) (g_ru_doWhile := (sc_ru3 d).2.2) h
theorem x_ru_doStatement (l : Launch) (hst : l.stackTraces = false) (D : va_G) (cA : Nat → ClassId) (base : Nat) {d : Nat} : ∀ {a0 : Nat} {a1 : Option Nat} {a2 : Int32} {w w' : WW} {E : String}, f_ru_doStatement d a0 a1 a2 w = some (.inr E, w') → xt l D cls (wo_tys cA) cA base y_ru_doStatement (Cond.code y_ru_doStatement b_ru_doStatement 3 (some .boolean) :: gt) (rx_ru_doStatement d) [.ref (base + a0), rb base a1, .int a2] w E w' (rx_ru_doStatement d).cells (rx_ru_doStatement d).slots := (sXll_ru3 l hst D cA base d).2.1
theorem c_ru_doWhile (l : Launch) (D : va_G) (cA : Nat → ClassId) (base : Nat) {d : Nat} : ∀ {a0 : Nat} {a1 : Option Nat} {a2 : Int32} {w w' : WW} {r : Int32}, f_ru_doWhile d a0 a1 a2 w = some (.inl r, w') → mt l D cls (wo_tys cA) cA base y_ru_doWhile (Cond.code y_ru_doWhile b_ru_doWhile 4 (some .boolean) :: gt) (rm_ru_doWhile d) [.ref (base + a0), rb base a1, .int a2] w (some (.int r)) w' (rm_ru_doWhile d).cells (rm_ru_doWhile d).slots := (sAll_ru3 l D cA base d).2.2.1
theorem kb_ru_doWhile {d : Nat} : ∀ {a0 : Nat} {a1 : Option Nat} {a2 : Int32} {w : WW} {r : ((Int32 ⊕ String) × WW)}, f_ru_doWhile d a0 a1 a2 w = some r → kb w a0 5 = true := by
  intro a0 a1 a2 w r h
  cases d with
  | zero => cases h
  | succ d => exact kbo_ru_doWhile (g_ru_doStatements := (sc_ru3 d).1) (g_ru_doStatement := (sc_ru3 d).2.1) (g_ru_doWhile := (sc_ru3 d).2.2) h
theorem x_ru_doWhile (l : Launch) (hst : l.stackTraces = false) (D : va_G) (cA : Nat → ClassId) (base : Nat) {d : Nat} : ∀ {a0 : Nat} {a1 : Option Nat} {a2 : Int32} {w w' : WW} {E : String}, f_ru_doWhile d a0 a1 a2 w = some (.inr E, w') → xt l D cls (wo_tys cA) cA base y_ru_doWhile (Cond.code y_ru_doWhile b_ru_doWhile 4 (some .boolean) :: gt) (rx_ru_doWhile d) [.ref (base + a0), rb base a1, .int a2] w E w' (rx_ru_doWhile d).cells (rx_ru_doWhile d).slots := (sXll_ru3 l hst D cA base d).2.2
