/-! Methods as functions, and their contracts (by wip/gen/run.py). -/
abbrev b_q_under : ByteArray := prog_11_method_76_code
def y_q_under : MethodName := ⟨"AlarmForgeModel", "under", "(III)V"⟩
def rm_q_under : Room := { frames := 2, cells := 0, slots := 0, locals := 66 }
theorem d_q_under_0 : decode b_q_under 0 = .ok (.aload_n 0, 1) := by decide +kernel
theorem d_q_under_1 : decode b_q_under 1 = .ok (.getfield 121, 3) := by decide +kernel
theorem d_q_under_4 : decode b_q_under 4 = .ok (.iload_n 1, 1) := by decide +kernel
theorem d_q_under_5 : decode b_q_under 5 = .ok (.laload, 1) := by decide +kernel
theorem d_q_under_6 : decode b_q_under 6 = .ok (.aload_n 0, 1) := by decide +kernel
theorem d_q_under_7 : decode b_q_under 7 = .ok (.getfield 121, 3) := by decide +kernel
theorem d_q_under_10 : decode b_q_under 10 = .ok (.iload_n 2, 1) := by decide +kernel
theorem d_q_under_11 : decode b_q_under 11 = .ok (.laload, 1) := by decide +kernel
theorem d_q_under_12 : decode b_q_under 12 = .ok (.iload_n 3, 1) := by decide +kernel
theorem d_q_under_13 : decode b_q_under 13 = .ok (.i2l, 1) := by decide +kernel
theorem d_q_under_14 : decode b_q_under 14 = .ok (.lsub, 1) := by decide +kernel
theorem d_q_under_15 : decode b_q_under 15 = .ok (.invokestatic 432, 3) := by decide +kernel
theorem d_q_under_18 : decode b_q_under 18 = .ok (.lstore 4, 2) := by decide +kernel
theorem d_q_under_20 : decode b_q_under 20 = .ok (.aload_n 0, 1) := by decide +kernel
theorem d_q_under_21 : decode b_q_under 21 = .ok (.getfield 117, 3) := by decide +kernel
theorem d_q_under_24 : decode b_q_under 24 = .ok (.iload_n 2, 1) := by decide +kernel
theorem d_q_under_25 : decode b_q_under 25 = .ok (.laload, 1) := by decide +kernel
theorem d_q_under_26 : decode b_q_under 26 = .ok (.aload_n 0, 1) := by decide +kernel
theorem d_q_under_27 : decode b_q_under 27 = .ok (.getfield 117, 3) := by decide +kernel
theorem d_q_under_30 : decode b_q_under 30 = .ok (.iload_n 1, 1) := by decide +kernel
theorem d_q_under_31 : decode b_q_under 31 = .ok (.laload, 1) := by decide +kernel
theorem d_q_under_32 : decode b_q_under 32 = .ok (.iload_n 3, 1) := by decide +kernel
theorem d_q_under_33 : decode b_q_under 33 = .ok (.i2l, 1) := by decide +kernel
theorem d_q_under_34 : decode b_q_under 34 = .ok (.ladd, 1) := by decide +kernel
theorem d_q_under_35 : decode b_q_under 35 = .ok (.invokestatic 435, 3) := by decide +kernel
theorem d_q_under_38 : decode b_q_under 38 = .ok (.lstore 6, 2) := by decide +kernel
theorem d_q_under_40 : decode b_q_under 40 = .ok (.aload_n 0, 1) := by decide +kernel
theorem d_q_under_41 : decode b_q_under 41 = .ok (.getfield 117, 3) := by decide +kernel
theorem d_q_under_44 : decode b_q_under 44 = .ok (.iload_n 1, 1) := by decide +kernel
theorem d_q_under_45 : decode b_q_under 45 = .ok (.laload, 1) := by decide +kernel
theorem d_q_under_46 : decode b_q_under 46 = .ok (.lload 4, 2) := by decide +kernel
theorem d_q_under_48 : decode b_q_under 48 = .ok (.lcmp, 1) := by decide +kernel
theorem d_q_under_49 : decode b_q_under 49 = .ok (.ifCond .le (11), 3) := by decide +kernel
theorem d_q_under_52 : decode b_q_under 52 = .ok (.aload_n 0, 1) := by decide +kernel
theorem d_q_under_53 : decode b_q_under 53 = .ok (.iload_n 1, 1) := by decide +kernel
theorem d_q_under_54 : decode b_q_under 54 = .ok (.invokevirtual 393, 3) := by decide +kernel
theorem d_q_under_57 : decode b_q_under 57 = .ok (.goto (28), 3) := by decide +kernel
theorem d_q_under_60 : decode b_q_under 60 = .ok (.aload_n 0, 1) := by decide +kernel
theorem d_q_under_61 : decode b_q_under 61 = .ok (.iload_n 1, 1) := by decide +kernel
theorem d_q_under_62 : decode b_q_under 62 = .ok (.aload_n 0, 1) := by decide +kernel
theorem d_q_under_63 : decode b_q_under 63 = .ok (.getfield 117, 3) := by decide +kernel
theorem d_q_under_66 : decode b_q_under 66 = .ok (.iload_n 1, 1) := by decide +kernel
theorem d_q_under_67 : decode b_q_under 67 = .ok (.laload, 1) := by decide +kernel
theorem d_q_under_68 : decode b_q_under 68 = .ok (.lload 4, 2) := by decide +kernel
theorem d_q_under_70 : decode b_q_under 70 = .ok (.aload_n 0, 1) := by decide +kernel
theorem d_q_under_71 : decode b_q_under 71 = .ok (.getfield 124, 3) := by decide +kernel
theorem d_q_under_74 : decode b_q_under 74 = .ok (.iload_n 1, 1) := by decide +kernel
theorem d_q_under_75 : decode b_q_under 75 = .ok (.laload, 1) := by decide +kernel
theorem d_q_under_76 : decode b_q_under 76 = .ok (.aload_n 0, 1) := by decide +kernel
theorem d_q_under_77 : decode b_q_under 77 = .ok (.getfield 127, 3) := by decide +kernel
theorem d_q_under_80 : decode b_q_under 80 = .ok (.iload_n 1, 1) := by decide +kernel
theorem d_q_under_81 : decode b_q_under 81 = .ok (.laload, 1) := by decide +kernel
theorem d_q_under_82 : decode b_q_under 82 = .ok (.invokevirtual 406, 3) := by decide +kernel
theorem d_q_under_85 : decode b_q_under 85 = .ok (.lload 6, 2) := by decide +kernel
theorem d_q_under_87 : decode b_q_under 87 = .ok (.aload_n 0, 1) := by decide +kernel
theorem d_q_under_88 : decode b_q_under 88 = .ok (.getfield 121, 3) := by decide +kernel
theorem d_q_under_91 : decode b_q_under 91 = .ok (.iload_n 2, 1) := by decide +kernel
theorem d_q_under_92 : decode b_q_under 92 = .ok (.laload, 1) := by decide +kernel
theorem d_q_under_93 : decode b_q_under 93 = .ok (.lcmp, 1) := by decide +kernel
theorem d_q_under_94 : decode b_q_under 94 = .ok (.ifCond .le (11), 3) := by decide +kernel
theorem d_q_under_97 : decode b_q_under 97 = .ok (.aload_n 0, 1) := by decide +kernel
theorem d_q_under_98 : decode b_q_under 98 = .ok (.iload_n 2, 1) := by decide +kernel
theorem d_q_under_99 : decode b_q_under 99 = .ok (.invokevirtual 393, 3) := by decide +kernel
theorem d_q_under_102 : decode b_q_under 102 = .ok (.goto (28), 3) := by decide +kernel
theorem d_q_under_105 : decode b_q_under 105 = .ok (.aload_n 0, 1) := by decide +kernel
theorem d_q_under_106 : decode b_q_under 106 = .ok (.iload_n 2, 1) := by decide +kernel
theorem d_q_under_107 : decode b_q_under 107 = .ok (.lload 6, 2) := by decide +kernel
theorem d_q_under_109 : decode b_q_under 109 = .ok (.aload_n 0, 1) := by decide +kernel
theorem d_q_under_110 : decode b_q_under 110 = .ok (.getfield 121, 3) := by decide +kernel
theorem d_q_under_113 : decode b_q_under 113 = .ok (.iload_n 2, 1) := by decide +kernel
theorem d_q_under_114 : decode b_q_under 114 = .ok (.laload, 1) := by decide +kernel
theorem d_q_under_115 : decode b_q_under 115 = .ok (.aload_n 0, 1) := by decide +kernel
theorem d_q_under_116 : decode b_q_under 116 = .ok (.getfield 124, 3) := by decide +kernel
theorem d_q_under_119 : decode b_q_under 119 = .ok (.iload_n 2, 1) := by decide +kernel
theorem d_q_under_120 : decode b_q_under 120 = .ok (.laload, 1) := by decide +kernel
theorem d_q_under_121 : decode b_q_under 121 = .ok (.aload_n 0, 1) := by decide +kernel
theorem d_q_under_122 : decode b_q_under 122 = .ok (.getfield 127, 3) := by decide +kernel
theorem d_q_under_125 : decode b_q_under 125 = .ok (.iload_n 2, 1) := by decide +kernel
theorem d_q_under_126 : decode b_q_under 126 = .ok (.laload, 1) := by decide +kernel
theorem d_q_under_127 : decode b_q_under 127 = .ok (.invokevirtual 406, 3) := by decide +kernel
theorem d_q_under_130 : decode b_q_under 130 = .ok (.return_, 1) := by decide +kernel
theorem kb_q_under {a0 : Nat} {a1 : Int32} {a2 : Int32} {a3 : Int32} {w : WW} {r : WW} (h : f_q_under a0 a1 a2 a3 w = some r) : kb w a0 9 = true := (its h).1
set_option maxHeartbeats 4000000 in
set_option maxRecDepth 100000 in
theorem j_q_under_130 {p : Program} {l : Launch} {e : Env} {s : State} {m : MethodId} {args : Array Value} {below : List Frame} {meth : Method} {c : Code} {D : va_G} {cA : Nat → ClassId} {base : Nat} {w' : WW} (C : cx b_q_under (none) 8 y_q_under.cls "under" p s m args meth c D cA base)   : ∀  (w : WW), f_q_under_130  w = some w' → ∀ (H : Heap) (locs : List Loc) (ls : Array Slot), wo_S D cls cA base s w H locs → lv_has ls 8 [] → W p l e rm_q_under s m args below meth c H locs 0 0 (MQ below (wo_Q D cls cA base none w') args s rm_q_under.cells rm_q_under.slots (wo_B base)) (F0 m 130 ls []) := by
  obtain ⟨hx, hb, hr, hml, hown, hts, hlk, hnm, hK, hG⟩ := id C
  intro  w h H locs ls hW hl
  unfold f_q_under_130 at h
  cases h
  exact wo_vret hx hb hr hlk hW d_q_under_130
set_option maxHeartbeats 4000000 in
set_option maxRecDepth 100000 in
theorem j_q_under_85 {p : Program} {l : Launch} {e : Env} {s : State} {m : MethodId} {args : Array Value} {below : List Frame} {meth : Method} {c : Code} {D : va_G} {cA : Nat → ClassId} {base : Nat} {w' : WW} (C : cx b_q_under (none) 8 y_q_under.cls "under" p s m args meth c D cA base)   : ∀ (y0 : Nat) (y2 : Int32) (y6 : Int64) (w : WW), f_q_under_85 y0 y2 y6 w = some w' → ∀ (H : Heap) (locs : List Loc) (ls : Array Slot), wo_S D cls cA base s w H locs → lv_has ls 8 [(0, .ref (base + y0)), (2, .int y2), (6, .long y6)] → W p l e rm_q_under s m args below meth c H locs 0 0 (MQ below (wo_Q D cls cA base none w') args s rm_q_under.cells rm_q_under.slots (wo_B base)) (F0 m 85 ls []) := by
  obtain ⟨hx, hb, hr, hml, hown, hts, hlk, hnm, hK, hG⟩ := id C
  intro y0 y2 y6 w h H locs ls hW hl
  unfold f_q_under_85 at h
  refine lv_lload hx hb d_q_under_85 (lv_at hl 2 rfl) ?_
  refine lv_aload_n hx hb d_q_under_87 rfl (lv_at hl 0 rfl) ?_
  replace h := bs h
  obtain ⟨x23, hx23, h⟩ := h
  refine gf_q_121 hx hb hts hown hK hG hW (gN_s hx23) d_q_under_88 ?_
  refine lv_iload_n hx hb d_q_under_91 rfl (lv_at hl 1 rfl) ?_
  replace h := bs h
  obtain ⟨x24, hx24, h⟩ := h
  refine wo_lald hx hb hK hW (t := 1) rfl hx24 d_q_under_92 ?_
  refine lc_le (tgt := 105) hx hb d_q_under_93 d_q_under_94 (by decide) (fun c25 => ?_) (fun c25 => ?_)
  · rw [if_pos c25] at h
    refine lv_aload_n hx hb d_q_under_105 rfl (lv_at hl 0 rfl) ?_
    refine lv_iload_n hx hb d_q_under_106 rfl (lv_at hl 1 rfl) ?_
    refine lv_lload hx hb d_q_under_107 (lv_at hl 2 rfl) ?_
    refine lv_aload_n hx hb d_q_under_109 rfl (lv_at hl 0 rfl) ?_
    replace h := bs h
    obtain ⟨x26, hx26, h⟩ := h
    refine gf_q_121 hx hb hts hown hK hG hW (gN_s hx26) d_q_under_110 ?_
    refine lv_iload_n hx hb d_q_under_113 rfl (lv_at hl 1 rfl) ?_
    replace h := bs h
    obtain ⟨x27, hx27, h⟩ := h
    refine wo_lald hx hb hK hW (t := 1) rfl hx27 d_q_under_114 ?_
    refine lv_aload_n hx hb d_q_under_115 rfl (lv_at hl 0 rfl) ?_
    replace h := bs h
    obtain ⟨x28, hx28, h⟩ := h
    refine gf_q_124 hx hb hts hown hK hG hW (gN_s hx28) d_q_under_116 ?_
    refine lv_iload_n hx hb d_q_under_119 rfl (lv_at hl 1 rfl) ?_
    replace h := bs h
    obtain ⟨x29, hx29, h⟩ := h
    refine wo_lald hx hb hK hW (t := 1) rfl hx29 d_q_under_120 ?_
    refine lv_aload_n hx hb d_q_under_121 rfl (lv_at hl 0 rfl) ?_
    replace h := bs h
    obtain ⟨x30, hx30, h⟩ := h
    refine gf_q_127 hx hb hts hown hK hG hW (gN_s hx30) d_q_under_122 ?_
    refine lv_iload_n hx hb d_q_under_125 rfl (lv_at hl 1 rfl) ?_
    replace h := bs h
    obtain ⟨x31, hx31, h⟩ := h
    refine wo_lald hx hb hK hW (t := 1) rfl hx31 d_q_under_126 ?_
    replace h := bs h
    obtain ⟨w32, hw32, h⟩ := h
    refine cv_q_406 (As := [.int y2, .long y6, .long x27, .long x29, .long x31]) (rest := []) hx hb hml hown hts hK hG hW (c_q_put l D cA base hw32) (kb_q_put hw32) ⟨Nat.le_of_ble_eq_true rfl, Nat.le_of_ble_eq_true rfl⟩ ⟨Nat.le_of_ble_eq_true rfl, Nat.le_of_ble_eq_true rfl⟩ rfl hl.1 rfl (Nat.le_of_ble_eq_true rfl) d_q_under_127 (fun H locs hW => ?_)
    exact j_q_under_130 C w32 h _ _ _ hW (lv_sub hl [] rfl)
  · rw [if_neg c25] at h
    refine lv_aload_n hx hb d_q_under_97 rfl (lv_at hl 0 rfl) ?_
    refine lv_iload_n hx hb d_q_under_98 rfl (lv_at hl 1 rfl) ?_
    replace h := bs h
    obtain ⟨w33, hw33, h⟩ := h
    refine cv_q_393 (As := [.int y2]) (rest := []) hx hb hml hown hts hK hG hW (c_q_none l D cA base hw33) (kb_q_none hw33) ⟨Nat.le_of_ble_eq_true rfl, Nat.le_of_ble_eq_true rfl⟩ ⟨Nat.le_of_ble_eq_true rfl, Nat.le_of_ble_eq_true rfl⟩ rfl hl.1 rfl (Nat.le_of_ble_eq_true rfl) d_q_under_99 (fun H locs hW => ?_)
    refine lv_goto (tgt := 130) hx hb d_q_under_102 (by decide) ?_
    exact j_q_under_130 C w33 h _ _ _ hW (lv_sub hl [] rfl)
set_option maxHeartbeats 4000000 in
set_option maxRecDepth 100000 in
theorem c_q_under (l : Launch) (D : va_G) (cA : Nat → ClassId) (base : Nat) {a0 : Nat} {a1 : Int32} {a2 : Int32} {a3 : Int32} {w w' : WW} (h : f_q_under a0 a1 a2 a3 w = some w') : mt l D cls (wo_tys cA) cA base y_q_under (Cond.code y_q_under b_q_under 8 (none) :: gt) rm_q_under [.ref (base + a0), .int a1, .int a2, .int a3] w none w' rm_q_under.cells rm_q_under.slots := by
  refine mt_start (by decide) (Nat.le_of_ble_eq_true rfl) ?_
  intro p e s m below meth c ls hx hb hr hml hown hts hlk hnm hK hG hW hl
  have C : cx b_q_under (none) 8 y_q_under.cls "under" p s m [.ref (base + a0), .int a1, .int a2, .int a3].toArray meth c D cA base := ⟨hx, hb, hr, hml, hown, hts, hlk, hnm, hK, hG⟩
  have hl : lv_has ls 8 [(0, .ref (base + a0)), (1, .int a1), (2, .int a2), (3, .int a3)] := hl
  unfold f_q_under at h
  replace h := its h
  obtain ⟨-, h⟩ := h
  refine lv_aload_n hx hb d_q_under_0 rfl (lv_at hl 0 rfl) ?_
  replace h := bs h
  obtain ⟨x1, hx1, h⟩ := h
  refine gf_q_121 hx hb hts hown hK hG hW (gN_s hx1) d_q_under_1 ?_
  refine lv_iload_n hx hb d_q_under_4 rfl (lv_at hl 1 rfl) ?_
  replace h := bs h
  obtain ⟨x2, hx2, h⟩ := h
  refine wo_lald hx hb hK hW (t := 1) rfl hx2 d_q_under_5 ?_
  refine lv_aload_n hx hb d_q_under_6 rfl (lv_at hl 0 rfl) ?_
  replace h := bs h
  obtain ⟨x3, hx3, h⟩ := h
  refine gf_q_121 hx hb hts hown hK hG hW (gN_s hx3) d_q_under_7 ?_
  refine lv_iload_n hx hb d_q_under_10 rfl (lv_at hl 2 rfl) ?_
  replace h := bs h
  obtain ⟨x4, hx4, h⟩ := h
  refine wo_lald hx hb hK hW (t := 1) rfl hx4 d_q_under_11 ?_
  refine lv_iload_n hx hb d_q_under_12 rfl (lv_at hl 3 rfl) ?_
  refine lv_i2l hx hb d_q_under_13 rfl ?_
  refine lv_lsub hx hb d_q_under_14 ?_
  replace h := bs2 h
  obtain ⟨x6, w5, hw5, h⟩ := h
  refine cs_q_432 (As := [.long x2, .long (x4 - (Int32.toInt64 a3))]) (rest := []) hx hb hml hown hts hK hG hW (c_q_min l D cA base hw5) ⟨Nat.le_of_ble_eq_true rfl, Nat.le_of_ble_eq_true rfl⟩ ⟨Nat.le_of_ble_eq_true rfl, Nat.le_of_ble_eq_true rfl⟩ rfl hl.1 rfl (Nat.le_of_ble_eq_true rfl) d_q_under_15 (fun H locs hW => ?_)
  refine lv_lstore (lv' := [(4, .long x6), (0, .ref (base + a0)), (1, .int a1), (2, .int a2), (3, .int a3)]) hx hb d_q_under_18 hl (by decide) rfl (fun ls hl => ?_)
  refine lv_aload_n hx hb d_q_under_20 rfl (lv_at hl 1 rfl) ?_
  replace h := bs h
  obtain ⟨x7, hx7, h⟩ := h
  refine gf_q_117 hx hb hts hown hK hG hW (gN_s hx7) d_q_under_21 ?_
  refine lv_iload_n hx hb d_q_under_24 rfl (lv_at hl 3 rfl) ?_
  replace h := bs h
  obtain ⟨x8, hx8, h⟩ := h
  refine wo_lald hx hb hK hW (t := 1) rfl hx8 d_q_under_25 ?_
  refine lv_aload_n hx hb d_q_under_26 rfl (lv_at hl 1 rfl) ?_
  replace h := bs h
  obtain ⟨x9, hx9, h⟩ := h
  refine gf_q_117 hx hb hts hown hK hG hW (gN_s hx9) d_q_under_27 ?_
  refine lv_iload_n hx hb d_q_under_30 rfl (lv_at hl 2 rfl) ?_
  replace h := bs h
  obtain ⟨x10, hx10, h⟩ := h
  refine wo_lald hx hb hK hW (t := 1) rfl hx10 d_q_under_31 ?_
  refine lv_iload_n hx hb d_q_under_32 rfl (lv_at hl 4 rfl) ?_
  refine lv_i2l hx hb d_q_under_33 rfl ?_
  refine lv_ladd hx hb d_q_under_34 ?_
  replace h := bs2 h
  obtain ⟨x12, w11, hw11, h⟩ := h
  refine cs_q_435 (As := [.long x8, .long (x10 + (Int32.toInt64 a3))]) (rest := []) hx hb hml hown hts hK hG hW (c_q_max l D cA base hw11) ⟨Nat.le_of_ble_eq_true rfl, Nat.le_of_ble_eq_true rfl⟩ ⟨Nat.le_of_ble_eq_true rfl, Nat.le_of_ble_eq_true rfl⟩ rfl hl.1 rfl (Nat.le_of_ble_eq_true rfl) d_q_under_35 (fun H locs hW => ?_)
  refine lv_lstore (lv' := [(6, .long x12), (4, .long x6), (0, .ref (base + a0)), (1, .int a1), (2, .int a2), (3, .int a3)]) hx hb d_q_under_38 hl (by decide) rfl (fun ls hl => ?_)
  refine lv_aload_n hx hb d_q_under_40 rfl (lv_at hl 2 rfl) ?_
  replace h := bs h
  obtain ⟨x13, hx13, h⟩ := h
  refine gf_q_117 hx hb hts hown hK hG hW (gN_s hx13) d_q_under_41 ?_
  refine lv_iload_n hx hb d_q_under_44 rfl (lv_at hl 3 rfl) ?_
  replace h := bs h
  obtain ⟨x14, hx14, h⟩ := h
  refine wo_lald hx hb hK hW (t := 1) rfl hx14 d_q_under_45 ?_
  refine lv_lload hx hb d_q_under_46 (lv_at hl 1 rfl) ?_
  refine lc_le (tgt := 60) hx hb d_q_under_48 d_q_under_49 (by decide) (fun c15 => ?_) (fun c15 => ?_)
  · rw [if_pos c15] at h
    refine lv_aload_n hx hb d_q_under_60 rfl (lv_at hl 2 rfl) ?_
    refine lv_iload_n hx hb d_q_under_61 rfl (lv_at hl 3 rfl) ?_
    refine lv_aload_n hx hb d_q_under_62 rfl (lv_at hl 2 rfl) ?_
    replace h := bs h
    obtain ⟨x16, hx16, h⟩ := h
    refine gf_q_117 hx hb hts hown hK hG hW (gN_s hx16) d_q_under_63 ?_
    refine lv_iload_n hx hb d_q_under_66 rfl (lv_at hl 3 rfl) ?_
    replace h := bs h
    obtain ⟨x17, hx17, h⟩ := h
    refine wo_lald hx hb hK hW (t := 1) rfl hx17 d_q_under_67 ?_
    refine lv_lload hx hb d_q_under_68 (lv_at hl 1 rfl) ?_
    refine lv_aload_n hx hb d_q_under_70 rfl (lv_at hl 2 rfl) ?_
    replace h := bs h
    obtain ⟨x18, hx18, h⟩ := h
    refine gf_q_124 hx hb hts hown hK hG hW (gN_s hx18) d_q_under_71 ?_
    refine lv_iload_n hx hb d_q_under_74 rfl (lv_at hl 3 rfl) ?_
    replace h := bs h
    obtain ⟨x19, hx19, h⟩ := h
    refine wo_lald hx hb hK hW (t := 1) rfl hx19 d_q_under_75 ?_
    refine lv_aload_n hx hb d_q_under_76 rfl (lv_at hl 2 rfl) ?_
    replace h := bs h
    obtain ⟨x20, hx20, h⟩ := h
    refine gf_q_127 hx hb hts hown hK hG hW (gN_s hx20) d_q_under_77 ?_
    refine lv_iload_n hx hb d_q_under_80 rfl (lv_at hl 3 rfl) ?_
    replace h := bs h
    obtain ⟨x21, hx21, h⟩ := h
    refine wo_lald hx hb hK hW (t := 1) rfl hx21 d_q_under_81 ?_
    replace h := bs h
    obtain ⟨w22, hw22, h⟩ := h
    refine cv_q_406 (As := [.int a1, .long x17, .long x6, .long x19, .long x21]) (rest := []) hx hb hml hown hts hK hG hW (c_q_put l D cA base hw22) (kb_q_put hw22) ⟨Nat.le_of_ble_eq_true rfl, Nat.le_of_ble_eq_true rfl⟩ ⟨Nat.le_of_ble_eq_true rfl, Nat.le_of_ble_eq_true rfl⟩ rfl hl.1 rfl (Nat.le_of_ble_eq_true rfl) d_q_under_82 (fun H locs hW => ?_)
    exact j_q_under_85 C a0 a2 x12 w22 h _ _ _ hW (lv_sub hl [2, 4, 0] rfl)
  · rw [if_neg c15] at h
    refine lv_aload_n hx hb d_q_under_52 rfl (lv_at hl 2 rfl) ?_
    refine lv_iload_n hx hb d_q_under_53 rfl (lv_at hl 3 rfl) ?_
    replace h := bs h
    obtain ⟨w34, hw34, h⟩ := h
    refine cv_q_393 (As := [.int a1]) (rest := []) hx hb hml hown hts hK hG hW (c_q_none l D cA base hw34) (kb_q_none hw34) ⟨Nat.le_of_ble_eq_true rfl, Nat.le_of_ble_eq_true rfl⟩ ⟨Nat.le_of_ble_eq_true rfl, Nat.le_of_ble_eq_true rfl⟩ rfl hl.1 rfl (Nat.le_of_ble_eq_true rfl) d_q_under_54 (fun H locs hW => ?_)
    refine lv_goto (tgt := 85) hx hb d_q_under_57 (by decide) ?_
    exact j_q_under_85 C a0 a2 x12 w34 h _ _ _ hW (lv_sub hl [2, 4, 0] rfl)
theorem cv_q_467 {p : Program} {l : Launch} {e : Env} {R : Room} {s : State} {m : MethodId} {args : Array Value} {below : List Frame} {meth : Method} {c : Code} {H : Heap} {locs : List Loc} {cells slots : Nat} {Q : State → Prop} {D : va_G} {cA : Nat → ClassId} {base : Nat} {w w' : WW} {cc : ByteArray} {pc nL : Nat} {ls : Array Slot} {rest st0 As : List Value} {ov : Option Value} {b : Nat} (hx : p.tables.exec = Jvm.exec) (hb : c.code = cc) (hml : c.maxLocals = nL) (hown : s.vm.findClass Rc_q = some m.cls) (hts : ∀ w ∈ gt, w.before args s = true) (hK : va_K D cls (wo_tys cA) s) (hG : wo_G cA base s) (hW : wo_S D cls cA base s w H locs) (hM : mt l D cls (wo_tys cA) cA base y_q_look (Cond.code y_q_look b_q_look 8 (some .boolean) :: gt) rm_q_look (.ref (base + b) :: As) w ov w' rm_q_look.cells rm_q_look.slots) (hkb : kb w b 9 = true) (hR : rm_q_look.frames + 1 ≤ R.frames ∧ 8 + (8 + 11) + rm_q_look.locals ≤ R.locals) (hf : cells + rm_q_look.cells ≤ R.cells ∧ slots + rm_q_look.slots ≤ R.slots) (hn : As.length = 3) (hsz : ls.size = nL) (hst : st0 = As.reverse ++ .ref (base + b) :: rest) (hcat : (rest.map fun v => v.category).sum ≤ 8) (hdg : decode cc pc = .ok (.invokevirtual 467, 3)) (kk : ∀ (H1 : Heap) (locs1 : List Loc), wo_S D cls cA base s w' H1 locs1 → W p l e R s m args below meth c H1 locs1 (cells + rm_q_look.cells) (slots + rm_q_look.slots) Q (F0 m (pc + 3) ls (ov.toList ++ rest))) : W p l e R s m args below meth c H locs cells slots Q (F0 m pc ls st0) :=
  wo_callV (C := Rc_q) hx hb hml hown hts hK hG hW hM hkb rfl (gt_of (i := 1602) (by decide +kernel) (by decide +kernel)) (gt_of (i := 1604) (by decide +kernel) (by decide +kernel)) (gt_sel (i := 93) (by decide +kernel) (by decide +kernel)) (gt_of (i := 10) (by decide +kernel) (by decide +kernel)) (gt_of (i := 1605) (by decide +kernel) (by decide +kernel)) (by decide +kernel) hR hf hn hsz hst hcat hdg kk
theorem cv_q_470 {p : Program} {l : Launch} {e : Env} {R : Room} {s : State} {m : MethodId} {args : Array Value} {below : List Frame} {meth : Method} {c : Code} {H : Heap} {locs : List Loc} {cells slots : Nat} {Q : State → Prop} {D : va_G} {cA : Nat → ClassId} {base : Nat} {w w' : WW} {cc : ByteArray} {pc nL : Nat} {ls : Array Slot} {rest st0 As : List Value} {ov : Option Value} {b : Nat} (hx : p.tables.exec = Jvm.exec) (hb : c.code = cc) (hml : c.maxLocals = nL) (hown : s.vm.findClass Rc_q = some m.cls) (hts : ∀ w ∈ gt, w.before args s = true) (hK : va_K D cls (wo_tys cA) s) (hG : wo_G cA base s) (hW : wo_S D cls cA base s w H locs) (hM : mt l D cls (wo_tys cA) cA base y_q_meet (Cond.code y_q_meet b_q_meet 10 (none) :: gt) rm_q_meet (.ref (base + b) :: As) w ov w' rm_q_meet.cells rm_q_meet.slots) (hkb : kb w b 9 = true) (hR : rm_q_meet.frames + 1 ≤ R.frames ∧ 8 + (10 + 11) + rm_q_meet.locals ≤ R.locals) (hf : cells + rm_q_meet.cells ≤ R.cells ∧ slots + rm_q_meet.slots ≤ R.slots) (hn : As.length = 3) (hsz : ls.size = nL) (hst : st0 = As.reverse ++ .ref (base + b) :: rest) (hcat : (rest.map fun v => v.category).sum ≤ 8) (hdg : decode cc pc = .ok (.invokevirtual 470, 3)) (kk : ∀ (H1 : Heap) (locs1 : List Loc), wo_S D cls cA base s w' H1 locs1 → W p l e R s m args below meth c H1 locs1 (cells + rm_q_meet.cells) (slots + rm_q_meet.slots) Q (F0 m (pc + 3) ls (ov.toList ++ rest))) : W p l e R s m args below meth c H locs cells slots Q (F0 m pc ls st0) :=
  wo_callV (C := Rc_q) hx hb hml hown hts hK hG hW hM hkb rfl (gt_of (i := 1655) (by decide +kernel) (by decide +kernel)) (gt_of (i := 1657) (by decide +kernel) (by decide +kernel)) (gt_sel (i := 103) (by decide +kernel) (by decide +kernel)) (gt_of (i := 10) (by decide +kernel) (by decide +kernel)) (gt_of (i := 1658) (by decide +kernel) (by decide +kernel)) (by decide +kernel) hR hf hn hsz hst hcat hdg kk
theorem cv_q_473 {p : Program} {l : Launch} {e : Env} {R : Room} {s : State} {m : MethodId} {args : Array Value} {below : List Frame} {meth : Method} {c : Code} {H : Heap} {locs : List Loc} {cells slots : Nat} {Q : State → Prop} {D : va_G} {cA : Nat → ClassId} {base : Nat} {w w' : WW} {cc : ByteArray} {pc nL : Nat} {ls : Array Slot} {rest st0 As : List Value} {ov : Option Value} {b : Nat} (hx : p.tables.exec = Jvm.exec) (hb : c.code = cc) (hml : c.maxLocals = nL) (hown : s.vm.findClass Rc_q = some m.cls) (hts : ∀ w ∈ gt, w.before args s = true) (hK : va_K D cls (wo_tys cA) s) (hG : wo_G cA base s) (hW : wo_S D cls cA base s w H locs) (hM : mt l D cls (wo_tys cA) cA base y_q_without (Cond.code y_q_without b_q_without 8 (none) :: gt) rm_q_without (.ref (base + b) :: As) w ov w' rm_q_without.cells rm_q_without.slots) (hkb : kb w b 9 = true) (hR : rm_q_without.frames + 1 ≤ R.frames ∧ 8 + (8 + 11) + rm_q_without.locals ≤ R.locals) (hf : cells + rm_q_without.cells ≤ R.cells ∧ slots + rm_q_without.slots ≤ R.slots) (hn : As.length = 3) (hsz : ls.size = nL) (hst : st0 = As.reverse ++ .ref (base + b) :: rest) (hcat : (rest.map fun v => v.category).sum ≤ 8) (hdg : decode cc pc = .ok (.invokevirtual 473, 3)) (kk : ∀ (H1 : Heap) (locs1 : List Loc), wo_S D cls cA base s w' H1 locs1 → W p l e R s m args below meth c H1 locs1 (cells + rm_q_without.cells) (slots + rm_q_without.slots) Q (F0 m (pc + 3) ls (ov.toList ++ rest))) : W p l e R s m args below meth c H locs cells slots Q (F0 m pc ls st0) :=
  wo_callV (C := Rc_q) hx hb hml hown hts hK hG hW hM hkb rfl (gt_of (i := 1659) (by decide +kernel) (by decide +kernel)) (gt_of (i := 1661) (by decide +kernel) (by decide +kernel)) (gt_sel (i := 104) (by decide +kernel) (by decide +kernel)) (gt_of (i := 10) (by decide +kernel) (by decide +kernel)) (gt_of (i := 1662) (by decide +kernel) (by decide +kernel)) (by decide +kernel) hR hf hn hsz hst hcat hdg kk
theorem cv_q_476 {p : Program} {l : Launch} {e : Env} {R : Room} {s : State} {m : MethodId} {args : Array Value} {below : List Frame} {meth : Method} {c : Code} {H : Heap} {locs : List Loc} {cells slots : Nat} {Q : State → Prop} {D : va_G} {cA : Nat → ClassId} {base : Nat} {w w' : WW} {cc : ByteArray} {pc nL : Nat} {ls : Array Slot} {rest st0 As : List Value} {ov : Option Value} {b : Nat} (hx : p.tables.exec = Jvm.exec) (hb : c.code = cc) (hml : c.maxLocals = nL) (hown : s.vm.findClass Rc_q = some m.cls) (hts : ∀ w ∈ gt, w.before args s = true) (hK : va_K D cls (wo_tys cA) s) (hG : wo_G cA base s) (hW : wo_S D cls cA base s w H locs) (hM : mt l D cls (wo_tys cA) cA base y_q_under (Cond.code y_q_under b_q_under 8 (none) :: gt) rm_q_under (.ref (base + b) :: As) w ov w' rm_q_under.cells rm_q_under.slots) (hkb : kb w b 9 = true) (hR : rm_q_under.frames + 1 ≤ R.frames ∧ 8 + (8 + 11) + rm_q_under.locals ≤ R.locals) (hf : cells + rm_q_under.cells ≤ R.cells ∧ slots + rm_q_under.slots ≤ R.slots) (hn : As.length = 3) (hsz : ls.size = nL) (hst : st0 = As.reverse ++ .ref (base + b) :: rest) (hcat : (rest.map fun v => v.category).sum ≤ 8) (hdg : decode cc pc = .ok (.invokevirtual 476, 3)) (kk : ∀ (H1 : Heap) (locs1 : List Loc), wo_S D cls cA base s w' H1 locs1 → W p l e R s m args below meth c H1 locs1 (cells + rm_q_under.cells) (slots + rm_q_under.slots) Q (F0 m (pc + 3) ls (ov.toList ++ rest))) : W p l e R s m args below meth c H locs cells slots Q (F0 m pc ls st0) :=
  wo_callV (C := Rc_q) hx hb hml hown hts hK hG hW hM hkb rfl (gt_of (i := 1663) (by decide +kernel) (by decide +kernel)) (gt_of (i := 1665) (by decide +kernel) (by decide +kernel)) (gt_sel (i := 105) (by decide +kernel) (by decide +kernel)) (gt_of (i := 10) (by decide +kernel) (by decide +kernel)) (gt_of (i := 1666) (by decide +kernel) (by decide +kernel)) (by decide +kernel) hR hf hn hsz hst hcat hdg kk
abbrev b_q_assume : ByteArray := prog_11_method_77_code
def y_q_assume : MethodName := ⟨"AlarmForgeModel", "assume", "(IZ)V"⟩
def rm_q_assume : Room := { frames := 5, cells := 0, slots := 0, locals := 142 }
theorem d_q_assume_0 : decode b_q_assume 0 = .ok (.aload_n 0, 1) := by decide +kernel
theorem d_q_assume_1 : decode b_q_assume 1 = .ok (.getfield 133, 3) := by decide +kernel
theorem d_q_assume_4 : decode b_q_assume 4 = .ok (.iconst 0, 1) := by decide +kernel
theorem d_q_assume_5 : decode b_q_assume 5 = .ok (.baload, 1) := by decide +kernel
theorem d_q_assume_6 : decode b_q_assume 6 = .ok (.ifCond .eq (4), 3) := by decide +kernel
theorem d_q_assume_9 : decode b_q_assume 9 = .ok (.return_, 1) := by decide +kernel
theorem d_q_assume_10 : decode b_q_assume 10 = .ok (.sipush (226), 3) := by decide +kernel
theorem d_q_assume_13 : decode b_q_assume 13 = .ok (.istore_n 3, 1) := by decide +kernel
theorem d_q_assume_14 : decode b_q_assume 14 = .ok (.sipush (290), 3) := by decide +kernel
theorem d_q_assume_17 : decode b_q_assume 17 = .ok (.istore 4, 2) := by decide +kernel
theorem d_q_assume_19 : decode b_q_assume 19 = .ok (.aload_n 0, 1) := by decide +kernel
theorem d_q_assume_20 : decode b_q_assume 20 = .ok (.aload_n 0, 1) := by decide +kernel
theorem d_q_assume_21 : decode b_q_assume 21 = .ok (.getfield 35, 3) := by decide +kernel
theorem d_q_assume_24 : decode b_q_assume 24 = .ok (.iload_n 1, 1) := by decide +kernel
theorem d_q_assume_25 : decode b_q_assume 25 = .ok (.iaload, 1) := by decide +kernel
theorem d_q_assume_26 : decode b_q_assume 26 = .ok (.aload_n 0, 1) := by decide +kernel
theorem d_q_assume_27 : decode b_q_assume 27 = .ok (.getfield 38, 3) := by decide +kernel
theorem d_q_assume_30 : decode b_q_assume 30 = .ok (.iload_n 1, 1) := by decide +kernel
theorem d_q_assume_31 : decode b_q_assume 31 = .ok (.iaload, 1) := by decide +kernel
theorem d_q_assume_32 : decode b_q_assume 32 = .ok (.iload_n 3, 1) := by decide +kernel
theorem d_q_assume_33 : decode b_q_assume 33 = .ok (.invokevirtual 467, 3) := by decide +kernel
theorem d_q_assume_36 : decode b_q_assume 36 = .ok (.ifCond .eq (28), 3) := by decide +kernel
theorem d_q_assume_39 : decode b_q_assume 39 = .ok (.aload_n 0, 1) := by decide +kernel
theorem d_q_assume_40 : decode b_q_assume 40 = .ok (.aload_n 0, 1) := by decide +kernel
theorem d_q_assume_41 : decode b_q_assume 41 = .ok (.getfield 41, 3) := by decide +kernel
theorem d_q_assume_44 : decode b_q_assume 44 = .ok (.iload_n 1, 1) := by decide +kernel
theorem d_q_assume_45 : decode b_q_assume 45 = .ok (.iaload, 1) := by decide +kernel
theorem d_q_assume_46 : decode b_q_assume 46 = .ok (.aload_n 0, 1) := by decide +kernel
theorem d_q_assume_47 : decode b_q_assume 47 = .ok (.getfield 44, 3) := by decide +kernel
theorem d_q_assume_50 : decode b_q_assume 50 = .ok (.iload_n 1, 1) := by decide +kernel
theorem d_q_assume_51 : decode b_q_assume 51 = .ok (.iaload, 1) := by decide +kernel
theorem d_q_assume_52 : decode b_q_assume 52 = .ok (.iload 4, 2) := by decide +kernel
theorem d_q_assume_54 : decode b_q_assume 54 = .ok (.invokevirtual 467, 3) := by decide +kernel
theorem d_q_assume_57 : decode b_q_assume 57 = .ok (.ifCond .eq (7), 3) := by decide +kernel
theorem d_q_assume_60 : decode b_q_assume 60 = .ok (.iconst 1, 1) := by decide +kernel
theorem d_q_assume_61 : decode b_q_assume 61 = .ok (.goto (4), 3) := by decide +kernel
theorem d_q_assume_64 : decode b_q_assume 64 = .ok (.iconst 0, 1) := by decide +kernel
theorem d_q_assume_65 : decode b_q_assume 65 = .ok (.istore 5, 2) := by decide +kernel
theorem d_q_assume_67 : decode b_q_assume 67 = .ok (.iload 5, 2) := by decide +kernel
theorem d_q_assume_69 : decode b_q_assume 69 = .ok (.ifCond .ne (11), 3) := by decide +kernel
theorem d_q_assume_72 : decode b_q_assume 72 = .ok (.aload_n 0, 1) := by decide +kernel
theorem d_q_assume_73 : decode b_q_assume 73 = .ok (.getfield 133, 3) := by decide +kernel
theorem d_q_assume_76 : decode b_q_assume 76 = .ok (.iconst 0, 1) := by decide +kernel
theorem d_q_assume_77 : decode b_q_assume 77 = .ok (.iconst 1, 1) := by decide +kernel
theorem d_q_assume_78 : decode b_q_assume 78 = .ok (.bastore, 1) := by decide +kernel
theorem d_q_assume_79 : decode b_q_assume 79 = .ok (.return_, 1) := by decide +kernel
theorem d_q_assume_80 : decode b_q_assume 80 = .ok (.aload_n 0, 1) := by decide +kernel
theorem d_q_assume_81 : decode b_q_assume 81 = .ok (.getfield 47, 3) := by decide +kernel
theorem d_q_assume_84 : decode b_q_assume 84 = .ok (.iload_n 1, 1) := by decide +kernel
theorem d_q_assume_85 : decode b_q_assume 85 = .ok (.iaload, 1) := by decide +kernel
theorem d_q_assume_86 : decode b_q_assume 86 = .ok (.istore 6, 2) := by decide +kernel
theorem d_q_assume_88 : decode b_q_assume 88 = .ok (.iload 6, 2) := by decide +kernel
theorem d_q_assume_90 : decode b_q_assume 90 = .ok (.iconst 2, 1) := by decide +kernel
theorem d_q_assume_91 : decode b_q_assume 91 = .ok (.if_icmp .ge (47), 3) := by decide +kernel
theorem d_q_assume_94 : decode b_q_assume 94 = .ok (.iload 6, 2) := by decide +kernel
theorem d_q_assume_96 : decode b_q_assume 96 = .ok (.ifCond .ne (7), 3) := by decide +kernel
theorem d_q_assume_99 : decode b_q_assume 99 = .ok (.iconst 1, 1) := by decide +kernel
theorem d_q_assume_100 : decode b_q_assume 100 = .ok (.goto (4), 3) := by decide +kernel
theorem d_q_assume_103 : decode b_q_assume 103 = .ok (.iconst 0, 1) := by decide +kernel
theorem d_q_assume_104 : decode b_q_assume 104 = .ok (.iload_n 2, 1) := by decide +kernel
theorem d_q_assume_105 : decode b_q_assume 105 = .ok (.if_icmp .ne (33), 3) := by decide +kernel
theorem d_q_assume_108 : decode b_q_assume 108 = .ok (.aload_n 0, 1) := by decide +kernel
theorem d_q_assume_109 : decode b_q_assume 109 = .ok (.sipush (224), 3) := by decide +kernel
theorem d_q_assume_112 : decode b_q_assume 112 = .ok (.iload_n 3, 1) := by decide +kernel
theorem d_q_assume_113 : decode b_q_assume 113 = .ok (.iload 4, 2) := by decide +kernel
theorem d_q_assume_115 : decode b_q_assume 115 = .ok (.invokevirtual 470, 3) := by decide +kernel
theorem d_q_assume_118 : decode b_q_assume 118 = .ok (.aload_n 0, 1) := by decide +kernel
theorem d_q_assume_119 : decode b_q_assume 119 = .ok (.iload_n 3, 1) := by decide +kernel
theorem d_q_assume_120 : decode b_q_assume 120 = .ok (.sipush (224), 3) := by decide +kernel
theorem d_q_assume_123 : decode b_q_assume 123 = .ok (.invokevirtual 400, 3) := by decide +kernel
theorem d_q_assume_126 : decode b_q_assume 126 = .ok (.aload_n 0, 1) := by decide +kernel
theorem d_q_assume_127 : decode b_q_assume 127 = .ok (.iload 4, 2) := by decide +kernel
theorem d_q_assume_129 : decode b_q_assume 129 = .ok (.sipush (224), 3) := by decide +kernel
theorem d_q_assume_132 : decode b_q_assume 132 = .ok (.invokevirtual 400, 3) := by decide +kernel
theorem d_q_assume_135 : decode b_q_assume 135 = .ok (.goto (92), 3) := by decide +kernel
theorem d_q_assume_138 : decode b_q_assume 138 = .ok (.iload 6, 2) := by decide +kernel
theorem d_q_assume_140 : decode b_q_assume 140 = .ok (.iconst 2, 1) := by decide +kernel
theorem d_q_assume_141 : decode b_q_assume 141 = .ok (.if_icmp .ge (43), 3) := by decide +kernel
theorem d_q_assume_144 : decode b_q_assume 144 = .ok (.aload_n 0, 1) := by decide +kernel
theorem d_q_assume_145 : decode b_q_assume 145 = .ok (.sipush (224), 3) := by decide +kernel
theorem d_q_assume_148 : decode b_q_assume 148 = .ok (.iload_n 3, 1) := by decide +kernel
theorem d_q_assume_149 : decode b_q_assume 149 = .ok (.iload 4, 2) := by decide +kernel
theorem d_q_assume_151 : decode b_q_assume 151 = .ok (.invokevirtual 473, 3) := by decide +kernel
theorem d_q_assume_154 : decode b_q_assume 154 = .ok (.aload_n 0, 1) := by decide +kernel
theorem d_q_assume_155 : decode b_q_assume 155 = .ok (.sipush (225), 3) := by decide +kernel
theorem d_q_assume_158 : decode b_q_assume 158 = .ok (.iload 4, 2) := by decide +kernel
theorem d_q_assume_160 : decode b_q_assume 160 = .ok (.iload_n 3, 1) := by decide +kernel
theorem d_q_assume_161 : decode b_q_assume 161 = .ok (.invokevirtual 473, 3) := by decide +kernel
theorem d_q_assume_164 : decode b_q_assume 164 = .ok (.aload_n 0, 1) := by decide +kernel
theorem d_q_assume_165 : decode b_q_assume 165 = .ok (.iload_n 3, 1) := by decide +kernel
theorem d_q_assume_166 : decode b_q_assume 166 = .ok (.sipush (224), 3) := by decide +kernel
theorem d_q_assume_169 : decode b_q_assume 169 = .ok (.invokevirtual 400, 3) := by decide +kernel
theorem d_q_assume_172 : decode b_q_assume 172 = .ok (.aload_n 0, 1) := by decide +kernel
theorem d_q_assume_173 : decode b_q_assume 173 = .ok (.iload 4, 2) := by decide +kernel
theorem d_q_assume_175 : decode b_q_assume 175 = .ok (.sipush (225), 3) := by decide +kernel
theorem d_q_assume_178 : decode b_q_assume 178 = .ok (.invokevirtual 400, 3) := by decide +kernel
theorem d_q_assume_181 : decode b_q_assume 181 = .ok (.goto (46), 3) := by decide +kernel
theorem d_q_assume_184 : decode b_q_assume 184 = .ok (.iload_n 2, 1) := by decide +kernel
theorem d_q_assume_185 : decode b_q_assume 185 = .ok (.ifCond .eq (24), 3) := by decide +kernel
theorem d_q_assume_188 : decode b_q_assume 188 = .ok (.aload_n 0, 1) := by decide +kernel
theorem d_q_assume_189 : decode b_q_assume 189 = .ok (.iload_n 3, 1) := by decide +kernel
theorem d_q_assume_190 : decode b_q_assume 190 = .ok (.iload 4, 2) := by decide +kernel
theorem d_q_assume_192 : decode b_q_assume 192 = .ok (.iload 6, 2) := by decide +kernel
theorem d_q_assume_194 : decode b_q_assume 194 = .ok (.iconst 2, 1) := by decide +kernel
theorem d_q_assume_195 : decode b_q_assume 195 = .ok (.if_icmp .ne (7), 3) := by decide +kernel
theorem d_q_assume_198 : decode b_q_assume 198 = .ok (.iconst 1, 1) := by decide +kernel
theorem d_q_assume_199 : decode b_q_assume 199 = .ok (.goto (4), 3) := by decide +kernel
theorem d_q_assume_202 : decode b_q_assume 202 = .ok (.iconst 0, 1) := by decide +kernel
theorem d_q_assume_203 : decode b_q_assume 203 = .ok (.invokevirtual 476, 3) := by decide +kernel
theorem d_q_assume_206 : decode b_q_assume 206 = .ok (.goto (21), 3) := by decide +kernel
theorem d_q_assume_209 : decode b_q_assume 209 = .ok (.aload_n 0, 1) := by decide +kernel
theorem d_q_assume_210 : decode b_q_assume 210 = .ok (.iload 4, 2) := by decide +kernel
theorem d_q_assume_212 : decode b_q_assume 212 = .ok (.iload_n 3, 1) := by decide +kernel
theorem d_q_assume_213 : decode b_q_assume 213 = .ok (.iload 6, 2) := by decide +kernel
theorem d_q_assume_215 : decode b_q_assume 215 = .ok (.iconst 2, 1) := by decide +kernel
theorem d_q_assume_216 : decode b_q_assume 216 = .ok (.if_icmp .ne (7), 3) := by decide +kernel
theorem d_q_assume_219 : decode b_q_assume 219 = .ok (.iconst 0, 1) := by decide +kernel
theorem d_q_assume_220 : decode b_q_assume 220 = .ok (.goto (4), 3) := by decide +kernel
theorem d_q_assume_223 : decode b_q_assume 223 = .ok (.iconst 1, 1) := by decide +kernel
theorem d_q_assume_224 : decode b_q_assume 224 = .ok (.invokevirtual 476, 3) := by decide +kernel
theorem d_q_assume_227 : decode b_q_assume 227 = .ok (.aload_n 0, 1) := by decide +kernel
theorem d_q_assume_228 : decode b_q_assume 228 = .ok (.getfield 124, 3) := by decide +kernel
theorem d_q_assume_231 : decode b_q_assume 231 = .ok (.iload_n 3, 1) := by decide +kernel
theorem d_q_assume_232 : decode b_q_assume 232 = .ok (.laload, 1) := by decide +kernel
theorem d_q_assume_233 : decode b_q_assume 233 = .ok (.lconst 0, 1) := by decide +kernel
theorem d_q_assume_234 : decode b_q_assume 234 = .ok (.lcmp, 1) := by decide +kernel
theorem d_q_assume_235 : decode b_q_assume 235 = .ok (.ifCond .lt (15), 3) := by decide +kernel
theorem d_q_assume_238 : decode b_q_assume 238 = .ok (.aload_n 0, 1) := by decide +kernel
theorem d_q_assume_239 : decode b_q_assume 239 = .ok (.getfield 124, 3) := by decide +kernel
theorem d_q_assume_242 : decode b_q_assume 242 = .ok (.iload 4, 2) := by decide +kernel
theorem d_q_assume_244 : decode b_q_assume 244 = .ok (.laload, 1) := by decide +kernel
theorem d_q_assume_245 : decode b_q_assume 245 = .ok (.lconst 0, 1) := by decide +kernel
theorem d_q_assume_246 : decode b_q_assume 246 = .ok (.lcmp, 1) := by decide +kernel
theorem d_q_assume_247 : decode b_q_assume 247 = .ok (.ifCond .ge (11), 3) := by decide +kernel
theorem d_q_assume_250 : decode b_q_assume 250 = .ok (.aload_n 0, 1) := by decide +kernel
theorem d_q_assume_251 : decode b_q_assume 251 = .ok (.getfield 133, 3) := by decide +kernel
theorem d_q_assume_254 : decode b_q_assume 254 = .ok (.iconst 0, 1) := by decide +kernel
theorem d_q_assume_255 : decode b_q_assume 255 = .ok (.iconst 1, 1) := by decide +kernel
theorem d_q_assume_256 : decode b_q_assume 256 = .ok (.bastore, 1) := by decide +kernel
theorem d_q_assume_257 : decode b_q_assume 257 = .ok (.return_, 1) := by decide +kernel
theorem d_q_assume_258 : decode b_q_assume 258 = .ok (.aload_n 0, 1) := by decide +kernel
theorem d_q_assume_259 : decode b_q_assume 259 = .ok (.getfield 38, 3) := by decide +kernel
theorem d_q_assume_262 : decode b_q_assume 262 = .ok (.iload_n 1, 1) := by decide +kernel
theorem d_q_assume_263 : decode b_q_assume 263 = .ok (.iaload, 1) := by decide +kernel
theorem d_q_assume_264 : decode b_q_assume 264 = .ok (.aload_n 0, 1) := by decide +kernel
theorem d_q_assume_265 : decode b_q_assume 265 = .ok (.getfield 35, 3) := by decide +kernel
theorem d_q_assume_268 : decode b_q_assume 268 = .ok (.iload_n 1, 1) := by decide +kernel
theorem d_q_assume_269 : decode b_q_assume 269 = .ok (.iaload, 1) := by decide +kernel
theorem d_q_assume_270 : decode b_q_assume 270 = .ok (.iconst 1, 1) := by decide +kernel
theorem d_q_assume_271 : decode b_q_assume 271 = .ok (.iadd, 1) := by decide +kernel
theorem d_q_assume_272 : decode b_q_assume 272 = .ok (.if_icmp .ne (34), 3) := by decide +kernel
theorem d_q_assume_275 : decode b_q_assume 275 = .ok (.aload_n 0, 1) := by decide +kernel
theorem d_q_assume_276 : decode b_q_assume 276 = .ok (.getfield 72, 3) := by decide +kernel
theorem d_q_assume_279 : decode b_q_assume 279 = .ok (.aload_n 0, 1) := by decide +kernel
theorem d_q_assume_280 : decode b_q_assume 280 = .ok (.getfield 35, 3) := by decide +kernel
theorem d_q_assume_283 : decode b_q_assume 283 = .ok (.iload_n 1, 1) := by decide +kernel
theorem d_q_assume_284 : decode b_q_assume 284 = .ok (.iaload, 1) := by decide +kernel
theorem d_q_assume_285 : decode b_q_assume 285 = .ok (.iaload, 1) := by decide +kernel
theorem d_q_assume_286 : decode b_q_assume 286 = .ok (.iconst 2, 1) := by decide +kernel
theorem d_q_assume_287 : decode b_q_assume 287 = .ok (.if_icmp .ne (19), 3) := by decide +kernel
theorem d_q_assume_290 : decode b_q_assume 290 = .ok (.aload_n 0, 1) := by decide +kernel
theorem d_q_assume_291 : decode b_q_assume 291 = .ok (.aload_n 0, 1) := by decide +kernel
theorem d_q_assume_292 : decode b_q_assume 292 = .ok (.getfield 75, 3) := by decide +kernel
theorem d_q_assume_295 : decode b_q_assume 295 = .ok (.aload_n 0, 1) := by decide +kernel
theorem d_q_assume_296 : decode b_q_assume 296 = .ok (.getfield 35, 3) := by decide +kernel
theorem d_q_assume_299 : decode b_q_assume 299 = .ok (.iload_n 1, 1) := by decide +kernel
theorem d_q_assume_300 : decode b_q_assume 300 = .ok (.iaload, 1) := by decide +kernel
theorem d_q_assume_301 : decode b_q_assume 301 = .ok (.iaload, 1) := by decide +kernel
theorem d_q_assume_302 : decode b_q_assume 302 = .ok (.iload_n 3, 1) := by decide +kernel
theorem d_q_assume_303 : decode b_q_assume 303 = .ok (.invokevirtual 400, 3) := by decide +kernel
theorem d_q_assume_306 : decode b_q_assume 306 = .ok (.aload_n 0, 1) := by decide +kernel
theorem d_q_assume_307 : decode b_q_assume 307 = .ok (.getfield 44, 3) := by decide +kernel
theorem d_q_assume_310 : decode b_q_assume 310 = .ok (.iload_n 1, 1) := by decide +kernel
theorem d_q_assume_311 : decode b_q_assume 311 = .ok (.iaload, 1) := by decide +kernel
theorem d_q_assume_312 : decode b_q_assume 312 = .ok (.aload_n 0, 1) := by decide +kernel
theorem d_q_assume_313 : decode b_q_assume 313 = .ok (.getfield 41, 3) := by decide +kernel
theorem d_q_assume_316 : decode b_q_assume 316 = .ok (.iload_n 1, 1) := by decide +kernel
theorem d_q_assume_317 : decode b_q_assume 317 = .ok (.iaload, 1) := by decide +kernel
theorem d_q_assume_318 : decode b_q_assume 318 = .ok (.iconst 1, 1) := by decide +kernel
theorem d_q_assume_319 : decode b_q_assume 319 = .ok (.iadd, 1) := by decide +kernel
theorem d_q_assume_320 : decode b_q_assume 320 = .ok (.if_icmp .ne (35), 3) := by decide +kernel
theorem d_q_assume_323 : decode b_q_assume 323 = .ok (.aload_n 0, 1) := by decide +kernel
theorem d_q_assume_324 : decode b_q_assume 324 = .ok (.getfield 72, 3) := by decide +kernel
theorem d_q_assume_327 : decode b_q_assume 327 = .ok (.aload_n 0, 1) := by decide +kernel
theorem d_q_assume_328 : decode b_q_assume 328 = .ok (.getfield 41, 3) := by decide +kernel
theorem d_q_assume_331 : decode b_q_assume 331 = .ok (.iload_n 1, 1) := by decide +kernel
theorem d_q_assume_332 : decode b_q_assume 332 = .ok (.iaload, 1) := by decide +kernel
theorem d_q_assume_333 : decode b_q_assume 333 = .ok (.iaload, 1) := by decide +kernel
theorem d_q_assume_334 : decode b_q_assume 334 = .ok (.iconst 2, 1) := by decide +kernel
theorem d_q_assume_335 : decode b_q_assume 335 = .ok (.if_icmp .ne (20), 3) := by decide +kernel
theorem d_q_assume_338 : decode b_q_assume 338 = .ok (.aload_n 0, 1) := by decide +kernel
theorem d_q_assume_339 : decode b_q_assume 339 = .ok (.aload_n 0, 1) := by decide +kernel
theorem d_q_assume_340 : decode b_q_assume 340 = .ok (.getfield 75, 3) := by decide +kernel
theorem d_q_assume_343 : decode b_q_assume 343 = .ok (.aload_n 0, 1) := by decide +kernel
theorem d_q_assume_344 : decode b_q_assume 344 = .ok (.getfield 41, 3) := by decide +kernel
theorem d_q_assume_347 : decode b_q_assume 347 = .ok (.iload_n 1, 1) := by decide +kernel
theorem d_q_assume_348 : decode b_q_assume 348 = .ok (.iaload, 1) := by decide +kernel
theorem d_q_assume_349 : decode b_q_assume 349 = .ok (.iaload, 1) := by decide +kernel
theorem d_q_assume_350 : decode b_q_assume 350 = .ok (.iload 4, 2) := by decide +kernel
theorem d_q_assume_352 : decode b_q_assume 352 = .ok (.invokevirtual 400, 3) := by decide +kernel
theorem d_q_assume_355 : decode b_q_assume 355 = .ok (.return_, 1) := by decide +kernel
theorem kb_q_assume {a0 : Nat} {a1 : Int32} {a2 : Int32} {w : WW} {r : WW} (h : f_q_assume a0 a1 a2 w = some r) : kb w a0 9 = true := (its h).1
set_option maxHeartbeats 4000000 in
set_option maxRecDepth 100000 in
theorem j_q_assume_250 {p : Program} {l : Launch} {e : Env} {s : State} {m : MethodId} {args : Array Value} {below : List Frame} {meth : Method} {c : Code} {D : va_G} {cA : Nat → ClassId} {base : Nat} {w' : WW} (C : cx b_q_assume (none) 7 y_q_assume.cls "assume" p s m args meth c D cA base)   : ∀ (y0 : Nat) (w : WW), f_q_assume_250 y0 w = some w' → ∀ (H : Heap) (locs : List Loc) (ls : Array Slot), wo_S D cls cA base s w H locs → lv_has ls 7 [(0, .ref (base + y0))] → W p l e rm_q_assume s m args below meth c H locs 0 0 (MQ below (wo_Q D cls cA base none w') args s rm_q_assume.cells rm_q_assume.slots (wo_B base)) (F0 m 250 ls []) := by
  obtain ⟨hx, hb, hr, hml, hown, hts, hlk, hnm, hK, hG⟩ := id C
  intro y0 w h H locs ls hW hl
  unfold f_q_assume_250 at h
  refine lv_aload_n hx hb d_q_assume_250 rfl (lv_at hl 0 rfl) ?_
  replace h := bs h
  obtain ⟨x22, hx22, h⟩ := h
  refine gf_q_133 hx hb hts hown hK hG hW (gN_s hx22) d_q_assume_251 ?_
  refine lv_iconst (v := (0 : Int32)) hx hb d_q_assume_254 (by decide) ?_
  refine lv_iconst (v := (1 : Int32)) hx hb d_q_assume_255 (by decide) ?_
  replace h := bs h
  obtain ⟨w23, hw23, h⟩ := h
  refine wo_zast hx hb hK hW (t := 2) rfl hw23 d_q_assume_256 (fun H locs hW => ?_)
  cases h
  exact wo_vret hx hb hr hlk hW d_q_assume_257
set_option maxHeartbeats 4000000 in
set_option maxRecDepth 100000 in
theorem j_q_assume_355 {p : Program} {l : Launch} {e : Env} {s : State} {m : MethodId} {args : Array Value} {below : List Frame} {meth : Method} {c : Code} {D : va_G} {cA : Nat → ClassId} {base : Nat} {w' : WW} (C : cx b_q_assume (none) 7 y_q_assume.cls "assume" p s m args meth c D cA base)   : ∀  (w : WW), f_q_assume_355  w = some w' → ∀ (H : Heap) (locs : List Loc) (ls : Array Slot), wo_S D cls cA base s w H locs → lv_has ls 7 [] → W p l e rm_q_assume s m args below meth c H locs 0 0 (MQ below (wo_Q D cls cA base none w') args s rm_q_assume.cells rm_q_assume.slots (wo_B base)) (F0 m 355 ls []) := by
  obtain ⟨hx, hb, hr, hml, hown, hts, hlk, hnm, hK, hG⟩ := id C
  intro  w h H locs ls hW hl
  unfold f_q_assume_355 at h
  cases h
  exact wo_vret hx hb hr hlk hW d_q_assume_355
set_option maxHeartbeats 4000000 in
set_option maxRecDepth 100000 in
theorem j_q_assume_306 {p : Program} {l : Launch} {e : Env} {s : State} {m : MethodId} {args : Array Value} {below : List Frame} {meth : Method} {c : Code} {D : va_G} {cA : Nat → ClassId} {base : Nat} {w' : WW} (C : cx b_q_assume (none) 7 y_q_assume.cls "assume" p s m args meth c D cA base)   : ∀ (y0 : Nat) (y1 : Int32) (y4 : Int32) (w : WW), f_q_assume_306 y0 y1 y4 w = some w' → ∀ (H : Heap) (locs : List Loc) (ls : Array Slot), wo_S D cls cA base s w H locs → lv_has ls 7 [(0, .ref (base + y0)), (1, .int y1), (4, .int y4)] → W p l e rm_q_assume s m args below meth c H locs 0 0 (MQ below (wo_Q D cls cA base none w') args s rm_q_assume.cells rm_q_assume.slots (wo_B base)) (F0 m 306 ls []) := by
  obtain ⟨hx, hb, hr, hml, hown, hts, hlk, hnm, hK, hG⟩ := id C
  intro y0 y1 y4 w h H locs ls hW hl
  unfold f_q_assume_306 at h
  refine lv_aload_n hx hb d_q_assume_306 rfl (lv_at hl 0 rfl) ?_
  replace h := bs h
  obtain ⟨x32, hx32, h⟩ := h
  refine gf_q_44 hx hb hts hown hK hG hW (gN_s hx32) d_q_assume_307 ?_
  refine lv_iload_n hx hb d_q_assume_310 rfl (lv_at hl 1 rfl) ?_
  replace h := bs h
  obtain ⟨x33, hx33, h⟩ := h
  refine wo_iald hx hb hK hW (t := 0) rfl hx33 d_q_assume_311 ?_
  refine lv_aload_n hx hb d_q_assume_312 rfl (lv_at hl 0 rfl) ?_
  replace h := bs h
  obtain ⟨x34, hx34, h⟩ := h
  refine gf_q_41 hx hb hts hown hK hG hW (gN_s hx34) d_q_assume_313 ?_
  refine lv_iload_n hx hb d_q_assume_316 rfl (lv_at hl 1 rfl) ?_
  replace h := bs h
  obtain ⟨x35, hx35, h⟩ := h
  refine wo_iald hx hb hK hW (t := 0) rfl hx35 d_q_assume_317 ?_
  refine lv_iconst (v := (1 : Int32)) hx hb d_q_assume_318 (by decide) ?_
  refine lv_iadd hx hb d_q_assume_319 ?_
  refine lv_icmp_ne (tgt := 355) hx hb d_q_assume_320 (by decide) (fun c36 => ?_) (fun c36 => ?_)
  · rw [if_neg c36] at h
    exact j_q_assume_355 C w h _ _ _ hW (lv_sub hl [] rfl)
  · rw [if_pos c36] at h
    refine lv_aload_n hx hb d_q_assume_323 rfl (lv_at hl 0 rfl) ?_
    replace h := bs h
    obtain ⟨x37, hx37, h⟩ := h
    refine gf_q_72 hx hb hts hown hK hG hW (gN_s hx37) d_q_assume_324 ?_
    refine lv_aload_n hx hb d_q_assume_327 rfl (lv_at hl 0 rfl) ?_
    replace h := bs h
    obtain ⟨x38, hx38, h⟩ := h
    refine gf_q_41 hx hb hts hown hK hG hW (gN_s hx38) d_q_assume_328 ?_
    refine lv_iload_n hx hb d_q_assume_331 rfl (lv_at hl 1 rfl) ?_
    replace h := bs h
    obtain ⟨x39, hx39, h⟩ := h
    refine wo_iald hx hb hK hW (t := 0) rfl hx39 d_q_assume_332 ?_
    replace h := bs h
    obtain ⟨x40, hx40, h⟩ := h
    refine wo_iald hx hb hK hW (t := 0) rfl hx40 d_q_assume_333 ?_
    refine lv_iconst (v := (2 : Int32)) hx hb d_q_assume_334 (by decide) ?_
    refine lv_icmp_ne (tgt := 355) hx hb d_q_assume_335 (by decide) (fun c41 => ?_) (fun c41 => ?_)
    · rw [if_neg c41] at h
      exact j_q_assume_355 C w h _ _ _ hW (lv_sub hl [] rfl)
    · rw [if_pos c41] at h
      refine lv_aload_n hx hb d_q_assume_338 rfl (lv_at hl 0 rfl) ?_
      refine lv_aload_n hx hb d_q_assume_339 rfl (lv_at hl 0 rfl) ?_
      replace h := bs h
      obtain ⟨x42, hx42, h⟩ := h
      refine gf_q_75 hx hb hts hown hK hG hW (gN_s hx42) d_q_assume_340 ?_
      refine lv_aload_n hx hb d_q_assume_343 rfl (lv_at hl 0 rfl) ?_
      replace h := bs h
      obtain ⟨x43, hx43, h⟩ := h
      refine gf_q_41 hx hb hts hown hK hG hW (gN_s hx43) d_q_assume_344 ?_
      refine lv_iload_n hx hb d_q_assume_347 rfl (lv_at hl 1 rfl) ?_
      replace h := bs h
      obtain ⟨x44, hx44, h⟩ := h
      refine wo_iald hx hb hK hW (t := 0) rfl hx44 d_q_assume_348 ?_
      replace h := bs h
      obtain ⟨x45, hx45, h⟩ := h
      refine wo_iald hx hb hK hW (t := 0) rfl hx45 d_q_assume_349 ?_
      refine lv_iload hx hb d_q_assume_350 (lv_at hl 2 rfl) ?_
      replace h := bs h
      obtain ⟨w46, hw46, h⟩ := h
      refine cv_q_400 (As := [.int x45, .int y4]) (rest := []) hx hb hml hown hts hK hG hW (c_q_copy l D cA base hw46) (kb_q_copy hw46) ⟨Nat.le_of_ble_eq_true rfl, Nat.le_of_ble_eq_true rfl⟩ ⟨Nat.le_of_ble_eq_true rfl, Nat.le_of_ble_eq_true rfl⟩ rfl hl.1 rfl (Nat.le_of_ble_eq_true rfl) d_q_assume_352 (fun H locs hW => ?_)
      exact j_q_assume_355 C w46 h _ _ _ hW (lv_sub hl [] rfl)
set_option maxHeartbeats 4000000 in
set_option maxRecDepth 100000 in
theorem j_q_assume_227 {p : Program} {l : Launch} {e : Env} {s : State} {m : MethodId} {args : Array Value} {below : List Frame} {meth : Method} {c : Code} {D : va_G} {cA : Nat → ClassId} {base : Nat} {w' : WW} (C : cx b_q_assume (none) 7 y_q_assume.cls "assume" p s m args meth c D cA base)   : ∀ (y0 : Nat) (y1 : Int32) (y3 : Int32) (y4 : Int32) (w : WW), f_q_assume_227 y0 y1 y3 y4 w = some w' → ∀ (H : Heap) (locs : List Loc) (ls : Array Slot), wo_S D cls cA base s w H locs → lv_has ls 7 [(0, .ref (base + y0)), (1, .int y1), (3, .int y3), (4, .int y4)] → W p l e rm_q_assume s m args below meth c H locs 0 0 (MQ below (wo_Q D cls cA base none w') args s rm_q_assume.cells rm_q_assume.slots (wo_B base)) (F0 m 227 ls []) := by
  obtain ⟨hx, hb, hr, hml, hown, hts, hlk, hnm, hK, hG⟩ := id C
  intro y0 y1 y3 y4 w h H locs ls hW hl
  unfold f_q_assume_227 at h
  refine lv_aload_n hx hb d_q_assume_227 rfl (lv_at hl 0 rfl) ?_
  replace h := bs h
  obtain ⟨x19, hx19, h⟩ := h
  refine gf_q_124 hx hb hts hown hK hG hW (gN_s hx19) d_q_assume_228 ?_
  refine lv_iload_n hx hb d_q_assume_231 rfl (lv_at hl 2 rfl) ?_
  replace h := bs h
  obtain ⟨x20, hx20, h⟩ := h
  refine wo_lald hx hb hK hW (t := 1) rfl hx20 d_q_assume_232 ?_
  refine lv_lconst (v := (0 : Int64)) hx hb d_q_assume_233 (by decide) ?_
  refine lc_lt (tgt := 250) hx hb d_q_assume_234 d_q_assume_235 (by decide) (fun c21 => ?_) (fun c21 => ?_)
  · rw [if_pos c21] at h
    exact j_q_assume_250 C y0 w h _ _ _ hW (lv_sub hl [0] rfl)
  · rw [if_neg c21] at h
    refine lv_aload_n hx hb d_q_assume_238 rfl (lv_at hl 0 rfl) ?_
    replace h := bs h
    obtain ⟨x24, hx24, h⟩ := h
    refine gf_q_124 hx hb hts hown hK hG hW (gN_s hx24) d_q_assume_239 ?_
    refine lv_iload hx hb d_q_assume_242 (lv_at hl 3 rfl) ?_
    replace h := bs h
    obtain ⟨x25, hx25, h⟩ := h
    refine wo_lald hx hb hK hW (t := 1) rfl hx25 d_q_assume_244 ?_
    refine lv_lconst (v := (0 : Int64)) hx hb d_q_assume_245 (by decide) ?_
    refine lc_ge (tgt := 258) hx hb d_q_assume_246 d_q_assume_247 (by decide) (fun c26 => ?_) (fun c26 => ?_)
    · rw [if_pos c26] at h
      refine lv_aload_n hx hb d_q_assume_258 rfl (lv_at hl 0 rfl) ?_
      replace h := bs h
      obtain ⟨x27, hx27, h⟩ := h
      refine gf_q_38 hx hb hts hown hK hG hW (gN_s hx27) d_q_assume_259 ?_
      refine lv_iload_n hx hb d_q_assume_262 rfl (lv_at hl 1 rfl) ?_
      replace h := bs h
      obtain ⟨x28, hx28, h⟩ := h
      refine wo_iald hx hb hK hW (t := 0) rfl hx28 d_q_assume_263 ?_
      refine lv_aload_n hx hb d_q_assume_264 rfl (lv_at hl 0 rfl) ?_
      replace h := bs h
      obtain ⟨x29, hx29, h⟩ := h
      refine gf_q_35 hx hb hts hown hK hG hW (gN_s hx29) d_q_assume_265 ?_
      refine lv_iload_n hx hb d_q_assume_268 rfl (lv_at hl 1 rfl) ?_
      replace h := bs h
      obtain ⟨x30, hx30, h⟩ := h
      refine wo_iald hx hb hK hW (t := 0) rfl hx30 d_q_assume_269 ?_
      refine lv_iconst (v := (1 : Int32)) hx hb d_q_assume_270 (by decide) ?_
      refine lv_iadd hx hb d_q_assume_271 ?_
      refine lv_icmp_ne (tgt := 306) hx hb d_q_assume_272 (by decide) (fun c31 => ?_) (fun c31 => ?_)
      · rw [if_neg c31] at h
        exact j_q_assume_306 C y0 y1 y4 w h _ _ _ hW (lv_sub hl [0, 1, 3] rfl)
      · rw [if_pos c31] at h
        refine lv_aload_n hx hb d_q_assume_275 rfl (lv_at hl 0 rfl) ?_
        replace h := bs h
        obtain ⟨x47, hx47, h⟩ := h
        refine gf_q_72 hx hb hts hown hK hG hW (gN_s hx47) d_q_assume_276 ?_
        refine lv_aload_n hx hb d_q_assume_279 rfl (lv_at hl 0 rfl) ?_
        replace h := bs h
        obtain ⟨x48, hx48, h⟩ := h
        refine gf_q_35 hx hb hts hown hK hG hW (gN_s hx48) d_q_assume_280 ?_
        refine lv_iload_n hx hb d_q_assume_283 rfl (lv_at hl 1 rfl) ?_
        replace h := bs h
        obtain ⟨x49, hx49, h⟩ := h
        refine wo_iald hx hb hK hW (t := 0) rfl hx49 d_q_assume_284 ?_
        replace h := bs h
        obtain ⟨x50, hx50, h⟩ := h
        refine wo_iald hx hb hK hW (t := 0) rfl hx50 d_q_assume_285 ?_
        refine lv_iconst (v := (2 : Int32)) hx hb d_q_assume_286 (by decide) ?_
        refine lv_icmp_ne (tgt := 306) hx hb d_q_assume_287 (by decide) (fun c51 => ?_) (fun c51 => ?_)
        · rw [if_neg c51] at h
          exact j_q_assume_306 C y0 y1 y4 w h _ _ _ hW (lv_sub hl [0, 1, 3] rfl)
        · rw [if_pos c51] at h
          refine lv_aload_n hx hb d_q_assume_290 rfl (lv_at hl 0 rfl) ?_
          refine lv_aload_n hx hb d_q_assume_291 rfl (lv_at hl 0 rfl) ?_
          replace h := bs h
          obtain ⟨x52, hx52, h⟩ := h
          refine gf_q_75 hx hb hts hown hK hG hW (gN_s hx52) d_q_assume_292 ?_
          refine lv_aload_n hx hb d_q_assume_295 rfl (lv_at hl 0 rfl) ?_
          replace h := bs h
          obtain ⟨x53, hx53, h⟩ := h
          refine gf_q_35 hx hb hts hown hK hG hW (gN_s hx53) d_q_assume_296 ?_
          refine lv_iload_n hx hb d_q_assume_299 rfl (lv_at hl 1 rfl) ?_
          replace h := bs h
          obtain ⟨x54, hx54, h⟩ := h
          refine wo_iald hx hb hK hW (t := 0) rfl hx54 d_q_assume_300 ?_
          replace h := bs h
          obtain ⟨x55, hx55, h⟩ := h
          refine wo_iald hx hb hK hW (t := 0) rfl hx55 d_q_assume_301 ?_
          refine lv_iload_n hx hb d_q_assume_302 rfl (lv_at hl 2 rfl) ?_
          replace h := bs h
          obtain ⟨w56, hw56, h⟩ := h
          refine cv_q_400 (As := [.int x55, .int y3]) (rest := []) hx hb hml hown hts hK hG hW (c_q_copy l D cA base hw56) (kb_q_copy hw56) ⟨Nat.le_of_ble_eq_true rfl, Nat.le_of_ble_eq_true rfl⟩ ⟨Nat.le_of_ble_eq_true rfl, Nat.le_of_ble_eq_true rfl⟩ rfl hl.1 rfl (Nat.le_of_ble_eq_true rfl) d_q_assume_303 (fun H locs hW => ?_)
          exact j_q_assume_306 C y0 y1 y4 w56 h _ _ _ hW (lv_sub hl [0, 1, 3] rfl)
    · rw [if_neg c26] at h
      exact j_q_assume_250 C y0 w h _ _ _ hW (lv_sub hl [0] rfl)
set_option maxHeartbeats 4000000 in
set_option maxRecDepth 100000 in
theorem j_q_assume_224 {p : Program} {l : Launch} {e : Env} {s : State} {m : MethodId} {args : Array Value} {below : List Frame} {meth : Method} {c : Code} {D : va_G} {cA : Nat → ClassId} {base : Nat} {w' : WW} (C : cx b_q_assume (none) 7 y_q_assume.cls "assume" p s m args meth c D cA base)   : ∀ (y0 : Nat) (y1 : Int32) (y3 : Int32) (y4 : Int32) (z0 : Nat) (z1 : Int32) (z2 : Int32) (z3 : Int32) (w : WW), f_q_assume_224 y0 y1 y3 y4 z0 z1 z2 z3 w = some w' → ∀ (H : Heap) (locs : List Loc) (ls : Array Slot), wo_S D cls cA base s w H locs → lv_has ls 7 [(0, .ref (base + y0)), (1, .int y1), (3, .int y3), (4, .int y4)] → W p l e rm_q_assume s m args below meth c H locs 0 0 (MQ below (wo_Q D cls cA base none w') args s rm_q_assume.cells rm_q_assume.slots (wo_B base)) (F0 m 224 ls [.int z3, .int z2, .int z1, .ref (base + z0)]) := by
  obtain ⟨hx, hb, hr, hml, hown, hts, hlk, hnm, hK, hG⟩ := id C
  intro y0 y1 y3 y4 z0 z1 z2 z3 w h H locs ls hW hl
  unfold f_q_assume_224 at h
  replace h := bs h
  obtain ⟨w18, hw18, h⟩ := h
  refine cv_q_476 (As := [.int z1, .int z2, .int z3]) (rest := []) hx hb hml hown hts hK hG hW (c_q_under l D cA base hw18) (kb_q_under hw18) ⟨Nat.le_of_ble_eq_true rfl, Nat.le_of_ble_eq_true rfl⟩ ⟨Nat.le_of_ble_eq_true rfl, Nat.le_of_ble_eq_true rfl⟩ rfl hl.1 rfl (Nat.le_of_ble_eq_true rfl) d_q_assume_224 (fun H locs hW => ?_)
  exact j_q_assume_227 C y0 y1 y3 y4 w18 h _ _ _ hW (lv_sub hl [0, 1, 2, 3] rfl)
set_option maxHeartbeats 4000000 in
set_option maxRecDepth 100000 in
theorem j_q_assume_203 {p : Program} {l : Launch} {e : Env} {s : State} {m : MethodId} {args : Array Value} {below : List Frame} {meth : Method} {c : Code} {D : va_G} {cA : Nat → ClassId} {base : Nat} {w' : WW} (C : cx b_q_assume (none) 7 y_q_assume.cls "assume" p s m args meth c D cA base)   : ∀ (y0 : Nat) (y1 : Int32) (y3 : Int32) (y4 : Int32) (z0 : Nat) (z1 : Int32) (z2 : Int32) (z3 : Int32) (w : WW), f_q_assume_203 y0 y1 y3 y4 z0 z1 z2 z3 w = some w' → ∀ (H : Heap) (locs : List Loc) (ls : Array Slot), wo_S D cls cA base s w H locs → lv_has ls 7 [(0, .ref (base + y0)), (1, .int y1), (3, .int y3), (4, .int y4)] → W p l e rm_q_assume s m args below meth c H locs 0 0 (MQ below (wo_Q D cls cA base none w') args s rm_q_assume.cells rm_q_assume.slots (wo_B base)) (F0 m 203 ls [.int z3, .int z2, .int z1, .ref (base + z0)]) := by
  obtain ⟨hx, hb, hr, hml, hown, hts, hlk, hnm, hK, hG⟩ := id C
  intro y0 y1 y3 y4 z0 z1 z2 z3 w h H locs ls hW hl
  unfold f_q_assume_203 at h
  replace h := bs h
  obtain ⟨w58, hw58, h⟩ := h
  refine cv_q_476 (As := [.int z1, .int z2, .int z3]) (rest := []) hx hb hml hown hts hK hG hW (c_q_under l D cA base hw58) (kb_q_under hw58) ⟨Nat.le_of_ble_eq_true rfl, Nat.le_of_ble_eq_true rfl⟩ ⟨Nat.le_of_ble_eq_true rfl, Nat.le_of_ble_eq_true rfl⟩ rfl hl.1 rfl (Nat.le_of_ble_eq_true rfl) d_q_assume_203 (fun H locs hW => ?_)
  refine lv_goto (tgt := 227) hx hb d_q_assume_206 (by decide) ?_
  exact j_q_assume_227 C y0 y1 y3 y4 w58 h _ _ _ hW (lv_sub hl [0, 1, 2, 3] rfl)
set_option maxHeartbeats 4000000 in
set_option maxRecDepth 100000 in
theorem j_q_assume_138 {p : Program} {l : Launch} {e : Env} {s : State} {m : MethodId} {args : Array Value} {below : List Frame} {meth : Method} {c : Code} {D : va_G} {cA : Nat → ClassId} {base : Nat} {w' : WW} (C : cx b_q_assume (none) 7 y_q_assume.cls "assume" p s m args meth c D cA base)   : ∀ (y0 : Nat) (y1 : Int32) (y2 : Int32) (y3 : Int32) (y4 : Int32) (y6 : Int32) (w : WW), f_q_assume_138 y0 y1 y2 y3 y4 y6 w = some w' → ∀ (H : Heap) (locs : List Loc) (ls : Array Slot), wo_S D cls cA base s w H locs → lv_has ls 7 [(0, .ref (base + y0)), (1, .int y1), (2, .int y2), (3, .int y3), (4, .int y4), (6, .int y6)] → W p l e rm_q_assume s m args below meth c H locs 0 0 (MQ below (wo_Q D cls cA base none w') args s rm_q_assume.cells rm_q_assume.slots (wo_B base)) (F0 m 138 ls []) := by
  obtain ⟨hx, hb, hr, hml, hown, hts, hlk, hnm, hK, hG⟩ := id C
  intro y0 y1 y2 y3 y4 y6 w h H locs ls hW hl
  unfold f_q_assume_138 at h
  refine lv_iload hx hb d_q_assume_138 (lv_at hl 5 rfl) ?_
  refine lv_iconst (v := (2 : Int32)) hx hb d_q_assume_140 (by decide) ?_
  refine lv_icmp_ge (tgt := 184) hx hb d_q_assume_141 (by decide) (fun c15 => ?_) (fun c15 => ?_)
  · rw [if_pos c15] at h
    refine lv_iload_n hx hb d_q_assume_184 rfl (lv_at hl 2 rfl) ?_
    refine lv_if_eq (tgt := 209) hx hb d_q_assume_185 (by decide) (fun c16 => ?_) (fun c16 => ?_)
    · rw [if_pos c16] at h
      refine lv_aload_n hx hb d_q_assume_209 rfl (lv_at hl 0 rfl) ?_
      refine lv_iload hx hb d_q_assume_210 (lv_at hl 4 rfl) ?_
      refine lv_iload_n hx hb d_q_assume_212 rfl (lv_at hl 3 rfl) ?_
      refine lv_iload hx hb d_q_assume_213 (lv_at hl 5 rfl) ?_
      refine lv_iconst (v := (2 : Int32)) hx hb d_q_assume_215 (by decide) ?_
      refine lv_icmp_ne (tgt := 223) hx hb d_q_assume_216 (by decide) (fun c17 => ?_) (fun c17 => ?_)
      · rw [if_neg c17] at h
        refine lv_iconst (v := (1 : Int32)) hx hb d_q_assume_223 (by decide) ?_
        exact j_q_assume_224 C y0 y1 y3 y4 y0 y4 y3 (1 : Int32) w h _ _ _ hW (lv_sub hl [0, 1, 3, 4] rfl)
      · rw [if_pos c17] at h
        refine lv_iconst (v := (0 : Int32)) hx hb d_q_assume_219 (by decide) ?_
        refine lv_goto (tgt := 224) hx hb d_q_assume_220 (by decide) ?_
        exact j_q_assume_224 C y0 y1 y3 y4 y0 y4 y3 (0 : Int32) w h _ _ _ hW (lv_sub hl [0, 1, 3, 4] rfl)
    · rw [if_neg c16] at h
      refine lv_aload_n hx hb d_q_assume_188 rfl (lv_at hl 0 rfl) ?_
      refine lv_iload_n hx hb d_q_assume_189 rfl (lv_at hl 3 rfl) ?_
      refine lv_iload hx hb d_q_assume_190 (lv_at hl 4 rfl) ?_
      refine lv_iload hx hb d_q_assume_192 (lv_at hl 5 rfl) ?_
      refine lv_iconst (v := (2 : Int32)) hx hb d_q_assume_194 (by decide) ?_
      refine lv_icmp_ne (tgt := 202) hx hb d_q_assume_195 (by decide) (fun c57 => ?_) (fun c57 => ?_)
      · rw [if_neg c57] at h
        refine lv_iconst (v := (0 : Int32)) hx hb d_q_assume_202 (by decide) ?_
        exact j_q_assume_203 C y0 y1 y3 y4 y0 y3 y4 (0 : Int32) w h _ _ _ hW (lv_sub hl [0, 1, 3, 4] rfl)
      · rw [if_pos c57] at h
        refine lv_iconst (v := (1 : Int32)) hx hb d_q_assume_198 (by decide) ?_
        refine lv_goto (tgt := 203) hx hb d_q_assume_199 (by decide) ?_
        exact j_q_assume_203 C y0 y1 y3 y4 y0 y3 y4 (1 : Int32) w h _ _ _ hW (lv_sub hl [0, 1, 3, 4] rfl)
  · rw [if_neg c15] at h
    refine lv_aload_n hx hb d_q_assume_144 rfl (lv_at hl 0 rfl) ?_
    refine lv_sipush (v := (224 : Int32)) hx hb d_q_assume_145 (by decide) ?_
    refine lv_iload_n hx hb d_q_assume_148 rfl (lv_at hl 3 rfl) ?_
    refine lv_iload hx hb d_q_assume_149 (lv_at hl 4 rfl) ?_
    replace h := bs h
    obtain ⟨w59, hw59, h⟩ := h
    refine cv_q_473 (As := [.int (224 : Int32), .int y3, .int y4]) (rest := []) hx hb hml hown hts hK hG hW (c_q_without l D cA base hw59) (kb_q_without hw59) ⟨Nat.le_of_ble_eq_true rfl, Nat.le_of_ble_eq_true rfl⟩ ⟨Nat.le_of_ble_eq_true rfl, Nat.le_of_ble_eq_true rfl⟩ rfl hl.1 rfl (Nat.le_of_ble_eq_true rfl) d_q_assume_151 (fun H locs hW => ?_)
    refine lv_aload_n hx hb d_q_assume_154 rfl (lv_at hl 0 rfl) ?_
    refine lv_sipush (v := (225 : Int32)) hx hb d_q_assume_155 (by decide) ?_
    refine lv_iload hx hb d_q_assume_158 (lv_at hl 4 rfl) ?_
    refine lv_iload_n hx hb d_q_assume_160 rfl (lv_at hl 3 rfl) ?_
    replace h := bs h
    obtain ⟨w60, hw60, h⟩ := h
    refine cv_q_473 (As := [.int (225 : Int32), .int y4, .int y3]) (rest := []) hx hb hml hown hts hK hG hW (c_q_without l D cA base hw60) (kb_q_without hw60) ⟨Nat.le_of_ble_eq_true rfl, Nat.le_of_ble_eq_true rfl⟩ ⟨Nat.le_of_ble_eq_true rfl, Nat.le_of_ble_eq_true rfl⟩ rfl hl.1 rfl (Nat.le_of_ble_eq_true rfl) d_q_assume_161 (fun H locs hW => ?_)
    refine lv_aload_n hx hb d_q_assume_164 rfl (lv_at hl 0 rfl) ?_
    refine lv_iload_n hx hb d_q_assume_165 rfl (lv_at hl 3 rfl) ?_
    refine lv_sipush (v := (224 : Int32)) hx hb d_q_assume_166 (by decide) ?_
    replace h := bs h
    obtain ⟨w61, hw61, h⟩ := h
    refine cv_q_400 (As := [.int y3, .int (224 : Int32)]) (rest := []) hx hb hml hown hts hK hG hW (c_q_copy l D cA base hw61) (kb_q_copy hw61) ⟨Nat.le_of_ble_eq_true rfl, Nat.le_of_ble_eq_true rfl⟩ ⟨Nat.le_of_ble_eq_true rfl, Nat.le_of_ble_eq_true rfl⟩ rfl hl.1 rfl (Nat.le_of_ble_eq_true rfl) d_q_assume_169 (fun H locs hW => ?_)
    refine lv_aload_n hx hb d_q_assume_172 rfl (lv_at hl 0 rfl) ?_
    refine lv_iload hx hb d_q_assume_173 (lv_at hl 4 rfl) ?_
    refine lv_sipush (v := (225 : Int32)) hx hb d_q_assume_175 (by decide) ?_
    replace h := bs h
    obtain ⟨w62, hw62, h⟩ := h
    refine cv_q_400 (As := [.int y4, .int (225 : Int32)]) (rest := []) hx hb hml hown hts hK hG hW (c_q_copy l D cA base hw62) (kb_q_copy hw62) ⟨Nat.le_of_ble_eq_true rfl, Nat.le_of_ble_eq_true rfl⟩ ⟨Nat.le_of_ble_eq_true rfl, Nat.le_of_ble_eq_true rfl⟩ rfl hl.1 rfl (Nat.le_of_ble_eq_true rfl) d_q_assume_178 (fun H locs hW => ?_)
    refine lv_goto (tgt := 227) hx hb d_q_assume_181 (by decide) ?_
    exact j_q_assume_227 C y0 y1 y3 y4 w62 h _ _ _ hW (lv_sub hl [0, 1, 3, 4] rfl)
set_option maxHeartbeats 4000000 in
set_option maxRecDepth 100000 in
theorem j_q_assume_104 {p : Program} {l : Launch} {e : Env} {s : State} {m : MethodId} {args : Array Value} {below : List Frame} {meth : Method} {c : Code} {D : va_G} {cA : Nat → ClassId} {base : Nat} {w' : WW} (C : cx b_q_assume (none) 7 y_q_assume.cls "assume" p s m args meth c D cA base)   : ∀ (y0 : Nat) (y1 : Int32) (y2 : Int32) (y3 : Int32) (y4 : Int32) (y6 : Int32) (z0 : Int32) (w : WW), f_q_assume_104 y0 y1 y2 y3 y4 y6 z0 w = some w' → ∀ (H : Heap) (locs : List Loc) (ls : Array Slot), wo_S D cls cA base s w H locs → lv_has ls 7 [(0, .ref (base + y0)), (1, .int y1), (2, .int y2), (3, .int y3), (4, .int y4), (6, .int y6)] → W p l e rm_q_assume s m args below meth c H locs 0 0 (MQ below (wo_Q D cls cA base none w') args s rm_q_assume.cells rm_q_assume.slots (wo_B base)) (F0 m 104 ls [.int z0]) := by
  obtain ⟨hx, hb, hr, hml, hown, hts, hlk, hnm, hK, hG⟩ := id C
  intro y0 y1 y2 y3 y4 y6 z0 w h H locs ls hW hl
  unfold f_q_assume_104 at h
  refine lv_iload_n hx hb d_q_assume_104 rfl (lv_at hl 2 rfl) ?_
  refine lv_icmp_ne (tgt := 138) hx hb d_q_assume_105 (by decide) (fun c64 => ?_) (fun c64 => ?_)
  · rw [if_neg c64] at h
    exact j_q_assume_138 C y0 y1 y2 y3 y4 y6 w h _ _ _ hW (lv_sub hl [0, 1, 2, 3, 4, 5] rfl)
  · rw [if_pos c64] at h
    refine lv_aload_n hx hb d_q_assume_108 rfl (lv_at hl 0 rfl) ?_
    refine lv_sipush (v := (224 : Int32)) hx hb d_q_assume_109 (by decide) ?_
    refine lv_iload_n hx hb d_q_assume_112 rfl (lv_at hl 3 rfl) ?_
    refine lv_iload hx hb d_q_assume_113 (lv_at hl 4 rfl) ?_
    replace h := bs h
    obtain ⟨w65, hw65, h⟩ := h
    refine cv_q_470 (As := [.int (224 : Int32), .int y3, .int y4]) (rest := []) hx hb hml hown hts hK hG hW (c_q_meet l D cA base hw65) (kb_q_meet hw65) ⟨Nat.le_of_ble_eq_true rfl, Nat.le_of_ble_eq_true rfl⟩ ⟨Nat.le_of_ble_eq_true rfl, Nat.le_of_ble_eq_true rfl⟩ rfl hl.1 rfl (Nat.le_of_ble_eq_true rfl) d_q_assume_115 (fun H locs hW => ?_)
    refine lv_aload_n hx hb d_q_assume_118 rfl (lv_at hl 0 rfl) ?_
    refine lv_iload_n hx hb d_q_assume_119 rfl (lv_at hl 3 rfl) ?_
    refine lv_sipush (v := (224 : Int32)) hx hb d_q_assume_120 (by decide) ?_
    replace h := bs h
    obtain ⟨w66, hw66, h⟩ := h
    refine cv_q_400 (As := [.int y3, .int (224 : Int32)]) (rest := []) hx hb hml hown hts hK hG hW (c_q_copy l D cA base hw66) (kb_q_copy hw66) ⟨Nat.le_of_ble_eq_true rfl, Nat.le_of_ble_eq_true rfl⟩ ⟨Nat.le_of_ble_eq_true rfl, Nat.le_of_ble_eq_true rfl⟩ rfl hl.1 rfl (Nat.le_of_ble_eq_true rfl) d_q_assume_123 (fun H locs hW => ?_)
    refine lv_aload_n hx hb d_q_assume_126 rfl (lv_at hl 0 rfl) ?_
    refine lv_iload hx hb d_q_assume_127 (lv_at hl 4 rfl) ?_
    refine lv_sipush (v := (224 : Int32)) hx hb d_q_assume_129 (by decide) ?_
    replace h := bs h
    obtain ⟨w67, hw67, h⟩ := h
    refine cv_q_400 (As := [.int y4, .int (224 : Int32)]) (rest := []) hx hb hml hown hts hK hG hW (c_q_copy l D cA base hw67) (kb_q_copy hw67) ⟨Nat.le_of_ble_eq_true rfl, Nat.le_of_ble_eq_true rfl⟩ ⟨Nat.le_of_ble_eq_true rfl, Nat.le_of_ble_eq_true rfl⟩ rfl hl.1 rfl (Nat.le_of_ble_eq_true rfl) d_q_assume_132 (fun H locs hW => ?_)
    refine lv_goto (tgt := 227) hx hb d_q_assume_135 (by decide) ?_
    exact j_q_assume_227 C y0 y1 y3 y4 w67 h _ _ _ hW (lv_sub hl [0, 1, 3, 4] rfl)
set_option maxHeartbeats 4000000 in
set_option maxRecDepth 100000 in
theorem j_q_assume_65 {p : Program} {l : Launch} {e : Env} {s : State} {m : MethodId} {args : Array Value} {below : List Frame} {meth : Method} {c : Code} {D : va_G} {cA : Nat → ClassId} {base : Nat} {w' : WW} (C : cx b_q_assume (none) 7 y_q_assume.cls "assume" p s m args meth c D cA base)   : ∀ (y0 : Nat) (y1 : Int32) (y2 : Int32) (y3 : Int32) (y4 : Int32) (z0 : Int32) (w : WW), f_q_assume_65 y0 y1 y2 y3 y4 z0 w = some w' → ∀ (H : Heap) (locs : List Loc) (ls : Array Slot), wo_S D cls cA base s w H locs → lv_has ls 7 [(0, .ref (base + y0)), (1, .int y1), (2, .int y2), (3, .int y3), (4, .int y4)] → W p l e rm_q_assume s m args below meth c H locs 0 0 (MQ below (wo_Q D cls cA base none w') args s rm_q_assume.cells rm_q_assume.slots (wo_B base)) (F0 m 65 ls [.int z0]) := by
  obtain ⟨hx, hb, hr, hml, hown, hts, hlk, hnm, hK, hG⟩ := id C
  intro y0 y1 y2 y3 y4 z0 w h H locs ls hW hl
  unfold f_q_assume_65 at h
  refine lv_istore (lv' := [(5, .int z0), (0, .ref (base + y0)), (1, .int y1), (2, .int y2), (3, .int y3), (4, .int y4)]) hx hb d_q_assume_65 hl (by decide) rfl (fun ls hl => ?_)
  refine lv_iload hx hb d_q_assume_67 (lv_at hl 0 rfl) ?_
  refine lv_if_ne (tgt := 80) hx hb d_q_assume_69 (by decide) (fun c11 => ?_) (fun c11 => ?_)
  · rw [if_neg c11] at h
    refine lv_aload_n hx hb d_q_assume_80 rfl (lv_at hl 1 rfl) ?_
    replace h := bs h
    obtain ⟨x12, hx12, h⟩ := h
    refine gf_q_47 hx hb hts hown hK hG hW (gN_s hx12) d_q_assume_81 ?_
    refine lv_iload_n hx hb d_q_assume_84 rfl (lv_at hl 2 rfl) ?_
    replace h := bs h
    obtain ⟨x13, hx13, h⟩ := h
    refine wo_iald hx hb hK hW (t := 0) rfl hx13 d_q_assume_85 ?_
    refine lv_istore (lv' := [(6, .int x13), (5, .int z0), (0, .ref (base + y0)), (1, .int y1), (2, .int y2), (3, .int y3), (4, .int y4)]) hx hb d_q_assume_86 hl (by decide) rfl (fun ls hl => ?_)
    refine lv_iload hx hb d_q_assume_88 (lv_at hl 0 rfl) ?_
    refine lv_iconst (v := (2 : Int32)) hx hb d_q_assume_90 (by decide) ?_
    refine lv_icmp_ge (tgt := 138) hx hb d_q_assume_91 (by decide) (fun c14 => ?_) (fun c14 => ?_)
    · rw [if_pos c14] at h
      exact j_q_assume_138 C y0 y1 y2 y3 y4 x13 w h _ _ _ hW (lv_sub hl [2, 3, 4, 5, 6, 0] rfl)
    · rw [if_neg c14] at h
      refine lv_iload hx hb d_q_assume_94 (lv_at hl 0 rfl) ?_
      refine lv_if_ne (tgt := 103) hx hb d_q_assume_96 (by decide) (fun c63 => ?_) (fun c63 => ?_)
      · rw [if_neg c63] at h
        refine lv_iconst (v := (0 : Int32)) hx hb d_q_assume_103 (by decide) ?_
        exact j_q_assume_104 C y0 y1 y2 y3 y4 x13 (0 : Int32) w h _ _ _ hW (lv_sub hl [2, 3, 4, 5, 6, 0] rfl)
      · rw [if_pos c63] at h
        refine lv_iconst (v := (1 : Int32)) hx hb d_q_assume_99 (by decide) ?_
        refine lv_goto (tgt := 104) hx hb d_q_assume_100 (by decide) ?_
        exact j_q_assume_104 C y0 y1 y2 y3 y4 x13 (1 : Int32) w h _ _ _ hW (lv_sub hl [2, 3, 4, 5, 6, 0] rfl)
  · rw [if_pos c11] at h
    refine lv_aload_n hx hb d_q_assume_72 rfl (lv_at hl 1 rfl) ?_
    replace h := bs h
    obtain ⟨x68, hx68, h⟩ := h
    refine gf_q_133 hx hb hts hown hK hG hW (gN_s hx68) d_q_assume_73 ?_
    refine lv_iconst (v := (0 : Int32)) hx hb d_q_assume_76 (by decide) ?_
    refine lv_iconst (v := (1 : Int32)) hx hb d_q_assume_77 (by decide) ?_
    replace h := bs h
    obtain ⟨w69, hw69, h⟩ := h
    refine wo_zast hx hb hK hW (t := 2) rfl hw69 d_q_assume_78 (fun H locs hW => ?_)
    cases h
    exact wo_vret hx hb hr hlk hW d_q_assume_79
set_option maxHeartbeats 4000000 in
set_option maxRecDepth 100000 in
theorem j_q_assume_64 {p : Program} {l : Launch} {e : Env} {s : State} {m : MethodId} {args : Array Value} {below : List Frame} {meth : Method} {c : Code} {D : va_G} {cA : Nat → ClassId} {base : Nat} {w' : WW} (C : cx b_q_assume (none) 7 y_q_assume.cls "assume" p s m args meth c D cA base)   : ∀ (y0 : Nat) (y1 : Int32) (y2 : Int32) (y3 : Int32) (y4 : Int32) (w : WW), f_q_assume_64 y0 y1 y2 y3 y4 w = some w' → ∀ (H : Heap) (locs : List Loc) (ls : Array Slot), wo_S D cls cA base s w H locs → lv_has ls 7 [(0, .ref (base + y0)), (1, .int y1), (2, .int y2), (3, .int y3), (4, .int y4)] → W p l e rm_q_assume s m args below meth c H locs 0 0 (MQ below (wo_Q D cls cA base none w') args s rm_q_assume.cells rm_q_assume.slots (wo_B base)) (F0 m 64 ls []) := by
  obtain ⟨hx, hb, hr, hml, hown, hts, hlk, hnm, hK, hG⟩ := id C
  intro y0 y1 y2 y3 y4 w h H locs ls hW hl
  unfold f_q_assume_64 at h
  refine lv_iconst (v := (0 : Int32)) hx hb d_q_assume_64 (by decide) ?_
  exact j_q_assume_65 C y0 y1 y2 y3 y4 (0 : Int32) w h _ _ _ hW (lv_sub hl [0, 1, 2, 3, 4] rfl)
set_option maxHeartbeats 4000000 in
set_option maxRecDepth 100000 in
theorem c_q_assume (l : Launch) (D : va_G) (cA : Nat → ClassId) (base : Nat) {a0 : Nat} {a1 : Int32} {a2 : Int32} {w w' : WW} (h : f_q_assume a0 a1 a2 w = some w') : mt l D cls (wo_tys cA) cA base y_q_assume (Cond.code y_q_assume b_q_assume 7 (none) :: gt) rm_q_assume [.ref (base + a0), .int a1, .int a2] w none w' rm_q_assume.cells rm_q_assume.slots := by
  refine mt_start (by decide) (Nat.le_of_ble_eq_true rfl) ?_
  intro p e s m below meth c ls hx hb hr hml hown hts hlk hnm hK hG hW hl
  have C : cx b_q_assume (none) 7 y_q_assume.cls "assume" p s m [.ref (base + a0), .int a1, .int a2].toArray meth c D cA base := ⟨hx, hb, hr, hml, hown, hts, hlk, hnm, hK, hG⟩
  have hl : lv_has ls 7 [(0, .ref (base + a0)), (1, .int a1), (2, .int a2)] := hl
  unfold f_q_assume at h
  replace h := its h
  obtain ⟨-, h⟩ := h
  refine lv_aload_n hx hb d_q_assume_0 rfl (lv_at hl 0 rfl) ?_
  replace h := bs h
  obtain ⟨x1, hx1, h⟩ := h
  refine gf_q_133 hx hb hts hown hK hG hW (gN_s hx1) d_q_assume_1 ?_
  refine lv_iconst (v := (0 : Int32)) hx hb d_q_assume_4 (by decide) ?_
  replace h := bs h
  obtain ⟨x2, hx2, h⟩ := h
  refine wo_zald hx hb hK hW (t := 2) rfl hx2 d_q_assume_5 ?_
  refine lv_if_eq (tgt := 10) hx hb d_q_assume_6 (by decide) (fun c3 => ?_) (fun c3 => ?_)
  · rw [if_pos c3] at h
    refine lv_sipush (v := (226 : Int32)) hx hb d_q_assume_10 (by decide) ?_
    refine lv_istore_n (lv' := [(3, .int (226 : Int32)), (0, .ref (base + a0)), (1, .int a1), (2, .int a2)]) hx hb d_q_assume_13 rfl hl (by decide) rfl (fun ls hl => ?_)
    refine lv_sipush (v := (290 : Int32)) hx hb d_q_assume_14 (by decide) ?_
    refine lv_istore (lv' := [(4, .int (290 : Int32)), (3, .int (226 : Int32)), (0, .ref (base + a0)), (1, .int a1), (2, .int a2)]) hx hb d_q_assume_17 hl (by decide) rfl (fun ls hl => ?_)
    refine lv_aload_n hx hb d_q_assume_19 rfl (lv_at hl 2 rfl) ?_
    refine lv_aload_n hx hb d_q_assume_20 rfl (lv_at hl 2 rfl) ?_
    replace h := bs h
    obtain ⟨x4, hx4, h⟩ := h
    refine gf_q_35 hx hb hts hown hK hG hW (gN_s hx4) d_q_assume_21 ?_
    refine lv_iload_n hx hb d_q_assume_24 rfl (lv_at hl 3 rfl) ?_
    replace h := bs h
    obtain ⟨x5, hx5, h⟩ := h
    refine wo_iald hx hb hK hW (t := 0) rfl hx5 d_q_assume_25 ?_
    refine lv_aload_n hx hb d_q_assume_26 rfl (lv_at hl 2 rfl) ?_
    replace h := bs h
    obtain ⟨x6, hx6, h⟩ := h
    refine gf_q_38 hx hb hts hown hK hG hW (gN_s hx6) d_q_assume_27 ?_
    refine lv_iload_n hx hb d_q_assume_30 rfl (lv_at hl 3 rfl) ?_
    replace h := bs h
    obtain ⟨x7, hx7, h⟩ := h
    refine wo_iald hx hb hK hW (t := 0) rfl hx7 d_q_assume_31 ?_
    refine lv_iload_n hx hb d_q_assume_32 rfl (lv_at hl 1 rfl) ?_
    replace h := bs2 h
    obtain ⟨x9, w8, hw8, h⟩ := h
    refine cv_q_467 (As := [.int x5, .int x7, .int (226 : Int32)]) (rest := []) hx hb hml hown hts hK hG hW (c_q_look l D cA base hw8) (kb_q_look hw8) ⟨Nat.le_of_ble_eq_true rfl, Nat.le_of_ble_eq_true rfl⟩ ⟨Nat.le_of_ble_eq_true rfl, Nat.le_of_ble_eq_true rfl⟩ rfl hl.1 rfl (Nat.le_of_ble_eq_true rfl) d_q_assume_33 (fun H locs hW => ?_)
    refine lv_if_eq (tgt := 64) hx hb d_q_assume_36 (by decide) (fun c10 => ?_) (fun c10 => ?_)
    · rw [if_pos c10] at h
      exact j_q_assume_64 C a0 a1 a2 (226 : Int32) (290 : Int32) w8 h _ _ _ hW (lv_sub hl [2, 3, 4, 1, 0] rfl)
    · rw [if_neg c10] at h
      refine lv_aload_n hx hb d_q_assume_39 rfl (lv_at hl 2 rfl) ?_
      refine lv_aload_n hx hb d_q_assume_40 rfl (lv_at hl 2 rfl) ?_
      replace h := bs h
      obtain ⟨x70, hx70, h⟩ := h
      refine gf_q_41 hx hb hts hown hK hG hW (gN_s hx70) d_q_assume_41 ?_
      refine lv_iload_n hx hb d_q_assume_44 rfl (lv_at hl 3 rfl) ?_
      replace h := bs h
      obtain ⟨x71, hx71, h⟩ := h
      refine wo_iald hx hb hK hW (t := 0) rfl hx71 d_q_assume_45 ?_
      refine lv_aload_n hx hb d_q_assume_46 rfl (lv_at hl 2 rfl) ?_
      replace h := bs h
      obtain ⟨x72, hx72, h⟩ := h
      refine gf_q_44 hx hb hts hown hK hG hW (gN_s hx72) d_q_assume_47 ?_
      refine lv_iload_n hx hb d_q_assume_50 rfl (lv_at hl 3 rfl) ?_
      replace h := bs h
      obtain ⟨x73, hx73, h⟩ := h
      refine wo_iald hx hb hK hW (t := 0) rfl hx73 d_q_assume_51 ?_
      refine lv_iload hx hb d_q_assume_52 (lv_at hl 0 rfl) ?_
      replace h := bs2 h
      obtain ⟨x75, w74, hw74, h⟩ := h
      refine cv_q_467 (As := [.int x71, .int x73, .int (290 : Int32)]) (rest := []) hx hb hml hown hts hK hG hW (c_q_look l D cA base hw74) (kb_q_look hw74) ⟨Nat.le_of_ble_eq_true rfl, Nat.le_of_ble_eq_true rfl⟩ ⟨Nat.le_of_ble_eq_true rfl, Nat.le_of_ble_eq_true rfl⟩ rfl hl.1 rfl (Nat.le_of_ble_eq_true rfl) d_q_assume_54 (fun H locs hW => ?_)
      refine lv_if_eq (tgt := 64) hx hb d_q_assume_57 (by decide) (fun c76 => ?_) (fun c76 => ?_)
      · rw [if_pos c76] at h
        exact j_q_assume_64 C a0 a1 a2 (226 : Int32) (290 : Int32) w74 h _ _ _ hW (lv_sub hl [2, 3, 4, 1, 0] rfl)
      · rw [if_neg c76] at h
        refine lv_iconst (v := (1 : Int32)) hx hb d_q_assume_60 (by decide) ?_
        refine lv_goto (tgt := 65) hx hb d_q_assume_61 (by decide) ?_
        exact j_q_assume_65 C a0 a1 a2 (226 : Int32) (290 : Int32) (1 : Int32) w74 h _ _ _ hW (lv_sub hl [2, 3, 4, 1, 0] rfl)
  · rw [if_neg c3] at h
    cases h
    exact wo_vret hx hb hr hlk hW d_q_assume_9
theorem cv_q_445 {p : Program} {l : Launch} {e : Env} {R : Room} {s : State} {m : MethodId} {args : Array Value} {below : List Frame} {meth : Method} {c : Code} {H : Heap} {locs : List Loc} {cells slots : Nat} {Q : State → Prop} {D : va_G} {cA : Nat → ClassId} {base : Nat} {w w' : WW} {cc : ByteArray} {pc nL : Nat} {ls : Array Slot} {rest st0 As : List Value} {ov : Option Value} {b : Nat} (hx : p.tables.exec = Jvm.exec) (hb : c.code = cc) (hml : c.maxLocals = nL) (hown : s.vm.findClass Rc_q = some m.cls) (hts : ∀ w ∈ gt, w.before args s = true) (hK : va_K D cls (wo_tys cA) s) (hG : wo_G cA base s) (hW : wo_S D cls cA base s w H locs) (hM : mt l D cls (wo_tys cA) cA base y_q_copyState (Cond.code y_q_copyState b_q_copyState 4 (none) :: gt) rm_q_copyState (.ref (base + b) :: As) w ov w' rm_q_copyState.cells rm_q_copyState.slots) (hkb : kb w b 9 = true) (hR : rm_q_copyState.frames + 1 ≤ R.frames ∧ 8 + (4 + 11) + rm_q_copyState.locals ≤ R.locals) (hf : cells + rm_q_copyState.cells ≤ R.cells ∧ slots + rm_q_copyState.slots ≤ R.slots) (hn : As.length = 2) (hsz : ls.size = nL) (hst : st0 = As.reverse ++ .ref (base + b) :: rest) (hcat : (rest.map fun v => v.category).sum ≤ 8) (hdg : decode cc pc = .ok (.invokevirtual 445, 3)) (kk : ∀ (H1 : Heap) (locs1 : List Loc), wo_S D cls cA base s w' H1 locs1 → W p l e R s m args below meth c H1 locs1 (cells + rm_q_copyState.cells) (slots + rm_q_copyState.slots) Q (F0 m (pc + 3) ls (ov.toList ++ rest))) : W p l e R s m args below meth c H locs cells slots Q (F0 m pc ls st0) :=
  wo_callV (C := Rc_q) hx hb hml hown hts hK hG hW hM hkb rfl (gt_of (i := 1590) (by decide +kernel) (by decide +kernel)) (gt_of (i := 1592) (by decide +kernel) (by decide +kernel)) (gt_sel (i := 90) (by decide +kernel) (by decide +kernel)) (gt_of (i := 10) (by decide +kernel) (by decide +kernel)) (gt_of (i := 1593) (by decide +kernel) (by decide +kernel)) (by decide +kernel) hR hf hn hsz hst hcat hdg kk
theorem cv_q_485 {p : Program} {l : Launch} {e : Env} {R : Room} {s : State} {m : MethodId} {args : Array Value} {below : List Frame} {meth : Method} {c : Code} {H : Heap} {locs : List Loc} {cells slots : Nat} {Q : State → Prop} {D : va_G} {cA : Nat → ClassId} {base : Nat} {w w' : WW} {cc : ByteArray} {pc nL : Nat} {ls : Array Slot} {rest st0 As : List Value} {ov : Option Value} {b : Nat} (hx : p.tables.exec = Jvm.exec) (hb : c.code = cc) (hml : c.maxLocals = nL) (hown : s.vm.findClass Rc_q = some m.cls) (hts : ∀ w ∈ gt, w.before args s = true) (hK : va_K D cls (wo_tys cA) s) (hG : wo_G cA base s) (hW : wo_S D cls cA base s w H locs) (hM : mt l D cls (wo_tys cA) cA base y_q_assume (Cond.code y_q_assume b_q_assume 7 (none) :: gt) rm_q_assume (.ref (base + b) :: As) w ov w' rm_q_assume.cells rm_q_assume.slots) (hkb : kb w b 9 = true) (hR : rm_q_assume.frames + 1 ≤ R.frames ∧ 8 + (7 + 11) + rm_q_assume.locals ≤ R.locals) (hf : cells + rm_q_assume.cells ≤ R.cells ∧ slots + rm_q_assume.slots ≤ R.slots) (hn : As.length = 2) (hsz : ls.size = nL) (hst : st0 = As.reverse ++ .ref (base + b) :: rest) (hcat : (rest.map fun v => v.category).sum ≤ 8) (hdg : decode cc pc = .ok (.invokevirtual 485, 3)) (kk : ∀ (H1 : Heap) (locs1 : List Loc), wo_S D cls cA base s w' H1 locs1 → W p l e R s m args below meth c H1 locs1 (cells + rm_q_assume.cells) (slots + rm_q_assume.slots) Q (F0 m (pc + 3) ls (ov.toList ++ rest))) : W p l e R s m args below meth c H locs cells slots Q (F0 m pc ls st0) :=
  wo_callV (C := Rc_q) hx hb hml hown hts hK hG hW hM hkb rfl (gt_of (i := 1598) (by decide +kernel) (by decide +kernel)) (gt_of (i := 1600) (by decide +kernel) (by decide +kernel)) (gt_sel (i := 92) (by decide +kernel) (by decide +kernel)) (gt_of (i := 10) (by decide +kernel) (by decide +kernel)) (gt_of (i := 1601) (by decide +kernel) (by decide +kernel)) (by decide +kernel) hR hf hn hsz hst hcat hdg kk
abbrev b_q_enter : ByteArray := prog_11_method_80_code
def y_q_enter : MethodName := ⟨"AlarmForgeModel", "enter", "(I)I"⟩
def rm_q_enter : Room := { frames := 6, cells := 0, slots := 0, locals := 168 }
theorem d_q_enter_0 : decode b_q_enter 0 = .ok (.iconst 3, 1) := by decide +kernel
theorem d_q_enter_1 : decode b_q_enter 1 = .ok (.iconst 3, 1) := by decide +kernel
theorem d_q_enter_2 : decode b_q_enter 2 = .ok (.aload_n 0, 1) := by decide +kernel
theorem d_q_enter_3 : decode b_q_enter 3 = .ok (.getfield 489, 3) := by decide +kernel
theorem d_q_enter_6 : decode b_q_enter 6 = .ok (.imul, 1) := by decide +kernel
theorem d_q_enter_7 : decode b_q_enter 7 = .ok (.iadd, 1) := by decide +kernel
theorem d_q_enter_8 : decode b_q_enter 8 = .ok (.istore_n 2, 1) := by decide +kernel
theorem d_q_enter_9 : decode b_q_enter 9 = .ok (.aload_n 0, 1) := by decide +kernel
theorem d_q_enter_10 : decode b_q_enter 10 = .ok (.getfield 26, 3) := by decide +kernel
theorem d_q_enter_13 : decode b_q_enter 13 = .ok (.iload_n 1, 1) := by decide +kernel
theorem d_q_enter_14 : decode b_q_enter 14 = .ok (.iaload, 1) := by decide +kernel
theorem d_q_enter_15 : decode b_q_enter 15 = .ok (.iconst 4, 1) := by decide +kernel
theorem d_q_enter_16 : decode b_q_enter 16 = .ok (.if_icmp .ne (19), 3) := by decide +kernel
theorem d_q_enter_19 : decode b_q_enter 19 = .ok (.aload_n 0, 1) := by decide +kernel
theorem d_q_enter_20 : decode b_q_enter 20 = .ok (.getfield 133, 3) := by decide +kernel
theorem d_q_enter_23 : decode b_q_enter 23 = .ok (.iconst 0, 1) := by decide +kernel
theorem d_q_enter_24 : decode b_q_enter 24 = .ok (.baload, 1) := by decide +kernel
theorem d_q_enter_25 : decode b_q_enter 25 = .ok (.ifCond .eq (10), 3) := by decide +kernel
theorem d_q_enter_28 : decode b_q_enter 28 = .ok (.aload_n 0, 1) := by decide +kernel
theorem d_q_enter_29 : decode b_q_enter 29 = .ok (.getfield 56, 3) := by decide +kernel
theorem d_q_enter_32 : decode b_q_enter 32 = .ok (.iload_n 1, 1) := by decide +kernel
theorem d_q_enter_33 : decode b_q_enter 33 = .ok (.iaload, 1) := by decide +kernel
theorem d_q_enter_34 : decode b_q_enter 34 = .ok (.ireturn, 1) := by decide +kernel
theorem d_q_enter_35 : decode b_q_enter 35 = .ok (.aload_n 0, 1) := by decide +kernel
theorem d_q_enter_36 : decode b_q_enter 36 = .ok (.getfield 139, 3) := by decide +kernel
theorem d_q_enter_39 : decode b_q_enter 39 = .ok (.aload_n 0, 1) := by decide +kernel
theorem d_q_enter_40 : decode b_q_enter 40 = .ok (.getfield 489, 3) := by decide +kernel
theorem d_q_enter_43 : decode b_q_enter 43 = .ok (.iload_n 1, 1) := by decide +kernel
theorem d_q_enter_44 : decode b_q_enter 44 = .ok (.iastore, 1) := by decide +kernel
theorem d_q_enter_45 : decode b_q_enter 45 = .ok (.aload_n 0, 1) := by decide +kernel
theorem d_q_enter_46 : decode b_q_enter 46 = .ok (.getfield 145, 3) := by decide +kernel
theorem d_q_enter_49 : decode b_q_enter 49 = .ok (.aload_n 0, 1) := by decide +kernel
theorem d_q_enter_50 : decode b_q_enter 50 = .ok (.getfield 489, 3) := by decide +kernel
theorem d_q_enter_53 : decode b_q_enter 53 = .ok (.iconst 1, 1) := by decide +kernel
theorem d_q_enter_54 : decode b_q_enter 54 = .ok (.iastore, 1) := by decide +kernel
theorem d_q_enter_55 : decode b_q_enter 55 = .ok (.aload_n 0, 1) := by decide +kernel
theorem d_q_enter_56 : decode b_q_enter 56 = .ok (.getfield 142, 3) := by decide +kernel
theorem d_q_enter_59 : decode b_q_enter 59 = .ok (.aload_n 0, 1) := by decide +kernel
theorem d_q_enter_60 : decode b_q_enter 60 = .ok (.getfield 489, 3) := by decide +kernel
theorem d_q_enter_63 : decode b_q_enter 63 = .ok (.aload_n 0, 1) := by decide +kernel
theorem d_q_enter_64 : decode b_q_enter 64 = .ok (.getfield 26, 3) := by decide +kernel
theorem d_q_enter_67 : decode b_q_enter 67 = .ok (.iload_n 1, 1) := by decide +kernel
theorem d_q_enter_68 : decode b_q_enter 68 = .ok (.iaload, 1) := by decide +kernel
theorem d_q_enter_69 : decode b_q_enter 69 = .ok (.iconst 3, 1) := by decide +kernel
theorem d_q_enter_70 : decode b_q_enter 70 = .ok (.if_icmp .ne (7), 3) := by decide +kernel
theorem d_q_enter_73 : decode b_q_enter 73 = .ok (.iconst 0, 1) := by decide +kernel
theorem d_q_enter_74 : decode b_q_enter 74 = .ok (.goto (4), 3) := by decide +kernel
theorem d_q_enter_77 : decode b_q_enter 77 = .ok (.iconst 2, 1) := by decide +kernel
theorem d_q_enter_78 : decode b_q_enter 78 = .ok (.iastore, 1) := by decide +kernel
theorem d_q_enter_79 : decode b_q_enter 79 = .ok (.aload_n 0, 1) := by decide +kernel
theorem d_q_enter_80 : decode b_q_enter 80 = .ok (.dup, 1) := by decide +kernel
theorem d_q_enter_81 : decode b_q_enter 81 = .ok (.getfield 489, 3) := by decide +kernel
theorem d_q_enter_84 : decode b_q_enter 84 = .ok (.iconst 1, 1) := by decide +kernel
theorem d_q_enter_85 : decode b_q_enter 85 = .ok (.iadd, 1) := by decide +kernel
theorem d_q_enter_86 : decode b_q_enter 86 = .ok (.putfield 489, 3) := by decide +kernel
theorem d_q_enter_89 : decode b_q_enter 89 = .ok (.aload_n 0, 1) := by decide +kernel
theorem d_q_enter_90 : decode b_q_enter 90 = .ok (.iload_n 2, 1) := by decide +kernel
theorem d_q_enter_91 : decode b_q_enter 91 = .ok (.iconst 0, 1) := by decide +kernel
theorem d_q_enter_92 : decode b_q_enter 92 = .ok (.invokevirtual 445, 3) := by decide +kernel
theorem d_q_enter_95 : decode b_q_enter 95 = .ok (.aload_n 0, 1) := by decide +kernel
theorem d_q_enter_96 : decode b_q_enter 96 = .ok (.iload_n 2, 1) := by decide +kernel
theorem d_q_enter_97 : decode b_q_enter 97 = .ok (.iconst 1, 1) := by decide +kernel
theorem d_q_enter_98 : decode b_q_enter 98 = .ok (.iadd, 1) := by decide +kernel
theorem d_q_enter_99 : decode b_q_enter 99 = .ok (.iconst 0, 1) := by decide +kernel
theorem d_q_enter_100 : decode b_q_enter 100 = .ok (.invokevirtual 445, 3) := by decide +kernel
theorem d_q_enter_103 : decode b_q_enter 103 = .ok (.aload_n 0, 1) := by decide +kernel
theorem d_q_enter_104 : decode b_q_enter 104 = .ok (.getfield 26, 3) := by decide +kernel
theorem d_q_enter_107 : decode b_q_enter 107 = .ok (.iload_n 1, 1) := by decide +kernel
theorem d_q_enter_108 : decode b_q_enter 108 = .ok (.iaload, 1) := by decide +kernel
theorem d_q_enter_109 : decode b_q_enter 109 = .ok (.iconst 4, 1) := by decide +kernel
theorem d_q_enter_110 : decode b_q_enter 110 = .ok (.if_icmp .ne (13), 3) := by decide +kernel
theorem d_q_enter_113 : decode b_q_enter 113 = .ok (.aload_n 0, 1) := by decide +kernel
theorem d_q_enter_114 : decode b_q_enter 114 = .ok (.dup, 1) := by decide +kernel
theorem d_q_enter_115 : decode b_q_enter 115 = .ok (.getfield 429, 3) := by decide +kernel
theorem d_q_enter_118 : decode b_q_enter 118 = .ok (.iconst 1, 1) := by decide +kernel
theorem d_q_enter_119 : decode b_q_enter 119 = .ok (.iadd, 1) := by decide +kernel
theorem d_q_enter_120 : decode b_q_enter 120 = .ok (.putfield 429, 3) := by decide +kernel
theorem d_q_enter_123 : decode b_q_enter 123 = .ok (.aload_n 0, 1) := by decide +kernel
theorem d_q_enter_124 : decode b_q_enter 124 = .ok (.iload_n 1, 1) := by decide +kernel
theorem d_q_enter_125 : decode b_q_enter 125 = .ok (.iconst 1, 1) := by decide +kernel
theorem d_q_enter_126 : decode b_q_enter 126 = .ok (.invokevirtual 485, 3) := by decide +kernel
theorem d_q_enter_129 : decode b_q_enter 129 = .ok (.aload_n 0, 1) := by decide +kernel
theorem d_q_enter_130 : decode b_q_enter 130 = .ok (.getfield 50, 3) := by decide +kernel
theorem d_q_enter_133 : decode b_q_enter 133 = .ok (.iload_n 1, 1) := by decide +kernel
theorem d_q_enter_134 : decode b_q_enter 134 = .ok (.iaload, 1) := by decide +kernel
theorem d_q_enter_135 : decode b_q_enter 135 = .ok (.ireturn, 1) := by decide +kernel
theorem kb_q_enter {a0 : Nat} {a1 : Int32} {w : WW} {r : (Int32 × WW)} (h : f_q_enter a0 a1 w = some r) : kb w a0 9 = true := (its h).1
set_option maxHeartbeats 4000000 in
set_option maxRecDepth 100000 in
theorem j_q_enter_123 {p : Program} {l : Launch} {e : Env} {s : State} {m : MethodId} {args : Array Value} {below : List Frame} {meth : Method} {c : Code} {D : va_G} {cA : Nat → ClassId} {base : Nat} {r : Int32} {w' : WW} (C : cx b_q_enter (some .int) 3 y_q_enter.cls "enter" p s m args meth c D cA base)   : ∀ (y0 : Nat) (y1 : Int32) (w : WW), f_q_enter_123 y0 y1 w = some (r, w') → ∀ (H : Heap) (locs : List Loc) (ls : Array Slot), wo_S D cls cA base s w H locs → lv_has ls 3 [(0, .ref (base + y0)), (1, .int y1)] → W p l e rm_q_enter s m args below meth c H locs 0 0 (MQ below (wo_Q D cls cA base (some (.int r)) w') args s rm_q_enter.cells rm_q_enter.slots (wo_B base)) (F0 m 123 ls []) := by
  obtain ⟨hx, hb, hr, hml, hown, hts, hlk, hnm, hK, hG⟩ := id C
  intro y0 y1 w h H locs ls hW hl
  unfold f_q_enter_123 at h
  refine lv_aload_n hx hb d_q_enter_123 rfl (lv_at hl 0 rfl) ?_
  refine lv_iload_n hx hb d_q_enter_124 rfl (lv_at hl 1 rfl) ?_
  refine lv_iconst (v := (1 : Int32)) hx hb d_q_enter_125 (by decide) ?_
  replace h := bs h
  obtain ⟨w24, hw24, h⟩ := h
  refine cv_q_485 (As := [.int y1, .int (1 : Int32)]) (rest := []) hx hb hml hown hts hK hG hW (c_q_assume l D cA base hw24) (kb_q_assume hw24) ⟨Nat.le_of_ble_eq_true rfl, Nat.le_of_ble_eq_true rfl⟩ ⟨Nat.le_of_ble_eq_true rfl, Nat.le_of_ble_eq_true rfl⟩ rfl hl.1 rfl (Nat.le_of_ble_eq_true rfl) d_q_enter_126 (fun H locs hW => ?_)
  refine lv_aload_n hx hb d_q_enter_129 rfl (lv_at hl 0 rfl) ?_
  replace h := bs h
  obtain ⟨x25, hx25, h⟩ := h
  refine gf_q_50 hx hb hts hown hK hG hW (gN_s hx25) d_q_enter_130 ?_
  refine lv_iload_n hx hb d_q_enter_133 rfl (lv_at hl 1 rfl) ?_
  replace h := bs h
  obtain ⟨x26, hx26, h⟩ := h
  refine wo_iald hx hb hK hW (t := 0) rfl hx26 d_q_enter_134 ?_
  cases h
  exact wo_iret hx hb hr hlk hW d_q_enter_135
set_option maxHeartbeats 4000000 in
set_option maxRecDepth 100000 in
theorem j_q_enter_78 {p : Program} {l : Launch} {e : Env} {s : State} {m : MethodId} {args : Array Value} {below : List Frame} {meth : Method} {c : Code} {D : va_G} {cA : Nat → ClassId} {base : Nat} {r : Int32} {w' : WW} (C : cx b_q_enter (some .int) 3 y_q_enter.cls "enter" p s m args meth c D cA base)   : ∀ (y0 : Nat) (y1 : Int32) (y2 : Int32) (z0 : Nat) (z1 : Int32) (z2 : Int32) (w : WW), f_q_enter_78 y0 y1 y2 z0 z1 z2 w = some (r, w') → ∀ (H : Heap) (locs : List Loc) (ls : Array Slot), wo_S D cls cA base s w H locs → lv_has ls 3 [(0, .ref (base + y0)), (1, .int y1), (2, .int y2)] → W p l e rm_q_enter s m args below meth c H locs 0 0 (MQ below (wo_Q D cls cA base (some (.int r)) w') args s rm_q_enter.cells rm_q_enter.slots (wo_B base)) (F0 m 78 ls [.int z2, .int z1, .ref (base + z0)]) := by
  obtain ⟨hx, hb, hr, hml, hown, hts, hlk, hnm, hK, hG⟩ := id C
  intro y0 y1 y2 z0 z1 z2 w h H locs ls hW hl
  unfold f_q_enter_78 at h
  replace h := bs h
  obtain ⟨w16, hw16, h⟩ := h
  refine wo_iast hx hb hK hW (t := 0) rfl hw16 d_q_enter_78 (fun H locs hW => ?_)
  refine lv_aload_n hx hb d_q_enter_79 rfl (lv_at hl 0 rfl) ?_
  refine lv_dup hx hb d_q_enter_80 rfl ?_
  replace h := bs h
  obtain ⟨x17, hx17, h⟩ := h
  refine gf_q_489 hx hb hts hown hK hG hW (gI_s hx17) d_q_enter_81 ?_
  refine lv_iconst (v := (1 : Int32)) hx hb d_q_enter_84 (by decide) ?_
  refine lv_iadd hx hb d_q_enter_85 ?_
  replace h := bs h
  obtain ⟨w18, hw18, h⟩ := h
  refine pf_q_489 hx hb hts hown hK hG hW rfl rfl (pbi hw18 rfl) d_q_enter_86 (fun H locs hW => ?_)
  refine lv_aload_n hx hb d_q_enter_89 rfl (lv_at hl 0 rfl) ?_
  refine lv_iload_n hx hb d_q_enter_90 rfl (lv_at hl 2 rfl) ?_
  refine lv_iconst (v := (0 : Int32)) hx hb d_q_enter_91 (by decide) ?_
  replace h := bs h
  obtain ⟨w19, hw19, h⟩ := h
  refine cv_q_445 (As := [.int y2, .int (0 : Int32)]) (rest := []) hx hb hml hown hts hK hG hW (c_q_copyState l D cA base hw19) (kb_q_copyState hw19) ⟨Nat.le_of_ble_eq_true rfl, Nat.le_of_ble_eq_true rfl⟩ ⟨Nat.le_of_ble_eq_true rfl, Nat.le_of_ble_eq_true rfl⟩ rfl hl.1 rfl (Nat.le_of_ble_eq_true rfl) d_q_enter_92 (fun H locs hW => ?_)
  refine lv_aload_n hx hb d_q_enter_95 rfl (lv_at hl 0 rfl) ?_
  refine lv_iload_n hx hb d_q_enter_96 rfl (lv_at hl 2 rfl) ?_
  refine lv_iconst (v := (1 : Int32)) hx hb d_q_enter_97 (by decide) ?_
  refine lv_iadd hx hb d_q_enter_98 ?_
  refine lv_iconst (v := (0 : Int32)) hx hb d_q_enter_99 (by decide) ?_
  replace h := bs h
  obtain ⟨w20, hw20, h⟩ := h
  refine cv_q_445 (As := [.int (y2 + (1 : Int32)), .int (0 : Int32)]) (rest := []) hx hb hml hown hts hK hG hW (c_q_copyState l D cA base hw20) (kb_q_copyState hw20) ⟨Nat.le_of_ble_eq_true rfl, Nat.le_of_ble_eq_true rfl⟩ ⟨Nat.le_of_ble_eq_true rfl, Nat.le_of_ble_eq_true rfl⟩ rfl hl.1 rfl (Nat.le_of_ble_eq_true rfl) d_q_enter_100 (fun H locs hW => ?_)
  refine lv_aload_n hx hb d_q_enter_103 rfl (lv_at hl 0 rfl) ?_
  replace h := bs h
  obtain ⟨x21, hx21, h⟩ := h
  refine gf_q_26 hx hb hts hown hK hG hW (gN_s hx21) d_q_enter_104 ?_
  refine lv_iload_n hx hb d_q_enter_107 rfl (lv_at hl 1 rfl) ?_
  replace h := bs h
  obtain ⟨x22, hx22, h⟩ := h
  refine wo_iald hx hb hK hW (t := 0) rfl hx22 d_q_enter_108 ?_
  refine lv_iconst (v := (4 : Int32)) hx hb d_q_enter_109 (by decide) ?_
  refine lv_icmp_ne (tgt := 123) hx hb d_q_enter_110 (by decide) (fun c23 => ?_) (fun c23 => ?_)
  · rw [if_neg c23] at h
    exact j_q_enter_123 C y0 y1 w20 h _ _ _ hW (lv_sub hl [0, 1] rfl)
  · rw [if_pos c23] at h
    refine lv_aload_n hx hb d_q_enter_113 rfl (lv_at hl 0 rfl) ?_
    refine lv_dup hx hb d_q_enter_114 rfl ?_
    replace h := bs h
    obtain ⟨x27, hx27, h⟩ := h
    refine gf_q_429 hx hb hts hown hK hG hW (gI_s hx27) d_q_enter_115 ?_
    refine lv_iconst (v := (1 : Int32)) hx hb d_q_enter_118 (by decide) ?_
    refine lv_iadd hx hb d_q_enter_119 ?_
    replace h := bs h
    obtain ⟨w28, hw28, h⟩ := h
    refine pf_q_429 hx hb hts hown hK hG hW rfl rfl (pbi hw28 rfl) d_q_enter_120 (fun H locs hW => ?_)
    exact j_q_enter_123 C y0 y1 w28 h _ _ _ hW (lv_sub hl [0, 1] rfl)
set_option maxHeartbeats 4000000 in
set_option maxRecDepth 100000 in
theorem j_q_enter_35 {p : Program} {l : Launch} {e : Env} {s : State} {m : MethodId} {args : Array Value} {below : List Frame} {meth : Method} {c : Code} {D : va_G} {cA : Nat → ClassId} {base : Nat} {r : Int32} {w' : WW} (C : cx b_q_enter (some .int) 3 y_q_enter.cls "enter" p s m args meth c D cA base)   : ∀ (y0 : Nat) (y1 : Int32) (y2 : Int32) (w : WW), f_q_enter_35 y0 y1 y2 w = some (r, w') → ∀ (H : Heap) (locs : List Loc) (ls : Array Slot), wo_S D cls cA base s w H locs → lv_has ls 3 [(0, .ref (base + y0)), (1, .int y1), (2, .int y2)] → W p l e rm_q_enter s m args below meth c H locs 0 0 (MQ below (wo_Q D cls cA base (some (.int r)) w') args s rm_q_enter.cells rm_q_enter.slots (wo_B base)) (F0 m 35 ls []) := by
  obtain ⟨hx, hb, hr, hml, hown, hts, hlk, hnm, hK, hG⟩ := id C
  intro y0 y1 y2 w h H locs ls hW hl
  unfold f_q_enter_35 at h
  refine lv_aload_n hx hb d_q_enter_35 rfl (lv_at hl 0 rfl) ?_
  replace h := bs h
  obtain ⟨x5, hx5, h⟩ := h
  refine gf_q_139 hx hb hts hown hK hG hW (gN_s hx5) d_q_enter_36 ?_
  refine lv_aload_n hx hb d_q_enter_39 rfl (lv_at hl 0 rfl) ?_
  replace h := bs h
  obtain ⟨x6, hx6, h⟩ := h
  refine gf_q_489 hx hb hts hown hK hG hW (gI_s hx6) d_q_enter_40 ?_
  refine lv_iload_n hx hb d_q_enter_43 rfl (lv_at hl 1 rfl) ?_
  replace h := bs h
  obtain ⟨w7, hw7, h⟩ := h
  refine wo_iast hx hb hK hW (t := 0) rfl hw7 d_q_enter_44 (fun H locs hW => ?_)
  refine lv_aload_n hx hb d_q_enter_45 rfl (lv_at hl 0 rfl) ?_
  replace h := bs h
  obtain ⟨x8, hx8, h⟩ := h
  refine gf_q_145 hx hb hts hown hK hG hW (gN_s hx8) d_q_enter_46 ?_
  refine lv_aload_n hx hb d_q_enter_49 rfl (lv_at hl 0 rfl) ?_
  replace h := bs h
  obtain ⟨x9, hx9, h⟩ := h
  refine gf_q_489 hx hb hts hown hK hG hW (gI_s hx9) d_q_enter_50 ?_
  refine lv_iconst (v := (1 : Int32)) hx hb d_q_enter_53 (by decide) ?_
  replace h := bs h
  obtain ⟨w10, hw10, h⟩ := h
  refine wo_iast hx hb hK hW (t := 0) rfl hw10 d_q_enter_54 (fun H locs hW => ?_)
  refine lv_aload_n hx hb d_q_enter_55 rfl (lv_at hl 0 rfl) ?_
  replace h := bs h
  obtain ⟨x11, hx11, h⟩ := h
  refine gf_q_142 hx hb hts hown hK hG hW (gN_s hx11) d_q_enter_56 ?_
  refine lv_aload_n hx hb d_q_enter_59 rfl (lv_at hl 0 rfl) ?_
  replace h := bs h
  obtain ⟨x12, hx12, h⟩ := h
  refine gf_q_489 hx hb hts hown hK hG hW (gI_s hx12) d_q_enter_60 ?_
  refine lv_aload_n hx hb d_q_enter_63 rfl (lv_at hl 0 rfl) ?_
  replace h := bs h
  obtain ⟨x13, hx13, h⟩ := h
  refine gf_q_26 hx hb hts hown hK hG hW (gN_s hx13) d_q_enter_64 ?_
  refine lv_iload_n hx hb d_q_enter_67 rfl (lv_at hl 1 rfl) ?_
  replace h := bs h
  obtain ⟨x14, hx14, h⟩ := h
  refine wo_iald hx hb hK hW (t := 0) rfl hx14 d_q_enter_68 ?_
  refine lv_iconst (v := (3 : Int32)) hx hb d_q_enter_69 (by decide) ?_
  refine lv_icmp_ne (tgt := 77) hx hb d_q_enter_70 (by decide) (fun c15 => ?_) (fun c15 => ?_)
  · rw [if_neg c15] at h
    refine lv_iconst (v := (2 : Int32)) hx hb d_q_enter_77 (by decide) ?_
    exact j_q_enter_78 C y0 y1 y2 x11 x12 (2 : Int32) w10 h _ _ _ hW (lv_sub hl [0, 1, 2] rfl)
  · rw [if_pos c15] at h
    refine lv_iconst (v := (0 : Int32)) hx hb d_q_enter_73 (by decide) ?_
    refine lv_goto (tgt := 78) hx hb d_q_enter_74 (by decide) ?_
    exact j_q_enter_78 C y0 y1 y2 x11 x12 (0 : Int32) w10 h _ _ _ hW (lv_sub hl [0, 1, 2] rfl)
set_option maxHeartbeats 4000000 in
set_option maxRecDepth 100000 in
theorem c_q_enter (l : Launch) (D : va_G) (cA : Nat → ClassId) (base : Nat) {a0 : Nat} {a1 : Int32} {w w' : WW} {r : Int32} (h : f_q_enter a0 a1 w = some (r, w')) : mt l D cls (wo_tys cA) cA base y_q_enter (Cond.code y_q_enter b_q_enter 3 (some .int) :: gt) rm_q_enter [.ref (base + a0), .int a1] w (some (.int r)) w' rm_q_enter.cells rm_q_enter.slots := by
  refine mt_start (by decide) (Nat.le_of_ble_eq_true rfl) ?_
  intro p e s m below meth c ls hx hb hr hml hown hts hlk hnm hK hG hW hl
  have C : cx b_q_enter (some .int) 3 y_q_enter.cls "enter" p s m [.ref (base + a0), .int a1].toArray meth c D cA base := ⟨hx, hb, hr, hml, hown, hts, hlk, hnm, hK, hG⟩
  have hl : lv_has ls 3 [(0, .ref (base + a0)), (1, .int a1)] := hl
  unfold f_q_enter at h
  replace h := its h
  obtain ⟨-, h⟩ := h
  refine lv_iconst (v := (3 : Int32)) hx hb d_q_enter_0 (by decide) ?_
  refine lv_iconst (v := (3 : Int32)) hx hb d_q_enter_1 (by decide) ?_
  refine lv_aload_n hx hb d_q_enter_2 rfl (lv_at hl 0 rfl) ?_
  replace h := bs h
  obtain ⟨x1, hx1, h⟩ := h
  refine gf_q_489 hx hb hts hown hK hG hW (gI_s hx1) d_q_enter_3 ?_
  refine lv_imul hx hb d_q_enter_6 ?_
  refine lv_iadd hx hb d_q_enter_7 ?_
  refine lv_istore_n (lv' := [(2, .int ((3 : Int32) + ((3 : Int32) * x1))), (0, .ref (base + a0)), (1, .int a1)]) hx hb d_q_enter_8 rfl hl (by decide) rfl (fun ls hl => ?_)
  refine lv_aload_n hx hb d_q_enter_9 rfl (lv_at hl 1 rfl) ?_
  replace h := bs h
  obtain ⟨x2, hx2, h⟩ := h
  refine gf_q_26 hx hb hts hown hK hG hW (gN_s hx2) d_q_enter_10 ?_
  refine lv_iload_n hx hb d_q_enter_13 rfl (lv_at hl 2 rfl) ?_
  replace h := bs h
  obtain ⟨x3, hx3, h⟩ := h
  refine wo_iald hx hb hK hW (t := 0) rfl hx3 d_q_enter_14 ?_
  refine lv_iconst (v := (4 : Int32)) hx hb d_q_enter_15 (by decide) ?_
  refine lv_icmp_ne (tgt := 35) hx hb d_q_enter_16 (by decide) (fun c4 => ?_) (fun c4 => ?_)
  · rw [if_neg c4] at h
    exact j_q_enter_35 C a0 a1 ((3 : Int32) + ((3 : Int32) * x1)) w h _ _ _ hW (lv_sub hl [1, 2, 0] rfl)
  · rw [if_pos c4] at h
    refine lv_aload_n hx hb d_q_enter_19 rfl (lv_at hl 1 rfl) ?_
    replace h := bs h
    obtain ⟨x29, hx29, h⟩ := h
    refine gf_q_133 hx hb hts hown hK hG hW (gN_s hx29) d_q_enter_20 ?_
    refine lv_iconst (v := (0 : Int32)) hx hb d_q_enter_23 (by decide) ?_
    replace h := bs h
    obtain ⟨x30, hx30, h⟩ := h
    refine wo_zald hx hb hK hW (t := 2) rfl hx30 d_q_enter_24 ?_
    refine lv_if_eq (tgt := 35) hx hb d_q_enter_25 (by decide) (fun c31 => ?_) (fun c31 => ?_)
    · rw [if_pos c31] at h
      exact j_q_enter_35 C a0 a1 ((3 : Int32) + ((3 : Int32) * x1)) w h _ _ _ hW (lv_sub hl [1, 2, 0] rfl)
    · rw [if_neg c31] at h
      refine lv_aload_n hx hb d_q_enter_28 rfl (lv_at hl 1 rfl) ?_
      replace h := bs h
      obtain ⟨x32, hx32, h⟩ := h
      refine gf_q_56 hx hb hts hown hK hG hW (gN_s hx32) d_q_enter_29 ?_
      refine lv_iload_n hx hb d_q_enter_32 rfl (lv_at hl 2 rfl) ?_
      replace h := bs h
      obtain ⟨x33, hx33, h⟩ := h
      refine wo_iald hx hb hK hW (t := 0) rfl hx33 d_q_enter_33 ?_
      cases h
      exact wo_iret hx hb hr hlk hW d_q_enter_34
abbrev b_q_all : ByteArray := prog_11_method_55_code
def y_q_all : MethodName := ⟨"AlarmForgeModel", "all", "(I)V"⟩
def rm_q_all : Room := { frames := 1, cells := 0, slots := 0, locals := 29 }
theorem d_q_all_0 : decode b_q_all 0 = .ok (.aload_n 0, 1) := by decide +kernel
theorem d_q_all_1 : decode b_q_all 1 = .ok (.iload_n 1, 1) := by decide +kernel
theorem d_q_all_2 : decode b_q_all 2 = .ok (.ldc2_w 340, 3) := by decide +kernel
theorem d_q_all_5 : decode b_q_all 5 = .ok (.ldc2_w 342, 3) := by decide +kernel
theorem d_q_all_8 : decode b_q_all 8 = .ok (.lconst 1, 1) := by decide +kernel
theorem d_q_all_9 : decode b_q_all 9 = .ok (.lconst 0, 1) := by decide +kernel
theorem d_q_all_10 : decode b_q_all 10 = .ok (.invokevirtual 396, 3) := by decide +kernel
theorem d_q_all_13 : decode b_q_all 13 = .ok (.return_, 1) := by decide +kernel
theorem kb_q_all {a0 : Nat} {a1 : Int32} {w : WW} {r : WW} (h : f_q_all a0 a1 w = some r) : kb w a0 9 = true := (its h).1
set_option maxHeartbeats 4000000 in
set_option maxRecDepth 100000 in
theorem c_q_all (l : Launch) (D : va_G) (cA : Nat → ClassId) (base : Nat) {a0 : Nat} {a1 : Int32} {w w' : WW} (h : f_q_all a0 a1 w = some w') : mt l D cls (wo_tys cA) cA base y_q_all (Cond.code y_q_all b_q_all 2 (none) :: gt) rm_q_all [.ref (base + a0), .int a1] w none w' rm_q_all.cells rm_q_all.slots := by
  refine mt_start (by decide) (Nat.le_of_ble_eq_true rfl) ?_
  intro p e s m below meth c ls hx hb hr hml hown hts hlk hnm hK hG hW hl
  have C : cx b_q_all (none) 2 y_q_all.cls "all" p s m [.ref (base + a0), .int a1].toArray meth c D cA base := ⟨hx, hb, hr, hml, hown, hts, hlk, hnm, hK, hG⟩
  have hl : lv_has ls 2 [(0, .ref (base + a0)), (1, .int a1)] := hl
  unfold f_q_all at h
  replace h := its h
  obtain ⟨-, h⟩ := h
  refine lv_aload_n hx hb d_q_all_0 rfl (lv_at hl 0 rfl) ?_
  refine lv_iload_n hx hb d_q_all_1 rfl (lv_at hl 1 rfl) ?_
  refine lv_ldc2 (own := Rc_q) (v := (-2147483648 : Int64)) hx hb hown (hts (.constantLong "AlarmForgeModel" 340 (-2147483648 : Int64)) (gt_of (i := 1553) (by decide +kernel) (by decide +kernel))) d_q_all_2 ?_
  refine lv_ldc2 (own := Rc_q) (v := (2147483647 : Int64)) hx hb hown (hts (.constantLong "AlarmForgeModel" 342 (2147483647 : Int64)) (gt_of (i := 1554) (by decide +kernel) (by decide +kernel))) d_q_all_5 ?_
  refine lv_lconst (v := (1 : Int64)) hx hb d_q_all_8 (by decide) ?_
  refine lv_lconst (v := (0 : Int64)) hx hb d_q_all_9 (by decide) ?_
  replace h := bs h
  obtain ⟨w1, hw1, h⟩ := h
  refine cv_q_396 (As := [.int a1, .long (-2147483648 : Int64), .long (2147483647 : Int64), .long (1 : Int64), .long (0 : Int64)]) (rest := []) hx hb hml hown hts hK hG hW (c_q_put4 l D cA base hw1) (kb_q_put4 hw1) ⟨Nat.le_of_ble_eq_true rfl, Nat.le_of_ble_eq_true rfl⟩ ⟨Nat.le_of_ble_eq_true rfl, Nat.le_of_ble_eq_true rfl⟩ rfl hl.1 rfl (Nat.le_of_ble_eq_true rfl) d_q_all_10 (fun H locs hW => ?_)
  cases h
  exact wo_vret hx hb hr hlk hW d_q_all_13
abbrev b_q_store : ByteArray := prog_11_method_78_code
def y_q_store : MethodName := ⟨"AlarmForgeModel", "store", "(I)V"⟩
def rm_q_store : Room := { frames := 5, cells := 0, slots := 0, locals := 142 }
theorem d_q_store_0 : decode b_q_store 0 = .ok (.sipush (226), 3) := by decide +kernel
theorem d_q_store_3 : decode b_q_store 3 = .ok (.istore_n 2, 1) := by decide +kernel
theorem d_q_store_4 : decode b_q_store 4 = .ok (.sipush (290), 3) := by decide +kernel
theorem d_q_store_7 : decode b_q_store 7 = .ok (.istore_n 3, 1) := by decide +kernel
theorem d_q_store_8 : decode b_q_store 8 = .ok (.iconst (-1), 1) := by decide +kernel
theorem d_q_store_9 : decode b_q_store 9 = .ok (.istore 4, 2) := by decide +kernel
theorem d_q_store_11 : decode b_q_store 11 = .ok (.iconst 0, 1) := by decide +kernel
theorem d_q_store_12 : decode b_q_store 12 = .ok (.istore 5, 2) := by decide +kernel
theorem d_q_store_14 : decode b_q_store 14 = .ok (.aload_n 0, 1) := by decide +kernel
theorem d_q_store_15 : decode b_q_store 15 = .ok (.aload_n 0, 1) := by decide +kernel
theorem d_q_store_16 : decode b_q_store 16 = .ok (.getfield 35, 3) := by decide +kernel
theorem d_q_store_19 : decode b_q_store 19 = .ok (.iload_n 1, 1) := by decide +kernel
theorem d_q_store_20 : decode b_q_store 20 = .ok (.iaload, 1) := by decide +kernel
theorem d_q_store_21 : decode b_q_store 21 = .ok (.aload_n 0, 1) := by decide +kernel
theorem d_q_store_22 : decode b_q_store 22 = .ok (.getfield 38, 3) := by decide +kernel
theorem d_q_store_25 : decode b_q_store 25 = .ok (.iload_n 1, 1) := by decide +kernel
theorem d_q_store_26 : decode b_q_store 26 = .ok (.iaload, 1) := by decide +kernel
theorem d_q_store_27 : decode b_q_store 27 = .ok (.iload_n 2, 1) := by decide +kernel
theorem d_q_store_28 : decode b_q_store 28 = .ok (.invokevirtual 467, 3) := by decide +kernel
theorem d_q_store_31 : decode b_q_store 31 = .ok (.istore 6, 2) := by decide +kernel
theorem d_q_store_33 : decode b_q_store 33 = .ok (.iload 6, 2) := by decide +kernel
theorem d_q_store_35 : decode b_q_store 35 = .ok (.ifCond .eq (22), 3) := by decide +kernel
theorem d_q_store_38 : decode b_q_store 38 = .ok (.aload_n 0, 1) := by decide +kernel
theorem d_q_store_39 : decode b_q_store 39 = .ok (.iload_n 2, 1) := by decide +kernel
theorem d_q_store_40 : decode b_q_store 40 = .ok (.invokevirtual 454, 3) := by decide +kernel
theorem d_q_store_43 : decode b_q_store 43 = .ok (.ifCond .eq (14), 3) := by decide +kernel
theorem d_q_store_46 : decode b_q_store 46 = .ok (.aload_n 0, 1) := by decide +kernel
theorem d_q_store_47 : decode b_q_store 47 = .ok (.iconst 2, 1) := by decide +kernel
theorem d_q_store_48 : decode b_q_store 48 = .ok (.aload_n 0, 1) := by decide +kernel
theorem d_q_store_49 : decode b_q_store 49 = .ok (.getfield 32, 3) := by decide +kernel
theorem d_q_store_52 : decode b_q_store 52 = .ok (.iload_n 1, 1) := by decide +kernel
theorem d_q_store_53 : decode b_q_store 53 = .ok (.iaload, 1) := by decide +kernel
theorem d_q_store_54 : decode b_q_store 54 = .ok (.invokevirtual 442, 3) := by decide +kernel
theorem d_q_store_57 : decode b_q_store 57 = .ok (.iload 6, 2) := by decide +kernel
theorem d_q_store_59 : decode b_q_store 59 = .ok (.ifCond .eq (27), 3) := by decide +kernel
theorem d_q_store_62 : decode b_q_store 62 = .ok (.aload_n 0, 1) := by decide +kernel
theorem d_q_store_63 : decode b_q_store 63 = .ok (.aload_n 0, 1) := by decide +kernel
theorem d_q_store_64 : decode b_q_store 64 = .ok (.getfield 41, 3) := by decide +kernel
theorem d_q_store_67 : decode b_q_store 67 = .ok (.iload_n 1, 1) := by decide +kernel
theorem d_q_store_68 : decode b_q_store 68 = .ok (.iaload, 1) := by decide +kernel
theorem d_q_store_69 : decode b_q_store 69 = .ok (.aload_n 0, 1) := by decide +kernel
theorem d_q_store_70 : decode b_q_store 70 = .ok (.getfield 44, 3) := by decide +kernel
theorem d_q_store_73 : decode b_q_store 73 = .ok (.iload_n 1, 1) := by decide +kernel
theorem d_q_store_74 : decode b_q_store 74 = .ok (.iaload, 1) := by decide +kernel
theorem d_q_store_75 : decode b_q_store 75 = .ok (.iload_n 3, 1) := by decide +kernel
theorem d_q_store_76 : decode b_q_store 76 = .ok (.invokevirtual 467, 3) := by decide +kernel
theorem d_q_store_79 : decode b_q_store 79 = .ok (.ifCond .eq (7), 3) := by decide +kernel
theorem d_q_store_82 : decode b_q_store 82 = .ok (.iconst 1, 1) := by decide +kernel
theorem d_q_store_83 : decode b_q_store 83 = .ok (.goto (4), 3) := by decide +kernel
theorem d_q_store_86 : decode b_q_store 86 = .ok (.iconst 0, 1) := by decide +kernel
theorem d_q_store_87 : decode b_q_store 87 = .ok (.istore 6, 2) := by decide +kernel
theorem d_q_store_89 : decode b_q_store 89 = .ok (.iconst 0, 1) := by decide +kernel
theorem d_q_store_90 : decode b_q_store 90 = .ok (.istore 7, 2) := by decide +kernel
theorem d_q_store_92 : decode b_q_store 92 = .ok (.iload 7, 2) := by decide +kernel
theorem d_q_store_94 : decode b_q_store 94 = .ok (.iconst 4, 1) := by decide +kernel
theorem d_q_store_95 : decode b_q_store 95 = .ok (.if_icmp .ge (39), 3) := by decide +kernel
theorem d_q_store_98 : decode b_q_store 98 = .ok (.iload 6, 2) := by decide +kernel
theorem d_q_store_100 : decode b_q_store 100 = .ok (.ifCond .eq (34), 3) := by decide +kernel
theorem d_q_store_103 : decode b_q_store 103 = .ok (.aload_n 0, 1) := by decide +kernel
theorem d_q_store_104 : decode b_q_store 104 = .ok (.iload 7, 2) := by decide +kernel
theorem d_q_store_106 : decode b_q_store 106 = .ok (.i2l, 1) := by decide +kernel
theorem d_q_store_107 : decode b_q_store 107 = .ok (.iload_n 2, 1) := by decide +kernel
theorem d_q_store_108 : decode b_q_store 108 = .ok (.invokevirtual 409, 3) := by decide +kernel
theorem d_q_store_111 : decode b_q_store 111 = .ok (.istore 8, 2) := by decide +kernel
theorem d_q_store_113 : decode b_q_store 113 = .ok (.iload 8, 2) := by decide +kernel
theorem d_q_store_115 : decode b_q_store 115 = .ok (.ifCond .ne (6), 3) := by decide +kernel
theorem d_q_store_118 : decode b_q_store 118 = .ok (.goto (10), 3) := by decide +kernel
theorem d_q_store_121 : decode b_q_store 121 = .ok (.iload 7, 2) := by decide +kernel
theorem d_q_store_123 : decode b_q_store 123 = .ok (.istore 4, 2) := by decide +kernel
theorem d_q_store_125 : decode b_q_store 125 = .ok (.iinc 5 (1), 3) := by decide +kernel
theorem d_q_store_128 : decode b_q_store 128 = .ok (.iinc 7 (1), 3) := by decide +kernel
theorem d_q_store_131 : decode b_q_store 131 = .ok (.goto (-39), 3) := by decide +kernel
theorem d_q_store_134 : decode b_q_store 134 = .ok (.aload_n 0, 1) := by decide +kernel
theorem d_q_store_135 : decode b_q_store 135 = .ok (.getfield 133, 3) := by decide +kernel
theorem d_q_store_138 : decode b_q_store 138 = .ok (.iconst 0, 1) := by decide +kernel
theorem d_q_store_139 : decode b_q_store 139 = .ok (.iload 5, 2) := by decide +kernel
theorem d_q_store_141 : decode b_q_store 141 = .ok (.ifCond .ne (7), 3) := by decide +kernel
theorem d_q_store_144 : decode b_q_store 144 = .ok (.iconst 1, 1) := by decide +kernel
theorem d_q_store_145 : decode b_q_store 145 = .ok (.goto (4), 3) := by decide +kernel
theorem d_q_store_148 : decode b_q_store 148 = .ok (.iconst 0, 1) := by decide +kernel
theorem d_q_store_149 : decode b_q_store 149 = .ok (.bastore, 1) := by decide +kernel
theorem d_q_store_150 : decode b_q_store 150 = .ok (.iconst 0, 1) := by decide +kernel
theorem d_q_store_151 : decode b_q_store 151 = .ok (.istore 7, 2) := by decide +kernel
theorem d_q_store_153 : decode b_q_store 153 = .ok (.iload 7, 2) := by decide +kernel
theorem d_q_store_155 : decode b_q_store 155 = .ok (.iconst 4, 1) := by decide +kernel
theorem d_q_store_156 : decode b_q_store 156 = .ok (.if_icmp .ge (83), 3) := by decide +kernel
theorem d_q_store_159 : decode b_q_store 159 = .ok (.iload 5, 2) := by decide +kernel
theorem d_q_store_161 : decode b_q_store 161 = .ok (.ifCond .le (78), 3) := by decide +kernel
theorem d_q_store_164 : decode b_q_store 164 = .ok (.bipush (6), 2) := by decide +kernel
theorem d_q_store_166 : decode b_q_store 166 = .ok (.iconst 4, 1) := by decide +kernel
theorem d_q_store_167 : decode b_q_store 167 = .ok (.aload_n 0, 1) := by decide +kernel
theorem d_q_store_168 : decode b_q_store 168 = .ok (.getfield 29, 3) := by decide +kernel
theorem d_q_store_171 : decode b_q_store 171 = .ok (.iload_n 1, 1) := by decide +kernel
theorem d_q_store_172 : decode b_q_store 172 = .ok (.iaload, 1) := by decide +kernel
theorem d_q_store_173 : decode b_q_store 173 = .ok (.imul, 1) := by decide +kernel
theorem d_q_store_174 : decode b_q_store 174 = .ok (.iadd, 1) := by decide +kernel
theorem d_q_store_175 : decode b_q_store 175 = .ok (.iload 7, 2) := by decide +kernel
theorem d_q_store_177 : decode b_q_store 177 = .ok (.iadd, 1) := by decide +kernel
theorem d_q_store_178 : decode b_q_store 178 = .ok (.istore 8, 2) := by decide +kernel
theorem d_q_store_180 : decode b_q_store 180 = .ok (.aload_n 0, 1) := by decide +kernel
theorem d_q_store_181 : decode b_q_store 181 = .ok (.iload 7, 2) := by decide +kernel
theorem d_q_store_183 : decode b_q_store 183 = .ok (.i2l, 1) := by decide +kernel
theorem d_q_store_184 : decode b_q_store 184 = .ok (.iload_n 2, 1) := by decide +kernel
theorem d_q_store_185 : decode b_q_store 185 = .ok (.invokevirtual 409, 3) := by decide +kernel
theorem d_q_store_188 : decode b_q_store 188 = .ok (.istore 9, 2) := by decide +kernel
theorem d_q_store_190 : decode b_q_store 190 = .ok (.iload 5, 2) := by decide +kernel
theorem d_q_store_192 : decode b_q_store 192 = .ok (.iconst 1, 1) := by decide +kernel
theorem d_q_store_193 : decode b_q_store 193 = .ok (.if_icmp .ne (20), 3) := by decide +kernel
theorem d_q_store_196 : decode b_q_store 196 = .ok (.iload 7, 2) := by decide +kernel
theorem d_q_store_198 : decode b_q_store 198 = .ok (.iload 4, 2) := by decide +kernel
theorem d_q_store_200 : decode b_q_store 200 = .ok (.if_icmp .ne (13), 3) := by decide +kernel
theorem d_q_store_203 : decode b_q_store 203 = .ok (.aload_n 0, 1) := by decide +kernel
theorem d_q_store_204 : decode b_q_store 204 = .ok (.iload 8, 2) := by decide +kernel
theorem d_q_store_206 : decode b_q_store 206 = .ok (.iload_n 3, 1) := by decide +kernel
theorem d_q_store_207 : decode b_q_store 207 = .ok (.invokevirtual 400, 3) := by decide +kernel
theorem d_q_store_210 : decode b_q_store 210 = .ok (.goto (23), 3) := by decide +kernel
theorem d_q_store_213 : decode b_q_store 213 = .ok (.iload 5, 2) := by decide +kernel
theorem d_q_store_215 : decode b_q_store 215 = .ok (.iconst 1, 1) := by decide +kernel
theorem d_q_store_216 : decode b_q_store 216 = .ok (.if_icmp .le (17), 3) := by decide +kernel
theorem d_q_store_219 : decode b_q_store 219 = .ok (.iload 9, 2) := by decide +kernel
theorem d_q_store_221 : decode b_q_store 221 = .ok (.ifCond .eq (12), 3) := by decide +kernel
theorem d_q_store_224 : decode b_q_store 224 = .ok (.aload_n 0, 1) := by decide +kernel
theorem d_q_store_225 : decode b_q_store 225 = .ok (.iload 8, 2) := by decide +kernel
theorem d_q_store_227 : decode b_q_store 227 = .ok (.iload 8, 2) := by decide +kernel
theorem d_q_store_229 : decode b_q_store 229 = .ok (.iload_n 3, 1) := by decide +kernel
theorem d_q_store_230 : decode b_q_store 230 = .ok (.invokevirtual 419, 3) := by decide +kernel
theorem d_q_store_233 : decode b_q_store 233 = .ok (.iinc 7 (1), 3) := by decide +kernel
theorem d_q_store_236 : decode b_q_store 236 = .ok (.goto (-83), 3) := by decide +kernel
theorem d_q_store_239 : decode b_q_store 239 = .ok (.return_, 1) := by decide +kernel
theorem kb_q_store {a0 : Nat} {a1 : Int32} {w : WW} {r : WW} (h : f_q_store a0 a1 w = some r) : kb w a0 9 = true := (its h).1
set_option maxHeartbeats 4000000 in
set_option maxRecDepth 100000 in
theorem j_q_store_239 {p : Program} {l : Launch} {e : Env} {s : State} {m : MethodId} {args : Array Value} {below : List Frame} {meth : Method} {c : Code} {D : va_G} {cA : Nat → ClassId} {base : Nat} {w' : WW} (C : cx b_q_store (none) 10 y_q_store.cls "store" p s m args meth c D cA base)   : ∀  (w : WW), f_q_store_239  w = some w' → ∀ (H : Heap) (locs : List Loc) (ls : Array Slot), wo_S D cls cA base s w H locs → lv_has ls 10 [] → W p l e rm_q_store s m args below meth c H locs 0 0 (MQ below (wo_Q D cls cA base none w') args s rm_q_store.cells rm_q_store.slots (wo_B base)) (F0 m 239 ls []) := by
  obtain ⟨hx, hb, hr, hml, hown, hts, hlk, hnm, hK, hG⟩ := id C
  intro  w h H locs ls hW hl
  unfold f_q_store_239 at h
  cases h
  exact wo_vret hx hb hr hlk hW d_q_store_239
set_option maxHeartbeats 4000000 in
set_option maxRecDepth 100000 in
theorem j_q_store_233 {p : Program} {l : Launch} {e : Env} {s : State} {m : MethodId} {args : Array Value} {below : List Frame} {meth : Method} {c : Code} {D : va_G} {cA : Nat → ClassId} {base : Nat} {w' : WW} (C : cx b_q_store (none) 10 y_q_store.cls "store" p s m args meth c D cA base) {k_153 : Nat → Int32 → Int32 → Int32 → Int32 → Int32 → Int32 → WW → Option WW} (hk_153 : ∀ (y0 : Nat) (y1 : Int32) (y2 : Int32) (y3 : Int32) (y4 : Int32) (y5 : Int32) (y7 : Int32) (w : WW), k_153 y0 y1 y2 y3 y4 y5 y7 w = some w' → ∀ (H : Heap) (locs : List Loc) (ls : Array Slot), wo_S D cls cA base s w H locs → lv_has ls 10 [(0, .ref (base + y0)), (1, .int y1), (2, .int y2), (3, .int y3), (4, .int y4), (5, .int y5), (7, .int y7)] → W p l e rm_q_store s m args below meth c H locs 0 0 (MQ below (wo_Q D cls cA base none w') args s rm_q_store.cells rm_q_store.slots (wo_B base)) (F0 m 153 ls [])) : ∀ (y0 : Nat) (y1 : Int32) (y2 : Int32) (y3 : Int32) (y4 : Int32) (y5 : Int32) (y7 : Int32) (w : WW), f_q_store_233 k_153 y0 y1 y2 y3 y4 y5 y7 w = some w' → ∀ (H : Heap) (locs : List Loc) (ls : Array Slot), wo_S D cls cA base s w H locs → lv_has ls 10 [(0, .ref (base + y0)), (1, .int y1), (2, .int y2), (3, .int y3), (4, .int y4), (5, .int y5), (7, .int y7)] → W p l e rm_q_store s m args below meth c H locs 0 0 (MQ below (wo_Q D cls cA base none w') args s rm_q_store.cells rm_q_store.slots (wo_B base)) (F0 m 233 ls []) := by
  obtain ⟨hx, hb, hr, hml, hown, hts, hlk, hnm, hK, hG⟩ := id C
  intro y0 y1 y2 y3 y4 y5 y7 w h H locs ls hW hl
  unfold f_q_store_233 at h
  refine lv_iinc (v := (y7 + (1 : Int32))) (lv' := [(7, .int (y7 + (1 : Int32))), (0, .ref (base + y0)), (1, .int y1), (2, .int y2), (3, .int y3), (4, .int y4), (5, .int y5)]) hx hb d_q_store_233 hl (k := 6) rfl rfl (by decide) rfl (fun ls hl => ?_)
  refine lv_goto (tgt := 153) hx hb d_q_store_236 (by decide) ?_
  exact hk_153 y0 y1 y2 y3 y4 y5 (y7 + (1 : Int32)) w h _ _ _ hW (lv_sub hl [1, 2, 3, 4, 5, 6, 0] rfl)
set_option maxHeartbeats 4000000 in
set_option maxRecDepth 100000 in
theorem j_q_store_213 {p : Program} {l : Launch} {e : Env} {s : State} {m : MethodId} {args : Array Value} {below : List Frame} {meth : Method} {c : Code} {D : va_G} {cA : Nat → ClassId} {base : Nat} {w' : WW} (C : cx b_q_store (none) 10 y_q_store.cls "store" p s m args meth c D cA base) {k_153 : Nat → Int32 → Int32 → Int32 → Int32 → Int32 → Int32 → WW → Option WW} (hk_153 : ∀ (y0 : Nat) (y1 : Int32) (y2 : Int32) (y3 : Int32) (y4 : Int32) (y5 : Int32) (y7 : Int32) (w : WW), k_153 y0 y1 y2 y3 y4 y5 y7 w = some w' → ∀ (H : Heap) (locs : List Loc) (ls : Array Slot), wo_S D cls cA base s w H locs → lv_has ls 10 [(0, .ref (base + y0)), (1, .int y1), (2, .int y2), (3, .int y3), (4, .int y4), (5, .int y5), (7, .int y7)] → W p l e rm_q_store s m args below meth c H locs 0 0 (MQ below (wo_Q D cls cA base none w') args s rm_q_store.cells rm_q_store.slots (wo_B base)) (F0 m 153 ls [])) : ∀ (y0 : Nat) (y1 : Int32) (y2 : Int32) (y3 : Int32) (y4 : Int32) (y5 : Int32) (y7 : Int32) (y8 : Int32) (y9 : Int32) (w : WW), f_q_store_213 k_153 y0 y1 y2 y3 y4 y5 y7 y8 y9 w = some w' → ∀ (H : Heap) (locs : List Loc) (ls : Array Slot), wo_S D cls cA base s w H locs → lv_has ls 10 [(0, .ref (base + y0)), (1, .int y1), (2, .int y2), (3, .int y3), (4, .int y4), (5, .int y5), (7, .int y7), (8, .int y8), (9, .int y9)] → W p l e rm_q_store s m args below meth c H locs 0 0 (MQ below (wo_Q D cls cA base none w') args s rm_q_store.cells rm_q_store.slots (wo_B base)) (F0 m 213 ls []) := by
  obtain ⟨hx, hb, hr, hml, hown, hts, hlk, hnm, hK, hG⟩ := id C
  intro y0 y1 y2 y3 y4 y5 y7 y8 y9 w h H locs ls hW hl
  unfold f_q_store_213 at h
  refine lv_iload hx hb d_q_store_213 (lv_at hl 5 rfl) ?_
  refine lv_iconst (v := (1 : Int32)) hx hb d_q_store_215 (by decide) ?_
  refine lv_icmp_le (tgt := 233) hx hb d_q_store_216 (by decide) (fun c20 => ?_) (fun c20 => ?_)
  · rw [if_pos c20] at h
    exact j_q_store_233 C hk_153 y0 y1 y2 y3 y4 y5 y7 w h _ _ _ hW (lv_sub hl [0, 1, 2, 3, 4, 5, 6] rfl)
  · rw [if_neg c20] at h
    refine lv_iload hx hb d_q_store_219 (lv_at hl 8 rfl) ?_
    refine lv_if_eq (tgt := 233) hx hb d_q_store_221 (by decide) (fun c21 => ?_) (fun c21 => ?_)
    · rw [if_pos c21] at h
      exact j_q_store_233 C hk_153 y0 y1 y2 y3 y4 y5 y7 w h _ _ _ hW (lv_sub hl [0, 1, 2, 3, 4, 5, 6] rfl)
    · rw [if_neg c21] at h
      refine lv_aload_n hx hb d_q_store_224 rfl (lv_at hl 0 rfl) ?_
      refine lv_iload hx hb d_q_store_225 (lv_at hl 7 rfl) ?_
      refine lv_iload hx hb d_q_store_227 (lv_at hl 7 rfl) ?_
      refine lv_iload_n hx hb d_q_store_229 rfl (lv_at hl 3 rfl) ?_
      replace h := bs h
      obtain ⟨w22, hw22, h⟩ := h
      refine cv_q_419 (As := [.int y8, .int y8, .int y3]) (rest := []) hx hb hml hown hts hK hG hW (c_q_join l D cA base hw22) (kb_q_join hw22) ⟨Nat.le_of_ble_eq_true rfl, Nat.le_of_ble_eq_true rfl⟩ ⟨Nat.le_of_ble_eq_true rfl, Nat.le_of_ble_eq_true rfl⟩ rfl hl.1 rfl (Nat.le_of_ble_eq_true rfl) d_q_store_230 (fun H locs hW => ?_)
      exact j_q_store_233 C hk_153 y0 y1 y2 y3 y4 y5 y7 w22 h _ _ _ hW (lv_sub hl [0, 1, 2, 3, 4, 5, 6] rfl)
set_option maxHeartbeats 4000000 in
set_option maxRecDepth 100000 in
theorem j_q_store_153 {p : Program} {l : Launch} {e : Env} {s : State} {m : MethodId} {args : Array Value} {below : List Frame} {meth : Method} {c : Code} {D : va_G} {cA : Nat → ClassId} {base : Nat} {w' : WW} (C : cx b_q_store (none) 10 y_q_store.cls "store" p s m args meth c D cA base)   : ∀ n : Nat, ∀ (y0 : Nat) (y1 : Int32) (y2 : Int32) (y3 : Int32) (y4 : Int32) (y5 : Int32) (y7 : Int32) (w : WW), f_q_store_153 n y0 y1 y2 y3 y4 y5 y7 w = some w' → ∀ (H : Heap) (locs : List Loc) (ls : Array Slot), wo_S D cls cA base s w H locs → lv_has ls 10 [(0, .ref (base + y0)), (1, .int y1), (2, .int y2), (3, .int y3), (4, .int y4), (5, .int y5), (7, .int y7)] → W p l e rm_q_store s m args below meth c H locs 0 0 (MQ below (wo_Q D cls cA base none w') args s rm_q_store.cells rm_q_store.slots (wo_B base)) (F0 m 153 ls []) := by
  obtain ⟨hx, hb, hr, hml, hown, hts, hlk, hnm, hK, hG⟩ := id C
  intro n
  induction n with
  | zero => intro y0 y1 y2 y3 y4 y5 y7 w h; cases h
  | succ n ih =>
    intro y0 y1 y2 y3 y4 y5 y7 w h H locs ls hW hl
    rw [f_q_store_153] at h
    refine lv_iload hx hb d_q_store_153 (lv_at hl 6 rfl) ?_
    refine lv_iconst (v := (4 : Int32)) hx hb d_q_store_155 (by decide) ?_
    refine lv_icmp_ge (tgt := 239) hx hb d_q_store_156 (by decide) (fun c13 => ?_) (fun c13 => ?_)
    · rw [if_pos c13] at h
      exact j_q_store_239 C w h _ _ _ hW (lv_sub hl [] rfl)
    · rw [if_neg c13] at h
      refine lv_iload hx hb d_q_store_159 (lv_at hl 5 rfl) ?_
      refine lv_if_le (tgt := 239) hx hb d_q_store_161 (by decide) (fun c14 => ?_) (fun c14 => ?_)
      · rw [if_pos c14] at h
        exact j_q_store_239 C w h _ _ _ hW (lv_sub hl [] rfl)
      · rw [if_neg c14] at h
        refine lv_bipush (v := (6 : Int32)) hx hb d_q_store_164 (by decide) ?_
        refine lv_iconst (v := (4 : Int32)) hx hb d_q_store_166 (by decide) ?_
        refine lv_aload_n hx hb d_q_store_167 rfl (lv_at hl 0 rfl) ?_
        replace h := bs h
        obtain ⟨x15, hx15, h⟩ := h
        refine gf_q_29 hx hb hts hown hK hG hW (gN_s hx15) d_q_store_168 ?_
        refine lv_iload_n hx hb d_q_store_171 rfl (lv_at hl 1 rfl) ?_
        replace h := bs h
        obtain ⟨x16, hx16, h⟩ := h
        refine wo_iald hx hb hK hW (t := 0) rfl hx16 d_q_store_172 ?_
        refine lv_imul hx hb d_q_store_173 ?_
        refine lv_iadd hx hb d_q_store_174 ?_
        refine lv_iload hx hb d_q_store_175 (lv_at hl 6 rfl) ?_
        refine lv_iadd hx hb d_q_store_177 ?_
        refine lv_istore (lv' := [(8, .int (((6 : Int32) + ((4 : Int32) * x16)) + y7)), (0, .ref (base + y0)), (1, .int y1), (2, .int y2), (3, .int y3), (4, .int y4), (5, .int y5), (7, .int y7)]) hx hb d_q_store_178 hl (by decide) rfl (fun ls hl => ?_)
        refine lv_aload_n hx hb d_q_store_180 rfl (lv_at hl 1 rfl) ?_
        refine lv_iload hx hb d_q_store_181 (lv_at hl 7 rfl) ?_
        refine lv_i2l hx hb d_q_store_183 rfl ?_
        refine lv_iload_n hx hb d_q_store_184 rfl (lv_at hl 3 rfl) ?_
        replace h := bs2 h
        obtain ⟨x18, w17, hw17, h⟩ := h
        refine cv_q_409 (As := [.long (Int32.toInt64 y7), .int y2]) (rest := []) hx hb hml hown hts hK hG hW (c_q_isOf l D cA base hw17) (kb_q_isOf hw17) ⟨Nat.le_of_ble_eq_true rfl, Nat.le_of_ble_eq_true rfl⟩ ⟨Nat.le_of_ble_eq_true rfl, Nat.le_of_ble_eq_true rfl⟩ rfl hl.1 rfl (Nat.le_of_ble_eq_true rfl) d_q_store_185 (fun H locs hW => ?_)
        refine lv_istore (lv' := [(9, .int x18), (8, .int (((6 : Int32) + ((4 : Int32) * x16)) + y7)), (0, .ref (base + y0)), (1, .int y1), (2, .int y2), (3, .int y3), (4, .int y4), (5, .int y5), (7, .int y7)]) hx hb d_q_store_188 hl (by decide) rfl (fun ls hl => ?_)
        refine lv_iload hx hb d_q_store_190 (lv_at hl 7 rfl) ?_
        refine lv_iconst (v := (1 : Int32)) hx hb d_q_store_192 (by decide) ?_
        refine lv_icmp_ne (tgt := 213) hx hb d_q_store_193 (by decide) (fun c19 => ?_) (fun c19 => ?_)
        · rw [if_neg c19] at h
          exact j_q_store_213 C ih y0 y1 y2 y3 y4 y5 y7 (((6 : Int32) + ((4 : Int32) * x16)) + y7) x18 w17 h _ _ _ hW (lv_sub hl [2, 3, 4, 5, 6, 7, 8, 1, 0] rfl)
        · rw [if_pos c19] at h
          refine lv_iload hx hb d_q_store_196 (lv_at hl 8 rfl) ?_
          refine lv_iload hx hb d_q_store_198 (lv_at hl 6 rfl) ?_
          refine lv_icmp_ne (tgt := 213) hx hb d_q_store_200 (by decide) (fun c23 => ?_) (fun c23 => ?_)
          · rw [if_neg c23] at h
            exact j_q_store_213 C ih y0 y1 y2 y3 y4 y5 y7 (((6 : Int32) + ((4 : Int32) * x16)) + y7) x18 w17 h _ _ _ hW (lv_sub hl [2, 3, 4, 5, 6, 7, 8, 1, 0] rfl)
          · rw [if_pos c23] at h
            refine lv_aload_n hx hb d_q_store_203 rfl (lv_at hl 2 rfl) ?_
            refine lv_iload hx hb d_q_store_204 (lv_at hl 1 rfl) ?_
            refine lv_iload_n hx hb d_q_store_206 rfl (lv_at hl 5 rfl) ?_
            replace h := bs h
            obtain ⟨w24, hw24, h⟩ := h
            refine cv_q_400 (As := [.int (((6 : Int32) + ((4 : Int32) * x16)) + y7), .int y3]) (rest := []) hx hb hml hown hts hK hG hW (c_q_copy l D cA base hw24) (kb_q_copy hw24) ⟨Nat.le_of_ble_eq_true rfl, Nat.le_of_ble_eq_true rfl⟩ ⟨Nat.le_of_ble_eq_true rfl, Nat.le_of_ble_eq_true rfl⟩ rfl hl.1 rfl (Nat.le_of_ble_eq_true rfl) d_q_store_207 (fun H locs hW => ?_)
            refine lv_goto (tgt := 233) hx hb d_q_store_210 (by decide) ?_
            exact j_q_store_233 C ih y0 y1 y2 y3 y4 y5 y7 w24 h _ _ _ hW (lv_sub hl [2, 3, 4, 5, 6, 7, 8] rfl)
set_option maxHeartbeats 4000000 in
set_option maxRecDepth 100000 in
theorem j_q_store_149 {p : Program} {l : Launch} {e : Env} {s : State} {m : MethodId} {args : Array Value} {below : List Frame} {meth : Method} {c : Code} {D : va_G} {cA : Nat → ClassId} {base : Nat} {w' : WW} (C : cx b_q_store (none) 10 y_q_store.cls "store" p s m args meth c D cA base)   : ∀ (y0 : Nat) (y1 : Int32) (y2 : Int32) (y3 : Int32) (y4 : Int32) (y5 : Int32) (z0 : Nat) (z1 : Int32) (z2 : Int32) (w : WW), f_q_store_149 y0 y1 y2 y3 y4 y5 z0 z1 z2 w = some w' → ∀ (H : Heap) (locs : List Loc) (ls : Array Slot), wo_S D cls cA base s w H locs → lv_has ls 10 [(0, .ref (base + y0)), (1, .int y1), (2, .int y2), (3, .int y3), (4, .int y4), (5, .int y5)] → W p l e rm_q_store s m args below meth c H locs 0 0 (MQ below (wo_Q D cls cA base none w') args s rm_q_store.cells rm_q_store.slots (wo_B base)) (F0 m 149 ls [.int z2, .int z1, .ref (base + z0)]) := by
  obtain ⟨hx, hb, hr, hml, hown, hts, hlk, hnm, hK, hG⟩ := id C
  intro y0 y1 y2 y3 y4 y5 z0 z1 z2 w h H locs ls hW hl
  unfold f_q_store_149 at h
  replace h := bs h
  obtain ⟨w12, hw12, h⟩ := h
  refine wo_zast hx hb hK hW (t := 2) rfl hw12 d_q_store_149 (fun H locs hW => ?_)
  refine lv_iconst (v := (0 : Int32)) hx hb d_q_store_150 (by decide) ?_
  refine lv_istore (lv' := [(7, .int (0 : Int32)), (0, .ref (base + y0)), (1, .int y1), (2, .int y2), (3, .int y3), (4, .int y4), (5, .int y5)]) hx hb d_q_store_151 hl (by decide) rfl (fun ls hl => ?_)
  exact j_q_store_153 C KK y0 y1 y2 y3 y4 y5 (0 : Int32) w12 h _ _ _ hW (lv_sub hl [1, 2, 3, 4, 5, 6, 0] rfl)
set_option maxHeartbeats 4000000 in
set_option maxRecDepth 100000 in
theorem j_q_store_134 {p : Program} {l : Launch} {e : Env} {s : State} {m : MethodId} {args : Array Value} {below : List Frame} {meth : Method} {c : Code} {D : va_G} {cA : Nat → ClassId} {base : Nat} {w' : WW} (C : cx b_q_store (none) 10 y_q_store.cls "store" p s m args meth c D cA base)   : ∀ (y0 : Nat) (y1 : Int32) (y2 : Int32) (y3 : Int32) (y4 : Int32) (y5 : Int32) (w : WW), f_q_store_134 y0 y1 y2 y3 y4 y5 w = some w' → ∀ (H : Heap) (locs : List Loc) (ls : Array Slot), wo_S D cls cA base s w H locs → lv_has ls 10 [(0, .ref (base + y0)), (1, .int y1), (2, .int y2), (3, .int y3), (4, .int y4), (5, .int y5)] → W p l e rm_q_store s m args below meth c H locs 0 0 (MQ below (wo_Q D cls cA base none w') args s rm_q_store.cells rm_q_store.slots (wo_B base)) (F0 m 134 ls []) := by
  obtain ⟨hx, hb, hr, hml, hown, hts, hlk, hnm, hK, hG⟩ := id C
  intro y0 y1 y2 y3 y4 y5 w h H locs ls hW hl
  unfold f_q_store_134 at h
  refine lv_aload_n hx hb d_q_store_134 rfl (lv_at hl 0 rfl) ?_
  replace h := bs h
  obtain ⟨x10, hx10, h⟩ := h
  refine gf_q_133 hx hb hts hown hK hG hW (gN_s hx10) d_q_store_135 ?_
  refine lv_iconst (v := (0 : Int32)) hx hb d_q_store_138 (by decide) ?_
  refine lv_iload hx hb d_q_store_139 (lv_at hl 5 rfl) ?_
  refine lv_if_ne (tgt := 148) hx hb d_q_store_141 (by decide) (fun c11 => ?_) (fun c11 => ?_)
  · rw [if_neg c11] at h
    refine lv_iconst (v := (0 : Int32)) hx hb d_q_store_148 (by decide) ?_
    exact j_q_store_149 C y0 y1 y2 y3 y4 y5 x10 (0 : Int32) (0 : Int32) w h _ _ _ hW (lv_sub hl [0, 1, 2, 3, 4, 5] rfl)
  · rw [if_pos c11] at h
    refine lv_iconst (v := (1 : Int32)) hx hb d_q_store_144 (by decide) ?_
    refine lv_goto (tgt := 149) hx hb d_q_store_145 (by decide) ?_
    exact j_q_store_149 C y0 y1 y2 y3 y4 y5 x10 (0 : Int32) (1 : Int32) w h _ _ _ hW (lv_sub hl [0, 1, 2, 3, 4, 5] rfl)
set_option maxHeartbeats 4000000 in
set_option maxRecDepth 100000 in
theorem j_q_store_128 {p : Program} {l : Launch} {e : Env} {s : State} {m : MethodId} {args : Array Value} {below : List Frame} {meth : Method} {c : Code} {D : va_G} {cA : Nat → ClassId} {base : Nat} {w' : WW} (C : cx b_q_store (none) 10 y_q_store.cls "store" p s m args meth c D cA base) {k_92 : Nat → Int32 → Int32 → Int32 → Int32 → Int32 → Int32 → Int32 → WW → Option WW} (hk_92 : ∀ (y0 : Nat) (y1 : Int32) (y2 : Int32) (y3 : Int32) (y4 : Int32) (y5 : Int32) (y6 : Int32) (y7 : Int32) (w : WW), k_92 y0 y1 y2 y3 y4 y5 y6 y7 w = some w' → ∀ (H : Heap) (locs : List Loc) (ls : Array Slot), wo_S D cls cA base s w H locs → lv_has ls 10 [(0, .ref (base + y0)), (1, .int y1), (2, .int y2), (3, .int y3), (4, .int y4), (5, .int y5), (6, .int y6), (7, .int y7)] → W p l e rm_q_store s m args below meth c H locs 0 0 (MQ below (wo_Q D cls cA base none w') args s rm_q_store.cells rm_q_store.slots (wo_B base)) (F0 m 92 ls [])) : ∀ (y0 : Nat) (y1 : Int32) (y2 : Int32) (y3 : Int32) (y4 : Int32) (y5 : Int32) (y6 : Int32) (y7 : Int32) (w : WW), f_q_store_128 k_92 y0 y1 y2 y3 y4 y5 y6 y7 w = some w' → ∀ (H : Heap) (locs : List Loc) (ls : Array Slot), wo_S D cls cA base s w H locs → lv_has ls 10 [(0, .ref (base + y0)), (1, .int y1), (2, .int y2), (3, .int y3), (4, .int y4), (5, .int y5), (6, .int y6), (7, .int y7)] → W p l e rm_q_store s m args below meth c H locs 0 0 (MQ below (wo_Q D cls cA base none w') args s rm_q_store.cells rm_q_store.slots (wo_B base)) (F0 m 128 ls []) := by
  obtain ⟨hx, hb, hr, hml, hown, hts, hlk, hnm, hK, hG⟩ := id C
  intro y0 y1 y2 y3 y4 y5 y6 y7 w h H locs ls hW hl
  unfold f_q_store_128 at h
  refine lv_iinc (v := (y7 + (1 : Int32))) (lv' := [(7, .int (y7 + (1 : Int32))), (0, .ref (base + y0)), (1, .int y1), (2, .int y2), (3, .int y3), (4, .int y4), (5, .int y5), (6, .int y6)]) hx hb d_q_store_128 hl (k := 7) rfl rfl (by decide) rfl (fun ls hl => ?_)
  refine lv_goto (tgt := 92) hx hb d_q_store_131 (by decide) ?_
  exact hk_92 y0 y1 y2 y3 y4 y5 y6 (y7 + (1 : Int32)) w h _ _ _ hW (lv_sub hl [1, 2, 3, 4, 5, 6, 7, 0] rfl)
set_option maxHeartbeats 4000000 in
set_option maxRecDepth 100000 in
theorem j_q_store_92 {p : Program} {l : Launch} {e : Env} {s : State} {m : MethodId} {args : Array Value} {below : List Frame} {meth : Method} {c : Code} {D : va_G} {cA : Nat → ClassId} {base : Nat} {w' : WW} (C : cx b_q_store (none) 10 y_q_store.cls "store" p s m args meth c D cA base)   : ∀ n : Nat, ∀ (y0 : Nat) (y1 : Int32) (y2 : Int32) (y3 : Int32) (y4 : Int32) (y5 : Int32) (y6 : Int32) (y7 : Int32) (w : WW), f_q_store_92 n y0 y1 y2 y3 y4 y5 y6 y7 w = some w' → ∀ (H : Heap) (locs : List Loc) (ls : Array Slot), wo_S D cls cA base s w H locs → lv_has ls 10 [(0, .ref (base + y0)), (1, .int y1), (2, .int y2), (3, .int y3), (4, .int y4), (5, .int y5), (6, .int y6), (7, .int y7)] → W p l e rm_q_store s m args below meth c H locs 0 0 (MQ below (wo_Q D cls cA base none w') args s rm_q_store.cells rm_q_store.slots (wo_B base)) (F0 m 92 ls []) := by
  obtain ⟨hx, hb, hr, hml, hown, hts, hlk, hnm, hK, hG⟩ := id C
  intro n
  induction n with
  | zero => intro y0 y1 y2 y3 y4 y5 y6 y7 w h; cases h
  | succ n ih =>
    intro y0 y1 y2 y3 y4 y5 y6 y7 w h H locs ls hW hl
    rw [f_q_store_92] at h
    refine lv_iload hx hb d_q_store_92 (lv_at hl 7 rfl) ?_
    refine lv_iconst (v := (4 : Int32)) hx hb d_q_store_94 (by decide) ?_
    refine lv_icmp_ge (tgt := 134) hx hb d_q_store_95 (by decide) (fun c9 => ?_) (fun c9 => ?_)
    · rw [if_pos c9] at h
      exact j_q_store_134 C y0 y1 y2 y3 y4 y5 w h _ _ _ hW (lv_sub hl [0, 1, 2, 3, 4, 5] rfl)
    · rw [if_neg c9] at h
      refine lv_iload hx hb d_q_store_98 (lv_at hl 6 rfl) ?_
      refine lv_if_eq (tgt := 134) hx hb d_q_store_100 (by decide) (fun c25 => ?_) (fun c25 => ?_)
      · rw [if_pos c25] at h
        exact j_q_store_134 C y0 y1 y2 y3 y4 y5 w h _ _ _ hW (lv_sub hl [0, 1, 2, 3, 4, 5] rfl)
      · rw [if_neg c25] at h
        refine lv_aload_n hx hb d_q_store_103 rfl (lv_at hl 0 rfl) ?_
        refine lv_iload hx hb d_q_store_104 (lv_at hl 7 rfl) ?_
        refine lv_i2l hx hb d_q_store_106 rfl ?_
        refine lv_iload_n hx hb d_q_store_107 rfl (lv_at hl 2 rfl) ?_
        replace h := bs2 h
        obtain ⟨x27, w26, hw26, h⟩ := h
        refine cv_q_409 (As := [.long (Int32.toInt64 y7), .int y2]) (rest := []) hx hb hml hown hts hK hG hW (c_q_isOf l D cA base hw26) (kb_q_isOf hw26) ⟨Nat.le_of_ble_eq_true rfl, Nat.le_of_ble_eq_true rfl⟩ ⟨Nat.le_of_ble_eq_true rfl, Nat.le_of_ble_eq_true rfl⟩ rfl hl.1 rfl (Nat.le_of_ble_eq_true rfl) d_q_store_108 (fun H locs hW => ?_)
        refine lv_istore (lv' := [(8, .int x27), (0, .ref (base + y0)), (1, .int y1), (2, .int y2), (3, .int y3), (4, .int y4), (5, .int y5), (6, .int y6), (7, .int y7)]) hx hb d_q_store_111 hl (by decide) rfl (fun ls hl => ?_)
        refine lv_iload hx hb d_q_store_113 (lv_at hl 0 rfl) ?_
        refine lv_if_ne (tgt := 121) hx hb d_q_store_115 (by decide) (fun c28 => ?_) (fun c28 => ?_)
        · rw [if_neg c28] at h
          refine lv_iload hx hb d_q_store_121 (lv_at hl 8 rfl) ?_
          refine lv_istore (lv' := [(4, .int y7), (8, .int x27), (0, .ref (base + y0)), (1, .int y1), (2, .int y2), (3, .int y3), (5, .int y5), (6, .int y6), (7, .int y7)]) hx hb d_q_store_123 hl (by decide) rfl (fun ls hl => ?_)
          refine lv_iinc (v := (y5 + (1 : Int32))) (lv' := [(5, .int (y5 + (1 : Int32))), (4, .int y7), (8, .int x27), (0, .ref (base + y0)), (1, .int y1), (2, .int y2), (3, .int y3), (6, .int y6), (7, .int y7)]) hx hb d_q_store_125 hl (k := 6) rfl rfl (by decide) rfl (fun ls hl => ?_)
          exact j_q_store_128 C ih y0 y1 y2 y3 y7 (y5 + (1 : Int32)) y6 y7 w26 h _ _ _ hW (lv_sub hl [3, 4, 5, 6, 1, 0, 7, 8] rfl)
        · rw [if_pos c28] at h
          refine lv_goto (tgt := 128) hx hb d_q_store_118 (by decide) ?_
          exact j_q_store_128 C ih y0 y1 y2 y3 y4 y5 y6 y7 w26 h _ _ _ hW (lv_sub hl [1, 2, 3, 4, 5, 6, 7, 8] rfl)
set_option maxHeartbeats 4000000 in
set_option maxRecDepth 100000 in
theorem j_q_store_87 {p : Program} {l : Launch} {e : Env} {s : State} {m : MethodId} {args : Array Value} {below : List Frame} {meth : Method} {c : Code} {D : va_G} {cA : Nat → ClassId} {base : Nat} {w' : WW} (C : cx b_q_store (none) 10 y_q_store.cls "store" p s m args meth c D cA base)   : ∀ (y0 : Nat) (y1 : Int32) (y2 : Int32) (y3 : Int32) (y4 : Int32) (y5 : Int32) (z0 : Int32) (w : WW), f_q_store_87 y0 y1 y2 y3 y4 y5 z0 w = some w' → ∀ (H : Heap) (locs : List Loc) (ls : Array Slot), wo_S D cls cA base s w H locs → lv_has ls 10 [(0, .ref (base + y0)), (1, .int y1), (2, .int y2), (3, .int y3), (4, .int y4), (5, .int y5)] → W p l e rm_q_store s m args below meth c H locs 0 0 (MQ below (wo_Q D cls cA base none w') args s rm_q_store.cells rm_q_store.slots (wo_B base)) (F0 m 87 ls [.int z0]) := by
  obtain ⟨hx, hb, hr, hml, hown, hts, hlk, hnm, hK, hG⟩ := id C
  intro y0 y1 y2 y3 y4 y5 z0 w h H locs ls hW hl
  unfold f_q_store_87 at h
  refine lv_istore (lv' := [(6, .int z0), (0, .ref (base + y0)), (1, .int y1), (2, .int y2), (3, .int y3), (4, .int y4), (5, .int y5)]) hx hb d_q_store_87 hl (by decide) rfl (fun ls hl => ?_)
  refine lv_iconst (v := (0 : Int32)) hx hb d_q_store_89 (by decide) ?_
  refine lv_istore (lv' := [(7, .int (0 : Int32)), (6, .int z0), (0, .ref (base + y0)), (1, .int y1), (2, .int y2), (3, .int y3), (4, .int y4), (5, .int y5)]) hx hb d_q_store_90 hl (by decide) rfl (fun ls hl => ?_)
  exact j_q_store_92 C KK y0 y1 y2 y3 y4 y5 z0 (0 : Int32) w h _ _ _ hW (lv_sub hl [2, 3, 4, 5, 6, 7, 1, 0] rfl)
set_option maxHeartbeats 4000000 in
set_option maxRecDepth 100000 in
theorem j_q_store_86 {p : Program} {l : Launch} {e : Env} {s : State} {m : MethodId} {args : Array Value} {below : List Frame} {meth : Method} {c : Code} {D : va_G} {cA : Nat → ClassId} {base : Nat} {w' : WW} (C : cx b_q_store (none) 10 y_q_store.cls "store" p s m args meth c D cA base)   : ∀ (y0 : Nat) (y1 : Int32) (y2 : Int32) (y3 : Int32) (y4 : Int32) (y5 : Int32) (w : WW), f_q_store_86 y0 y1 y2 y3 y4 y5 w = some w' → ∀ (H : Heap) (locs : List Loc) (ls : Array Slot), wo_S D cls cA base s w H locs → lv_has ls 10 [(0, .ref (base + y0)), (1, .int y1), (2, .int y2), (3, .int y3), (4, .int y4), (5, .int y5)] → W p l e rm_q_store s m args below meth c H locs 0 0 (MQ below (wo_Q D cls cA base none w') args s rm_q_store.cells rm_q_store.slots (wo_B base)) (F0 m 86 ls []) := by
  obtain ⟨hx, hb, hr, hml, hown, hts, hlk, hnm, hK, hG⟩ := id C
  intro y0 y1 y2 y3 y4 y5 w h H locs ls hW hl
  unfold f_q_store_86 at h
  refine lv_iconst (v := (0 : Int32)) hx hb d_q_store_86 (by decide) ?_
  exact j_q_store_87 C y0 y1 y2 y3 y4 y5 (0 : Int32) w h _ _ _ hW (lv_sub hl [0, 1, 2, 3, 4, 5] rfl)
set_option maxHeartbeats 4000000 in
set_option maxRecDepth 100000 in
theorem j_q_store_57 {p : Program} {l : Launch} {e : Env} {s : State} {m : MethodId} {args : Array Value} {below : List Frame} {meth : Method} {c : Code} {D : va_G} {cA : Nat → ClassId} {base : Nat} {w' : WW} (C : cx b_q_store (none) 10 y_q_store.cls "store" p s m args meth c D cA base)   : ∀ (y0 : Nat) (y1 : Int32) (y2 : Int32) (y3 : Int32) (y4 : Int32) (y5 : Int32) (y6 : Int32) (w : WW), f_q_store_57 y0 y1 y2 y3 y4 y5 y6 w = some w' → ∀ (H : Heap) (locs : List Loc) (ls : Array Slot), wo_S D cls cA base s w H locs → lv_has ls 10 [(0, .ref (base + y0)), (1, .int y1), (2, .int y2), (3, .int y3), (4, .int y4), (5, .int y5), (6, .int y6)] → W p l e rm_q_store s m args below meth c H locs 0 0 (MQ below (wo_Q D cls cA base none w') args s rm_q_store.cells rm_q_store.slots (wo_B base)) (F0 m 57 ls []) := by
  obtain ⟨hx, hb, hr, hml, hown, hts, hlk, hnm, hK, hG⟩ := id C
  intro y0 y1 y2 y3 y4 y5 y6 w h H locs ls hW hl
  unfold f_q_store_57 at h
  refine lv_iload hx hb d_q_store_57 (lv_at hl 6 rfl) ?_
  refine lv_if_eq (tgt := 86) hx hb d_q_store_59 (by decide) (fun c8 => ?_) (fun c8 => ?_)
  · rw [if_pos c8] at h
    exact j_q_store_86 C y0 y1 y2 y3 y4 y5 w h _ _ _ hW (lv_sub hl [0, 1, 2, 3, 4, 5] rfl)
  · rw [if_neg c8] at h
    refine lv_aload_n hx hb d_q_store_62 rfl (lv_at hl 0 rfl) ?_
    refine lv_aload_n hx hb d_q_store_63 rfl (lv_at hl 0 rfl) ?_
    replace h := bs h
    obtain ⟨x29, hx29, h⟩ := h
    refine gf_q_41 hx hb hts hown hK hG hW (gN_s hx29) d_q_store_64 ?_
    refine lv_iload_n hx hb d_q_store_67 rfl (lv_at hl 1 rfl) ?_
    replace h := bs h
    obtain ⟨x30, hx30, h⟩ := h
    refine wo_iald hx hb hK hW (t := 0) rfl hx30 d_q_store_68 ?_
    refine lv_aload_n hx hb d_q_store_69 rfl (lv_at hl 0 rfl) ?_
    replace h := bs h
    obtain ⟨x31, hx31, h⟩ := h
    refine gf_q_44 hx hb hts hown hK hG hW (gN_s hx31) d_q_store_70 ?_
    refine lv_iload_n hx hb d_q_store_73 rfl (lv_at hl 1 rfl) ?_
    replace h := bs h
    obtain ⟨x32, hx32, h⟩ := h
    refine wo_iald hx hb hK hW (t := 0) rfl hx32 d_q_store_74 ?_
    refine lv_iload_n hx hb d_q_store_75 rfl (lv_at hl 3 rfl) ?_
    replace h := bs2 h
    obtain ⟨x34, w33, hw33, h⟩ := h
    refine cv_q_467 (As := [.int x30, .int x32, .int y3]) (rest := []) hx hb hml hown hts hK hG hW (c_q_look l D cA base hw33) (kb_q_look hw33) ⟨Nat.le_of_ble_eq_true rfl, Nat.le_of_ble_eq_true rfl⟩ ⟨Nat.le_of_ble_eq_true rfl, Nat.le_of_ble_eq_true rfl⟩ rfl hl.1 rfl (Nat.le_of_ble_eq_true rfl) d_q_store_76 (fun H locs hW => ?_)
    refine lv_if_eq (tgt := 86) hx hb d_q_store_79 (by decide) (fun c35 => ?_) (fun c35 => ?_)
    · rw [if_pos c35] at h
      exact j_q_store_86 C y0 y1 y2 y3 y4 y5 w33 h _ _ _ hW (lv_sub hl [0, 1, 2, 3, 4, 5] rfl)
    · rw [if_neg c35] at h
      refine lv_iconst (v := (1 : Int32)) hx hb d_q_store_82 (by decide) ?_
      refine lv_goto (tgt := 87) hx hb d_q_store_83 (by decide) ?_
      exact j_q_store_87 C y0 y1 y2 y3 y4 y5 (1 : Int32) w33 h _ _ _ hW (lv_sub hl [0, 1, 2, 3, 4, 5] rfl)
set_option maxHeartbeats 4000000 in
set_option maxRecDepth 100000 in
theorem c_q_store (l : Launch) (D : va_G) (cA : Nat → ClassId) (base : Nat) {a0 : Nat} {a1 : Int32} {w w' : WW} (h : f_q_store a0 a1 w = some w') : mt l D cls (wo_tys cA) cA base y_q_store (Cond.code y_q_store b_q_store 10 (none) :: gt) rm_q_store [.ref (base + a0), .int a1] w none w' rm_q_store.cells rm_q_store.slots := by
  refine mt_start (by decide) (Nat.le_of_ble_eq_true rfl) ?_
  intro p e s m below meth c ls hx hb hr hml hown hts hlk hnm hK hG hW hl
  have C : cx b_q_store (none) 10 y_q_store.cls "store" p s m [.ref (base + a0), .int a1].toArray meth c D cA base := ⟨hx, hb, hr, hml, hown, hts, hlk, hnm, hK, hG⟩
  have hl : lv_has ls 10 [(0, .ref (base + a0)), (1, .int a1)] := hl
  unfold f_q_store at h
  replace h := its h
  obtain ⟨-, h⟩ := h
  refine lv_sipush (v := (226 : Int32)) hx hb d_q_store_0 (by decide) ?_
  refine lv_istore_n (lv' := [(2, .int (226 : Int32)), (0, .ref (base + a0)), (1, .int a1)]) hx hb d_q_store_3 rfl hl (by decide) rfl (fun ls hl => ?_)
  refine lv_sipush (v := (290 : Int32)) hx hb d_q_store_4 (by decide) ?_
  refine lv_istore_n (lv' := [(3, .int (290 : Int32)), (2, .int (226 : Int32)), (0, .ref (base + a0)), (1, .int a1)]) hx hb d_q_store_7 rfl hl (by decide) rfl (fun ls hl => ?_)
  refine lv_iconst (v := (-1 : Int32)) hx hb d_q_store_8 (by decide) ?_
  refine lv_istore (lv' := [(4, .int (-1 : Int32)), (3, .int (290 : Int32)), (2, .int (226 : Int32)), (0, .ref (base + a0)), (1, .int a1)]) hx hb d_q_store_9 hl (by decide) rfl (fun ls hl => ?_)
  refine lv_iconst (v := (0 : Int32)) hx hb d_q_store_11 (by decide) ?_
  refine lv_istore (lv' := [(5, .int (0 : Int32)), (4, .int (-1 : Int32)), (3, .int (290 : Int32)), (2, .int (226 : Int32)), (0, .ref (base + a0)), (1, .int a1)]) hx hb d_q_store_12 hl (by decide) rfl (fun ls hl => ?_)
  refine lv_aload_n hx hb d_q_store_14 rfl (lv_at hl 4 rfl) ?_
  refine lv_aload_n hx hb d_q_store_15 rfl (lv_at hl 4 rfl) ?_
  replace h := bs h
  obtain ⟨x1, hx1, h⟩ := h
  refine gf_q_35 hx hb hts hown hK hG hW (gN_s hx1) d_q_store_16 ?_
  refine lv_iload_n hx hb d_q_store_19 rfl (lv_at hl 5 rfl) ?_
  replace h := bs h
  obtain ⟨x2, hx2, h⟩ := h
  refine wo_iald hx hb hK hW (t := 0) rfl hx2 d_q_store_20 ?_
  refine lv_aload_n hx hb d_q_store_21 rfl (lv_at hl 4 rfl) ?_
  replace h := bs h
  obtain ⟨x3, hx3, h⟩ := h
  refine gf_q_38 hx hb hts hown hK hG hW (gN_s hx3) d_q_store_22 ?_
  refine lv_iload_n hx hb d_q_store_25 rfl (lv_at hl 5 rfl) ?_
  replace h := bs h
  obtain ⟨x4, hx4, h⟩ := h
  refine wo_iald hx hb hK hW (t := 0) rfl hx4 d_q_store_26 ?_
  refine lv_iload_n hx hb d_q_store_27 rfl (lv_at hl 3 rfl) ?_
  replace h := bs2 h
  obtain ⟨x6, w5, hw5, h⟩ := h
  refine cv_q_467 (As := [.int x2, .int x4, .int (226 : Int32)]) (rest := []) hx hb hml hown hts hK hG hW (c_q_look l D cA base hw5) (kb_q_look hw5) ⟨Nat.le_of_ble_eq_true rfl, Nat.le_of_ble_eq_true rfl⟩ ⟨Nat.le_of_ble_eq_true rfl, Nat.le_of_ble_eq_true rfl⟩ rfl hl.1 rfl (Nat.le_of_ble_eq_true rfl) d_q_store_28 (fun H locs hW => ?_)
  refine lv_istore (lv' := [(6, .int x6), (5, .int (0 : Int32)), (4, .int (-1 : Int32)), (3, .int (290 : Int32)), (2, .int (226 : Int32)), (0, .ref (base + a0)), (1, .int a1)]) hx hb d_q_store_31 hl (by decide) rfl (fun ls hl => ?_)
  refine lv_iload hx hb d_q_store_33 (lv_at hl 0 rfl) ?_
  refine lv_if_eq (tgt := 57) hx hb d_q_store_35 (by decide) (fun c7 => ?_) (fun c7 => ?_)
  · rw [if_pos c7] at h
    exact j_q_store_57 C a0 a1 (226 : Int32) (290 : Int32) (-1 : Int32) (0 : Int32) x6 w5 h _ _ _ hW (lv_sub hl [5, 6, 4, 3, 2, 1, 0] rfl)
  · rw [if_neg c7] at h
    refine lv_aload_n hx hb d_q_store_38 rfl (lv_at hl 5 rfl) ?_
    refine lv_iload_n hx hb d_q_store_39 rfl (lv_at hl 4 rfl) ?_
    replace h := bs2 h
    obtain ⟨x37, w36, hw36, h⟩ := h
    refine cv_q_454 (As := [.int (226 : Int32)]) (rest := []) hx hb hml hown hts hK hG hW (c_q_isBeyond l D cA base hw36) (kb_q_isBeyond hw36) ⟨Nat.le_of_ble_eq_true rfl, Nat.le_of_ble_eq_true rfl⟩ ⟨Nat.le_of_ble_eq_true rfl, Nat.le_of_ble_eq_true rfl⟩ rfl hl.1 rfl (Nat.le_of_ble_eq_true rfl) d_q_store_40 (fun H locs hW => ?_)
    refine lv_if_eq (tgt := 57) hx hb d_q_store_43 (by decide) (fun c38 => ?_) (fun c38 => ?_)
    · rw [if_pos c38] at h
      exact j_q_store_57 C a0 a1 (226 : Int32) (290 : Int32) (-1 : Int32) (0 : Int32) x6 w36 h _ _ _ hW (lv_sub hl [5, 6, 4, 3, 2, 1, 0] rfl)
    · rw [if_neg c38] at h
      refine lv_aload_n hx hb d_q_store_46 rfl (lv_at hl 5 rfl) ?_
      refine lv_iconst (v := (2 : Int32)) hx hb d_q_store_47 (by decide) ?_
      refine lv_aload_n hx hb d_q_store_48 rfl (lv_at hl 5 rfl) ?_
      replace h := bs h
      obtain ⟨x39, hx39, h⟩ := h
      refine gf_q_32 hx hb hts hown hK hG hW (gN_s hx39) d_q_store_49 ?_
      refine lv_iload_n hx hb d_q_store_52 rfl (lv_at hl 6 rfl) ?_
      replace h := bs h
      obtain ⟨x40, hx40, h⟩ := h
      refine wo_iald hx hb hK hW (t := 0) rfl hx40 d_q_store_53 ?_
      replace h := bs h
      obtain ⟨w41, hw41, h⟩ := h
      refine cv_q_442 (As := [.int (2 : Int32), .int x40]) (rest := []) hx hb hml hown hts hK hG hW (c_q_warn l D cA base hw41) (kb_q_warn hw41) ⟨Nat.le_of_ble_eq_true rfl, Nat.le_of_ble_eq_true rfl⟩ ⟨Nat.le_of_ble_eq_true rfl, Nat.le_of_ble_eq_true rfl⟩ rfl hl.1 rfl (Nat.le_of_ble_eq_true rfl) d_q_store_54 (fun H locs hW => ?_)
      exact j_q_store_57 C a0 a1 (226 : Int32) (290 : Int32) (-1 : Int32) (0 : Int32) x6 w41 h _ _ _ hW (lv_sub hl [5, 6, 4, 3, 2, 1, 0] rfl)
