/-! Methods as functions, and their contracts (by wip/gen/run.py). -/
abbrev b_pa_readAssignment : ByteArray := prog_3_method_10_code
def y_pa_readAssignment : MethodName := ⟨"AlarmForge$Parser", "readAssignment", "(LAlarmForge$Statement;)V"⟩
def rm_pa_readAssignment : Room := { frames := 73, cells := 0, slots := 0, locals := 1767 }
def rx_pa_readAssignment : Room := { frames := 73, cells := 1, slots := 6, locals := 1767 }
theorem d_pa_readAssignment_0 : decode b_pa_readAssignment 0 = .ok (.aload_n 0, 1) := by decide +kernel
theorem d_pa_readAssignment_1 : decode b_pa_readAssignment 1 = .ok (.bipush (61), 2) := by decide +kernel
theorem d_pa_readAssignment_3 : decode b_pa_readAssignment 3 = .ok (.invokevirtual 108, 3) := by decide +kernel
theorem d_pa_readAssignment_6 : decode b_pa_readAssignment 6 = .ok (.aload_n 0, 1) := by decide +kernel
theorem d_pa_readAssignment_7 : decode b_pa_readAssignment 7 = .ok (.invokevirtual 55, 3) := by decide +kernel
theorem d_pa_readAssignment_10 : decode b_pa_readAssignment 10 = .ok (.bipush (8), 2) := by decide +kernel
theorem d_pa_readAssignment_12 : decode b_pa_readAssignment 12 = .ok (.if_icmp .ne (16), 3) := by decide +kernel
theorem d_pa_readAssignment_15 : decode b_pa_readAssignment 15 = .ok (.aload_n 1, 1) := by decide +kernel
theorem d_pa_readAssignment_16 : decode b_pa_readAssignment 16 = .ok (.bipush (8), 2) := by decide +kernel
theorem d_pa_readAssignment_18 : decode b_pa_readAssignment 18 = .ok (.putfield 112, 3) := by decide +kernel
theorem d_pa_readAssignment_21 : decode b_pa_readAssignment 21 = .ok (.aload_n 0, 1) := by decide +kernel
theorem d_pa_readAssignment_22 : decode b_pa_readAssignment 22 = .ok (.invokevirtual 63, 3) := by decide +kernel
theorem d_pa_readAssignment_25 : decode b_pa_readAssignment 25 = .ok (.goto (31), 3) := by decide +kernel
theorem d_pa_readAssignment_28 : decode b_pa_readAssignment 28 = .ok (.aload_n 1, 1) := by decide +kernel
theorem d_pa_readAssignment_29 : decode b_pa_readAssignment 29 = .ok (.aload_n 0, 1) := by decide +kernel
theorem d_pa_readAssignment_30 : decode b_pa_readAssignment 30 = .ok (.getfield 22, 3) := by decide +kernel
theorem d_pa_readAssignment_33 : decode b_pa_readAssignment 33 = .ok (.getfield 115, 3) := by decide +kernel
theorem d_pa_readAssignment_36 : decode b_pa_readAssignment 36 = .ok (.putfield 118, 3) := by decide +kernel
theorem d_pa_readAssignment_39 : decode b_pa_readAssignment 39 = .ok (.aload_n 0, 1) := by decide +kernel
theorem d_pa_readAssignment_40 : decode b_pa_readAssignment 40 = .ok (.iconst 0, 1) := by decide +kernel
theorem d_pa_readAssignment_41 : decode b_pa_readAssignment 41 = .ok (.invokevirtual 121, 3) := by decide +kernel
theorem d_pa_readAssignment_44 : decode b_pa_readAssignment 44 = .ok (.pop, 1) := by decide +kernel
theorem d_pa_readAssignment_45 : decode b_pa_readAssignment 45 = .ok (.aload_n 1, 1) := by decide +kernel
theorem d_pa_readAssignment_46 : decode b_pa_readAssignment 46 = .ok (.aload_n 0, 1) := by decide +kernel
theorem d_pa_readAssignment_47 : decode b_pa_readAssignment 47 = .ok (.getfield 22, 3) := by decide +kernel
theorem d_pa_readAssignment_50 : decode b_pa_readAssignment 50 = .ok (.getfield 115, 3) := by decide +kernel
theorem d_pa_readAssignment_53 : decode b_pa_readAssignment 53 = .ok (.putfield 125, 3) := by decide +kernel
theorem d_pa_readAssignment_56 : decode b_pa_readAssignment 56 = .ok (.aload_n 0, 1) := by decide +kernel
theorem d_pa_readAssignment_57 : decode b_pa_readAssignment 57 = .ok (.bipush (59), 2) := by decide +kernel
theorem d_pa_readAssignment_59 : decode b_pa_readAssignment 59 = .ok (.invokevirtual 108, 3) := by decide +kernel
theorem d_pa_readAssignment_62 : decode b_pa_readAssignment 62 = .ok (.return_, 1) := by decide +kernel
theorem kb_pa_readAssignment {a0 : Nat} {a1 : Option Nat} {w : WW} {r : ((Unit ⊕ String) × WW)} (h : f_pa_readAssignment a0 a1 w = some r) : kb w a0 2 = true := (its h).1
set_option maxHeartbeats 4000000 in
set_option maxRecDepth 100000 in
theorem j_pa_readAssignment_56 {p : Program} {l : Launch} {e : Env} {s : State} {m : MethodId} {args : Array Value} {below : List Frame} {meth : Method} {c : Code} {D : va_G} {cA : Nat → ClassId} {base : Nat} {w' : WW} (C : cx b_pa_readAssignment (none) 2 y_pa_readAssignment.cls "readAssignment" p s m args meth c D cA base)   : ∀ (y0 : Nat) (w : WW), f_pa_readAssignment_56 y0 w = some (.inl (), w') → ∀ (H : Heap) (locs : List Loc) (ls : Array Slot), wo_S D cls cA base s w H locs → lv_has ls 2 [(0, .ref (base + y0))] → W p l e rm_pa_readAssignment s m args below meth c H locs 0 0 (MQ below (wo_Q D cls cA base none w') args s rm_pa_readAssignment.cells rm_pa_readAssignment.slots (wo_B base)) (F0 m 56 ls []) := by
  obtain ⟨hx, hb, hr, hml, hown, hts, hlk, hnm, hK, hG⟩ := id C
  intro y0 w h H locs ls hW hl
  unfold f_pa_readAssignment_56 at h
  refine lv_aload_n hx hb d_pa_readAssignment_56 rfl (lv_at hl 0 rfl) ?_
  refine lv_bipush (v := (59 : Int32)) hx hb d_pa_readAssignment_57 (by decide) ?_
  replace h := bsx h
  obtain ⟨x18, w17, hw17, h⟩ := h
  refine cv_pa_108 (As := [.int (59 : Int32)]) (rest := []) hx hb hml hown hts hK hG hW (c_pa_take l D cA base hw17) (kb_pa_take hw17) ⟨Nat.le_of_ble_eq_true rfl, Nat.le_of_ble_eq_true rfl⟩ ⟨Nat.le_of_ble_eq_true rfl, Nat.le_of_ble_eq_true rfl⟩ rfl hl.1 rfl (Nat.le_of_ble_eq_true rfl) d_pa_readAssignment_59 (fun H locs hW => ?_)
  cases h
  exact wo_vret hx hb hr hlk hW d_pa_readAssignment_62
set_option maxHeartbeats 4000000 in
set_option maxRecDepth 100000 in
theorem c_pa_readAssignment (l : Launch) (D : va_G) (cA : Nat → ClassId) (base : Nat) {a0 : Nat} {a1 : Option Nat} {w w' : WW} (h : f_pa_readAssignment a0 a1 w = some (.inl (), w')) : mt l D cls (wo_tys cA) cA base y_pa_readAssignment (Cond.code y_pa_readAssignment b_pa_readAssignment 2 (none) :: gt) rm_pa_readAssignment [.ref (base + a0), rb base a1] w none w' rm_pa_readAssignment.cells rm_pa_readAssignment.slots := by
  refine mt_start (by decide) (by simp only [lg_sl_0, lg_sl_1, lg_sl_2, lg_sl_3, lg_sl_rf]; decide) ?_
  intro p e s m below meth c ls hx hb hr hml hown hts hlk hnm hK hG hW hl
  have C : cx b_pa_readAssignment (none) 2 y_pa_readAssignment.cls "readAssignment" p s m [.ref (base + a0), rb base a1].toArray meth c D cA base := ⟨hx, hb, hr, hml, hown, hts, hlk, hnm, hK, hG⟩
  have hl : lv_has ls 2 [(0, .ref (base + a0)), (1, rb base a1)] := by simp only [lv_args_0, lv_args_1, lv_args_2, lv_args_3, lv_args_rf] at hl; exact hl
  unfold f_pa_readAssignment at h
  replace h := its h
  obtain ⟨-, h⟩ := h
  refine lv_aload_n hx hb d_pa_readAssignment_0 rfl (lv_at hl 0 rfl) ?_
  refine lv_bipush (v := (61 : Int32)) hx hb d_pa_readAssignment_1 (by decide) ?_
  replace h := bsx h
  obtain ⟨x2, w1, hw1, h⟩ := h
  refine cv_pa_108 (As := [.int (61 : Int32)]) (rest := []) hx hb hml hown hts hK hG hW (c_pa_take l D cA base hw1) (kb_pa_take hw1) ⟨Nat.le_of_ble_eq_true rfl, Nat.le_of_ble_eq_true rfl⟩ ⟨Nat.le_of_ble_eq_true rfl, Nat.le_of_ble_eq_true rfl⟩ rfl hl.1 rfl (Nat.le_of_ble_eq_true rfl) d_pa_readAssignment_3 (fun H locs hW => ?_)
  refine lv_aload_n hx hb d_pa_readAssignment_6 rfl (lv_at hl 0 rfl) ?_
  replace h := bs2 h
  obtain ⟨x4, w3, hw3, h⟩ := h
  refine cv_pa_55 (As := []) (rest := []) hx hb hml hown hts hK hG hW (c_pa_kindHere l D cA base hw3) (kb_pa_kindHere hw3) ⟨Nat.le_of_ble_eq_true rfl, Nat.le_of_ble_eq_true rfl⟩ ⟨Nat.le_of_ble_eq_true rfl, Nat.le_of_ble_eq_true rfl⟩ rfl hl.1 rfl (Nat.le_of_ble_eq_true rfl) d_pa_readAssignment_7 (fun H locs hW => ?_)
  refine lv_bipush (v := (8 : Int32)) hx hb d_pa_readAssignment_10 (by decide) ?_
  refine lv_icmp_ne (tgt := 28) hx hb d_pa_readAssignment_12 (by decide) (fun c5 => ?_) (fun c5 => ?_)
  · rw [if_neg c5] at h
    refine wo_aload_n hx hb d_pa_readAssignment_28 rfl (lv_at hl 1 rfl) ?_
    refine lv_aload_n hx hb d_pa_readAssignment_29 rfl (lv_at hl 0 rfl) ?_
    replace h := bs h
    obtain ⟨x6, hx6, h⟩ := h
    refine gf_pa_22 hx hb hts hown hK hG hW (gR_s hx6) d_pa_readAssignment_30 ?_
    replace h := bs h
    obtain ⟨x7, ex7, h⟩ := h
    subst ex7
    replace h := bs h
    obtain ⟨x8, hx8, h⟩ := h
    refine gf_pa_115 hx hb hts hown hK hG hW (gI_s hx8) d_pa_readAssignment_33 ?_
    replace h := bs h
    obtain ⟨x9, ex9, h⟩ := h
    subst ex9
    replace h := bs h
    obtain ⟨w10, hw10, h⟩ := h
    refine pf_pa_118 hx hb hts hown hK hG hW rfl rfl (pbi hw10 rfl) d_pa_readAssignment_36 (fun H locs hW => ?_)
    have hl : lv_has ls 2 [(0, .ref (base + a0)), (1, .ref (base + x9))] := hl
    refine lv_aload_n hx hb d_pa_readAssignment_39 rfl (lv_at hl 0 rfl) ?_
    refine lv_iconst (v := (0 : Int32)) hx hb d_pa_readAssignment_40 (by decide) ?_
    replace h := bsx h
    obtain ⟨x12, w11, hw11, h⟩ := h
    refine cv_pa_121 (As := [.int (0 : Int32)]) (rest := []) hx hb hml hown hts hK hG hW (c_pa_readExpr l D cA base hw11) (kb_pa_readExpr hw11) ⟨Nat.le_of_ble_eq_true rfl, Nat.le_of_ble_eq_true rfl⟩ ⟨Nat.le_of_ble_eq_true rfl, Nat.le_of_ble_eq_true rfl⟩ rfl hl.1 rfl (Nat.le_of_ble_eq_true rfl) d_pa_readAssignment_41 (fun H locs hW => ?_)
    refine lv_pop hx hb d_pa_readAssignment_44 rfl ?_
    refine lv_aload_n hx hb d_pa_readAssignment_45 rfl (lv_at hl 1 rfl) ?_
    refine lv_aload_n hx hb d_pa_readAssignment_46 rfl (lv_at hl 0 rfl) ?_
    replace h := bs h
    obtain ⟨x13, hx13, h⟩ := h
    refine gf_pa_22 hx hb hts hown hK hG hW (gR_s hx13) d_pa_readAssignment_47 ?_
    replace h := bs h
    obtain ⟨x14, ex14, h⟩ := h
    subst ex14
    replace h := bs h
    obtain ⟨x15, hx15, h⟩ := h
    refine gf_pa_115 hx hb hts hown hK hG hW (gI_s hx15) d_pa_readAssignment_50 ?_
    replace h := bs h
    obtain ⟨w16, hw16, h⟩ := h
    refine pf_pa_125 hx hb hts hown hK hG hW rfl rfl (pbi hw16 rfl) d_pa_readAssignment_53 (fun H locs hW => ?_)
    exact j_pa_readAssignment_56 C a0 w16 h _ _ _ hW (lv_sub hl [0] rfl)
  · rw [if_pos c5] at h
    refine wo_aload_n hx hb d_pa_readAssignment_15 rfl (lv_at hl 1 rfl) ?_
    refine lv_bipush (v := (8 : Int32)) hx hb d_pa_readAssignment_16 (by decide) ?_
    replace h := bs h
    obtain ⟨x19, ex19, h⟩ := h
    subst ex19
    replace h := bs h
    obtain ⟨w20, hw20, h⟩ := h
    refine pf_pa_112 hx hb hts hown hK hG hW rfl rfl (pbi hw20 rfl) d_pa_readAssignment_18 (fun H locs hW => ?_)
    have hl : lv_has ls 2 [(0, .ref (base + a0)), (1, .ref (base + x19))] := hl
    refine lv_aload_n hx hb d_pa_readAssignment_21 rfl (lv_at hl 0 rfl) ?_
    replace h := bs h
    obtain ⟨w21, hw21, h⟩ := h
    refine cv_pa_63 (As := []) (rest := []) hx hb hml hown hts hK hG hW (c_pa_advance l D cA base hw21) (kb_pa_advance hw21) ⟨Nat.le_of_ble_eq_true rfl, Nat.le_of_ble_eq_true rfl⟩ ⟨Nat.le_of_ble_eq_true rfl, Nat.le_of_ble_eq_true rfl⟩ rfl hl.1 rfl (Nat.le_of_ble_eq_true rfl) d_pa_readAssignment_22 (fun H locs hW => ?_)
    refine lv_goto (tgt := 56) hx hb d_pa_readAssignment_25 (by decide) ?_
    exact j_pa_readAssignment_56 C a0 w21 h _ _ _ hW (lv_sub hl [0] rfl)
set_option maxHeartbeats 4000000 in
set_option maxRecDepth 100000 in
theorem jx_pa_readAssignment_56 {p : Program} {l : Launch} {e : Env} {s : State} {m : MethodId} {args : Array Value} {below : List Frame} {meth : Method} {c : Code} {D : va_G} {cA : Nat → ClassId} {base : Nat} {E : String} {w' : WW} (C : cx b_pa_readAssignment (none) 2 y_pa_readAssignment.cls "readAssignment" p s m args meth c D cA base ∧ (∀ x ∈ c.exceptionTable.toList, ∀ k : Nat, covers x k = false) ∧ l.stackTraces = false)   : ∀ (y0 : Nat) (w : WW), f_pa_readAssignment_56 y0 w = some (.inr E, w') → ∀ (H : Heap) (locs : List Loc) (ls : Array Slot), wo_S D cls cA base s w H locs → lv_has ls 2 [(0, .ref (base + y0))] → W p l e rx_pa_readAssignment s m args below meth c H locs 0 0 (XQ below (wo_X D cls cA base E w' rx_pa_readAssignment.cells rx_pa_readAssignment.slots) args s) (F0 m 56 ls []) := by
  obtain ⟨hx, hb, hr, hml, hown, hts, hlk, hnm, hK, hG⟩ := id C.1
  have hnt := C.2.1
  have hst := C.2.2
  intro y0 w h H locs ls hW hl
  unfold f_pa_readAssignment_56 at h
  refine lv_aload_n hx hb d_pa_readAssignment_56 rfl (lv_at hl 0 rfl) ?_
  refine lv_bipush (v := (59 : Int32)) hx hb d_pa_readAssignment_57 (by decide) ?_
  rcases bsy h with hw17 | ⟨x18, w17, hw17, hnw17⟩
  · exact xv_pa_108 (As := [.int (59 : Int32)]) (rest := []) hx hb hml hown hts hK hG hW (x_pa_take l hst D cA base hw17) (kb_pa_take hw17) ⟨Nat.le_of_ble_eq_true rfl, Nat.le_of_ble_eq_true rfl⟩ ⟨Nat.le_of_ble_eq_true rfl, Nat.le_of_ble_eq_true rfl⟩ rfl hl.1 rfl (Nat.le_of_ble_eq_true rfl) d_pa_readAssignment_59 (fun H locs q ce hW h1 h2 h3 => wo_xout hnt hlk hW h1 h2 h3 (Nat.le_of_ble_eq_true rfl) (Nat.le_of_ble_eq_true rfl))
  clear h
  have h := hnw17
  clear hnw17
  refine cv_pa_108 (As := [.int (59 : Int32)]) (rest := []) hx hb hml hown hts hK hG hW (c_pa_take l D cA base hw17) (kb_pa_take hw17) ⟨Nat.le_of_ble_eq_true rfl, Nat.le_of_ble_eq_true rfl⟩ ⟨Nat.le_of_ble_eq_true rfl, Nat.le_of_ble_eq_true rfl⟩ rfl hl.1 rfl (Nat.le_of_ble_eq_true rfl) d_pa_readAssignment_59 (fun H locs hW => ?_)
  cases h
set_option maxHeartbeats 4000000 in
set_option maxRecDepth 100000 in
theorem x_pa_readAssignment (l : Launch) (hst : l.stackTraces = false) (D : va_G) (cA : Nat → ClassId) (base : Nat) {a0 : Nat} {a1 : Option Nat} {w w' : WW} {E : String} (h : f_pa_readAssignment a0 a1 w = some (.inr E, w')) : xt l D cls (wo_tys cA) cA base y_pa_readAssignment (Cond.code y_pa_readAssignment b_pa_readAssignment 2 (none) :: gt) rx_pa_readAssignment [.ref (base + a0), rb base a1] w E w' rx_pa_readAssignment.cells rx_pa_readAssignment.slots := by
  refine xt_start (by decide) (by simp only [lg_sl_0, lg_sl_1, lg_sl_2, lg_sl_3, lg_sl_rf]; decide) ?_
  intro p e s m below meth c ls hx hb hr hml hown hts hlk hnm hK hG hW hl hnt
  have C : cx b_pa_readAssignment (none) 2 y_pa_readAssignment.cls "readAssignment" p s m [.ref (base + a0), rb base a1].toArray meth c D cA base ∧ (∀ x ∈ c.exceptionTable.toList, ∀ k : Nat, covers x k = false) ∧ l.stackTraces = false := ⟨⟨hx, hb, hr, hml, hown, hts, hlk, hnm, hK, hG⟩, hnt, hst⟩
  have hl : lv_has ls 2 [(0, .ref (base + a0)), (1, rb base a1)] := by simp only [lv_args_0, lv_args_1, lv_args_2, lv_args_3, lv_args_rf] at hl; exact hl
  unfold f_pa_readAssignment at h
  replace h := its h
  obtain ⟨-, h⟩ := h
  refine lv_aload_n hx hb d_pa_readAssignment_0 rfl (lv_at hl 0 rfl) ?_
  refine lv_bipush (v := (61 : Int32)) hx hb d_pa_readAssignment_1 (by decide) ?_
  rcases bsy h with hw1 | ⟨x2, w1, hw1, hnw1⟩
  · exact xv_pa_108 (As := [.int (61 : Int32)]) (rest := []) hx hb hml hown hts hK hG hW (x_pa_take l hst D cA base hw1) (kb_pa_take hw1) ⟨Nat.le_of_ble_eq_true rfl, Nat.le_of_ble_eq_true rfl⟩ ⟨Nat.le_of_ble_eq_true rfl, Nat.le_of_ble_eq_true rfl⟩ rfl hl.1 rfl (Nat.le_of_ble_eq_true rfl) d_pa_readAssignment_3 (fun H locs q ce hW h1 h2 h3 => wo_xout hnt hlk hW h1 h2 h3 (Nat.le_of_ble_eq_true rfl) (Nat.le_of_ble_eq_true rfl))
  clear h
  have h := hnw1
  clear hnw1
  refine cv_pa_108 (As := [.int (61 : Int32)]) (rest := []) hx hb hml hown hts hK hG hW (c_pa_take l D cA base hw1) (kb_pa_take hw1) ⟨Nat.le_of_ble_eq_true rfl, Nat.le_of_ble_eq_true rfl⟩ ⟨Nat.le_of_ble_eq_true rfl, Nat.le_of_ble_eq_true rfl⟩ rfl hl.1 rfl (Nat.le_of_ble_eq_true rfl) d_pa_readAssignment_3 (fun H locs hW => ?_)
  refine lv_aload_n hx hb d_pa_readAssignment_6 rfl (lv_at hl 0 rfl) ?_
  replace h := bs2 h
  obtain ⟨x4, w3, hw3, h⟩ := h
  refine cv_pa_55 (As := []) (rest := []) hx hb hml hown hts hK hG hW (c_pa_kindHere l D cA base hw3) (kb_pa_kindHere hw3) ⟨Nat.le_of_ble_eq_true rfl, Nat.le_of_ble_eq_true rfl⟩ ⟨Nat.le_of_ble_eq_true rfl, Nat.le_of_ble_eq_true rfl⟩ rfl hl.1 rfl (Nat.le_of_ble_eq_true rfl) d_pa_readAssignment_7 (fun H locs hW => ?_)
  refine lv_bipush (v := (8 : Int32)) hx hb d_pa_readAssignment_10 (by decide) ?_
  refine lv_icmp_ne (tgt := 28) hx hb d_pa_readAssignment_12 (by decide) (fun c5 => ?_) (fun c5 => ?_)
  · rw [if_neg c5] at h
    refine wo_aload_n hx hb d_pa_readAssignment_28 rfl (lv_at hl 1 rfl) ?_
    refine lv_aload_n hx hb d_pa_readAssignment_29 rfl (lv_at hl 0 rfl) ?_
    replace h := bs h
    obtain ⟨x6, hx6, h⟩ := h
    refine gf_pa_22 hx hb hts hown hK hG hW (gR_s hx6) d_pa_readAssignment_30 ?_
    replace h := bs h
    obtain ⟨x7, ex7, h⟩ := h
    subst ex7
    replace h := bs h
    obtain ⟨x8, hx8, h⟩ := h
    refine gf_pa_115 hx hb hts hown hK hG hW (gI_s hx8) d_pa_readAssignment_33 ?_
    replace h := bs h
    obtain ⟨x9, ex9, h⟩ := h
    subst ex9
    replace h := bs h
    obtain ⟨w10, hw10, h⟩ := h
    refine pf_pa_118 hx hb hts hown hK hG hW rfl rfl (pbi hw10 rfl) d_pa_readAssignment_36 (fun H locs hW => ?_)
    have hl : lv_has ls 2 [(0, .ref (base + a0)), (1, .ref (base + x9))] := hl
    refine lv_aload_n hx hb d_pa_readAssignment_39 rfl (lv_at hl 0 rfl) ?_
    refine lv_iconst (v := (0 : Int32)) hx hb d_pa_readAssignment_40 (by decide) ?_
    rcases bsy h with hw11 | ⟨x12, w11, hw11, hnw11⟩
    · exact xv_pa_121 (As := [.int (0 : Int32)]) (rest := []) hx hb hml hown hts hK hG hW (x_pa_readExpr l hst D cA base hw11) (kb_pa_readExpr hw11) ⟨Nat.le_of_ble_eq_true rfl, Nat.le_of_ble_eq_true rfl⟩ ⟨Nat.le_of_ble_eq_true rfl, Nat.le_of_ble_eq_true rfl⟩ rfl hl.1 rfl (Nat.le_of_ble_eq_true rfl) d_pa_readAssignment_41 (fun H locs q ce hW h1 h2 h3 => wo_xout hnt hlk hW h1 h2 h3 (Nat.le_of_ble_eq_true rfl) (Nat.le_of_ble_eq_true rfl))
    clear h
    have h := hnw11
    clear hnw11
    refine cv_pa_121 (As := [.int (0 : Int32)]) (rest := []) hx hb hml hown hts hK hG hW (c_pa_readExpr l D cA base hw11) (kb_pa_readExpr hw11) ⟨Nat.le_of_ble_eq_true rfl, Nat.le_of_ble_eq_true rfl⟩ ⟨Nat.le_of_ble_eq_true rfl, Nat.le_of_ble_eq_true rfl⟩ rfl hl.1 rfl (Nat.le_of_ble_eq_true rfl) d_pa_readAssignment_41 (fun H locs hW => ?_)
    refine lv_pop hx hb d_pa_readAssignment_44 rfl ?_
    refine lv_aload_n hx hb d_pa_readAssignment_45 rfl (lv_at hl 1 rfl) ?_
    refine lv_aload_n hx hb d_pa_readAssignment_46 rfl (lv_at hl 0 rfl) ?_
    replace h := bs h
    obtain ⟨x13, hx13, h⟩ := h
    refine gf_pa_22 hx hb hts hown hK hG hW (gR_s hx13) d_pa_readAssignment_47 ?_
    replace h := bs h
    obtain ⟨x14, ex14, h⟩ := h
    subst ex14
    replace h := bs h
    obtain ⟨x15, hx15, h⟩ := h
    refine gf_pa_115 hx hb hts hown hK hG hW (gI_s hx15) d_pa_readAssignment_50 ?_
    replace h := bs h
    obtain ⟨w16, hw16, h⟩ := h
    refine pf_pa_125 hx hb hts hown hK hG hW rfl rfl (pbi hw16 rfl) d_pa_readAssignment_53 (fun H locs hW => ?_)
    exact jx_pa_readAssignment_56 C a0 w16 h _ _ _ hW (lv_sub hl [0] rfl)
  · rw [if_pos c5] at h
    refine wo_aload_n hx hb d_pa_readAssignment_15 rfl (lv_at hl 1 rfl) ?_
    refine lv_bipush (v := (8 : Int32)) hx hb d_pa_readAssignment_16 (by decide) ?_
    replace h := bs h
    obtain ⟨x19, ex19, h⟩ := h
    subst ex19
    replace h := bs h
    obtain ⟨w20, hw20, h⟩ := h
    refine pf_pa_112 hx hb hts hown hK hG hW rfl rfl (pbi hw20 rfl) d_pa_readAssignment_18 (fun H locs hW => ?_)
    have hl : lv_has ls 2 [(0, .ref (base + a0)), (1, .ref (base + x19))] := hl
    refine lv_aload_n hx hb d_pa_readAssignment_21 rfl (lv_at hl 0 rfl) ?_
    replace h := bs h
    obtain ⟨w21, hw21, h⟩ := h
    refine cv_pa_63 (As := []) (rest := []) hx hb hml hown hts hK hG hW (c_pa_advance l D cA base hw21) (kb_pa_advance hw21) ⟨Nat.le_of_ble_eq_true rfl, Nat.le_of_ble_eq_true rfl⟩ ⟨Nat.le_of_ble_eq_true rfl, Nat.le_of_ble_eq_true rfl⟩ rfl hl.1 rfl (Nat.le_of_ble_eq_true rfl) d_pa_readAssignment_22 (fun H locs hW => ?_)
    refine lv_goto (tgt := 56) hx hb d_pa_readAssignment_25 (by decide) ?_
    exact jx_pa_readAssignment_56 C a0 w21 h _ _ _ hW (lv_sub hl [0] rfl)
abbrev b_pa_readStore : ByteArray := prog_3_method_11_code
def y_pa_readStore : MethodName := ⟨"AlarmForge$Parser", "readStore", "(LAlarmForge$Statement;)V"⟩
def rm_pa_readStore : Room := { frames := 73, cells := 0, slots := 0, locals := 1767 }
def rx_pa_readStore : Room := { frames := 73, cells := 1, slots := 6, locals := 1767 }
theorem d_pa_readStore_0 : decode b_pa_readStore 0 = .ok (.aload_n 0, 1) := by decide +kernel
theorem d_pa_readStore_1 : decode b_pa_readStore 1 = .ok (.bipush (91), 2) := by decide +kernel
theorem d_pa_readStore_3 : decode b_pa_readStore 3 = .ok (.invokevirtual 108, 3) := by decide +kernel
theorem d_pa_readStore_6 : decode b_pa_readStore 6 = .ok (.aload_n 1, 1) := by decide +kernel
theorem d_pa_readStore_7 : decode b_pa_readStore 7 = .ok (.aload_n 0, 1) := by decide +kernel
theorem d_pa_readStore_8 : decode b_pa_readStore 8 = .ok (.getfield 22, 3) := by decide +kernel
theorem d_pa_readStore_11 : decode b_pa_readStore 11 = .ok (.getfield 115, 3) := by decide +kernel
theorem d_pa_readStore_14 : decode b_pa_readStore 14 = .ok (.putfield 118, 3) := by decide +kernel
theorem d_pa_readStore_17 : decode b_pa_readStore 17 = .ok (.aload_n 0, 1) := by decide +kernel
theorem d_pa_readStore_18 : decode b_pa_readStore 18 = .ok (.iconst 0, 1) := by decide +kernel
theorem d_pa_readStore_19 : decode b_pa_readStore 19 = .ok (.invokevirtual 121, 3) := by decide +kernel
theorem d_pa_readStore_22 : decode b_pa_readStore 22 = .ok (.pop, 1) := by decide +kernel
theorem d_pa_readStore_23 : decode b_pa_readStore 23 = .ok (.aload_n 1, 1) := by decide +kernel
theorem d_pa_readStore_24 : decode b_pa_readStore 24 = .ok (.aload_n 0, 1) := by decide +kernel
theorem d_pa_readStore_25 : decode b_pa_readStore 25 = .ok (.getfield 22, 3) := by decide +kernel
theorem d_pa_readStore_28 : decode b_pa_readStore 28 = .ok (.getfield 115, 3) := by decide +kernel
theorem d_pa_readStore_31 : decode b_pa_readStore 31 = .ok (.putfield 128, 3) := by decide +kernel
theorem d_pa_readStore_34 : decode b_pa_readStore 34 = .ok (.aload_n 0, 1) := by decide +kernel
theorem d_pa_readStore_35 : decode b_pa_readStore 35 = .ok (.bipush (93), 2) := by decide +kernel
theorem d_pa_readStore_37 : decode b_pa_readStore 37 = .ok (.invokevirtual 108, 3) := by decide +kernel
theorem d_pa_readStore_40 : decode b_pa_readStore 40 = .ok (.aload_n 0, 1) := by decide +kernel
theorem d_pa_readStore_41 : decode b_pa_readStore 41 = .ok (.bipush (61), 2) := by decide +kernel
theorem d_pa_readStore_43 : decode b_pa_readStore 43 = .ok (.invokevirtual 108, 3) := by decide +kernel
theorem d_pa_readStore_46 : decode b_pa_readStore 46 = .ok (.aload_n 0, 1) := by decide +kernel
theorem d_pa_readStore_47 : decode b_pa_readStore 47 = .ok (.iconst 0, 1) := by decide +kernel
theorem d_pa_readStore_48 : decode b_pa_readStore 48 = .ok (.invokevirtual 121, 3) := by decide +kernel
theorem d_pa_readStore_51 : decode b_pa_readStore 51 = .ok (.pop, 1) := by decide +kernel
theorem d_pa_readStore_52 : decode b_pa_readStore 52 = .ok (.aload_n 1, 1) := by decide +kernel
theorem d_pa_readStore_53 : decode b_pa_readStore 53 = .ok (.aload_n 0, 1) := by decide +kernel
theorem d_pa_readStore_54 : decode b_pa_readStore 54 = .ok (.getfield 22, 3) := by decide +kernel
theorem d_pa_readStore_57 : decode b_pa_readStore 57 = .ok (.getfield 115, 3) := by decide +kernel
theorem d_pa_readStore_60 : decode b_pa_readStore 60 = .ok (.putfield 125, 3) := by decide +kernel
theorem d_pa_readStore_63 : decode b_pa_readStore 63 = .ok (.aload_n 0, 1) := by decide +kernel
theorem d_pa_readStore_64 : decode b_pa_readStore 64 = .ok (.bipush (59), 2) := by decide +kernel
theorem d_pa_readStore_66 : decode b_pa_readStore 66 = .ok (.invokevirtual 108, 3) := by decide +kernel
theorem d_pa_readStore_69 : decode b_pa_readStore 69 = .ok (.return_, 1) := by decide +kernel
theorem kb_pa_readStore {a0 : Nat} {a1 : Option Nat} {w : WW} {r : ((Unit ⊕ String) × WW)} (h : f_pa_readStore a0 a1 w = some r) : kb w a0 2 = true := (its h).1
set_option maxHeartbeats 4000000 in
set_option maxRecDepth 100000 in
theorem c_pa_readStore (l : Launch) (D : va_G) (cA : Nat → ClassId) (base : Nat) {a0 : Nat} {a1 : Option Nat} {w w' : WW} (h : f_pa_readStore a0 a1 w = some (.inl (), w')) : mt l D cls (wo_tys cA) cA base y_pa_readStore (Cond.code y_pa_readStore b_pa_readStore 2 (none) :: gt) rm_pa_readStore [.ref (base + a0), rb base a1] w none w' rm_pa_readStore.cells rm_pa_readStore.slots := by
  refine mt_start (by decide) (by simp only [lg_sl_0, lg_sl_1, lg_sl_2, lg_sl_3, lg_sl_rf]; decide) ?_
  intro p e s m below meth c ls hx hb hr hml hown hts hlk hnm hK hG hW hl
  have C : cx b_pa_readStore (none) 2 y_pa_readStore.cls "readStore" p s m [.ref (base + a0), rb base a1].toArray meth c D cA base := ⟨hx, hb, hr, hml, hown, hts, hlk, hnm, hK, hG⟩
  have hl : lv_has ls 2 [(0, .ref (base + a0)), (1, rb base a1)] := by simp only [lv_args_0, lv_args_1, lv_args_2, lv_args_3, lv_args_rf] at hl; exact hl
  unfold f_pa_readStore at h
  replace h := its h
  obtain ⟨-, h⟩ := h
  refine lv_aload_n hx hb d_pa_readStore_0 rfl (lv_at hl 0 rfl) ?_
  refine lv_bipush (v := (91 : Int32)) hx hb d_pa_readStore_1 (by decide) ?_
  replace h := bsx h
  obtain ⟨x2, w1, hw1, h⟩ := h
  refine cv_pa_108 (As := [.int (91 : Int32)]) (rest := []) hx hb hml hown hts hK hG hW (c_pa_take l D cA base hw1) (kb_pa_take hw1) ⟨Nat.le_of_ble_eq_true rfl, Nat.le_of_ble_eq_true rfl⟩ ⟨Nat.le_of_ble_eq_true rfl, Nat.le_of_ble_eq_true rfl⟩ rfl hl.1 rfl (Nat.le_of_ble_eq_true rfl) d_pa_readStore_3 (fun H locs hW => ?_)
  refine wo_aload_n hx hb d_pa_readStore_6 rfl (lv_at hl 1 rfl) ?_
  refine lv_aload_n hx hb d_pa_readStore_7 rfl (lv_at hl 0 rfl) ?_
  replace h := bs h
  obtain ⟨x3, hx3, h⟩ := h
  refine gf_pa_22 hx hb hts hown hK hG hW (gR_s hx3) d_pa_readStore_8 ?_
  replace h := bs h
  obtain ⟨x4, ex4, h⟩ := h
  subst ex4
  replace h := bs h
  obtain ⟨x5, hx5, h⟩ := h
  refine gf_pa_115 hx hb hts hown hK hG hW (gI_s hx5) d_pa_readStore_11 ?_
  replace h := bs h
  obtain ⟨x6, ex6, h⟩ := h
  subst ex6
  replace h := bs h
  obtain ⟨w7, hw7, h⟩ := h
  refine pf_pa_118 hx hb hts hown hK hG hW rfl rfl (pbi hw7 rfl) d_pa_readStore_14 (fun H locs hW => ?_)
  have hl : lv_has ls 2 [(0, .ref (base + a0)), (1, .ref (base + x6))] := hl
  refine lv_aload_n hx hb d_pa_readStore_17 rfl (lv_at hl 0 rfl) ?_
  refine lv_iconst (v := (0 : Int32)) hx hb d_pa_readStore_18 (by decide) ?_
  replace h := bsx h
  obtain ⟨x9, w8, hw8, h⟩ := h
  refine cv_pa_121 (As := [.int (0 : Int32)]) (rest := []) hx hb hml hown hts hK hG hW (c_pa_readExpr l D cA base hw8) (kb_pa_readExpr hw8) ⟨Nat.le_of_ble_eq_true rfl, Nat.le_of_ble_eq_true rfl⟩ ⟨Nat.le_of_ble_eq_true rfl, Nat.le_of_ble_eq_true rfl⟩ rfl hl.1 rfl (Nat.le_of_ble_eq_true rfl) d_pa_readStore_19 (fun H locs hW => ?_)
  refine lv_pop hx hb d_pa_readStore_22 rfl ?_
  refine lv_aload_n hx hb d_pa_readStore_23 rfl (lv_at hl 1 rfl) ?_
  refine lv_aload_n hx hb d_pa_readStore_24 rfl (lv_at hl 0 rfl) ?_
  replace h := bs h
  obtain ⟨x10, hx10, h⟩ := h
  refine gf_pa_22 hx hb hts hown hK hG hW (gR_s hx10) d_pa_readStore_25 ?_
  replace h := bs h
  obtain ⟨x11, ex11, h⟩ := h
  subst ex11
  replace h := bs h
  obtain ⟨x12, hx12, h⟩ := h
  refine gf_pa_115 hx hb hts hown hK hG hW (gI_s hx12) d_pa_readStore_28 ?_
  replace h := bs h
  obtain ⟨w13, hw13, h⟩ := h
  refine pf_pa_128 hx hb hts hown hK hG hW rfl rfl (pbi hw13 rfl) d_pa_readStore_31 (fun H locs hW => ?_)
  refine lv_aload_n hx hb d_pa_readStore_34 rfl (lv_at hl 0 rfl) ?_
  refine lv_bipush (v := (93 : Int32)) hx hb d_pa_readStore_35 (by decide) ?_
  replace h := bsx h
  obtain ⟨x15, w14, hw14, h⟩ := h
  refine cv_pa_108 (As := [.int (93 : Int32)]) (rest := []) hx hb hml hown hts hK hG hW (c_pa_take l D cA base hw14) (kb_pa_take hw14) ⟨Nat.le_of_ble_eq_true rfl, Nat.le_of_ble_eq_true rfl⟩ ⟨Nat.le_of_ble_eq_true rfl, Nat.le_of_ble_eq_true rfl⟩ rfl hl.1 rfl (Nat.le_of_ble_eq_true rfl) d_pa_readStore_37 (fun H locs hW => ?_)
  refine lv_aload_n hx hb d_pa_readStore_40 rfl (lv_at hl 0 rfl) ?_
  refine lv_bipush (v := (61 : Int32)) hx hb d_pa_readStore_41 (by decide) ?_
  replace h := bsx h
  obtain ⟨x17, w16, hw16, h⟩ := h
  refine cv_pa_108 (As := [.int (61 : Int32)]) (rest := []) hx hb hml hown hts hK hG hW (c_pa_take l D cA base hw16) (kb_pa_take hw16) ⟨Nat.le_of_ble_eq_true rfl, Nat.le_of_ble_eq_true rfl⟩ ⟨Nat.le_of_ble_eq_true rfl, Nat.le_of_ble_eq_true rfl⟩ rfl hl.1 rfl (Nat.le_of_ble_eq_true rfl) d_pa_readStore_43 (fun H locs hW => ?_)
  refine lv_aload_n hx hb d_pa_readStore_46 rfl (lv_at hl 0 rfl) ?_
  refine lv_iconst (v := (0 : Int32)) hx hb d_pa_readStore_47 (by decide) ?_
  replace h := bsx h
  obtain ⟨x19, w18, hw18, h⟩ := h
  refine cv_pa_121 (As := [.int (0 : Int32)]) (rest := []) hx hb hml hown hts hK hG hW (c_pa_readExpr l D cA base hw18) (kb_pa_readExpr hw18) ⟨Nat.le_of_ble_eq_true rfl, Nat.le_of_ble_eq_true rfl⟩ ⟨Nat.le_of_ble_eq_true rfl, Nat.le_of_ble_eq_true rfl⟩ rfl hl.1 rfl (Nat.le_of_ble_eq_true rfl) d_pa_readStore_48 (fun H locs hW => ?_)
  refine lv_pop hx hb d_pa_readStore_51 rfl ?_
  refine lv_aload_n hx hb d_pa_readStore_52 rfl (lv_at hl 1 rfl) ?_
  refine lv_aload_n hx hb d_pa_readStore_53 rfl (lv_at hl 0 rfl) ?_
  replace h := bs h
  obtain ⟨x20, hx20, h⟩ := h
  refine gf_pa_22 hx hb hts hown hK hG hW (gR_s hx20) d_pa_readStore_54 ?_
  replace h := bs h
  obtain ⟨x21, ex21, h⟩ := h
  subst ex21
  replace h := bs h
  obtain ⟨x22, hx22, h⟩ := h
  refine gf_pa_115 hx hb hts hown hK hG hW (gI_s hx22) d_pa_readStore_57 ?_
  replace h := bs h
  obtain ⟨w23, hw23, h⟩ := h
  refine pf_pa_125 hx hb hts hown hK hG hW rfl rfl (pbi hw23 rfl) d_pa_readStore_60 (fun H locs hW => ?_)
  refine lv_aload_n hx hb d_pa_readStore_63 rfl (lv_at hl 0 rfl) ?_
  refine lv_bipush (v := (59 : Int32)) hx hb d_pa_readStore_64 (by decide) ?_
  replace h := bsx h
  obtain ⟨x25, w24, hw24, h⟩ := h
  refine cv_pa_108 (As := [.int (59 : Int32)]) (rest := []) hx hb hml hown hts hK hG hW (c_pa_take l D cA base hw24) (kb_pa_take hw24) ⟨Nat.le_of_ble_eq_true rfl, Nat.le_of_ble_eq_true rfl⟩ ⟨Nat.le_of_ble_eq_true rfl, Nat.le_of_ble_eq_true rfl⟩ rfl hl.1 rfl (Nat.le_of_ble_eq_true rfl) d_pa_readStore_66 (fun H locs hW => ?_)
  cases h
  exact wo_vret hx hb hr hlk hW d_pa_readStore_69
set_option maxHeartbeats 4000000 in
set_option maxRecDepth 100000 in
theorem x_pa_readStore (l : Launch) (hst : l.stackTraces = false) (D : va_G) (cA : Nat → ClassId) (base : Nat) {a0 : Nat} {a1 : Option Nat} {w w' : WW} {E : String} (h : f_pa_readStore a0 a1 w = some (.inr E, w')) : xt l D cls (wo_tys cA) cA base y_pa_readStore (Cond.code y_pa_readStore b_pa_readStore 2 (none) :: gt) rx_pa_readStore [.ref (base + a0), rb base a1] w E w' rx_pa_readStore.cells rx_pa_readStore.slots := by
  refine xt_start (by decide) (by simp only [lg_sl_0, lg_sl_1, lg_sl_2, lg_sl_3, lg_sl_rf]; decide) ?_
  intro p e s m below meth c ls hx hb hr hml hown hts hlk hnm hK hG hW hl hnt
  have C : cx b_pa_readStore (none) 2 y_pa_readStore.cls "readStore" p s m [.ref (base + a0), rb base a1].toArray meth c D cA base ∧ (∀ x ∈ c.exceptionTable.toList, ∀ k : Nat, covers x k = false) ∧ l.stackTraces = false := ⟨⟨hx, hb, hr, hml, hown, hts, hlk, hnm, hK, hG⟩, hnt, hst⟩
  have hl : lv_has ls 2 [(0, .ref (base + a0)), (1, rb base a1)] := by simp only [lv_args_0, lv_args_1, lv_args_2, lv_args_3, lv_args_rf] at hl; exact hl
  unfold f_pa_readStore at h
  replace h := its h
  obtain ⟨-, h⟩ := h
  refine lv_aload_n hx hb d_pa_readStore_0 rfl (lv_at hl 0 rfl) ?_
  refine lv_bipush (v := (91 : Int32)) hx hb d_pa_readStore_1 (by decide) ?_
  rcases bsy h with hw1 | ⟨x2, w1, hw1, hnw1⟩
  · exact xv_pa_108 (As := [.int (91 : Int32)]) (rest := []) hx hb hml hown hts hK hG hW (x_pa_take l hst D cA base hw1) (kb_pa_take hw1) ⟨Nat.le_of_ble_eq_true rfl, Nat.le_of_ble_eq_true rfl⟩ ⟨Nat.le_of_ble_eq_true rfl, Nat.le_of_ble_eq_true rfl⟩ rfl hl.1 rfl (Nat.le_of_ble_eq_true rfl) d_pa_readStore_3 (fun H locs q ce hW h1 h2 h3 => wo_xout hnt hlk hW h1 h2 h3 (Nat.le_of_ble_eq_true rfl) (Nat.le_of_ble_eq_true rfl))
  clear h
  have h := hnw1
  clear hnw1
  refine cv_pa_108 (As := [.int (91 : Int32)]) (rest := []) hx hb hml hown hts hK hG hW (c_pa_take l D cA base hw1) (kb_pa_take hw1) ⟨Nat.le_of_ble_eq_true rfl, Nat.le_of_ble_eq_true rfl⟩ ⟨Nat.le_of_ble_eq_true rfl, Nat.le_of_ble_eq_true rfl⟩ rfl hl.1 rfl (Nat.le_of_ble_eq_true rfl) d_pa_readStore_3 (fun H locs hW => ?_)
  refine wo_aload_n hx hb d_pa_readStore_6 rfl (lv_at hl 1 rfl) ?_
  refine lv_aload_n hx hb d_pa_readStore_7 rfl (lv_at hl 0 rfl) ?_
  replace h := bs h
  obtain ⟨x3, hx3, h⟩ := h
  refine gf_pa_22 hx hb hts hown hK hG hW (gR_s hx3) d_pa_readStore_8 ?_
  replace h := bs h
  obtain ⟨x4, ex4, h⟩ := h
  subst ex4
  replace h := bs h
  obtain ⟨x5, hx5, h⟩ := h
  refine gf_pa_115 hx hb hts hown hK hG hW (gI_s hx5) d_pa_readStore_11 ?_
  replace h := bs h
  obtain ⟨x6, ex6, h⟩ := h
  subst ex6
  replace h := bs h
  obtain ⟨w7, hw7, h⟩ := h
  refine pf_pa_118 hx hb hts hown hK hG hW rfl rfl (pbi hw7 rfl) d_pa_readStore_14 (fun H locs hW => ?_)
  have hl : lv_has ls 2 [(0, .ref (base + a0)), (1, .ref (base + x6))] := hl
  refine lv_aload_n hx hb d_pa_readStore_17 rfl (lv_at hl 0 rfl) ?_
  refine lv_iconst (v := (0 : Int32)) hx hb d_pa_readStore_18 (by decide) ?_
  rcases bsy h with hw8 | ⟨x9, w8, hw8, hnw8⟩
  · exact xv_pa_121 (As := [.int (0 : Int32)]) (rest := []) hx hb hml hown hts hK hG hW (x_pa_readExpr l hst D cA base hw8) (kb_pa_readExpr hw8) ⟨Nat.le_of_ble_eq_true rfl, Nat.le_of_ble_eq_true rfl⟩ ⟨Nat.le_of_ble_eq_true rfl, Nat.le_of_ble_eq_true rfl⟩ rfl hl.1 rfl (Nat.le_of_ble_eq_true rfl) d_pa_readStore_19 (fun H locs q ce hW h1 h2 h3 => wo_xout hnt hlk hW h1 h2 h3 (Nat.le_of_ble_eq_true rfl) (Nat.le_of_ble_eq_true rfl))
  clear h
  have h := hnw8
  clear hnw8
  refine cv_pa_121 (As := [.int (0 : Int32)]) (rest := []) hx hb hml hown hts hK hG hW (c_pa_readExpr l D cA base hw8) (kb_pa_readExpr hw8) ⟨Nat.le_of_ble_eq_true rfl, Nat.le_of_ble_eq_true rfl⟩ ⟨Nat.le_of_ble_eq_true rfl, Nat.le_of_ble_eq_true rfl⟩ rfl hl.1 rfl (Nat.le_of_ble_eq_true rfl) d_pa_readStore_19 (fun H locs hW => ?_)
  refine lv_pop hx hb d_pa_readStore_22 rfl ?_
  refine lv_aload_n hx hb d_pa_readStore_23 rfl (lv_at hl 1 rfl) ?_
  refine lv_aload_n hx hb d_pa_readStore_24 rfl (lv_at hl 0 rfl) ?_
  replace h := bs h
  obtain ⟨x10, hx10, h⟩ := h
  refine gf_pa_22 hx hb hts hown hK hG hW (gR_s hx10) d_pa_readStore_25 ?_
  replace h := bs h
  obtain ⟨x11, ex11, h⟩ := h
  subst ex11
  replace h := bs h
  obtain ⟨x12, hx12, h⟩ := h
  refine gf_pa_115 hx hb hts hown hK hG hW (gI_s hx12) d_pa_readStore_28 ?_
  replace h := bs h
  obtain ⟨w13, hw13, h⟩ := h
  refine pf_pa_128 hx hb hts hown hK hG hW rfl rfl (pbi hw13 rfl) d_pa_readStore_31 (fun H locs hW => ?_)
  refine lv_aload_n hx hb d_pa_readStore_34 rfl (lv_at hl 0 rfl) ?_
  refine lv_bipush (v := (93 : Int32)) hx hb d_pa_readStore_35 (by decide) ?_
  rcases bsy h with hw14 | ⟨x15, w14, hw14, hnw14⟩
  · exact xv_pa_108 (As := [.int (93 : Int32)]) (rest := []) hx hb hml hown hts hK hG hW (x_pa_take l hst D cA base hw14) (kb_pa_take hw14) ⟨Nat.le_of_ble_eq_true rfl, Nat.le_of_ble_eq_true rfl⟩ ⟨Nat.le_of_ble_eq_true rfl, Nat.le_of_ble_eq_true rfl⟩ rfl hl.1 rfl (Nat.le_of_ble_eq_true rfl) d_pa_readStore_37 (fun H locs q ce hW h1 h2 h3 => wo_xout hnt hlk hW h1 h2 h3 (Nat.le_of_ble_eq_true rfl) (Nat.le_of_ble_eq_true rfl))
  clear h
  have h := hnw14
  clear hnw14
  refine cv_pa_108 (As := [.int (93 : Int32)]) (rest := []) hx hb hml hown hts hK hG hW (c_pa_take l D cA base hw14) (kb_pa_take hw14) ⟨Nat.le_of_ble_eq_true rfl, Nat.le_of_ble_eq_true rfl⟩ ⟨Nat.le_of_ble_eq_true rfl, Nat.le_of_ble_eq_true rfl⟩ rfl hl.1 rfl (Nat.le_of_ble_eq_true rfl) d_pa_readStore_37 (fun H locs hW => ?_)
  refine lv_aload_n hx hb d_pa_readStore_40 rfl (lv_at hl 0 rfl) ?_
  refine lv_bipush (v := (61 : Int32)) hx hb d_pa_readStore_41 (by decide) ?_
  rcases bsy h with hw16 | ⟨x17, w16, hw16, hnw16⟩
  · exact xv_pa_108 (As := [.int (61 : Int32)]) (rest := []) hx hb hml hown hts hK hG hW (x_pa_take l hst D cA base hw16) (kb_pa_take hw16) ⟨Nat.le_of_ble_eq_true rfl, Nat.le_of_ble_eq_true rfl⟩ ⟨Nat.le_of_ble_eq_true rfl, Nat.le_of_ble_eq_true rfl⟩ rfl hl.1 rfl (Nat.le_of_ble_eq_true rfl) d_pa_readStore_43 (fun H locs q ce hW h1 h2 h3 => wo_xout hnt hlk hW h1 h2 h3 (Nat.le_of_ble_eq_true rfl) (Nat.le_of_ble_eq_true rfl))
  clear h
  have h := hnw16
  clear hnw16
  refine cv_pa_108 (As := [.int (61 : Int32)]) (rest := []) hx hb hml hown hts hK hG hW (c_pa_take l D cA base hw16) (kb_pa_take hw16) ⟨Nat.le_of_ble_eq_true rfl, Nat.le_of_ble_eq_true rfl⟩ ⟨Nat.le_of_ble_eq_true rfl, Nat.le_of_ble_eq_true rfl⟩ rfl hl.1 rfl (Nat.le_of_ble_eq_true rfl) d_pa_readStore_43 (fun H locs hW => ?_)
  refine lv_aload_n hx hb d_pa_readStore_46 rfl (lv_at hl 0 rfl) ?_
  refine lv_iconst (v := (0 : Int32)) hx hb d_pa_readStore_47 (by decide) ?_
  rcases bsy h with hw18 | ⟨x19, w18, hw18, hnw18⟩
  · exact xv_pa_121 (As := [.int (0 : Int32)]) (rest := []) hx hb hml hown hts hK hG hW (x_pa_readExpr l hst D cA base hw18) (kb_pa_readExpr hw18) ⟨Nat.le_of_ble_eq_true rfl, Nat.le_of_ble_eq_true rfl⟩ ⟨Nat.le_of_ble_eq_true rfl, Nat.le_of_ble_eq_true rfl⟩ rfl hl.1 rfl (Nat.le_of_ble_eq_true rfl) d_pa_readStore_48 (fun H locs q ce hW h1 h2 h3 => wo_xout hnt hlk hW h1 h2 h3 (Nat.le_of_ble_eq_true rfl) (Nat.le_of_ble_eq_true rfl))
  clear h
  have h := hnw18
  clear hnw18
  refine cv_pa_121 (As := [.int (0 : Int32)]) (rest := []) hx hb hml hown hts hK hG hW (c_pa_readExpr l D cA base hw18) (kb_pa_readExpr hw18) ⟨Nat.le_of_ble_eq_true rfl, Nat.le_of_ble_eq_true rfl⟩ ⟨Nat.le_of_ble_eq_true rfl, Nat.le_of_ble_eq_true rfl⟩ rfl hl.1 rfl (Nat.le_of_ble_eq_true rfl) d_pa_readStore_48 (fun H locs hW => ?_)
  refine lv_pop hx hb d_pa_readStore_51 rfl ?_
  refine lv_aload_n hx hb d_pa_readStore_52 rfl (lv_at hl 1 rfl) ?_
  refine lv_aload_n hx hb d_pa_readStore_53 rfl (lv_at hl 0 rfl) ?_
  replace h := bs h
  obtain ⟨x20, hx20, h⟩ := h
  refine gf_pa_22 hx hb hts hown hK hG hW (gR_s hx20) d_pa_readStore_54 ?_
  replace h := bs h
  obtain ⟨x21, ex21, h⟩ := h
  subst ex21
  replace h := bs h
  obtain ⟨x22, hx22, h⟩ := h
  refine gf_pa_115 hx hb hts hown hK hG hW (gI_s hx22) d_pa_readStore_57 ?_
  replace h := bs h
  obtain ⟨w23, hw23, h⟩ := h
  refine pf_pa_125 hx hb hts hown hK hG hW rfl rfl (pbi hw23 rfl) d_pa_readStore_60 (fun H locs hW => ?_)
  refine lv_aload_n hx hb d_pa_readStore_63 rfl (lv_at hl 0 rfl) ?_
  refine lv_bipush (v := (59 : Int32)) hx hb d_pa_readStore_64 (by decide) ?_
  rcases bsy h with hw24 | ⟨x25, w24, hw24, hnw24⟩
  · exact xv_pa_108 (As := [.int (59 : Int32)]) (rest := []) hx hb hml hown hts hK hG hW (x_pa_take l hst D cA base hw24) (kb_pa_take hw24) ⟨Nat.le_of_ble_eq_true rfl, Nat.le_of_ble_eq_true rfl⟩ ⟨Nat.le_of_ble_eq_true rfl, Nat.le_of_ble_eq_true rfl⟩ rfl hl.1 rfl (Nat.le_of_ble_eq_true rfl) d_pa_readStore_66 (fun H locs q ce hW h1 h2 h3 => wo_xout hnt hlk hW h1 h2 h3 (Nat.le_of_ble_eq_true rfl) (Nat.le_of_ble_eq_true rfl))
  clear h
  have h := hnw24
  clear hnw24
  refine cv_pa_108 (As := [.int (59 : Int32)]) (rest := []) hx hb hml hown hts hK hG hW (c_pa_take l D cA base hw24) (kb_pa_take hw24) ⟨Nat.le_of_ble_eq_true rfl, Nat.le_of_ble_eq_true rfl⟩ ⟨Nat.le_of_ble_eq_true rfl, Nat.le_of_ble_eq_true rfl⟩ rfl hl.1 rfl (Nat.le_of_ble_eq_true rfl) d_pa_readStore_66 (fun H locs hW => ?_)
  cases h
abbrev b_pa_readCond : ByteArray := prog_3_method_12_code
def y_pa_readCond : MethodName := ⟨"AlarmForge$Parser", "readCond", "(LAlarmForge$Statement;)V"⟩
def rm_pa_readCond : Room := { frames := 73, cells := 0, slots := 0, locals := 1767 }
def rx_pa_readCond : Room := { frames := 73, cells := 1, slots := 6, locals := 1767 }
theorem d_pa_readCond_0 : decode b_pa_readCond 0 = .ok (.aload_n 0, 1) := by decide +kernel
theorem d_pa_readCond_1 : decode b_pa_readCond 1 = .ok (.bipush (40), 2) := by decide +kernel
theorem d_pa_readCond_3 : decode b_pa_readCond 3 = .ok (.invokevirtual 108, 3) := by decide +kernel
theorem d_pa_readCond_6 : decode b_pa_readCond 6 = .ok (.aload_n 1, 1) := by decide +kernel
theorem d_pa_readCond_7 : decode b_pa_readCond 7 = .ok (.aload_n 0, 1) := by decide +kernel
theorem d_pa_readCond_8 : decode b_pa_readCond 8 = .ok (.getfield 22, 3) := by decide +kernel
theorem d_pa_readCond_11 : decode b_pa_readCond 11 = .ok (.getfield 115, 3) := by decide +kernel
theorem d_pa_readCond_14 : decode b_pa_readCond 14 = .ok (.putfield 118, 3) := by decide +kernel
theorem d_pa_readCond_17 : decode b_pa_readCond 17 = .ok (.aload_n 0, 1) := by decide +kernel
theorem d_pa_readCond_18 : decode b_pa_readCond 18 = .ok (.iconst 0, 1) := by decide +kernel
theorem d_pa_readCond_19 : decode b_pa_readCond 19 = .ok (.invokevirtual 121, 3) := by decide +kernel
theorem d_pa_readCond_22 : decode b_pa_readCond 22 = .ok (.pop, 1) := by decide +kernel
theorem d_pa_readCond_23 : decode b_pa_readCond 23 = .ok (.aload_n 1, 1) := by decide +kernel
theorem d_pa_readCond_24 : decode b_pa_readCond 24 = .ok (.aload_n 0, 1) := by decide +kernel
theorem d_pa_readCond_25 : decode b_pa_readCond 25 = .ok (.getfield 22, 3) := by decide +kernel
theorem d_pa_readCond_28 : decode b_pa_readCond 28 = .ok (.getfield 115, 3) := by decide +kernel
theorem d_pa_readCond_31 : decode b_pa_readCond 31 = .ok (.putfield 128, 3) := by decide +kernel
theorem d_pa_readCond_34 : decode b_pa_readCond 34 = .ok (.aload_n 0, 1) := by decide +kernel
theorem d_pa_readCond_35 : decode b_pa_readCond 35 = .ok (.invokevirtual 55, 3) := by decide +kernel
theorem d_pa_readCond_38 : decode b_pa_readCond 38 = .ok (.istore_n 2, 1) := by decide +kernel
theorem d_pa_readCond_39 : decode b_pa_readCond 39 = .ok (.aload_n 0, 1) := by decide +kernel
theorem d_pa_readCond_40 : decode b_pa_readCond 40 = .ok (.iload_n 2, 1) := by decide +kernel
theorem d_pa_readCond_41 : decode b_pa_readCond 41 = .ok (.sipush (256), 3) := by decide +kernel
theorem d_pa_readCond_44 : decode b_pa_readCond 44 = .ok (.if_icmp .eq (23), 3) := by decide +kernel
theorem d_pa_readCond_47 : decode b_pa_readCond 47 = .ok (.iload_n 2, 1) := by decide +kernel
theorem d_pa_readCond_48 : decode b_pa_readCond 48 = .ok (.sipush (257), 3) := by decide +kernel
theorem d_pa_readCond_51 : decode b_pa_readCond 51 = .ok (.if_icmp .eq (16), 3) := by decide +kernel
theorem d_pa_readCond_54 : decode b_pa_readCond 54 = .ok (.iload_n 2, 1) := by decide +kernel
theorem d_pa_readCond_55 : decode b_pa_readCond 55 = .ok (.bipush (60), 2) := by decide +kernel
theorem d_pa_readCond_57 : decode b_pa_readCond 57 = .ok (.if_icmp .eq (10), 3) := by decide +kernel
theorem d_pa_readCond_60 : decode b_pa_readCond 60 = .ok (.iload_n 2, 1) := by decide +kernel
theorem d_pa_readCond_61 : decode b_pa_readCond 61 = .ok (.sipush (258), 3) := by decide +kernel
theorem d_pa_readCond_64 : decode b_pa_readCond 64 = .ok (.if_icmp .ne (7), 3) := by decide +kernel
theorem d_pa_readCond_67 : decode b_pa_readCond 67 = .ok (.iconst 1, 1) := by decide +kernel
theorem d_pa_readCond_68 : decode b_pa_readCond 68 = .ok (.goto (4), 3) := by decide +kernel
theorem d_pa_readCond_71 : decode b_pa_readCond 71 = .ok (.iconst 0, 1) := by decide +kernel
theorem d_pa_readCond_72 : decode b_pa_readCond 72 = .ok (.invokevirtual 59, 3) := by decide +kernel
theorem d_pa_readCond_75 : decode b_pa_readCond 75 = .ok (.aload_n 1, 1) := by decide +kernel
theorem d_pa_readCond_76 : decode b_pa_readCond 76 = .ok (.iload_n 2, 1) := by decide +kernel
theorem d_pa_readCond_77 : decode b_pa_readCond 77 = .ok (.putfield 131, 3) := by decide +kernel
theorem d_pa_readCond_80 : decode b_pa_readCond 80 = .ok (.aload_n 0, 1) := by decide +kernel
theorem d_pa_readCond_81 : decode b_pa_readCond 81 = .ok (.invokevirtual 63, 3) := by decide +kernel
theorem d_pa_readCond_84 : decode b_pa_readCond 84 = .ok (.aload_n 0, 1) := by decide +kernel
theorem d_pa_readCond_85 : decode b_pa_readCond 85 = .ok (.iconst 0, 1) := by decide +kernel
theorem d_pa_readCond_86 : decode b_pa_readCond 86 = .ok (.invokevirtual 121, 3) := by decide +kernel
theorem d_pa_readCond_89 : decode b_pa_readCond 89 = .ok (.pop, 1) := by decide +kernel
theorem d_pa_readCond_90 : decode b_pa_readCond 90 = .ok (.aload_n 1, 1) := by decide +kernel
theorem d_pa_readCond_91 : decode b_pa_readCond 91 = .ok (.aload_n 0, 1) := by decide +kernel
theorem d_pa_readCond_92 : decode b_pa_readCond 92 = .ok (.getfield 22, 3) := by decide +kernel
theorem d_pa_readCond_95 : decode b_pa_readCond 95 = .ok (.getfield 115, 3) := by decide +kernel
theorem d_pa_readCond_98 : decode b_pa_readCond 98 = .ok (.putfield 125, 3) := by decide +kernel
theorem d_pa_readCond_101 : decode b_pa_readCond 101 = .ok (.aload_n 0, 1) := by decide +kernel
theorem d_pa_readCond_102 : decode b_pa_readCond 102 = .ok (.bipush (41), 2) := by decide +kernel
theorem d_pa_readCond_104 : decode b_pa_readCond 104 = .ok (.invokevirtual 108, 3) := by decide +kernel
theorem d_pa_readCond_107 : decode b_pa_readCond 107 = .ok (.return_, 1) := by decide +kernel
theorem kb_pa_readCond {a0 : Nat} {a1 : Option Nat} {w : WW} {r : ((Unit ⊕ String) × WW)} (h : f_pa_readCond a0 a1 w = some r) : kb w a0 2 = true := (its h).1
set_option maxHeartbeats 4000000 in
set_option maxRecDepth 100000 in
theorem j_pa_readCond_72 {p : Program} {l : Launch} {e : Env} {s : State} {m : MethodId} {args : Array Value} {below : List Frame} {meth : Method} {c : Code} {D : va_G} {cA : Nat → ClassId} {base : Nat} {w' : WW} (C : cx b_pa_readCond (none) 3 y_pa_readCond.cls "readCond" p s m args meth c D cA base)   : ∀ (y0 : Nat) (y1 : Nat) (y2 : Int32) (z0 : Nat) (z1 : Int32) (w : WW), f_pa_readCond_72 y0 y1 y2 z0 z1 w = some (.inl (), w') → ∀ (H : Heap) (locs : List Loc) (ls : Array Slot), wo_S D cls cA base s w H locs → lv_has ls 3 [(0, .ref (base + y0)), (1, .ref (base + y1)), (2, .int y2)] → W p l e rm_pa_readCond s m args below meth c H locs 0 0 (MQ below (wo_Q D cls cA base none w') args s rm_pa_readCond.cells rm_pa_readCond.slots (wo_B base)) (F0 m 72 ls [.int z1, .ref (base + z0)]) := by
  obtain ⟨hx, hb, hr, hml, hown, hts, hlk, hnm, hK, hG⟩ := id C
  intro y0 y1 y2 z0 z1 w h H locs ls hW hl
  unfold f_pa_readCond_72 at h
  replace h := bsx h
  obtain ⟨x18, w17, hw17, h⟩ := h
  refine cv_pa_59 (As := [.int z1]) (rest := []) hx hb hml hown hts hK hG hW (c_pa_need l D cA base hw17) (kb_pa_need hw17) ⟨Nat.le_of_ble_eq_true rfl, Nat.le_of_ble_eq_true rfl⟩ ⟨Nat.le_of_ble_eq_true rfl, Nat.le_of_ble_eq_true rfl⟩ rfl hl.1 rfl (Nat.le_of_ble_eq_true rfl) d_pa_readCond_72 (fun H locs hW => ?_)
  refine lv_aload_n hx hb d_pa_readCond_75 rfl (lv_at hl 1 rfl) ?_
  refine lv_iload_n hx hb d_pa_readCond_76 rfl (lv_at hl 2 rfl) ?_
  replace h := bs h
  obtain ⟨w19, hw19, h⟩ := h
  refine pf_pa_131 hx hb hts hown hK hG hW rfl rfl (pbi hw19 rfl) d_pa_readCond_77 (fun H locs hW => ?_)
  refine lv_aload_n hx hb d_pa_readCond_80 rfl (lv_at hl 0 rfl) ?_
  replace h := bs h
  obtain ⟨w20, hw20, h⟩ := h
  refine cv_pa_63 (As := []) (rest := []) hx hb hml hown hts hK hG hW (c_pa_advance l D cA base hw20) (kb_pa_advance hw20) ⟨Nat.le_of_ble_eq_true rfl, Nat.le_of_ble_eq_true rfl⟩ ⟨Nat.le_of_ble_eq_true rfl, Nat.le_of_ble_eq_true rfl⟩ rfl hl.1 rfl (Nat.le_of_ble_eq_true rfl) d_pa_readCond_81 (fun H locs hW => ?_)
  refine lv_aload_n hx hb d_pa_readCond_84 rfl (lv_at hl 0 rfl) ?_
  refine lv_iconst (v := (0 : Int32)) hx hb d_pa_readCond_85 (by decide) ?_
  replace h := bsx h
  obtain ⟨x22, w21, hw21, h⟩ := h
  refine cv_pa_121 (As := [.int (0 : Int32)]) (rest := []) hx hb hml hown hts hK hG hW (c_pa_readExpr l D cA base hw21) (kb_pa_readExpr hw21) ⟨Nat.le_of_ble_eq_true rfl, Nat.le_of_ble_eq_true rfl⟩ ⟨Nat.le_of_ble_eq_true rfl, Nat.le_of_ble_eq_true rfl⟩ rfl hl.1 rfl (Nat.le_of_ble_eq_true rfl) d_pa_readCond_86 (fun H locs hW => ?_)
  refine lv_pop hx hb d_pa_readCond_89 rfl ?_
  refine lv_aload_n hx hb d_pa_readCond_90 rfl (lv_at hl 1 rfl) ?_
  refine lv_aload_n hx hb d_pa_readCond_91 rfl (lv_at hl 0 rfl) ?_
  replace h := bs h
  obtain ⟨x23, hx23, h⟩ := h
  refine gf_pa_22 hx hb hts hown hK hG hW (gR_s hx23) d_pa_readCond_92 ?_
  replace h := bs h
  obtain ⟨x24, ex24, h⟩ := h
  subst ex24
  replace h := bs h
  obtain ⟨x25, hx25, h⟩ := h
  refine gf_pa_115 hx hb hts hown hK hG hW (gI_s hx25) d_pa_readCond_95 ?_
  replace h := bs h
  obtain ⟨w26, hw26, h⟩ := h
  refine pf_pa_125 hx hb hts hown hK hG hW rfl rfl (pbi hw26 rfl) d_pa_readCond_98 (fun H locs hW => ?_)
  refine lv_aload_n hx hb d_pa_readCond_101 rfl (lv_at hl 0 rfl) ?_
  refine lv_bipush (v := (41 : Int32)) hx hb d_pa_readCond_102 (by decide) ?_
  replace h := bsx h
  obtain ⟨x28, w27, hw27, h⟩ := h
  refine cv_pa_108 (As := [.int (41 : Int32)]) (rest := []) hx hb hml hown hts hK hG hW (c_pa_take l D cA base hw27) (kb_pa_take hw27) ⟨Nat.le_of_ble_eq_true rfl, Nat.le_of_ble_eq_true rfl⟩ ⟨Nat.le_of_ble_eq_true rfl, Nat.le_of_ble_eq_true rfl⟩ rfl hl.1 rfl (Nat.le_of_ble_eq_true rfl) d_pa_readCond_104 (fun H locs hW => ?_)
  cases h
  exact wo_vret hx hb hr hlk hW d_pa_readCond_107
set_option maxHeartbeats 4000000 in
set_option maxRecDepth 100000 in
theorem j_pa_readCond_67 {p : Program} {l : Launch} {e : Env} {s : State} {m : MethodId} {args : Array Value} {below : List Frame} {meth : Method} {c : Code} {D : va_G} {cA : Nat → ClassId} {base : Nat} {w' : WW} (C : cx b_pa_readCond (none) 3 y_pa_readCond.cls "readCond" p s m args meth c D cA base)   : ∀ (y0 : Nat) (y1 : Nat) (y2 : Int32) (z0 : Nat) (w : WW), f_pa_readCond_67 y0 y1 y2 z0 w = some (.inl (), w') → ∀ (H : Heap) (locs : List Loc) (ls : Array Slot), wo_S D cls cA base s w H locs → lv_has ls 3 [(0, .ref (base + y0)), (1, .ref (base + y1)), (2, .int y2)] → W p l e rm_pa_readCond s m args below meth c H locs 0 0 (MQ below (wo_Q D cls cA base none w') args s rm_pa_readCond.cells rm_pa_readCond.slots (wo_B base)) (F0 m 67 ls [.ref (base + z0)]) := by
  obtain ⟨hx, hb, hr, hml, hown, hts, hlk, hnm, hK, hG⟩ := id C
  intro y0 y1 y2 z0 w h H locs ls hW hl
  unfold f_pa_readCond_67 at h
  refine lv_iconst (v := (1 : Int32)) hx hb d_pa_readCond_67 (by decide) ?_
  refine lv_goto (tgt := 72) hx hb d_pa_readCond_68 (by decide) ?_
  exact j_pa_readCond_72 C y0 y1 y2 z0 (1 : Int32) w h _ _ _ hW (lv_sub hl [0, 1, 2] rfl)
set_option maxHeartbeats 4000000 in
set_option maxRecDepth 100000 in
theorem c_pa_readCond (l : Launch) (D : va_G) (cA : Nat → ClassId) (base : Nat) {a0 : Nat} {a1 : Option Nat} {w w' : WW} (h : f_pa_readCond a0 a1 w = some (.inl (), w')) : mt l D cls (wo_tys cA) cA base y_pa_readCond (Cond.code y_pa_readCond b_pa_readCond 3 (none) :: gt) rm_pa_readCond [.ref (base + a0), rb base a1] w none w' rm_pa_readCond.cells rm_pa_readCond.slots := by
  refine mt_start (by decide) (by simp only [lg_sl_0, lg_sl_1, lg_sl_2, lg_sl_3, lg_sl_rf]; decide) ?_
  intro p e s m below meth c ls hx hb hr hml hown hts hlk hnm hK hG hW hl
  have C : cx b_pa_readCond (none) 3 y_pa_readCond.cls "readCond" p s m [.ref (base + a0), rb base a1].toArray meth c D cA base := ⟨hx, hb, hr, hml, hown, hts, hlk, hnm, hK, hG⟩
  have hl : lv_has ls 3 [(0, .ref (base + a0)), (1, rb base a1)] := by simp only [lv_args_0, lv_args_1, lv_args_2, lv_args_3, lv_args_rf] at hl; exact hl
  unfold f_pa_readCond at h
  replace h := its h
  obtain ⟨-, h⟩ := h
  refine lv_aload_n hx hb d_pa_readCond_0 rfl (lv_at hl 0 rfl) ?_
  refine lv_bipush (v := (40 : Int32)) hx hb d_pa_readCond_1 (by decide) ?_
  replace h := bsx h
  obtain ⟨x2, w1, hw1, h⟩ := h
  refine cv_pa_108 (As := [.int (40 : Int32)]) (rest := []) hx hb hml hown hts hK hG hW (c_pa_take l D cA base hw1) (kb_pa_take hw1) ⟨Nat.le_of_ble_eq_true rfl, Nat.le_of_ble_eq_true rfl⟩ ⟨Nat.le_of_ble_eq_true rfl, Nat.le_of_ble_eq_true rfl⟩ rfl hl.1 rfl (Nat.le_of_ble_eq_true rfl) d_pa_readCond_3 (fun H locs hW => ?_)
  refine wo_aload_n hx hb d_pa_readCond_6 rfl (lv_at hl 1 rfl) ?_
  refine lv_aload_n hx hb d_pa_readCond_7 rfl (lv_at hl 0 rfl) ?_
  replace h := bs h
  obtain ⟨x3, hx3, h⟩ := h
  refine gf_pa_22 hx hb hts hown hK hG hW (gR_s hx3) d_pa_readCond_8 ?_
  replace h := bs h
  obtain ⟨x4, ex4, h⟩ := h
  subst ex4
  replace h := bs h
  obtain ⟨x5, hx5, h⟩ := h
  refine gf_pa_115 hx hb hts hown hK hG hW (gI_s hx5) d_pa_readCond_11 ?_
  replace h := bs h
  obtain ⟨x6, ex6, h⟩ := h
  subst ex6
  replace h := bs h
  obtain ⟨w7, hw7, h⟩ := h
  refine pf_pa_118 hx hb hts hown hK hG hW rfl rfl (pbi hw7 rfl) d_pa_readCond_14 (fun H locs hW => ?_)
  have hl : lv_has ls 3 [(0, .ref (base + a0)), (1, .ref (base + x6))] := hl
  refine lv_aload_n hx hb d_pa_readCond_17 rfl (lv_at hl 0 rfl) ?_
  refine lv_iconst (v := (0 : Int32)) hx hb d_pa_readCond_18 (by decide) ?_
  replace h := bsx h
  obtain ⟨x9, w8, hw8, h⟩ := h
  refine cv_pa_121 (As := [.int (0 : Int32)]) (rest := []) hx hb hml hown hts hK hG hW (c_pa_readExpr l D cA base hw8) (kb_pa_readExpr hw8) ⟨Nat.le_of_ble_eq_true rfl, Nat.le_of_ble_eq_true rfl⟩ ⟨Nat.le_of_ble_eq_true rfl, Nat.le_of_ble_eq_true rfl⟩ rfl hl.1 rfl (Nat.le_of_ble_eq_true rfl) d_pa_readCond_19 (fun H locs hW => ?_)
  refine lv_pop hx hb d_pa_readCond_22 rfl ?_
  refine lv_aload_n hx hb d_pa_readCond_23 rfl (lv_at hl 1 rfl) ?_
  refine lv_aload_n hx hb d_pa_readCond_24 rfl (lv_at hl 0 rfl) ?_
  replace h := bs h
  obtain ⟨x10, hx10, h⟩ := h
  refine gf_pa_22 hx hb hts hown hK hG hW (gR_s hx10) d_pa_readCond_25 ?_
  replace h := bs h
  obtain ⟨x11, ex11, h⟩ := h
  subst ex11
  replace h := bs h
  obtain ⟨x12, hx12, h⟩ := h
  refine gf_pa_115 hx hb hts hown hK hG hW (gI_s hx12) d_pa_readCond_28 ?_
  replace h := bs h
  obtain ⟨w13, hw13, h⟩ := h
  refine pf_pa_128 hx hb hts hown hK hG hW rfl rfl (pbi hw13 rfl) d_pa_readCond_31 (fun H locs hW => ?_)
  refine lv_aload_n hx hb d_pa_readCond_34 rfl (lv_at hl 0 rfl) ?_
  replace h := bs2 h
  obtain ⟨x15, w14, hw14, h⟩ := h
  refine cv_pa_55 (As := []) (rest := []) hx hb hml hown hts hK hG hW (c_pa_kindHere l D cA base hw14) (kb_pa_kindHere hw14) ⟨Nat.le_of_ble_eq_true rfl, Nat.le_of_ble_eq_true rfl⟩ ⟨Nat.le_of_ble_eq_true rfl, Nat.le_of_ble_eq_true rfl⟩ rfl hl.1 rfl (Nat.le_of_ble_eq_true rfl) d_pa_readCond_35 (fun H locs hW => ?_)
  refine lv_istore_n (lv' := [(2, .int x15), (0, .ref (base + a0)), (1, .ref (base + x6))]) hx hb d_pa_readCond_38 rfl hl (by decide) rfl (fun ls hl => ?_)
  refine lv_aload_n hx hb d_pa_readCond_39 rfl (lv_at hl 1 rfl) ?_
  refine lv_iload_n hx hb d_pa_readCond_40 rfl (lv_at hl 0 rfl) ?_
  refine lv_sipush (v := (256 : Int32)) hx hb d_pa_readCond_41 (by decide) ?_
  refine lv_icmp_eq (tgt := 67) hx hb d_pa_readCond_44 (by decide) (fun c16 => ?_) (fun c16 => ?_)
  · rw [if_pos c16] at h
    exact j_pa_readCond_67 C a0 x6 x15 a0 w14 h _ _ _ hW (lv_sub hl [1, 2, 0] rfl)
  · rw [if_neg c16] at h
    refine lv_iload_n hx hb d_pa_readCond_47 rfl (lv_at hl 0 rfl) ?_
    refine lv_sipush (v := (257 : Int32)) hx hb d_pa_readCond_48 (by decide) ?_
    refine lv_icmp_eq (tgt := 67) hx hb d_pa_readCond_51 (by decide) (fun c29 => ?_) (fun c29 => ?_)
    · rw [if_pos c29] at h
      exact j_pa_readCond_67 C a0 x6 x15 a0 w14 h _ _ _ hW (lv_sub hl [1, 2, 0] rfl)
    · rw [if_neg c29] at h
      refine lv_iload_n hx hb d_pa_readCond_54 rfl (lv_at hl 0 rfl) ?_
      refine lv_bipush (v := (60 : Int32)) hx hb d_pa_readCond_55 (by decide) ?_
      refine lv_icmp_eq (tgt := 67) hx hb d_pa_readCond_57 (by decide) (fun c30 => ?_) (fun c30 => ?_)
      · rw [if_pos c30] at h
        exact j_pa_readCond_67 C a0 x6 x15 a0 w14 h _ _ _ hW (lv_sub hl [1, 2, 0] rfl)
      · rw [if_neg c30] at h
        refine lv_iload_n hx hb d_pa_readCond_60 rfl (lv_at hl 0 rfl) ?_
        refine lv_sipush (v := (258 : Int32)) hx hb d_pa_readCond_61 (by decide) ?_
        refine lv_icmp_ne (tgt := 71) hx hb d_pa_readCond_64 (by decide) (fun c31 => ?_) (fun c31 => ?_)
        · rw [if_neg c31] at h
          refine lv_iconst (v := (0 : Int32)) hx hb d_pa_readCond_71 (by decide) ?_
          exact j_pa_readCond_72 C a0 x6 x15 a0 (0 : Int32) w14 h _ _ _ hW (lv_sub hl [1, 2, 0] rfl)
        · rw [if_pos c31] at h
          exact j_pa_readCond_67 C a0 x6 x15 a0 w14 h _ _ _ hW (lv_sub hl [1, 2, 0] rfl)
set_option maxHeartbeats 4000000 in
set_option maxRecDepth 100000 in
theorem jx_pa_readCond_72 {p : Program} {l : Launch} {e : Env} {s : State} {m : MethodId} {args : Array Value} {below : List Frame} {meth : Method} {c : Code} {D : va_G} {cA : Nat → ClassId} {base : Nat} {E : String} {w' : WW} (C : cx b_pa_readCond (none) 3 y_pa_readCond.cls "readCond" p s m args meth c D cA base ∧ (∀ x ∈ c.exceptionTable.toList, ∀ k : Nat, covers x k = false) ∧ l.stackTraces = false)   : ∀ (y0 : Nat) (y1 : Nat) (y2 : Int32) (z0 : Nat) (z1 : Int32) (w : WW), f_pa_readCond_72 y0 y1 y2 z0 z1 w = some (.inr E, w') → ∀ (H : Heap) (locs : List Loc) (ls : Array Slot), wo_S D cls cA base s w H locs → lv_has ls 3 [(0, .ref (base + y0)), (1, .ref (base + y1)), (2, .int y2)] → W p l e rx_pa_readCond s m args below meth c H locs 0 0 (XQ below (wo_X D cls cA base E w' rx_pa_readCond.cells rx_pa_readCond.slots) args s) (F0 m 72 ls [.int z1, .ref (base + z0)]) := by
  obtain ⟨hx, hb, hr, hml, hown, hts, hlk, hnm, hK, hG⟩ := id C.1
  have hnt := C.2.1
  have hst := C.2.2
  intro y0 y1 y2 z0 z1 w h H locs ls hW hl
  unfold f_pa_readCond_72 at h
  rcases bsy h with hw17 | ⟨x18, w17, hw17, hnw17⟩
  · exact xv_pa_59 (As := [.int z1]) (rest := []) hx hb hml hown hts hK hG hW (x_pa_need l hst D cA base hw17) (kb_pa_need hw17) ⟨Nat.le_of_ble_eq_true rfl, Nat.le_of_ble_eq_true rfl⟩ ⟨Nat.le_of_ble_eq_true rfl, Nat.le_of_ble_eq_true rfl⟩ rfl hl.1 rfl (Nat.le_of_ble_eq_true rfl) d_pa_readCond_72 (fun H locs q ce hW h1 h2 h3 => wo_xout hnt hlk hW h1 h2 h3 (Nat.le_of_ble_eq_true rfl) (Nat.le_of_ble_eq_true rfl))
  clear h
  have h := hnw17
  clear hnw17
  refine cv_pa_59 (As := [.int z1]) (rest := []) hx hb hml hown hts hK hG hW (c_pa_need l D cA base hw17) (kb_pa_need hw17) ⟨Nat.le_of_ble_eq_true rfl, Nat.le_of_ble_eq_true rfl⟩ ⟨Nat.le_of_ble_eq_true rfl, Nat.le_of_ble_eq_true rfl⟩ rfl hl.1 rfl (Nat.le_of_ble_eq_true rfl) d_pa_readCond_72 (fun H locs hW => ?_)
  refine lv_aload_n hx hb d_pa_readCond_75 rfl (lv_at hl 1 rfl) ?_
  refine lv_iload_n hx hb d_pa_readCond_76 rfl (lv_at hl 2 rfl) ?_
  replace h := bs h
  obtain ⟨w19, hw19, h⟩ := h
  refine pf_pa_131 hx hb hts hown hK hG hW rfl rfl (pbi hw19 rfl) d_pa_readCond_77 (fun H locs hW => ?_)
  refine lv_aload_n hx hb d_pa_readCond_80 rfl (lv_at hl 0 rfl) ?_
  replace h := bs h
  obtain ⟨w20, hw20, h⟩ := h
  refine cv_pa_63 (As := []) (rest := []) hx hb hml hown hts hK hG hW (c_pa_advance l D cA base hw20) (kb_pa_advance hw20) ⟨Nat.le_of_ble_eq_true rfl, Nat.le_of_ble_eq_true rfl⟩ ⟨Nat.le_of_ble_eq_true rfl, Nat.le_of_ble_eq_true rfl⟩ rfl hl.1 rfl (Nat.le_of_ble_eq_true rfl) d_pa_readCond_81 (fun H locs hW => ?_)
  refine lv_aload_n hx hb d_pa_readCond_84 rfl (lv_at hl 0 rfl) ?_
  refine lv_iconst (v := (0 : Int32)) hx hb d_pa_readCond_85 (by decide) ?_
  rcases bsy h with hw21 | ⟨x22, w21, hw21, hnw21⟩
  · exact xv_pa_121 (As := [.int (0 : Int32)]) (rest := []) hx hb hml hown hts hK hG hW (x_pa_readExpr l hst D cA base hw21) (kb_pa_readExpr hw21) ⟨Nat.le_of_ble_eq_true rfl, Nat.le_of_ble_eq_true rfl⟩ ⟨Nat.le_of_ble_eq_true rfl, Nat.le_of_ble_eq_true rfl⟩ rfl hl.1 rfl (Nat.le_of_ble_eq_true rfl) d_pa_readCond_86 (fun H locs q ce hW h1 h2 h3 => wo_xout hnt hlk hW h1 h2 h3 (Nat.le_of_ble_eq_true rfl) (Nat.le_of_ble_eq_true rfl))
  clear h
  have h := hnw21
  clear hnw21
  refine cv_pa_121 (As := [.int (0 : Int32)]) (rest := []) hx hb hml hown hts hK hG hW (c_pa_readExpr l D cA base hw21) (kb_pa_readExpr hw21) ⟨Nat.le_of_ble_eq_true rfl, Nat.le_of_ble_eq_true rfl⟩ ⟨Nat.le_of_ble_eq_true rfl, Nat.le_of_ble_eq_true rfl⟩ rfl hl.1 rfl (Nat.le_of_ble_eq_true rfl) d_pa_readCond_86 (fun H locs hW => ?_)
  refine lv_pop hx hb d_pa_readCond_89 rfl ?_
  refine lv_aload_n hx hb d_pa_readCond_90 rfl (lv_at hl 1 rfl) ?_
  refine lv_aload_n hx hb d_pa_readCond_91 rfl (lv_at hl 0 rfl) ?_
  replace h := bs h
  obtain ⟨x23, hx23, h⟩ := h
  refine gf_pa_22 hx hb hts hown hK hG hW (gR_s hx23) d_pa_readCond_92 ?_
  replace h := bs h
  obtain ⟨x24, ex24, h⟩ := h
  subst ex24
  replace h := bs h
  obtain ⟨x25, hx25, h⟩ := h
  refine gf_pa_115 hx hb hts hown hK hG hW (gI_s hx25) d_pa_readCond_95 ?_
  replace h := bs h
  obtain ⟨w26, hw26, h⟩ := h
  refine pf_pa_125 hx hb hts hown hK hG hW rfl rfl (pbi hw26 rfl) d_pa_readCond_98 (fun H locs hW => ?_)
  refine lv_aload_n hx hb d_pa_readCond_101 rfl (lv_at hl 0 rfl) ?_
  refine lv_bipush (v := (41 : Int32)) hx hb d_pa_readCond_102 (by decide) ?_
  rcases bsy h with hw27 | ⟨x28, w27, hw27, hnw27⟩
  · exact xv_pa_108 (As := [.int (41 : Int32)]) (rest := []) hx hb hml hown hts hK hG hW (x_pa_take l hst D cA base hw27) (kb_pa_take hw27) ⟨Nat.le_of_ble_eq_true rfl, Nat.le_of_ble_eq_true rfl⟩ ⟨Nat.le_of_ble_eq_true rfl, Nat.le_of_ble_eq_true rfl⟩ rfl hl.1 rfl (Nat.le_of_ble_eq_true rfl) d_pa_readCond_104 (fun H locs q ce hW h1 h2 h3 => wo_xout hnt hlk hW h1 h2 h3 (Nat.le_of_ble_eq_true rfl) (Nat.le_of_ble_eq_true rfl))
  clear h
  have h := hnw27
  clear hnw27
  refine cv_pa_108 (As := [.int (41 : Int32)]) (rest := []) hx hb hml hown hts hK hG hW (c_pa_take l D cA base hw27) (kb_pa_take hw27) ⟨Nat.le_of_ble_eq_true rfl, Nat.le_of_ble_eq_true rfl⟩ ⟨Nat.le_of_ble_eq_true rfl, Nat.le_of_ble_eq_true rfl⟩ rfl hl.1 rfl (Nat.le_of_ble_eq_true rfl) d_pa_readCond_104 (fun H locs hW => ?_)
  cases h
set_option maxHeartbeats 4000000 in
set_option maxRecDepth 100000 in
theorem jx_pa_readCond_67 {p : Program} {l : Launch} {e : Env} {s : State} {m : MethodId} {args : Array Value} {below : List Frame} {meth : Method} {c : Code} {D : va_G} {cA : Nat → ClassId} {base : Nat} {E : String} {w' : WW} (C : cx b_pa_readCond (none) 3 y_pa_readCond.cls "readCond" p s m args meth c D cA base ∧ (∀ x ∈ c.exceptionTable.toList, ∀ k : Nat, covers x k = false) ∧ l.stackTraces = false)   : ∀ (y0 : Nat) (y1 : Nat) (y2 : Int32) (z0 : Nat) (w : WW), f_pa_readCond_67 y0 y1 y2 z0 w = some (.inr E, w') → ∀ (H : Heap) (locs : List Loc) (ls : Array Slot), wo_S D cls cA base s w H locs → lv_has ls 3 [(0, .ref (base + y0)), (1, .ref (base + y1)), (2, .int y2)] → W p l e rx_pa_readCond s m args below meth c H locs 0 0 (XQ below (wo_X D cls cA base E w' rx_pa_readCond.cells rx_pa_readCond.slots) args s) (F0 m 67 ls [.ref (base + z0)]) := by
  obtain ⟨hx, hb, hr, hml, hown, hts, hlk, hnm, hK, hG⟩ := id C.1
  have hnt := C.2.1
  have hst := C.2.2
  intro y0 y1 y2 z0 w h H locs ls hW hl
  unfold f_pa_readCond_67 at h
  refine lv_iconst (v := (1 : Int32)) hx hb d_pa_readCond_67 (by decide) ?_
  refine lv_goto (tgt := 72) hx hb d_pa_readCond_68 (by decide) ?_
  exact jx_pa_readCond_72 C y0 y1 y2 z0 (1 : Int32) w h _ _ _ hW (lv_sub hl [0, 1, 2] rfl)
set_option maxHeartbeats 4000000 in
set_option maxRecDepth 100000 in
theorem x_pa_readCond (l : Launch) (hst : l.stackTraces = false) (D : va_G) (cA : Nat → ClassId) (base : Nat) {a0 : Nat} {a1 : Option Nat} {w w' : WW} {E : String} (h : f_pa_readCond a0 a1 w = some (.inr E, w')) : xt l D cls (wo_tys cA) cA base y_pa_readCond (Cond.code y_pa_readCond b_pa_readCond 3 (none) :: gt) rx_pa_readCond [.ref (base + a0), rb base a1] w E w' rx_pa_readCond.cells rx_pa_readCond.slots := by
  refine xt_start (by decide) (by simp only [lg_sl_0, lg_sl_1, lg_sl_2, lg_sl_3, lg_sl_rf]; decide) ?_
  intro p e s m below meth c ls hx hb hr hml hown hts hlk hnm hK hG hW hl hnt
  have C : cx b_pa_readCond (none) 3 y_pa_readCond.cls "readCond" p s m [.ref (base + a0), rb base a1].toArray meth c D cA base ∧ (∀ x ∈ c.exceptionTable.toList, ∀ k : Nat, covers x k = false) ∧ l.stackTraces = false := ⟨⟨hx, hb, hr, hml, hown, hts, hlk, hnm, hK, hG⟩, hnt, hst⟩
  have hl : lv_has ls 3 [(0, .ref (base + a0)), (1, rb base a1)] := by simp only [lv_args_0, lv_args_1, lv_args_2, lv_args_3, lv_args_rf] at hl; exact hl
  unfold f_pa_readCond at h
  replace h := its h
  obtain ⟨-, h⟩ := h
  refine lv_aload_n hx hb d_pa_readCond_0 rfl (lv_at hl 0 rfl) ?_
  refine lv_bipush (v := (40 : Int32)) hx hb d_pa_readCond_1 (by decide) ?_
  rcases bsy h with hw1 | ⟨x2, w1, hw1, hnw1⟩
  · exact xv_pa_108 (As := [.int (40 : Int32)]) (rest := []) hx hb hml hown hts hK hG hW (x_pa_take l hst D cA base hw1) (kb_pa_take hw1) ⟨Nat.le_of_ble_eq_true rfl, Nat.le_of_ble_eq_true rfl⟩ ⟨Nat.le_of_ble_eq_true rfl, Nat.le_of_ble_eq_true rfl⟩ rfl hl.1 rfl (Nat.le_of_ble_eq_true rfl) d_pa_readCond_3 (fun H locs q ce hW h1 h2 h3 => wo_xout hnt hlk hW h1 h2 h3 (Nat.le_of_ble_eq_true rfl) (Nat.le_of_ble_eq_true rfl))
  clear h
  have h := hnw1
  clear hnw1
  refine cv_pa_108 (As := [.int (40 : Int32)]) (rest := []) hx hb hml hown hts hK hG hW (c_pa_take l D cA base hw1) (kb_pa_take hw1) ⟨Nat.le_of_ble_eq_true rfl, Nat.le_of_ble_eq_true rfl⟩ ⟨Nat.le_of_ble_eq_true rfl, Nat.le_of_ble_eq_true rfl⟩ rfl hl.1 rfl (Nat.le_of_ble_eq_true rfl) d_pa_readCond_3 (fun H locs hW => ?_)
  refine wo_aload_n hx hb d_pa_readCond_6 rfl (lv_at hl 1 rfl) ?_
  refine lv_aload_n hx hb d_pa_readCond_7 rfl (lv_at hl 0 rfl) ?_
  replace h := bs h
  obtain ⟨x3, hx3, h⟩ := h
  refine gf_pa_22 hx hb hts hown hK hG hW (gR_s hx3) d_pa_readCond_8 ?_
  replace h := bs h
  obtain ⟨x4, ex4, h⟩ := h
  subst ex4
  replace h := bs h
  obtain ⟨x5, hx5, h⟩ := h
  refine gf_pa_115 hx hb hts hown hK hG hW (gI_s hx5) d_pa_readCond_11 ?_
  replace h := bs h
  obtain ⟨x6, ex6, h⟩ := h
  subst ex6
  replace h := bs h
  obtain ⟨w7, hw7, h⟩ := h
  refine pf_pa_118 hx hb hts hown hK hG hW rfl rfl (pbi hw7 rfl) d_pa_readCond_14 (fun H locs hW => ?_)
  have hl : lv_has ls 3 [(0, .ref (base + a0)), (1, .ref (base + x6))] := hl
  refine lv_aload_n hx hb d_pa_readCond_17 rfl (lv_at hl 0 rfl) ?_
  refine lv_iconst (v := (0 : Int32)) hx hb d_pa_readCond_18 (by decide) ?_
  rcases bsy h with hw8 | ⟨x9, w8, hw8, hnw8⟩
  · exact xv_pa_121 (As := [.int (0 : Int32)]) (rest := []) hx hb hml hown hts hK hG hW (x_pa_readExpr l hst D cA base hw8) (kb_pa_readExpr hw8) ⟨Nat.le_of_ble_eq_true rfl, Nat.le_of_ble_eq_true rfl⟩ ⟨Nat.le_of_ble_eq_true rfl, Nat.le_of_ble_eq_true rfl⟩ rfl hl.1 rfl (Nat.le_of_ble_eq_true rfl) d_pa_readCond_19 (fun H locs q ce hW h1 h2 h3 => wo_xout hnt hlk hW h1 h2 h3 (Nat.le_of_ble_eq_true rfl) (Nat.le_of_ble_eq_true rfl))
  clear h
  have h := hnw8
  clear hnw8
  refine cv_pa_121 (As := [.int (0 : Int32)]) (rest := []) hx hb hml hown hts hK hG hW (c_pa_readExpr l D cA base hw8) (kb_pa_readExpr hw8) ⟨Nat.le_of_ble_eq_true rfl, Nat.le_of_ble_eq_true rfl⟩ ⟨Nat.le_of_ble_eq_true rfl, Nat.le_of_ble_eq_true rfl⟩ rfl hl.1 rfl (Nat.le_of_ble_eq_true rfl) d_pa_readCond_19 (fun H locs hW => ?_)
  refine lv_pop hx hb d_pa_readCond_22 rfl ?_
  refine lv_aload_n hx hb d_pa_readCond_23 rfl (lv_at hl 1 rfl) ?_
  refine lv_aload_n hx hb d_pa_readCond_24 rfl (lv_at hl 0 rfl) ?_
  replace h := bs h
  obtain ⟨x10, hx10, h⟩ := h
  refine gf_pa_22 hx hb hts hown hK hG hW (gR_s hx10) d_pa_readCond_25 ?_
  replace h := bs h
  obtain ⟨x11, ex11, h⟩ := h
  subst ex11
  replace h := bs h
  obtain ⟨x12, hx12, h⟩ := h
  refine gf_pa_115 hx hb hts hown hK hG hW (gI_s hx12) d_pa_readCond_28 ?_
  replace h := bs h
  obtain ⟨w13, hw13, h⟩ := h
  refine pf_pa_128 hx hb hts hown hK hG hW rfl rfl (pbi hw13 rfl) d_pa_readCond_31 (fun H locs hW => ?_)
  refine lv_aload_n hx hb d_pa_readCond_34 rfl (lv_at hl 0 rfl) ?_
  replace h := bs2 h
  obtain ⟨x15, w14, hw14, h⟩ := h
  refine cv_pa_55 (As := []) (rest := []) hx hb hml hown hts hK hG hW (c_pa_kindHere l D cA base hw14) (kb_pa_kindHere hw14) ⟨Nat.le_of_ble_eq_true rfl, Nat.le_of_ble_eq_true rfl⟩ ⟨Nat.le_of_ble_eq_true rfl, Nat.le_of_ble_eq_true rfl⟩ rfl hl.1 rfl (Nat.le_of_ble_eq_true rfl) d_pa_readCond_35 (fun H locs hW => ?_)
  refine lv_istore_n (lv' := [(2, .int x15), (0, .ref (base + a0)), (1, .ref (base + x6))]) hx hb d_pa_readCond_38 rfl hl (by decide) rfl (fun ls hl => ?_)
  refine lv_aload_n hx hb d_pa_readCond_39 rfl (lv_at hl 1 rfl) ?_
  refine lv_iload_n hx hb d_pa_readCond_40 rfl (lv_at hl 0 rfl) ?_
  refine lv_sipush (v := (256 : Int32)) hx hb d_pa_readCond_41 (by decide) ?_
  refine lv_icmp_eq (tgt := 67) hx hb d_pa_readCond_44 (by decide) (fun c16 => ?_) (fun c16 => ?_)
  · rw [if_pos c16] at h
    exact jx_pa_readCond_67 C a0 x6 x15 a0 w14 h _ _ _ hW (lv_sub hl [1, 2, 0] rfl)
  · rw [if_neg c16] at h
    refine lv_iload_n hx hb d_pa_readCond_47 rfl (lv_at hl 0 rfl) ?_
    refine lv_sipush (v := (257 : Int32)) hx hb d_pa_readCond_48 (by decide) ?_
    refine lv_icmp_eq (tgt := 67) hx hb d_pa_readCond_51 (by decide) (fun c29 => ?_) (fun c29 => ?_)
    · rw [if_pos c29] at h
      exact jx_pa_readCond_67 C a0 x6 x15 a0 w14 h _ _ _ hW (lv_sub hl [1, 2, 0] rfl)
    · rw [if_neg c29] at h
      refine lv_iload_n hx hb d_pa_readCond_54 rfl (lv_at hl 0 rfl) ?_
      refine lv_bipush (v := (60 : Int32)) hx hb d_pa_readCond_55 (by decide) ?_
      refine lv_icmp_eq (tgt := 67) hx hb d_pa_readCond_57 (by decide) (fun c30 => ?_) (fun c30 => ?_)
      · rw [if_pos c30] at h
        exact jx_pa_readCond_67 C a0 x6 x15 a0 w14 h _ _ _ hW (lv_sub hl [1, 2, 0] rfl)
      · rw [if_neg c30] at h
        refine lv_iload_n hx hb d_pa_readCond_60 rfl (lv_at hl 0 rfl) ?_
        refine lv_sipush (v := (258 : Int32)) hx hb d_pa_readCond_61 (by decide) ?_
        refine lv_icmp_ne (tgt := 71) hx hb d_pa_readCond_64 (by decide) (fun c31 => ?_) (fun c31 => ?_)
        · rw [if_neg c31] at h
          refine lv_iconst (v := (0 : Int32)) hx hb d_pa_readCond_71 (by decide) ?_
          exact jx_pa_readCond_72 C a0 x6 x15 a0 (0 : Int32) w14 h _ _ _ hW (lv_sub hl [1, 2, 0] rfl)
        · rw [if_pos c31] at h
          exact jx_pa_readCond_67 C a0 x6 x15 a0 w14 h _ _ _ hW (lv_sub hl [1, 2, 0] rfl)
abbrev b_pa_readStatements : ByteArray := prog_3_method_7_code
def y_pa_readStatements : MethodName := ⟨"AlarmForge$Parser", "readStatements", "(II)LAlarmForge$Statement;"⟩
def rm_pa_readStatements (d : Nat) : Room := { frames := 74 + 1 * d, cells := 0, slots := 0, locals := 1789 + 26 * d }
def rx_pa_readStatements (d : Nat) : Room := { frames := 74 + 1 * d, cells := 1, slots := 6, locals := 1789 + 26 * d }
abbrev b_pa_readStatement : ByteArray := prog_3_method_8_code
def y_pa_readStatement : MethodName := ⟨"AlarmForge$Parser", "readStatement", "(I)LAlarmForge$Statement;"⟩
def rm_pa_readStatement (d : Nat) : Room := { frames := 74 + 1 * d, cells := 0, slots := 0, locals := 1789 + 26 * d }
def rx_pa_readStatement (d : Nat) : Room := { frames := 74 + 1 * d, cells := 1, slots := 6, locals := 1789 + 26 * d }
abbrev b_pa_readRest : ByteArray := prog_3_method_13_code
def y_pa_readRest : MethodName := ⟨"AlarmForge$Parser", "readRest", "(LAlarmForge$Statement;I)V"⟩
def rm_pa_readRest (d : Nat) : Room := { frames := 74 + 1 * d, cells := 0, slots := 0, locals := 1789 + 26 * d }
def rx_pa_readRest (d : Nat) : Room := { frames := 74 + 1 * d, cells := 1, slots := 6, locals := 1789 + 26 * d }
abbrev b_pa_readBlock : ByteArray := prog_3_method_14_code
def y_pa_readBlock : MethodName := ⟨"AlarmForge$Parser", "readBlock", "(I)LAlarmForge$Statement;"⟩
def rm_pa_readBlock (d : Nat) : Room := { frames := 74 + 1 * d, cells := 0, slots := 0, locals := 1789 + 26 * d }
def rx_pa_readBlock (d : Nat) : Room := { frames := 74 + 1 * d, cells := 1, slots := 6, locals := 1789 + 26 * d }
def sA_pa4 (l : Launch) (D : va_G) (cA : Nat → ClassId) (base d : Nat) (g_pa_readStatements : Nat → Int32 → Int32 → WW → Option ((Option Nat ⊕ String) × WW)) (g_pa_readStatement : Nat → Int32 → WW → Option ((Option Nat ⊕ String) × WW)) (g_pa_readRest : Nat → Option Nat → Int32 → WW → Option ((Unit ⊕ String) × WW)) (g_pa_readBlock : Nat → Int32 → WW → Option ((Option Nat ⊕ String) × WW)) : Prop := ((∀ {a0 : Nat} {a1 : Int32} {a2 : Int32} {w w' : WW} {r : Option Nat}, g_pa_readStatements a0 a1 a2 w = some (.inl r, w') → mt l D cls (wo_tys cA) cA base y_pa_readStatements (Cond.code y_pa_readStatements b_pa_readStatements 7 (some (.object "AlarmForge$Statement")) :: gt) (rm_pa_readStatements d) [.ref (base + a0), .int a1, .int a2] w (some (rb base r)) w' (rm_pa_readStatements d).cells (rm_pa_readStatements d).slots) ∧ (∀ {a0 : Nat} {a1 : Int32} {a2 : Int32} {w : WW} {r : ((Option Nat ⊕ String) × WW)}, g_pa_readStatements a0 a1 a2 w = some r → kb w a0 2 = true)) ∧ ((∀ {a0 : Nat} {a1 : Int32} {w w' : WW} {r : Option Nat}, g_pa_readStatement a0 a1 w = some (.inl r, w') → mt l D cls (wo_tys cA) cA base y_pa_readStatement (Cond.code y_pa_readStatement b_pa_readStatement 4 (some (.object "AlarmForge$Statement")) :: gt) (rm_pa_readStatement d) [.ref (base + a0), .int a1] w (some (rb base r)) w' (rm_pa_readStatement d).cells (rm_pa_readStatement d).slots) ∧ (∀ {a0 : Nat} {a1 : Int32} {w : WW} {r : ((Option Nat ⊕ String) × WW)}, g_pa_readStatement a0 a1 w = some r → kb w a0 2 = true)) ∧ ((∀ {a0 : Nat} {a1 : Option Nat} {a2 : Int32} {w w' : WW}, g_pa_readRest a0 a1 a2 w = some (.inl (), w') → mt l D cls (wo_tys cA) cA base y_pa_readRest (Cond.code y_pa_readRest b_pa_readRest 3 (none) :: gt) (rm_pa_readRest d) [.ref (base + a0), rb base a1, .int a2] w none w' (rm_pa_readRest d).cells (rm_pa_readRest d).slots) ∧ (∀ {a0 : Nat} {a1 : Option Nat} {a2 : Int32} {w : WW} {r : ((Unit ⊕ String) × WW)}, g_pa_readRest a0 a1 a2 w = some r → kb w a0 2 = true)) ∧ ((∀ {a0 : Nat} {a1 : Int32} {w w' : WW} {r : Option Nat}, g_pa_readBlock a0 a1 w = some (.inl r, w') → mt l D cls (wo_tys cA) cA base y_pa_readBlock (Cond.code y_pa_readBlock b_pa_readBlock 3 (some (.object "AlarmForge$Statement")) :: gt) (rm_pa_readBlock d) [.ref (base + a0), .int a1] w (some (rb base r)) w' (rm_pa_readBlock d).cells (rm_pa_readBlock d).slots) ∧ (∀ {a0 : Nat} {a1 : Int32} {w : WW} {r : ((Option Nat ⊕ String) × WW)}, g_pa_readBlock a0 a1 w = some r → kb w a0 2 = true))
def sX_pa4 (l : Launch) (D : va_G) (cA : Nat → ClassId) (base d : Nat) (g_pa_readStatements : Nat → Int32 → Int32 → WW → Option ((Option Nat ⊕ String) × WW)) (g_pa_readStatement : Nat → Int32 → WW → Option ((Option Nat ⊕ String) × WW)) (g_pa_readRest : Nat → Option Nat → Int32 → WW → Option ((Unit ⊕ String) × WW)) (g_pa_readBlock : Nat → Int32 → WW → Option ((Option Nat ⊕ String) × WW)) : Prop := (∀ {a0 : Nat} {a1 : Int32} {a2 : Int32} {w w' : WW} {E : String}, g_pa_readStatements a0 a1 a2 w = some (.inr E, w') → xt l D cls (wo_tys cA) cA base y_pa_readStatements (Cond.code y_pa_readStatements b_pa_readStatements 7 (some (.object "AlarmForge$Statement")) :: gt) (rx_pa_readStatements d) [.ref (base + a0), .int a1, .int a2] w E w' (rx_pa_readStatements d).cells (rx_pa_readStatements d).slots) ∧ (∀ {a0 : Nat} {a1 : Int32} {w w' : WW} {E : String}, g_pa_readStatement a0 a1 w = some (.inr E, w') → xt l D cls (wo_tys cA) cA base y_pa_readStatement (Cond.code y_pa_readStatement b_pa_readStatement 4 (some (.object "AlarmForge$Statement")) :: gt) (rx_pa_readStatement d) [.ref (base + a0), .int a1] w E w' (rx_pa_readStatement d).cells (rx_pa_readStatement d).slots) ∧ (∀ {a0 : Nat} {a1 : Option Nat} {a2 : Int32} {w w' : WW} {E : String}, g_pa_readRest a0 a1 a2 w = some (.inr E, w') → xt l D cls (wo_tys cA) cA base y_pa_readRest (Cond.code y_pa_readRest b_pa_readRest 3 (none) :: gt) (rx_pa_readRest d) [.ref (base + a0), rb base a1, .int a2] w E w' (rx_pa_readRest d).cells (rx_pa_readRest d).slots) ∧ (∀ {a0 : Nat} {a1 : Int32} {w w' : WW} {E : String}, g_pa_readBlock a0 a1 w = some (.inr E, w') → xt l D cls (wo_tys cA) cA base y_pa_readBlock (Cond.code y_pa_readBlock b_pa_readBlock 3 (some (.object "AlarmForge$Statement")) :: gt) (rx_pa_readBlock d) [.ref (base + a0), .int a1] w E w' (rx_pa_readBlock d).cells (rx_pa_readBlock d).slots)
theorem xv_pa_66 {p : Program} {l : Launch} {e : Env} {R : Room} {s : State} {m : MethodId} {args : Array Value} {below : List Frame} {meth : Method} {c : Code} {H : Heap} {locs : List Loc} {cells slots : Nat} {Q : State → Prop} {D : va_G} {cA : Nat → ClassId} {base : Nat} {w w' : WW} {cc : ByteArray} {pc nL d : Nat} {ls : Array Slot} {rest st0 As : List Value} {E : String} {b : Nat} (hx : p.tables.exec = Jvm.exec) (hb : c.code = cc) (hml : c.maxLocals = nL) (hown : s.vm.findClass Rc_pa = some m.cls) (hts : ∀ w ∈ gt, w.before args s = true) (hK : va_K D cls (wo_tys cA) s) (hG : wo_G cA base s) (hW : wo_S D cls cA base s w H locs) (hM : xt l D cls (wo_tys cA) cA base y_pa_readStatement (Cond.code y_pa_readStatement b_pa_readStatement 4 (some (.object "AlarmForge$Statement")) :: gt) (rx_pa_readStatement d) (.ref (base + b) :: As) w E w' (rx_pa_readStatement d).cells (rx_pa_readStatement d).slots) (hkb : kb w b 2 = true) (hR : (rx_pa_readStatement d).frames + 1 ≤ R.frames ∧ 8 + (4 + 11) + (rx_pa_readStatement d).locals ≤ R.locals) (hf : cells + (rx_pa_readStatement d).cells ≤ R.cells ∧ slots + (rx_pa_readStatement d).slots ≤ R.slots) (hn : As.length = 1) (hsz : ls.size = nL) (hst : st0 = As.reverse ++ .ref (base + b) :: rest) (hcat : (rest.map fun v => v.category).sum ≤ 8) (hdg : decode cc pc = .ok (.invokevirtual 66, 3)) (kk : ∀ (H1 : Heap) (locs1 : List Loc) (q : Addr) (ce : Cell), wo_S D cls cA base s w' H1 locs1 → H1[q]? = some ce → ce.vm = .none → s.vm.findClass E = some ce.cls → XW p l e R s m args below meth c H1 locs1 (cells + (rx_pa_readStatement d).cells) (slots + (rx_pa_readStatement d).slots) Q (F0 m pc ls rest) q) : W p l e R s m args below meth c H locs cells slots Q (F0 m pc ls st0) :=
  wo_xcallV (C := Rc_pa) hx hb hml hown hts hK hG hW hM hkb rfl (gt_of (i := 649) (by decide +kernel) (by decide +kernel)) (gt_of (i := 651) (by decide +kernel) (by decide +kernel)) (gt_sel (i := 9) (by decide +kernel) (by decide +kernel)) (gt_of (i := 2) (by decide +kernel) (by decide +kernel)) (gt_of (i := 652) (by decide +kernel) (by decide +kernel)) (by decide +kernel) hR hf hn hsz hst hcat hdg kk
theorem cv_pa_66 {p : Program} {l : Launch} {e : Env} {R : Room} {s : State} {m : MethodId} {args : Array Value} {below : List Frame} {meth : Method} {c : Code} {H : Heap} {locs : List Loc} {cells slots : Nat} {Q : State → Prop} {D : va_G} {cA : Nat → ClassId} {base : Nat} {w w' : WW} {cc : ByteArray} {pc nL d : Nat} {ls : Array Slot} {rest st0 As : List Value} {ov : Option Value} {b : Nat} (hx : p.tables.exec = Jvm.exec) (hb : c.code = cc) (hml : c.maxLocals = nL) (hown : s.vm.findClass Rc_pa = some m.cls) (hts : ∀ w ∈ gt, w.before args s = true) (hK : va_K D cls (wo_tys cA) s) (hG : wo_G cA base s) (hW : wo_S D cls cA base s w H locs) (hM : mt l D cls (wo_tys cA) cA base y_pa_readStatement (Cond.code y_pa_readStatement b_pa_readStatement 4 (some (.object "AlarmForge$Statement")) :: gt) (rm_pa_readStatement d) (.ref (base + b) :: As) w ov w' (rm_pa_readStatement d).cells (rm_pa_readStatement d).slots) (hkb : kb w b 2 = true) (hR : (rm_pa_readStatement d).frames + 1 ≤ R.frames ∧ 8 + (4 + 11) + (rm_pa_readStatement d).locals ≤ R.locals) (hf : cells + (rm_pa_readStatement d).cells ≤ R.cells ∧ slots + (rm_pa_readStatement d).slots ≤ R.slots) (hn : As.length = 1) (hsz : ls.size = nL) (hst : st0 = As.reverse ++ .ref (base + b) :: rest) (hcat : (rest.map fun v => v.category).sum ≤ 8) (hdg : decode cc pc = .ok (.invokevirtual 66, 3)) (kk : ∀ (H1 : Heap) (locs1 : List Loc), wo_S D cls cA base s w' H1 locs1 → W p l e R s m args below meth c H1 locs1 (cells + (rm_pa_readStatement d).cells) (slots + (rm_pa_readStatement d).slots) Q (F0 m (pc + 3) ls (ov.toList ++ rest))) : W p l e R s m args below meth c H locs cells slots Q (F0 m pc ls st0) :=
  wo_callV (C := Rc_pa) hx hb hml hown hts hK hG hW hM hkb rfl (gt_of (i := 649) (by decide +kernel) (by decide +kernel)) (gt_of (i := 651) (by decide +kernel) (by decide +kernel)) (gt_sel (i := 9) (by decide +kernel) (by decide +kernel)) (gt_of (i := 2) (by decide +kernel) (by decide +kernel)) (gt_of (i := 652) (by decide +kernel) (by decide +kernel)) (by decide +kernel) hR hf hn hsz hst hcat hdg kk
theorem cs_pa_75 {p : Program} {l : Launch} {e : Env} {R : Room} {s : State} {m : MethodId} {args : Array Value} {below : List Frame} {meth : Method} {c : Code} {H : Heap} {locs : List Loc} {cells slots : Nat} {Q : State → Prop} {D : va_G} {cA : Nat → ClassId} {base : Nat} {w w' : WW} {cc : ByteArray} {pc nL : Nat} {ls : Array Slot} {rest st0 As : List Value} {ov : Option Value} (hx : p.tables.exec = Jvm.exec) (hb : c.code = cc) (hml : c.maxLocals = nL) (hown : s.vm.findClass Rc_pa = some m.cls) (hts : ∀ w ∈ gt, w.before args s = true) (hK : va_K D cls (wo_tys cA) s) (hG : wo_G cA base s) (hW : wo_S D cls cA base s w H locs) (hM : mt l D cls (wo_tys cA) cA base y_pa_beginsStatement (Cond.code y_pa_beginsStatement b_pa_beginsStatement 1 (some .boolean) :: gt) rm_pa_beginsStatement (As) w ov w' rm_pa_beginsStatement.cells rm_pa_beginsStatement.slots) (hR : rm_pa_beginsStatement.frames + 1 ≤ R.frames ∧ 8 + (1 + 11) + rm_pa_beginsStatement.locals ≤ R.locals) (hf : cells + rm_pa_beginsStatement.cells ≤ R.cells ∧ slots + rm_pa_beginsStatement.slots ≤ R.slots) (hn : As.length = 1) (hsz : ls.size = nL) (hst : st0 = As.reverse ++ rest) (hcat : (rest.map fun v => v.category).sum ≤ 8) (hdg : decode cc pc = .ok (.invokestatic 75, 3)) (kk : ∀ (H1 : Heap) (locs1 : List Loc), wo_S D cls cA base s w' H1 locs1 → W p l e R s m args below meth c H1 locs1 (cells + rm_pa_beginsStatement.cells) (slots + rm_pa_beginsStatement.slots) Q (F0 m (pc + 3) ls (ov.toList ++ rest))) : W p l e R s m args below meth c H locs cells slots Q (F0 m pc ls st0) :=
  wo_callS hx hb hml hown hts hK hG hW hM (gt_of (i := 653) (by decide +kernel) (by decide +kernel)) (gt_of (i := 654) (by decide +kernel) (by decide +kernel)) (gt_of (i := 2) (by decide +kernel) (by decide +kernel)) (gt_of (i := 655) (by decide +kernel) (by decide +kernel)) (by decide +kernel) hR hf hn hsz hst hcat hdg kk
theorem cv_pa_79 {p : Program} {l : Launch} {e : Env} {R : Room} {s : State} {m : MethodId} {args : Array Value} {below : List Frame} {meth : Method} {c : Code} {H : Heap} {locs : List Loc} {cells slots : Nat} {Q : State → Prop} {D : va_G} {cA : Nat → ClassId} {base : Nat} {w w' : WW} {cc : ByteArray} {pc nL : Nat} {ls : Array Slot} {rest st0 As : List Value} {ov : Option Value} {b : Nat} (hx : p.tables.exec = Jvm.exec) (hb : c.code = cc) (hml : c.maxLocals = nL) (hown : s.vm.findClass Rc_pa = some m.cls) (hts : ∀ w ∈ gt, w.before args s = true) (hK : va_K D cls (wo_tys cA) s) (hG : wo_G cA base s) (hW : wo_S D cls cA base s w H locs) (hM : mt l D cls (wo_tys cA) cA base y_pg_isFull (Cond.code y_pg_isFull b_pg_isFull 1 (some .boolean) :: gt) rm_pg_isFull (.ref (base + b) :: As) w ov w' rm_pg_isFull.cells rm_pg_isFull.slots) (hkb : kb w b 3 = true) (hR : rm_pg_isFull.frames + 1 ≤ R.frames ∧ 8 + (1 + 11) + rm_pg_isFull.locals ≤ R.locals) (hf : cells + rm_pg_isFull.cells ≤ R.cells ∧ slots + rm_pg_isFull.slots ≤ R.slots) (hn : As.length = 0) (hsz : ls.size = nL) (hst : st0 = As.reverse ++ .ref (base + b) :: rest) (hcat : (rest.map fun v => v.category).sum ≤ 8) (hdg : decode cc pc = .ok (.invokevirtual 79, 3)) (kk : ∀ (H1 : Heap) (locs1 : List Loc), wo_S D cls cA base s w' H1 locs1 → W p l e R s m args below meth c H1 locs1 (cells + rm_pg_isFull.cells) (slots + rm_pg_isFull.slots) Q (F0 m (pc + 3) ls (ov.toList ++ rest))) : W p l e R s m args below meth c H locs cells slots Q (F0 m pc ls st0) :=
  wo_callV (C := Rc_pg) hx hb hml hown hts hK hG hW hM hkb rfl (gt_of (i := 656) (by decide +kernel) (by decide +kernel)) (gt_of (i := 657) (by decide +kernel) (by decide +kernel)) (gt_of (i := 658) (by decide +kernel) (by decide +kernel)) (gt_of (i := 4) (by decide +kernel) (by decide +kernel)) (gt_of (i := 659) (by decide +kernel) (by decide +kernel)) (by decide +kernel) hR hf hn hsz hst hcat hdg kk
theorem cv_pa_83 {p : Program} {l : Launch} {e : Env} {R : Room} {s : State} {m : MethodId} {args : Array Value} {below : List Frame} {meth : Method} {c : Code} {H : Heap} {locs : List Loc} {cells slots : Nat} {Q : State → Prop} {D : va_G} {cA : Nat → ClassId} {base : Nat} {w w' : WW} {cc : ByteArray} {pc nL : Nat} {ls : Array Slot} {rest st0 As : List Value} {ov : Option Value} {b : Nat} (hx : p.tables.exec = Jvm.exec) (hb : c.code = cc) (hml : c.maxLocals = nL) (hown : s.vm.findClass Rc_pa = some m.cls) (hts : ∀ w ∈ gt, w.before args s = true) (hK : va_K D cls (wo_tys cA) s) (hG : wo_G cA base s) (hW : wo_S D cls cA base s w H locs) (hM : mt l D cls (wo_tys cA) cA base y_pg_newStatement (Cond.code y_pg_newStatement b_pg_newStatement 2 (some (.object "AlarmForge$Statement")) :: gt) rm_pg_newStatement (.ref (base + b) :: As) w ov w' rm_pg_newStatement.cells rm_pg_newStatement.slots) (hkb : kb w b 3 = true) (hR : rm_pg_newStatement.frames + 1 ≤ R.frames ∧ 8 + (2 + 11) + rm_pg_newStatement.locals ≤ R.locals) (hf : cells + rm_pg_newStatement.cells ≤ R.cells ∧ slots + rm_pg_newStatement.slots ≤ R.slots) (hn : As.length = 0) (hsz : ls.size = nL) (hst : st0 = As.reverse ++ .ref (base + b) :: rest) (hcat : (rest.map fun v => v.category).sum ≤ 8) (hdg : decode cc pc = .ok (.invokevirtual 83, 3)) (kk : ∀ (H1 : Heap) (locs1 : List Loc), wo_S D cls cA base s w' H1 locs1 → W p l e R s m args below meth c H1 locs1 (cells + rm_pg_newStatement.cells) (slots + rm_pg_newStatement.slots) Q (F0 m (pc + 3) ls (ov.toList ++ rest))) : W p l e R s m args below meth c H locs cells slots Q (F0 m pc ls st0) :=
  wo_callV (C := Rc_pg) hx hb hml hown hts hK hG hW hM hkb rfl (gt_of (i := 666) (by decide +kernel) (by decide +kernel)) (gt_of (i := 667) (by decide +kernel) (by decide +kernel)) (gt_of (i := 668) (by decide +kernel) (by decide +kernel)) (gt_of (i := 4) (by decide +kernel) (by decide +kernel)) (gt_of (i := 669) (by decide +kernel) (by decide +kernel)) (by decide +kernel) hR hf hn hsz hst hcat hdg kk
theorem cv_pa_90 {p : Program} {l : Launch} {e : Env} {R : Room} {s : State} {m : MethodId} {args : Array Value} {below : List Frame} {meth : Method} {c : Code} {H : Heap} {locs : List Loc} {cells slots : Nat} {Q : State → Prop} {D : va_G} {cA : Nat → ClassId} {base : Nat} {w w' : WW} {cc : ByteArray} {pc nL : Nat} {ls : Array Slot} {rest st0 As : List Value} {ov : Option Value} {b : Nat} (hx : p.tables.exec = Jvm.exec) (hb : c.code = cc) (hml : c.maxLocals = nL) (hown : s.vm.findClass Rc_pa = some m.cls) (hts : ∀ w ∈ gt, w.before args s = true) (hK : va_K D cls (wo_tys cA) s) (hG : wo_G cA base s) (hW : wo_S D cls cA base s w H locs) (hM : mt l D cls (wo_tys cA) cA base y_st_begin (Cond.code y_st_begin b_st_begin 4 (none) :: gt) rm_st_begin (.ref (base + b) :: As) w ov w' rm_st_begin.cells rm_st_begin.slots) (hkb : kb w b 4 = true) (hR : rm_st_begin.frames + 1 ≤ R.frames ∧ 8 + (4 + 11) + rm_st_begin.locals ≤ R.locals) (hf : cells + rm_st_begin.cells ≤ R.cells ∧ slots + rm_st_begin.slots ≤ R.slots) (hn : As.length = 3) (hsz : ls.size = nL) (hst : st0 = As.reverse ++ .ref (base + b) :: rest) (hcat : (rest.map fun v => v.category).sum ≤ 8) (hdg : decode cc pc = .ok (.invokevirtual 90, 3)) (kk : ∀ (H1 : Heap) (locs1 : List Loc), wo_S D cls cA base s w' H1 locs1 → W p l e R s m args below meth c H1 locs1 (cells + rm_st_begin.cells) (slots + rm_st_begin.slots) Q (F0 m (pc + 3) ls (ov.toList ++ rest))) : W p l e R s m args below meth c H locs cells slots Q (F0 m pc ls st0) :=
  wo_callV (C := Rc_st) hx hb hml hown hts hK hG hW hM hkb rfl (gt_of (i := 670) (by decide +kernel) (by decide +kernel)) (gt_of (i := 671) (by decide +kernel) (by decide +kernel)) (gt_of (i := 672) (by decide +kernel) (by decide +kernel)) (gt_of (i := 5) (by decide +kernel) (by decide +kernel)) (gt_of (i := 673) (by decide +kernel) (by decide +kernel)) (by decide +kernel) hR hf hn hsz hst hcat hdg kk
theorem xv_pa_94 {p : Program} {l : Launch} {e : Env} {R : Room} {s : State} {m : MethodId} {args : Array Value} {below : List Frame} {meth : Method} {c : Code} {H : Heap} {locs : List Loc} {cells slots : Nat} {Q : State → Prop} {D : va_G} {cA : Nat → ClassId} {base : Nat} {w w' : WW} {cc : ByteArray} {pc nL : Nat} {ls : Array Slot} {rest st0 As : List Value} {E : String} {b : Nat} (hx : p.tables.exec = Jvm.exec) (hb : c.code = cc) (hml : c.maxLocals = nL) (hown : s.vm.findClass Rc_pa = some m.cls) (hts : ∀ w ∈ gt, w.before args s = true) (hK : va_K D cls (wo_tys cA) s) (hG : wo_G cA base s) (hW : wo_S D cls cA base s w H locs) (hM : xt l D cls (wo_tys cA) cA base y_pa_readAssignment (Cond.code y_pa_readAssignment b_pa_readAssignment 2 (none) :: gt) rx_pa_readAssignment (.ref (base + b) :: As) w E w' rx_pa_readAssignment.cells rx_pa_readAssignment.slots) (hkb : kb w b 2 = true) (hR : rx_pa_readAssignment.frames + 1 ≤ R.frames ∧ 8 + (2 + 11) + rx_pa_readAssignment.locals ≤ R.locals) (hf : cells + rx_pa_readAssignment.cells ≤ R.cells ∧ slots + rx_pa_readAssignment.slots ≤ R.slots) (hn : As.length = 1) (hsz : ls.size = nL) (hst : st0 = As.reverse ++ .ref (base + b) :: rest) (hcat : (rest.map fun v => v.category).sum ≤ 8) (hdg : decode cc pc = .ok (.invokevirtual 94, 3)) (kk : ∀ (H1 : Heap) (locs1 : List Loc) (q : Addr) (ce : Cell), wo_S D cls cA base s w' H1 locs1 → H1[q]? = some ce → ce.vm = .none → s.vm.findClass E = some ce.cls → XW p l e R s m args below meth c H1 locs1 (cells + rx_pa_readAssignment.cells) (slots + rx_pa_readAssignment.slots) Q (F0 m pc ls rest) q) : W p l e R s m args below meth c H locs cells slots Q (F0 m pc ls st0) :=
  wo_xcallV (C := Rc_pa) hx hb hml hown hts hK hG hW hM hkb rfl (gt_of (i := 678) (by decide +kernel) (by decide +kernel)) (gt_of (i := 680) (by decide +kernel) (by decide +kernel)) (gt_sel (i := 12) (by decide +kernel) (by decide +kernel)) (gt_of (i := 2) (by decide +kernel) (by decide +kernel)) (gt_of (i := 681) (by decide +kernel) (by decide +kernel)) (by decide +kernel) hR hf hn hsz hst hcat hdg kk
theorem cv_pa_94 {p : Program} {l : Launch} {e : Env} {R : Room} {s : State} {m : MethodId} {args : Array Value} {below : List Frame} {meth : Method} {c : Code} {H : Heap} {locs : List Loc} {cells slots : Nat} {Q : State → Prop} {D : va_G} {cA : Nat → ClassId} {base : Nat} {w w' : WW} {cc : ByteArray} {pc nL : Nat} {ls : Array Slot} {rest st0 As : List Value} {ov : Option Value} {b : Nat} (hx : p.tables.exec = Jvm.exec) (hb : c.code = cc) (hml : c.maxLocals = nL) (hown : s.vm.findClass Rc_pa = some m.cls) (hts : ∀ w ∈ gt, w.before args s = true) (hK : va_K D cls (wo_tys cA) s) (hG : wo_G cA base s) (hW : wo_S D cls cA base s w H locs) (hM : mt l D cls (wo_tys cA) cA base y_pa_readAssignment (Cond.code y_pa_readAssignment b_pa_readAssignment 2 (none) :: gt) rm_pa_readAssignment (.ref (base + b) :: As) w ov w' rm_pa_readAssignment.cells rm_pa_readAssignment.slots) (hkb : kb w b 2 = true) (hR : rm_pa_readAssignment.frames + 1 ≤ R.frames ∧ 8 + (2 + 11) + rm_pa_readAssignment.locals ≤ R.locals) (hf : cells + rm_pa_readAssignment.cells ≤ R.cells ∧ slots + rm_pa_readAssignment.slots ≤ R.slots) (hn : As.length = 1) (hsz : ls.size = nL) (hst : st0 = As.reverse ++ .ref (base + b) :: rest) (hcat : (rest.map fun v => v.category).sum ≤ 8) (hdg : decode cc pc = .ok (.invokevirtual 94, 3)) (kk : ∀ (H1 : Heap) (locs1 : List Loc), wo_S D cls cA base s w' H1 locs1 → W p l e R s m args below meth c H1 locs1 (cells + rm_pa_readAssignment.cells) (slots + rm_pa_readAssignment.slots) Q (F0 m (pc + 3) ls (ov.toList ++ rest))) : W p l e R s m args below meth c H locs cells slots Q (F0 m pc ls st0) :=
  wo_callV (C := Rc_pa) hx hb hml hown hts hK hG hW hM hkb rfl (gt_of (i := 678) (by decide +kernel) (by decide +kernel)) (gt_of (i := 680) (by decide +kernel) (by decide +kernel)) (gt_sel (i := 12) (by decide +kernel) (by decide +kernel)) (gt_of (i := 2) (by decide +kernel) (by decide +kernel)) (gt_of (i := 681) (by decide +kernel) (by decide +kernel)) (by decide +kernel) hR hf hn hsz hst hcat hdg kk
theorem xv_pa_98 {p : Program} {l : Launch} {e : Env} {R : Room} {s : State} {m : MethodId} {args : Array Value} {below : List Frame} {meth : Method} {c : Code} {H : Heap} {locs : List Loc} {cells slots : Nat} {Q : State → Prop} {D : va_G} {cA : Nat → ClassId} {base : Nat} {w w' : WW} {cc : ByteArray} {pc nL : Nat} {ls : Array Slot} {rest st0 As : List Value} {E : String} {b : Nat} (hx : p.tables.exec = Jvm.exec) (hb : c.code = cc) (hml : c.maxLocals = nL) (hown : s.vm.findClass Rc_pa = some m.cls) (hts : ∀ w ∈ gt, w.before args s = true) (hK : va_K D cls (wo_tys cA) s) (hG : wo_G cA base s) (hW : wo_S D cls cA base s w H locs) (hM : xt l D cls (wo_tys cA) cA base y_pa_readStore (Cond.code y_pa_readStore b_pa_readStore 2 (none) :: gt) rx_pa_readStore (.ref (base + b) :: As) w E w' rx_pa_readStore.cells rx_pa_readStore.slots) (hkb : kb w b 2 = true) (hR : rx_pa_readStore.frames + 1 ≤ R.frames ∧ 8 + (2 + 11) + rx_pa_readStore.locals ≤ R.locals) (hf : cells + rx_pa_readStore.cells ≤ R.cells ∧ slots + rx_pa_readStore.slots ≤ R.slots) (hn : As.length = 1) (hsz : ls.size = nL) (hst : st0 = As.reverse ++ .ref (base + b) :: rest) (hcat : (rest.map fun v => v.category).sum ≤ 8) (hdg : decode cc pc = .ok (.invokevirtual 98, 3)) (kk : ∀ (H1 : Heap) (locs1 : List Loc) (q : Addr) (ce : Cell), wo_S D cls cA base s w' H1 locs1 → H1[q]? = some ce → ce.vm = .none → s.vm.findClass E = some ce.cls → XW p l e R s m args below meth c H1 locs1 (cells + rx_pa_readStore.cells) (slots + rx_pa_readStore.slots) Q (F0 m pc ls rest) q) : W p l e R s m args below meth c H locs cells slots Q (F0 m pc ls st0) :=
  wo_xcallV (C := Rc_pa) hx hb hml hown hts hK hG hW hM hkb rfl (gt_of (i := 709) (by decide +kernel) (by decide +kernel)) (gt_of (i := 711) (by decide +kernel) (by decide +kernel)) (gt_sel (i := 17) (by decide +kernel) (by decide +kernel)) (gt_of (i := 2) (by decide +kernel) (by decide +kernel)) (gt_of (i := 712) (by decide +kernel) (by decide +kernel)) (by decide +kernel) hR hf hn hsz hst hcat hdg kk
theorem cv_pa_98 {p : Program} {l : Launch} {e : Env} {R : Room} {s : State} {m : MethodId} {args : Array Value} {below : List Frame} {meth : Method} {c : Code} {H : Heap} {locs : List Loc} {cells slots : Nat} {Q : State → Prop} {D : va_G} {cA : Nat → ClassId} {base : Nat} {w w' : WW} {cc : ByteArray} {pc nL : Nat} {ls : Array Slot} {rest st0 As : List Value} {ov : Option Value} {b : Nat} (hx : p.tables.exec = Jvm.exec) (hb : c.code = cc) (hml : c.maxLocals = nL) (hown : s.vm.findClass Rc_pa = some m.cls) (hts : ∀ w ∈ gt, w.before args s = true) (hK : va_K D cls (wo_tys cA) s) (hG : wo_G cA base s) (hW : wo_S D cls cA base s w H locs) (hM : mt l D cls (wo_tys cA) cA base y_pa_readStore (Cond.code y_pa_readStore b_pa_readStore 2 (none) :: gt) rm_pa_readStore (.ref (base + b) :: As) w ov w' rm_pa_readStore.cells rm_pa_readStore.slots) (hkb : kb w b 2 = true) (hR : rm_pa_readStore.frames + 1 ≤ R.frames ∧ 8 + (2 + 11) + rm_pa_readStore.locals ≤ R.locals) (hf : cells + rm_pa_readStore.cells ≤ R.cells ∧ slots + rm_pa_readStore.slots ≤ R.slots) (hn : As.length = 1) (hsz : ls.size = nL) (hst : st0 = As.reverse ++ .ref (base + b) :: rest) (hcat : (rest.map fun v => v.category).sum ≤ 8) (hdg : decode cc pc = .ok (.invokevirtual 98, 3)) (kk : ∀ (H1 : Heap) (locs1 : List Loc), wo_S D cls cA base s w' H1 locs1 → W p l e R s m args below meth c H1 locs1 (cells + rm_pa_readStore.cells) (slots + rm_pa_readStore.slots) Q (F0 m (pc + 3) ls (ov.toList ++ rest))) : W p l e R s m args below meth c H locs cells slots Q (F0 m pc ls st0) :=
  wo_callV (C := Rc_pa) hx hb hml hown hts hK hG hW hM hkb rfl (gt_of (i := 709) (by decide +kernel) (by decide +kernel)) (gt_of (i := 711) (by decide +kernel) (by decide +kernel)) (gt_sel (i := 17) (by decide +kernel) (by decide +kernel)) (gt_of (i := 2) (by decide +kernel) (by decide +kernel)) (gt_of (i := 712) (by decide +kernel) (by decide +kernel)) (by decide +kernel) hR hf hn hsz hst hcat hdg kk
theorem xv_pa_101 {p : Program} {l : Launch} {e : Env} {R : Room} {s : State} {m : MethodId} {args : Array Value} {below : List Frame} {meth : Method} {c : Code} {H : Heap} {locs : List Loc} {cells slots : Nat} {Q : State → Prop} {D : va_G} {cA : Nat → ClassId} {base : Nat} {w w' : WW} {cc : ByteArray} {pc nL : Nat} {ls : Array Slot} {rest st0 As : List Value} {E : String} {b : Nat} (hx : p.tables.exec = Jvm.exec) (hb : c.code = cc) (hml : c.maxLocals = nL) (hown : s.vm.findClass Rc_pa = some m.cls) (hts : ∀ w ∈ gt, w.before args s = true) (hK : va_K D cls (wo_tys cA) s) (hG : wo_G cA base s) (hW : wo_S D cls cA base s w H locs) (hM : xt l D cls (wo_tys cA) cA base y_pa_readCond (Cond.code y_pa_readCond b_pa_readCond 3 (none) :: gt) rx_pa_readCond (.ref (base + b) :: As) w E w' rx_pa_readCond.cells rx_pa_readCond.slots) (hkb : kb w b 2 = true) (hR : rx_pa_readCond.frames + 1 ≤ R.frames ∧ 8 + (3 + 11) + rx_pa_readCond.locals ≤ R.locals) (hf : cells + rx_pa_readCond.cells ≤ R.cells ∧ slots + rx_pa_readCond.slots ≤ R.slots) (hn : As.length = 1) (hsz : ls.size = nL) (hst : st0 = As.reverse ++ .ref (base + b) :: rest) (hcat : (rest.map fun v => v.category).sum ≤ 8) (hdg : decode cc pc = .ok (.invokevirtual 101, 3)) (kk : ∀ (H1 : Heap) (locs1 : List Loc) (q : Addr) (ce : Cell), wo_S D cls cA base s w' H1 locs1 → H1[q]? = some ce → ce.vm = .none → s.vm.findClass E = some ce.cls → XW p l e R s m args below meth c H1 locs1 (cells + rx_pa_readCond.cells) (slots + rx_pa_readCond.slots) Q (F0 m pc ls rest) q) : W p l e R s m args below meth c H locs cells slots Q (F0 m pc ls st0) :=
  wo_xcallV (C := Rc_pa) hx hb hml hown hts hK hG hW hM hkb rfl (gt_of (i := 713) (by decide +kernel) (by decide +kernel)) (gt_of (i := 715) (by decide +kernel) (by decide +kernel)) (gt_sel (i := 18) (by decide +kernel) (by decide +kernel)) (gt_of (i := 2) (by decide +kernel) (by decide +kernel)) (gt_of (i := 716) (by decide +kernel) (by decide +kernel)) (by decide +kernel) hR hf hn hsz hst hcat hdg kk
theorem cv_pa_101 {p : Program} {l : Launch} {e : Env} {R : Room} {s : State} {m : MethodId} {args : Array Value} {below : List Frame} {meth : Method} {c : Code} {H : Heap} {locs : List Loc} {cells slots : Nat} {Q : State → Prop} {D : va_G} {cA : Nat → ClassId} {base : Nat} {w w' : WW} {cc : ByteArray} {pc nL : Nat} {ls : Array Slot} {rest st0 As : List Value} {ov : Option Value} {b : Nat} (hx : p.tables.exec = Jvm.exec) (hb : c.code = cc) (hml : c.maxLocals = nL) (hown : s.vm.findClass Rc_pa = some m.cls) (hts : ∀ w ∈ gt, w.before args s = true) (hK : va_K D cls (wo_tys cA) s) (hG : wo_G cA base s) (hW : wo_S D cls cA base s w H locs) (hM : mt l D cls (wo_tys cA) cA base y_pa_readCond (Cond.code y_pa_readCond b_pa_readCond 3 (none) :: gt) rm_pa_readCond (.ref (base + b) :: As) w ov w' rm_pa_readCond.cells rm_pa_readCond.slots) (hkb : kb w b 2 = true) (hR : rm_pa_readCond.frames + 1 ≤ R.frames ∧ 8 + (3 + 11) + rm_pa_readCond.locals ≤ R.locals) (hf : cells + rm_pa_readCond.cells ≤ R.cells ∧ slots + rm_pa_readCond.slots ≤ R.slots) (hn : As.length = 1) (hsz : ls.size = nL) (hst : st0 = As.reverse ++ .ref (base + b) :: rest) (hcat : (rest.map fun v => v.category).sum ≤ 8) (hdg : decode cc pc = .ok (.invokevirtual 101, 3)) (kk : ∀ (H1 : Heap) (locs1 : List Loc), wo_S D cls cA base s w' H1 locs1 → W p l e R s m args below meth c H1 locs1 (cells + rm_pa_readCond.cells) (slots + rm_pa_readCond.slots) Q (F0 m (pc + 3) ls (ov.toList ++ rest))) : W p l e R s m args below meth c H locs cells slots Q (F0 m pc ls st0) :=
  wo_callV (C := Rc_pa) hx hb hml hown hts hK hG hW hM hkb rfl (gt_of (i := 713) (by decide +kernel) (by decide +kernel)) (gt_of (i := 715) (by decide +kernel) (by decide +kernel)) (gt_sel (i := 18) (by decide +kernel) (by decide +kernel)) (gt_of (i := 2) (by decide +kernel) (by decide +kernel)) (gt_of (i := 716) (by decide +kernel) (by decide +kernel)) (by decide +kernel) hR hf hn hsz hst hcat hdg kk
theorem xv_pa_104 {p : Program} {l : Launch} {e : Env} {R : Room} {s : State} {m : MethodId} {args : Array Value} {below : List Frame} {meth : Method} {c : Code} {H : Heap} {locs : List Loc} {cells slots : Nat} {Q : State → Prop} {D : va_G} {cA : Nat → ClassId} {base : Nat} {w w' : WW} {cc : ByteArray} {pc nL d : Nat} {ls : Array Slot} {rest st0 As : List Value} {E : String} {b : Nat} (hx : p.tables.exec = Jvm.exec) (hb : c.code = cc) (hml : c.maxLocals = nL) (hown : s.vm.findClass Rc_pa = some m.cls) (hts : ∀ w ∈ gt, w.before args s = true) (hK : va_K D cls (wo_tys cA) s) (hG : wo_G cA base s) (hW : wo_S D cls cA base s w H locs) (hM : xt l D cls (wo_tys cA) cA base y_pa_readRest (Cond.code y_pa_readRest b_pa_readRest 3 (none) :: gt) (rx_pa_readRest d) (.ref (base + b) :: As) w E w' (rx_pa_readRest d).cells (rx_pa_readRest d).slots) (hkb : kb w b 2 = true) (hR : (rx_pa_readRest d).frames + 1 ≤ R.frames ∧ 8 + (3 + 11) + (rx_pa_readRest d).locals ≤ R.locals) (hf : cells + (rx_pa_readRest d).cells ≤ R.cells ∧ slots + (rx_pa_readRest d).slots ≤ R.slots) (hn : As.length = 2) (hsz : ls.size = nL) (hst : st0 = As.reverse ++ .ref (base + b) :: rest) (hcat : (rest.map fun v => v.category).sum ≤ 8) (hdg : decode cc pc = .ok (.invokevirtual 104, 3)) (kk : ∀ (H1 : Heap) (locs1 : List Loc) (q : Addr) (ce : Cell), wo_S D cls cA base s w' H1 locs1 → H1[q]? = some ce → ce.vm = .none → s.vm.findClass E = some ce.cls → XW p l e R s m args below meth c H1 locs1 (cells + (rx_pa_readRest d).cells) (slots + (rx_pa_readRest d).slots) Q (F0 m pc ls rest) q) : W p l e R s m args below meth c H locs cells slots Q (F0 m pc ls st0) :=
  wo_xcallV (C := Rc_pa) hx hb hml hown hts hK hG hW hM hkb rfl (gt_of (i := 717) (by decide +kernel) (by decide +kernel)) (gt_of (i := 719) (by decide +kernel) (by decide +kernel)) (gt_sel (i := 19) (by decide +kernel) (by decide +kernel)) (gt_of (i := 2) (by decide +kernel) (by decide +kernel)) (gt_of (i := 720) (by decide +kernel) (by decide +kernel)) (by decide +kernel) hR hf hn hsz hst hcat hdg kk
theorem cv_pa_104 {p : Program} {l : Launch} {e : Env} {R : Room} {s : State} {m : MethodId} {args : Array Value} {below : List Frame} {meth : Method} {c : Code} {H : Heap} {locs : List Loc} {cells slots : Nat} {Q : State → Prop} {D : va_G} {cA : Nat → ClassId} {base : Nat} {w w' : WW} {cc : ByteArray} {pc nL d : Nat} {ls : Array Slot} {rest st0 As : List Value} {ov : Option Value} {b : Nat} (hx : p.tables.exec = Jvm.exec) (hb : c.code = cc) (hml : c.maxLocals = nL) (hown : s.vm.findClass Rc_pa = some m.cls) (hts : ∀ w ∈ gt, w.before args s = true) (hK : va_K D cls (wo_tys cA) s) (hG : wo_G cA base s) (hW : wo_S D cls cA base s w H locs) (hM : mt l D cls (wo_tys cA) cA base y_pa_readRest (Cond.code y_pa_readRest b_pa_readRest 3 (none) :: gt) (rm_pa_readRest d) (.ref (base + b) :: As) w ov w' (rm_pa_readRest d).cells (rm_pa_readRest d).slots) (hkb : kb w b 2 = true) (hR : (rm_pa_readRest d).frames + 1 ≤ R.frames ∧ 8 + (3 + 11) + (rm_pa_readRest d).locals ≤ R.locals) (hf : cells + (rm_pa_readRest d).cells ≤ R.cells ∧ slots + (rm_pa_readRest d).slots ≤ R.slots) (hn : As.length = 2) (hsz : ls.size = nL) (hst : st0 = As.reverse ++ .ref (base + b) :: rest) (hcat : (rest.map fun v => v.category).sum ≤ 8) (hdg : decode cc pc = .ok (.invokevirtual 104, 3)) (kk : ∀ (H1 : Heap) (locs1 : List Loc), wo_S D cls cA base s w' H1 locs1 → W p l e R s m args below meth c H1 locs1 (cells + (rm_pa_readRest d).cells) (slots + (rm_pa_readRest d).slots) Q (F0 m (pc + 3) ls (ov.toList ++ rest))) : W p l e R s m args below meth c H locs cells slots Q (F0 m pc ls st0) :=
  wo_callV (C := Rc_pa) hx hb hml hown hts hK hG hW hM hkb rfl (gt_of (i := 717) (by decide +kernel) (by decide +kernel)) (gt_of (i := 719) (by decide +kernel) (by decide +kernel)) (gt_sel (i := 19) (by decide +kernel) (by decide +kernel)) (gt_of (i := 2) (by decide +kernel) (by decide +kernel)) (gt_of (i := 720) (by decide +kernel) (by decide +kernel)) (by decide +kernel) hR hf hn hsz hst hcat hdg kk
theorem xv_pa_134 {p : Program} {l : Launch} {e : Env} {R : Room} {s : State} {m : MethodId} {args : Array Value} {below : List Frame} {meth : Method} {c : Code} {H : Heap} {locs : List Loc} {cells slots : Nat} {Q : State → Prop} {D : va_G} {cA : Nat → ClassId} {base : Nat} {w w' : WW} {cc : ByteArray} {pc nL d : Nat} {ls : Array Slot} {rest st0 As : List Value} {E : String} {b : Nat} (hx : p.tables.exec = Jvm.exec) (hb : c.code = cc) (hml : c.maxLocals = nL) (hown : s.vm.findClass Rc_pa = some m.cls) (hts : ∀ w ∈ gt, w.before args s = true) (hK : va_K D cls (wo_tys cA) s) (hG : wo_G cA base s) (hW : wo_S D cls cA base s w H locs) (hM : xt l D cls (wo_tys cA) cA base y_pa_readBlock (Cond.code y_pa_readBlock b_pa_readBlock 3 (some (.object "AlarmForge$Statement")) :: gt) (rx_pa_readBlock d) (.ref (base + b) :: As) w E w' (rx_pa_readBlock d).cells (rx_pa_readBlock d).slots) (hkb : kb w b 2 = true) (hR : (rx_pa_readBlock d).frames + 1 ≤ R.frames ∧ 8 + (3 + 11) + (rx_pa_readBlock d).locals ≤ R.locals) (hf : cells + (rx_pa_readBlock d).cells ≤ R.cells ∧ slots + (rx_pa_readBlock d).slots ≤ R.slots) (hn : As.length = 1) (hsz : ls.size = nL) (hst : st0 = As.reverse ++ .ref (base + b) :: rest) (hcat : (rest.map fun v => v.category).sum ≤ 8) (hdg : decode cc pc = .ok (.invokevirtual 134, 3)) (kk : ∀ (H1 : Heap) (locs1 : List Loc) (q : Addr) (ce : Cell), wo_S D cls cA base s w' H1 locs1 → H1[q]? = some ce → ce.vm = .none → s.vm.findClass E = some ce.cls → XW p l e R s m args below meth c H1 locs1 (cells + (rx_pa_readBlock d).cells) (slots + (rx_pa_readBlock d).slots) Q (F0 m pc ls rest) q) : W p l e R s m args below meth c H locs cells slots Q (F0 m pc ls st0) :=
  wo_xcallV (C := Rc_pa) hx hb hml hown hts hK hG hW hM hkb rfl (gt_of (i := 721) (by decide +kernel) (by decide +kernel)) (gt_of (i := 723) (by decide +kernel) (by decide +kernel)) (gt_sel (i := 20) (by decide +kernel) (by decide +kernel)) (gt_of (i := 2) (by decide +kernel) (by decide +kernel)) (gt_of (i := 724) (by decide +kernel) (by decide +kernel)) (by decide +kernel) hR hf hn hsz hst hcat hdg kk
theorem cv_pa_134 {p : Program} {l : Launch} {e : Env} {R : Room} {s : State} {m : MethodId} {args : Array Value} {below : List Frame} {meth : Method} {c : Code} {H : Heap} {locs : List Loc} {cells slots : Nat} {Q : State → Prop} {D : va_G} {cA : Nat → ClassId} {base : Nat} {w w' : WW} {cc : ByteArray} {pc nL d : Nat} {ls : Array Slot} {rest st0 As : List Value} {ov : Option Value} {b : Nat} (hx : p.tables.exec = Jvm.exec) (hb : c.code = cc) (hml : c.maxLocals = nL) (hown : s.vm.findClass Rc_pa = some m.cls) (hts : ∀ w ∈ gt, w.before args s = true) (hK : va_K D cls (wo_tys cA) s) (hG : wo_G cA base s) (hW : wo_S D cls cA base s w H locs) (hM : mt l D cls (wo_tys cA) cA base y_pa_readBlock (Cond.code y_pa_readBlock b_pa_readBlock 3 (some (.object "AlarmForge$Statement")) :: gt) (rm_pa_readBlock d) (.ref (base + b) :: As) w ov w' (rm_pa_readBlock d).cells (rm_pa_readBlock d).slots) (hkb : kb w b 2 = true) (hR : (rm_pa_readBlock d).frames + 1 ≤ R.frames ∧ 8 + (3 + 11) + (rm_pa_readBlock d).locals ≤ R.locals) (hf : cells + (rm_pa_readBlock d).cells ≤ R.cells ∧ slots + (rm_pa_readBlock d).slots ≤ R.slots) (hn : As.length = 1) (hsz : ls.size = nL) (hst : st0 = As.reverse ++ .ref (base + b) :: rest) (hcat : (rest.map fun v => v.category).sum ≤ 8) (hdg : decode cc pc = .ok (.invokevirtual 134, 3)) (kk : ∀ (H1 : Heap) (locs1 : List Loc), wo_S D cls cA base s w' H1 locs1 → W p l e R s m args below meth c H1 locs1 (cells + (rm_pa_readBlock d).cells) (slots + (rm_pa_readBlock d).slots) Q (F0 m (pc + 3) ls (ov.toList ++ rest))) : W p l e R s m args below meth c H locs cells slots Q (F0 m pc ls st0) :=
  wo_callV (C := Rc_pa) hx hb hml hown hts hK hG hW hM hkb rfl (gt_of (i := 721) (by decide +kernel) (by decide +kernel)) (gt_of (i := 723) (by decide +kernel) (by decide +kernel)) (gt_sel (i := 20) (by decide +kernel) (by decide +kernel)) (gt_of (i := 2) (by decide +kernel) (by decide +kernel)) (gt_of (i := 724) (by decide +kernel) (by decide +kernel)) (by decide +kernel) hR hf hn hsz hst hcat hdg kk
theorem xv_pa_37 {p : Program} {l : Launch} {e : Env} {R : Room} {s : State} {m : MethodId} {args : Array Value} {below : List Frame} {meth : Method} {c : Code} {H : Heap} {locs : List Loc} {cells slots : Nat} {Q : State → Prop} {D : va_G} {cA : Nat → ClassId} {base : Nat} {w w' : WW} {cc : ByteArray} {pc nL d : Nat} {ls : Array Slot} {rest st0 As : List Value} {E : String} {b : Nat} (hx : p.tables.exec = Jvm.exec) (hb : c.code = cc) (hml : c.maxLocals = nL) (hown : s.vm.findClass Rc_pa = some m.cls) (hts : ∀ w ∈ gt, w.before args s = true) (hK : va_K D cls (wo_tys cA) s) (hG : wo_G cA base s) (hW : wo_S D cls cA base s w H locs) (hM : xt l D cls (wo_tys cA) cA base y_pa_readStatements (Cond.code y_pa_readStatements b_pa_readStatements 7 (some (.object "AlarmForge$Statement")) :: gt) (rx_pa_readStatements d) (.ref (base + b) :: As) w E w' (rx_pa_readStatements d).cells (rx_pa_readStatements d).slots) (hkb : kb w b 2 = true) (hR : (rx_pa_readStatements d).frames + 1 ≤ R.frames ∧ 8 + (7 + 11) + (rx_pa_readStatements d).locals ≤ R.locals) (hf : cells + (rx_pa_readStatements d).cells ≤ R.cells ∧ slots + (rx_pa_readStatements d).slots ≤ R.slots) (hn : As.length = 2) (hsz : ls.size = nL) (hst : st0 = As.reverse ++ .ref (base + b) :: rest) (hcat : (rest.map fun v => v.category).sum ≤ 8) (hdg : decode cc pc = .ok (.invokevirtual 37, 3)) (kk : ∀ (H1 : Heap) (locs1 : List Loc) (q : Addr) (ce : Cell), wo_S D cls cA base s w' H1 locs1 → H1[q]? = some ce → ce.vm = .none → s.vm.findClass E = some ce.cls → XW p l e R s m args below meth c H1 locs1 (cells + (rx_pa_readStatements d).cells) (slots + (rx_pa_readStatements d).slots) Q (F0 m pc ls rest) q) : W p l e R s m args below meth c H locs cells slots Q (F0 m pc ls st0) :=
  wo_xcallV (C := Rc_pa) hx hb hml hown hts hK hG hW hM hkb rfl (gt_of (i := 641) (by decide +kernel) (by decide +kernel)) (gt_of (i := 643) (by decide +kernel) (by decide +kernel)) (gt_sel (i := 7) (by decide +kernel) (by decide +kernel)) (gt_of (i := 2) (by decide +kernel) (by decide +kernel)) (gt_of (i := 644) (by decide +kernel) (by decide +kernel)) (by decide +kernel) hR hf hn hsz hst hcat hdg kk
theorem cv_pa_37 {p : Program} {l : Launch} {e : Env} {R : Room} {s : State} {m : MethodId} {args : Array Value} {below : List Frame} {meth : Method} {c : Code} {H : Heap} {locs : List Loc} {cells slots : Nat} {Q : State → Prop} {D : va_G} {cA : Nat → ClassId} {base : Nat} {w w' : WW} {cc : ByteArray} {pc nL d : Nat} {ls : Array Slot} {rest st0 As : List Value} {ov : Option Value} {b : Nat} (hx : p.tables.exec = Jvm.exec) (hb : c.code = cc) (hml : c.maxLocals = nL) (hown : s.vm.findClass Rc_pa = some m.cls) (hts : ∀ w ∈ gt, w.before args s = true) (hK : va_K D cls (wo_tys cA) s) (hG : wo_G cA base s) (hW : wo_S D cls cA base s w H locs) (hM : mt l D cls (wo_tys cA) cA base y_pa_readStatements (Cond.code y_pa_readStatements b_pa_readStatements 7 (some (.object "AlarmForge$Statement")) :: gt) (rm_pa_readStatements d) (.ref (base + b) :: As) w ov w' (rm_pa_readStatements d).cells (rm_pa_readStatements d).slots) (hkb : kb w b 2 = true) (hR : (rm_pa_readStatements d).frames + 1 ≤ R.frames ∧ 8 + (7 + 11) + (rm_pa_readStatements d).locals ≤ R.locals) (hf : cells + (rm_pa_readStatements d).cells ≤ R.cells ∧ slots + (rm_pa_readStatements d).slots ≤ R.slots) (hn : As.length = 2) (hsz : ls.size = nL) (hst : st0 = As.reverse ++ .ref (base + b) :: rest) (hcat : (rest.map fun v => v.category).sum ≤ 8) (hdg : decode cc pc = .ok (.invokevirtual 37, 3)) (kk : ∀ (H1 : Heap) (locs1 : List Loc), wo_S D cls cA base s w' H1 locs1 → W p l e R s m args below meth c H1 locs1 (cells + (rm_pa_readStatements d).cells) (slots + (rm_pa_readStatements d).slots) Q (F0 m (pc + 3) ls (ov.toList ++ rest))) : W p l e R s m args below meth c H locs cells slots Q (F0 m pc ls st0) :=
  wo_callV (C := Rc_pa) hx hb hml hown hts hK hG hW hM hkb rfl (gt_of (i := 641) (by decide +kernel) (by decide +kernel)) (gt_of (i := 643) (by decide +kernel) (by decide +kernel)) (gt_sel (i := 7) (by decide +kernel) (by decide +kernel)) (gt_of (i := 2) (by decide +kernel) (by decide +kernel)) (gt_of (i := 644) (by decide +kernel) (by decide +kernel)) (by decide +kernel) hR hf hn hsz hst hcat hdg kk
theorem d_pa_readStatements_0 : decode b_pa_readStatements 0 = .ok (.aconst_null, 1) := by decide +kernel
theorem d_pa_readStatements_1 : decode b_pa_readStatements 1 = .ok (.astore_n 3, 1) := by decide +kernel
theorem d_pa_readStatements_2 : decode b_pa_readStatements 2 = .ok (.aconst_null, 1) := by decide +kernel
theorem d_pa_readStatements_3 : decode b_pa_readStatements 3 = .ok (.astore 4, 2) := by decide +kernel
theorem d_pa_readStatements_5 : decode b_pa_readStatements 5 = .ok (.iconst 0, 1) := by decide +kernel
theorem d_pa_readStatements_6 : decode b_pa_readStatements 6 = .ok (.istore 5, 2) := by decide +kernel
theorem d_pa_readStatements_8 : decode b_pa_readStatements 8 = .ok (.iload 5, 2) := by decide +kernel
theorem d_pa_readStatements_10 : decode b_pa_readStatements 10 = .ok (.bipush (50), 2) := by decide +kernel
theorem d_pa_readStatements_12 : decode b_pa_readStatements 12 = .ok (.if_icmp .gt (46), 3) := by decide +kernel
theorem d_pa_readStatements_15 : decode b_pa_readStatements 15 = .ok (.aload_n 0, 1) := by decide +kernel
theorem d_pa_readStatements_16 : decode b_pa_readStatements 16 = .ok (.invokevirtual 55, 3) := by decide +kernel
theorem d_pa_readStatements_19 : decode b_pa_readStatements 19 = .ok (.iload_n 1, 1) := by decide +kernel
theorem d_pa_readStatements_20 : decode b_pa_readStatements 20 = .ok (.if_icmp .eq (38), 3) := by decide +kernel
theorem d_pa_readStatements_23 : decode b_pa_readStatements 23 = .ok (.aload_n 0, 1) := by decide +kernel
theorem d_pa_readStatements_24 : decode b_pa_readStatements 24 = .ok (.iload_n 2, 1) := by decide +kernel
theorem d_pa_readStatements_25 : decode b_pa_readStatements 25 = .ok (.invokevirtual 66, 3) := by decide +kernel
theorem d_pa_readStatements_28 : decode b_pa_readStatements 28 = .ok (.astore 6, 2) := by decide +kernel
theorem d_pa_readStatements_30 : decode b_pa_readStatements 30 = .ok (.aload 4, 2) := by decide +kernel
theorem d_pa_readStatements_32 : decode b_pa_readStatements 32 = .ok (.ifnonnull (9), 3) := by decide +kernel
theorem d_pa_readStatements_35 : decode b_pa_readStatements 35 = .ok (.aload 6, 2) := by decide +kernel
theorem d_pa_readStatements_37 : decode b_pa_readStatements 37 = .ok (.astore_n 3, 1) := by decide +kernel
theorem d_pa_readStatements_38 : decode b_pa_readStatements 38 = .ok (.goto (10), 3) := by decide +kernel
theorem d_pa_readStatements_41 : decode b_pa_readStatements 41 = .ok (.aload 4, 2) := by decide +kernel
theorem d_pa_readStatements_43 : decode b_pa_readStatements 43 = .ok (.aload 6, 2) := by decide +kernel
theorem d_pa_readStatements_45 : decode b_pa_readStatements 45 = .ok (.putfield 70, 3) := by decide +kernel
theorem d_pa_readStatements_48 : decode b_pa_readStatements 48 = .ok (.aload 6, 2) := by decide +kernel
theorem d_pa_readStatements_50 : decode b_pa_readStatements 50 = .ok (.astore 4, 2) := by decide +kernel
theorem d_pa_readStatements_52 : decode b_pa_readStatements 52 = .ok (.iinc 5 (1), 3) := by decide +kernel
theorem d_pa_readStatements_55 : decode b_pa_readStatements 55 = .ok (.goto (-47), 3) := by decide +kernel
theorem d_pa_readStatements_58 : decode b_pa_readStatements 58 = .ok (.aload_n 3, 1) := by decide +kernel
theorem d_pa_readStatements_59 : decode b_pa_readStatements 59 = .ok (.areturn, 1) := by decide +kernel
theorem kbo_pa_readStatements {g_pa_readStatements : Nat → Int32 → Int32 → WW → Option ((Option Nat ⊕ String) × WW)} {g_pa_readStatement : Nat → Int32 → WW → Option ((Option Nat ⊕ String) × WW)} {g_pa_readRest : Nat → Option Nat → Int32 → WW → Option ((Unit ⊕ String) × WW)} {g_pa_readBlock : Nat → Int32 → WW → Option ((Option Nat ⊕ String) × WW)} {a0 : Nat} {a1 : Int32} {a2 : Int32} {w : WW} {r : ((Option Nat ⊕ String) × WW)} (h : fo_pa_readStatements g_pa_readStatements g_pa_readStatement g_pa_readRest g_pa_readBlock a0 a1 a2 w = some r) : kb w a0 2 = true := (its h).1
set_option maxHeartbeats 4000000 in
set_option maxRecDepth 100000 in
theorem j_pa_readStatements_58 {p : Program} {l : Launch} {e : Env} {s : State} {m : MethodId} {args : Array Value} {below : List Frame} {meth : Method} {c : Code} {D : va_G} {cA : Nat → ClassId} {base : Nat} {r : Option Nat} {w' : WW} (C : cx b_pa_readStatements (some (.object "AlarmForge$Statement")) 7 y_pa_readStatements.cls "readStatements" p s m args meth c D cA base) {d : Nat} {g_pa_readStatements : Nat → Int32 → Int32 → WW → Option ((Option Nat ⊕ String) × WW)} {g_pa_readStatement : Nat → Int32 → WW → Option ((Option Nat ⊕ String) × WW)} {g_pa_readRest : Nat → Option Nat → Int32 → WW → Option ((Unit ⊕ String) × WW)} {g_pa_readBlock : Nat → Int32 → WW → Option ((Option Nat ⊕ String) × WW)} (HG : sA_pa4 l D cA base d g_pa_readStatements g_pa_readStatement g_pa_readRest g_pa_readBlock )   : ∀ (y3 : Option Nat) (w : WW), f_pa_readStatements_58 g_pa_readStatements g_pa_readStatement g_pa_readRest g_pa_readBlock y3 w = some (.inl r, w') → ∀ (H : Heap) (locs : List Loc) (ls : Array Slot), wo_S D cls cA base s w H locs → lv_has ls 7 [(3, rb base y3)] → W p l e (rm_pa_readStatements (d + 1)) s m args below meth c H locs 0 0 (MQ below (wo_Q D cls cA base (some (rb base r)) w') args s (rm_pa_readStatements (d + 1)).cells (rm_pa_readStatements (d + 1)).slots (wo_B base)) (F0 m 58 ls []) := by
  obtain ⟨hx, hb, hr, hml, hown, hts, hlk, hnm, hK, hG⟩ := id C
  intro y3 w h H locs ls hW hl
  unfold f_pa_readStatements_58 at h
  refine wo_aload_n hx hb d_pa_readStatements_58 rfl (lv_at hl 0 rfl) ?_
  cases h
  exact wo_aret hx hb hr hlk hW d_pa_readStatements_59
set_option maxHeartbeats 4000000 in
set_option maxRecDepth 100000 in
theorem j_pa_readStatements_48 {p : Program} {l : Launch} {e : Env} {s : State} {m : MethodId} {args : Array Value} {below : List Frame} {meth : Method} {c : Code} {D : va_G} {cA : Nat → ClassId} {base : Nat} {r : Option Nat} {w' : WW} (C : cx b_pa_readStatements (some (.object "AlarmForge$Statement")) 7 y_pa_readStatements.cls "readStatements" p s m args meth c D cA base) {d : Nat} {g_pa_readStatements : Nat → Int32 → Int32 → WW → Option ((Option Nat ⊕ String) × WW)} {g_pa_readStatement : Nat → Int32 → WW → Option ((Option Nat ⊕ String) × WW)} {g_pa_readRest : Nat → Option Nat → Int32 → WW → Option ((Unit ⊕ String) × WW)} {g_pa_readBlock : Nat → Int32 → WW → Option ((Option Nat ⊕ String) × WW)} (HG : sA_pa4 l D cA base d g_pa_readStatements g_pa_readStatement g_pa_readRest g_pa_readBlock ) {k_8 : Nat → Int32 → Int32 → Option Nat → Option Nat → Int32 → WW → Option ((Option Nat ⊕ String) × WW)} (hk_8 : ∀ (y0 : Nat) (y1 : Int32) (y2 : Int32) (y3 : Option Nat) (y4 : Option Nat) (y5 : Int32) (w : WW), k_8 y0 y1 y2 y3 y4 y5 w = some (.inl r, w') → ∀ (H : Heap) (locs : List Loc) (ls : Array Slot), wo_S D cls cA base s w H locs → lv_has ls 7 [(0, .ref (base + y0)), (1, .int y1), (2, .int y2), (3, rb base y3), (4, rb base y4), (5, .int y5)] → W p l e (rm_pa_readStatements (d + 1)) s m args below meth c H locs 0 0 (MQ below (wo_Q D cls cA base (some (rb base r)) w') args s (rm_pa_readStatements (d + 1)).cells (rm_pa_readStatements (d + 1)).slots (wo_B base)) (F0 m 8 ls [])) : ∀ (y0 : Nat) (y1 : Int32) (y2 : Int32) (y3 : Option Nat) (y5 : Int32) (y6 : Option Nat) (w : WW), f_pa_readStatements_48 g_pa_readStatements g_pa_readStatement g_pa_readRest g_pa_readBlock k_8 y0 y1 y2 y3 y5 y6 w = some (.inl r, w') → ∀ (H : Heap) (locs : List Loc) (ls : Array Slot), wo_S D cls cA base s w H locs → lv_has ls 7 [(0, .ref (base + y0)), (1, .int y1), (2, .int y2), (3, rb base y3), (5, .int y5), (6, rb base y6)] → W p l e (rm_pa_readStatements (d + 1)) s m args below meth c H locs 0 0 (MQ below (wo_Q D cls cA base (some (rb base r)) w') args s (rm_pa_readStatements (d + 1)).cells (rm_pa_readStatements (d + 1)).slots (wo_B base)) (F0 m 48 ls []) := by
  obtain ⟨hx, hb, hr, hml, hown, hts, hlk, hnm, hK, hG⟩ := id C
  intro y0 y1 y2 y3 y5 y6 w h H locs ls hW hl
  unfold f_pa_readStatements_48 at h
  refine wo_aload hx hb d_pa_readStatements_48 (lv_at hl 5 rfl) ?_
  refine wo_astore (lv' := [(4, rb base y6), (0, .ref (base + y0)), (1, .int y1), (2, .int y2), (3, rb base y3), (5, .int y5), (6, rb base y6)]) hx hb d_pa_readStatements_50 hl (by decide) (by simp [rf_cat]) (fun ls hl => ?_)
  refine lv_iinc (v := (y5 + (1 : Int32))) (lv' := [(5, .int (y5 + (1 : Int32))), (4, rb base y6), (0, .ref (base + y0)), (1, .int y1), (2, .int y2), (3, rb base y3), (6, rb base y6)]) hx hb d_pa_readStatements_52 hl (k := 5) rfl rfl (by decide) (by simp [rf_cat]) (fun ls hl => ?_)
  refine lv_goto (tgt := 8) hx hb d_pa_readStatements_55 (by decide) ?_
  exact hk_8 y0 y1 y2 y3 y6 (y5 + (1 : Int32)) w h _ _ _ hW (lv_sub hl [2, 3, 4, 5, 1, 0] rfl)
set_option maxHeartbeats 4000000 in
set_option maxRecDepth 100000 in
theorem j_pa_readStatements_8 {p : Program} {l : Launch} {e : Env} {s : State} {m : MethodId} {args : Array Value} {below : List Frame} {meth : Method} {c : Code} {D : va_G} {cA : Nat → ClassId} {base : Nat} {r : Option Nat} {w' : WW} (C : cx b_pa_readStatements (some (.object "AlarmForge$Statement")) 7 y_pa_readStatements.cls "readStatements" p s m args meth c D cA base) {d : Nat} {g_pa_readStatements : Nat → Int32 → Int32 → WW → Option ((Option Nat ⊕ String) × WW)} {g_pa_readStatement : Nat → Int32 → WW → Option ((Option Nat ⊕ String) × WW)} {g_pa_readRest : Nat → Option Nat → Int32 → WW → Option ((Unit ⊕ String) × WW)} {g_pa_readBlock : Nat → Int32 → WW → Option ((Option Nat ⊕ String) × WW)} (HG : sA_pa4 l D cA base d g_pa_readStatements g_pa_readStatement g_pa_readRest g_pa_readBlock )   : ∀ n : Nat, ∀ (y0 : Nat) (y1 : Int32) (y2 : Int32) (y3 : Option Nat) (y4 : Option Nat) (y5 : Int32) (w : WW), f_pa_readStatements_8 g_pa_readStatements g_pa_readStatement g_pa_readRest g_pa_readBlock n y0 y1 y2 y3 y4 y5 w = some (.inl r, w') → ∀ (H : Heap) (locs : List Loc) (ls : Array Slot), wo_S D cls cA base s w H locs → lv_has ls 7 [(0, .ref (base + y0)), (1, .int y1), (2, .int y2), (3, rb base y3), (4, rb base y4), (5, .int y5)] → W p l e (rm_pa_readStatements (d + 1)) s m args below meth c H locs 0 0 (MQ below (wo_Q D cls cA base (some (rb base r)) w') args s (rm_pa_readStatements (d + 1)).cells (rm_pa_readStatements (d + 1)).slots (wo_B base)) (F0 m 8 ls []) := by
  obtain ⟨hx, hb, hr, hml, hown, hts, hlk, hnm, hK, hG⟩ := id C
  intro n
  induction n with
  | zero => intro y0 y1 y2 y3 y4 y5 w h; cases h
  | succ n ih =>
    intro y0 y1 y2 y3 y4 y5 w h H locs ls hW hl
    rw [f_pa_readStatements_8] at h
    refine lv_iload hx hb d_pa_readStatements_8 (lv_at hl 5 rfl) ?_
    refine lv_bipush (v := (50 : Int32)) hx hb d_pa_readStatements_10 (by decide) ?_
    refine lv_icmp_gt (tgt := 58) hx hb d_pa_readStatements_12 (by decide) (fun c1 => ?_) (fun c1 => ?_)
    · rw [if_pos c1] at h
      exact j_pa_readStatements_58 C HG y3 w h _ _ _ hW (lv_sub hl [3] rfl)
    · rw [if_neg c1] at h
      refine lv_aload_n hx hb d_pa_readStatements_15 rfl (lv_at hl 0 rfl) ?_
      replace h := bs2 h
      obtain ⟨x3, w2, hw2, h⟩ := h
      refine cv_pa_55 (As := []) (rest := []) hx hb hml hown hts hK hG hW (c_pa_kindHere l D cA base hw2) (kb_pa_kindHere hw2) ⟨by show 0 + 1 ≤ 74 + 1 * (d + 1); omega, by show 8 + (1 + 11) + 0 ≤ 1789 + 26 * (d + 1); omega⟩ ⟨Nat.le_of_ble_eq_true rfl, Nat.le_of_ble_eq_true rfl⟩ rfl hl.1 rfl (Nat.le_of_ble_eq_true rfl) d_pa_readStatements_16 (fun H locs hW => ?_)
      refine lv_iload_n hx hb d_pa_readStatements_19 rfl (lv_at hl 1 rfl) ?_
      refine lv_icmp_eq (tgt := 58) hx hb d_pa_readStatements_20 (by decide) (fun c4 => ?_) (fun c4 => ?_)
      · rw [if_pos c4] at h
        exact j_pa_readStatements_58 C HG y3 w2 h _ _ _ hW (lv_sub hl [3] rfl)
      · rw [if_neg c4] at h
        refine lv_aload_n hx hb d_pa_readStatements_23 rfl (lv_at hl 0 rfl) ?_
        refine lv_iload_n hx hb d_pa_readStatements_24 rfl (lv_at hl 2 rfl) ?_
        replace h := bsx h
        obtain ⟨x6, w5, hw5, h⟩ := h
        refine cv_pa_66 (As := [.int y2]) (rest := []) hx hb hml hown hts hK hG hW (HG.2.1.1 hw5) (HG.2.1.2 hw5) ⟨by show 74 + 1 * d + 1 ≤ 74 + 1 * (d + 1); omega, by show 8 + (4 + 11) + (1789 + 26 * d) ≤ 1789 + 26 * (d + 1); omega⟩ ⟨Nat.le_of_ble_eq_true rfl, Nat.le_of_ble_eq_true rfl⟩ rfl hl.1 rfl (Nat.le_of_ble_eq_true rfl) d_pa_readStatements_25 (fun H locs hW => ?_)
        refine wo_astore (lv' := [(6, rb base x6), (0, .ref (base + y0)), (1, .int y1), (2, .int y2), (3, rb base y3), (4, rb base y4), (5, .int y5)]) hx hb d_pa_readStatements_28 hl (by decide) rfl (fun ls hl => ?_)
        refine wo_aload hx hb d_pa_readStatements_30 (lv_at hl 5 rfl) ?_
        refine wo_ifnonnull (tgt := 41) hx hb d_pa_readStatements_32 (by decide) (fun x7 ex7 => ?_) (fun ex7 => ?_)
        · subst ex7
          dsimp only [nl] at h
          have hl : lv_has ls 7 [(6, rb base x6), (0, .ref (base + y0)), (1, .int y1), (2, .int y2), (3, rb base y3), (4, .ref (base + x7)), (5, .int y5)] := hl
          refine lv_aload hx hb d_pa_readStatements_41 (lv_at hl 5 rfl) ?_
          refine wo_aload hx hb d_pa_readStatements_43 (lv_at hl 0 rfl) ?_
          replace h := bs h
          obtain ⟨w8, hw8, h⟩ := h
          refine pf_pa_70 hx hb hts hown hK hG hW (rf_n _ _ _) (rf_f _ _ _) (pbi hw8 (ub_rf _ _)) d_pa_readStatements_45 (fun H locs hW => ?_)
          exact j_pa_readStatements_48 C HG ih y0 y1 y2 y3 y5 x6 w8 h _ _ _ hW (lv_sub hl [1, 2, 3, 4, 6, 0] rfl)
        · subst ex7
          dsimp only [nl] at h
          have hl : lv_has ls 7 [(6, rb base x6), (0, .ref (base + y0)), (1, .int y1), (2, .int y2), (3, rb base y3), (4, rb base none), (5, .int y5)] := hl
          refine wo_aload hx hb d_pa_readStatements_35 (lv_at hl 0 rfl) ?_
          refine wo_astore_n (lv' := [(3, rb base x6), (6, rb base x6), (0, .ref (base + y0)), (1, .int y1), (2, .int y2), (4, rb base none), (5, .int y5)]) hx hb d_pa_readStatements_37 rfl hl (by decide) rfl (fun ls hl => ?_)
          refine lv_goto (tgt := 48) hx hb d_pa_readStatements_38 (by decide) ?_
          exact j_pa_readStatements_48 C HG ih y0 y1 y2 x6 y5 x6 w5 h _ _ _ hW (lv_sub hl [2, 3, 4, 0, 6, 1] rfl)
set_option maxHeartbeats 4000000 in
set_option maxRecDepth 100000 in
theorem co_pa_readStatements (l : Launch) (D : va_G) (cA : Nat → ClassId) (base : Nat) {d : Nat} {g_pa_readStatements : Nat → Int32 → Int32 → WW → Option ((Option Nat ⊕ String) × WW)} {g_pa_readStatement : Nat → Int32 → WW → Option ((Option Nat ⊕ String) × WW)} {g_pa_readRest : Nat → Option Nat → Int32 → WW → Option ((Unit ⊕ String) × WW)} {g_pa_readBlock : Nat → Int32 → WW → Option ((Option Nat ⊕ String) × WW)} (HG : sA_pa4 l D cA base d g_pa_readStatements g_pa_readStatement g_pa_readRest g_pa_readBlock ) {a0 : Nat} {a1 : Int32} {a2 : Int32} {w w' : WW} {r : Option Nat} (h : fo_pa_readStatements g_pa_readStatements g_pa_readStatement g_pa_readRest g_pa_readBlock a0 a1 a2 w = some (.inl r, w')) : mt l D cls (wo_tys cA) cA base y_pa_readStatements (Cond.code y_pa_readStatements b_pa_readStatements 7 (some (.object "AlarmForge$Statement")) :: gt) (rm_pa_readStatements (d + 1)) [.ref (base + a0), .int a1, .int a2] w (some (rb base r)) w' (rm_pa_readStatements (d + 1)).cells (rm_pa_readStatements (d + 1)).slots := by
  refine mt_start (by decide) (Nat.le_of_ble_eq_true rfl) ?_
  intro p e s m below meth c ls hx hb hr hml hown hts hlk hnm hK hG hW hl
  have C : cx b_pa_readStatements (some (.object "AlarmForge$Statement")) 7 y_pa_readStatements.cls "readStatements" p s m [.ref (base + a0), .int a1, .int a2].toArray meth c D cA base := ⟨hx, hb, hr, hml, hown, hts, hlk, hnm, hK, hG⟩
  have hl : lv_has ls 7 [(0, .ref (base + a0)), (1, .int a1), (2, .int a2)] := hl
  unfold fo_pa_readStatements at h
  replace h := its h
  obtain ⟨-, h⟩ := h
  refine wo_null (base := base) hx hb d_pa_readStatements_0 ?_
  refine wo_astore_n (lv' := [(3, rb base none), (0, .ref (base + a0)), (1, .int a1), (2, .int a2)]) hx hb d_pa_readStatements_1 rfl hl (by decide) rfl (fun ls hl => ?_)
  refine wo_null (base := base) hx hb d_pa_readStatements_2 ?_
  refine wo_astore (lv' := [(4, rb base none), (3, rb base none), (0, .ref (base + a0)), (1, .int a1), (2, .int a2)]) hx hb d_pa_readStatements_3 hl (by decide) (by simp [rf_cat]) (fun ls hl => ?_)
  refine lv_iconst (v := (0 : Int32)) hx hb d_pa_readStatements_5 (by decide) ?_
  refine lv_istore (lv' := [(5, .int (0 : Int32)), (4, rb base none), (3, rb base none), (0, .ref (base + a0)), (1, .int a1), (2, .int a2)]) hx hb d_pa_readStatements_6 hl (by decide) (by simp [rf_cat]) (fun ls hl => ?_)
  exact j_pa_readStatements_8 C HG KK a0 a1 a2 none none (0 : Int32) w h _ _ _ hW (lv_sub hl [3, 4, 5, 2, 1, 0] rfl)
set_option maxHeartbeats 4000000 in
set_option maxRecDepth 100000 in
theorem jx_pa_readStatements_58 {p : Program} {l : Launch} {e : Env} {s : State} {m : MethodId} {args : Array Value} {below : List Frame} {meth : Method} {c : Code} {D : va_G} {cA : Nat → ClassId} {base : Nat} {E : String} {w' : WW} (C : cx b_pa_readStatements (some (.object "AlarmForge$Statement")) 7 y_pa_readStatements.cls "readStatements" p s m args meth c D cA base ∧ (∀ x ∈ c.exceptionTable.toList, ∀ k : Nat, covers x k = false) ∧ l.stackTraces = false) {d : Nat} {g_pa_readStatements : Nat → Int32 → Int32 → WW → Option ((Option Nat ⊕ String) × WW)} {g_pa_readStatement : Nat → Int32 → WW → Option ((Option Nat ⊕ String) × WW)} {g_pa_readRest : Nat → Option Nat → Int32 → WW → Option ((Unit ⊕ String) × WW)} {g_pa_readBlock : Nat → Int32 → WW → Option ((Option Nat ⊕ String) × WW)} (HG : sA_pa4 l D cA base d g_pa_readStatements g_pa_readStatement g_pa_readRest g_pa_readBlock ) (HX : sX_pa4 l D cA base d g_pa_readStatements g_pa_readStatement g_pa_readRest g_pa_readBlock )   : ∀ (y3 : Option Nat) (w : WW), f_pa_readStatements_58 g_pa_readStatements g_pa_readStatement g_pa_readRest g_pa_readBlock y3 w = some (.inr E, w') → ∀ (H : Heap) (locs : List Loc) (ls : Array Slot), wo_S D cls cA base s w H locs → lv_has ls 7 [(3, rb base y3)] → W p l e (rx_pa_readStatements (d + 1)) s m args below meth c H locs 0 0 (XQ below (wo_X D cls cA base E w' (rx_pa_readStatements (d + 1)).cells (rx_pa_readStatements (d + 1)).slots) args s) (F0 m 58 ls []) := by
  obtain ⟨hx, hb, hr, hml, hown, hts, hlk, hnm, hK, hG⟩ := id C.1
  have hnt := C.2.1
  have hst := C.2.2
  intro y3 w h H locs ls hW hl
  unfold f_pa_readStatements_58 at h
  refine wo_aload_n hx hb d_pa_readStatements_58 rfl (lv_at hl 0 rfl) ?_
  cases h
set_option maxHeartbeats 4000000 in
set_option maxRecDepth 100000 in
theorem jx_pa_readStatements_48 {p : Program} {l : Launch} {e : Env} {s : State} {m : MethodId} {args : Array Value} {below : List Frame} {meth : Method} {c : Code} {D : va_G} {cA : Nat → ClassId} {base : Nat} {E : String} {w' : WW} (C : cx b_pa_readStatements (some (.object "AlarmForge$Statement")) 7 y_pa_readStatements.cls "readStatements" p s m args meth c D cA base ∧ (∀ x ∈ c.exceptionTable.toList, ∀ k : Nat, covers x k = false) ∧ l.stackTraces = false) {d : Nat} {g_pa_readStatements : Nat → Int32 → Int32 → WW → Option ((Option Nat ⊕ String) × WW)} {g_pa_readStatement : Nat → Int32 → WW → Option ((Option Nat ⊕ String) × WW)} {g_pa_readRest : Nat → Option Nat → Int32 → WW → Option ((Unit ⊕ String) × WW)} {g_pa_readBlock : Nat → Int32 → WW → Option ((Option Nat ⊕ String) × WW)} (HG : sA_pa4 l D cA base d g_pa_readStatements g_pa_readStatement g_pa_readRest g_pa_readBlock ) (HX : sX_pa4 l D cA base d g_pa_readStatements g_pa_readStatement g_pa_readRest g_pa_readBlock ) {k_8 : Nat → Int32 → Int32 → Option Nat → Option Nat → Int32 → WW → Option ((Option Nat ⊕ String) × WW)} (hk_8 : ∀ (y0 : Nat) (y1 : Int32) (y2 : Int32) (y3 : Option Nat) (y4 : Option Nat) (y5 : Int32) (w : WW), k_8 y0 y1 y2 y3 y4 y5 w = some (.inr E, w') → ∀ (H : Heap) (locs : List Loc) (ls : Array Slot), wo_S D cls cA base s w H locs → lv_has ls 7 [(0, .ref (base + y0)), (1, .int y1), (2, .int y2), (3, rb base y3), (4, rb base y4), (5, .int y5)] → W p l e (rx_pa_readStatements (d + 1)) s m args below meth c H locs 0 0 (XQ below (wo_X D cls cA base E w' (rx_pa_readStatements (d + 1)).cells (rx_pa_readStatements (d + 1)).slots) args s) (F0 m 8 ls [])) : ∀ (y0 : Nat) (y1 : Int32) (y2 : Int32) (y3 : Option Nat) (y5 : Int32) (y6 : Option Nat) (w : WW), f_pa_readStatements_48 g_pa_readStatements g_pa_readStatement g_pa_readRest g_pa_readBlock k_8 y0 y1 y2 y3 y5 y6 w = some (.inr E, w') → ∀ (H : Heap) (locs : List Loc) (ls : Array Slot), wo_S D cls cA base s w H locs → lv_has ls 7 [(0, .ref (base + y0)), (1, .int y1), (2, .int y2), (3, rb base y3), (5, .int y5), (6, rb base y6)] → W p l e (rx_pa_readStatements (d + 1)) s m args below meth c H locs 0 0 (XQ below (wo_X D cls cA base E w' (rx_pa_readStatements (d + 1)).cells (rx_pa_readStatements (d + 1)).slots) args s) (F0 m 48 ls []) := by
  obtain ⟨hx, hb, hr, hml, hown, hts, hlk, hnm, hK, hG⟩ := id C.1
  have hnt := C.2.1
  have hst := C.2.2
  intro y0 y1 y2 y3 y5 y6 w h H locs ls hW hl
  unfold f_pa_readStatements_48 at h
  refine wo_aload hx hb d_pa_readStatements_48 (lv_at hl 5 rfl) ?_
  refine wo_astore (lv' := [(4, rb base y6), (0, .ref (base + y0)), (1, .int y1), (2, .int y2), (3, rb base y3), (5, .int y5), (6, rb base y6)]) hx hb d_pa_readStatements_50 hl (by decide) (by simp [rf_cat]) (fun ls hl => ?_)
  refine lv_iinc (v := (y5 + (1 : Int32))) (lv' := [(5, .int (y5 + (1 : Int32))), (4, rb base y6), (0, .ref (base + y0)), (1, .int y1), (2, .int y2), (3, rb base y3), (6, rb base y6)]) hx hb d_pa_readStatements_52 hl (k := 5) rfl rfl (by decide) (by simp [rf_cat]) (fun ls hl => ?_)
  refine lv_goto (tgt := 8) hx hb d_pa_readStatements_55 (by decide) ?_
  exact hk_8 y0 y1 y2 y3 y6 (y5 + (1 : Int32)) w h _ _ _ hW (lv_sub hl [2, 3, 4, 5, 1, 0] rfl)
set_option maxHeartbeats 4000000 in
set_option maxRecDepth 100000 in
theorem jx_pa_readStatements_8 {p : Program} {l : Launch} {e : Env} {s : State} {m : MethodId} {args : Array Value} {below : List Frame} {meth : Method} {c : Code} {D : va_G} {cA : Nat → ClassId} {base : Nat} {E : String} {w' : WW} (C : cx b_pa_readStatements (some (.object "AlarmForge$Statement")) 7 y_pa_readStatements.cls "readStatements" p s m args meth c D cA base ∧ (∀ x ∈ c.exceptionTable.toList, ∀ k : Nat, covers x k = false) ∧ l.stackTraces = false) {d : Nat} {g_pa_readStatements : Nat → Int32 → Int32 → WW → Option ((Option Nat ⊕ String) × WW)} {g_pa_readStatement : Nat → Int32 → WW → Option ((Option Nat ⊕ String) × WW)} {g_pa_readRest : Nat → Option Nat → Int32 → WW → Option ((Unit ⊕ String) × WW)} {g_pa_readBlock : Nat → Int32 → WW → Option ((Option Nat ⊕ String) × WW)} (HG : sA_pa4 l D cA base d g_pa_readStatements g_pa_readStatement g_pa_readRest g_pa_readBlock ) (HX : sX_pa4 l D cA base d g_pa_readStatements g_pa_readStatement g_pa_readRest g_pa_readBlock )   : ∀ n : Nat, ∀ (y0 : Nat) (y1 : Int32) (y2 : Int32) (y3 : Option Nat) (y4 : Option Nat) (y5 : Int32) (w : WW), f_pa_readStatements_8 g_pa_readStatements g_pa_readStatement g_pa_readRest g_pa_readBlock n y0 y1 y2 y3 y4 y5 w = some (.inr E, w') → ∀ (H : Heap) (locs : List Loc) (ls : Array Slot), wo_S D cls cA base s w H locs → lv_has ls 7 [(0, .ref (base + y0)), (1, .int y1), (2, .int y2), (3, rb base y3), (4, rb base y4), (5, .int y5)] → W p l e (rx_pa_readStatements (d + 1)) s m args below meth c H locs 0 0 (XQ below (wo_X D cls cA base E w' (rx_pa_readStatements (d + 1)).cells (rx_pa_readStatements (d + 1)).slots) args s) (F0 m 8 ls []) := by
  obtain ⟨hx, hb, hr, hml, hown, hts, hlk, hnm, hK, hG⟩ := id C.1
  have hnt := C.2.1
  have hst := C.2.2
  intro n
  induction n with
  | zero => intro y0 y1 y2 y3 y4 y5 w h; cases h
  | succ n ih =>
    intro y0 y1 y2 y3 y4 y5 w h H locs ls hW hl
    rw [f_pa_readStatements_8] at h
    refine lv_iload hx hb d_pa_readStatements_8 (lv_at hl 5 rfl) ?_
    refine lv_bipush (v := (50 : Int32)) hx hb d_pa_readStatements_10 (by decide) ?_
    refine lv_icmp_gt (tgt := 58) hx hb d_pa_readStatements_12 (by decide) (fun c1 => ?_) (fun c1 => ?_)
    · rw [if_pos c1] at h
      exact jx_pa_readStatements_58 C HG HX y3 w h _ _ _ hW (lv_sub hl [3] rfl)
    · rw [if_neg c1] at h
      refine lv_aload_n hx hb d_pa_readStatements_15 rfl (lv_at hl 0 rfl) ?_
      replace h := bs2 h
      obtain ⟨x3, w2, hw2, h⟩ := h
      refine cv_pa_55 (As := []) (rest := []) hx hb hml hown hts hK hG hW (c_pa_kindHere l D cA base hw2) (kb_pa_kindHere hw2) ⟨by show 0 + 1 ≤ 74 + 1 * (d + 1); omega, by show 8 + (1 + 11) + 0 ≤ 1789 + 26 * (d + 1); omega⟩ ⟨Nat.le_of_ble_eq_true rfl, Nat.le_of_ble_eq_true rfl⟩ rfl hl.1 rfl (Nat.le_of_ble_eq_true rfl) d_pa_readStatements_16 (fun H locs hW => ?_)
      refine lv_iload_n hx hb d_pa_readStatements_19 rfl (lv_at hl 1 rfl) ?_
      refine lv_icmp_eq (tgt := 58) hx hb d_pa_readStatements_20 (by decide) (fun c4 => ?_) (fun c4 => ?_)
      · rw [if_pos c4] at h
        exact jx_pa_readStatements_58 C HG HX y3 w2 h _ _ _ hW (lv_sub hl [3] rfl)
      · rw [if_neg c4] at h
        refine lv_aload_n hx hb d_pa_readStatements_23 rfl (lv_at hl 0 rfl) ?_
        refine lv_iload_n hx hb d_pa_readStatements_24 rfl (lv_at hl 2 rfl) ?_
        rcases bsy h with hw5 | ⟨x6, w5, hw5, hnw5⟩
        · exact xv_pa_66 (As := [.int y2]) (rest := []) hx hb hml hown hts hK hG hW (HX.2.1 hw5) (HG.2.1.2 hw5) ⟨by show 74 + 1 * d + 1 ≤ 74 + 1 * (d + 1); omega, by show 8 + (4 + 11) + (1789 + 26 * d) ≤ 1789 + 26 * (d + 1); omega⟩ ⟨Nat.le_of_ble_eq_true rfl, Nat.le_of_ble_eq_true rfl⟩ rfl hl.1 rfl (Nat.le_of_ble_eq_true rfl) d_pa_readStatements_25 (fun H locs q ce hW h1 h2 h3 => wo_xout hnt hlk hW h1 h2 h3 (Nat.le_of_ble_eq_true rfl) (Nat.le_of_ble_eq_true rfl))
        clear h
        have h := hnw5
        clear hnw5
        refine cv_pa_66 (As := [.int y2]) (rest := []) hx hb hml hown hts hK hG hW (HG.2.1.1 hw5) (HG.2.1.2 hw5) ⟨by show 74 + 1 * d + 1 ≤ 74 + 1 * (d + 1); omega, by show 8 + (4 + 11) + (1789 + 26 * d) ≤ 1789 + 26 * (d + 1); omega⟩ ⟨Nat.le_of_ble_eq_true rfl, Nat.le_of_ble_eq_true rfl⟩ rfl hl.1 rfl (Nat.le_of_ble_eq_true rfl) d_pa_readStatements_25 (fun H locs hW => ?_)
        refine wo_astore (lv' := [(6, rb base x6), (0, .ref (base + y0)), (1, .int y1), (2, .int y2), (3, rb base y3), (4, rb base y4), (5, .int y5)]) hx hb d_pa_readStatements_28 hl (by decide) rfl (fun ls hl => ?_)
        refine wo_aload hx hb d_pa_readStatements_30 (lv_at hl 5 rfl) ?_
        refine wo_ifnonnull (tgt := 41) hx hb d_pa_readStatements_32 (by decide) (fun x7 ex7 => ?_) (fun ex7 => ?_)
        · subst ex7
          dsimp only [nl] at h
          have hl : lv_has ls 7 [(6, rb base x6), (0, .ref (base + y0)), (1, .int y1), (2, .int y2), (3, rb base y3), (4, .ref (base + x7)), (5, .int y5)] := hl
          refine lv_aload hx hb d_pa_readStatements_41 (lv_at hl 5 rfl) ?_
          refine wo_aload hx hb d_pa_readStatements_43 (lv_at hl 0 rfl) ?_
          replace h := bs h
          obtain ⟨w8, hw8, h⟩ := h
          refine pf_pa_70 hx hb hts hown hK hG hW (rf_n _ _ _) (rf_f _ _ _) (pbi hw8 (ub_rf _ _)) d_pa_readStatements_45 (fun H locs hW => ?_)
          exact jx_pa_readStatements_48 C HG HX ih y0 y1 y2 y3 y5 x6 w8 h _ _ _ hW (lv_sub hl [1, 2, 3, 4, 6, 0] rfl)
        · subst ex7
          dsimp only [nl] at h
          have hl : lv_has ls 7 [(6, rb base x6), (0, .ref (base + y0)), (1, .int y1), (2, .int y2), (3, rb base y3), (4, rb base none), (5, .int y5)] := hl
          refine wo_aload hx hb d_pa_readStatements_35 (lv_at hl 0 rfl) ?_
          refine wo_astore_n (lv' := [(3, rb base x6), (6, rb base x6), (0, .ref (base + y0)), (1, .int y1), (2, .int y2), (4, rb base none), (5, .int y5)]) hx hb d_pa_readStatements_37 rfl hl (by decide) rfl (fun ls hl => ?_)
          refine lv_goto (tgt := 48) hx hb d_pa_readStatements_38 (by decide) ?_
          exact jx_pa_readStatements_48 C HG HX ih y0 y1 y2 x6 y5 x6 w5 h _ _ _ hW (lv_sub hl [2, 3, 4, 0, 6, 1] rfl)
set_option maxHeartbeats 4000000 in
set_option maxRecDepth 100000 in
theorem xo_pa_readStatements (l : Launch) (hst : l.stackTraces = false) (D : va_G) (cA : Nat → ClassId) (base : Nat) {d : Nat} {g_pa_readStatements : Nat → Int32 → Int32 → WW → Option ((Option Nat ⊕ String) × WW)} {g_pa_readStatement : Nat → Int32 → WW → Option ((Option Nat ⊕ String) × WW)} {g_pa_readRest : Nat → Option Nat → Int32 → WW → Option ((Unit ⊕ String) × WW)} {g_pa_readBlock : Nat → Int32 → WW → Option ((Option Nat ⊕ String) × WW)} (HG : sA_pa4 l D cA base d g_pa_readStatements g_pa_readStatement g_pa_readRest g_pa_readBlock ) (HX : sX_pa4 l D cA base d g_pa_readStatements g_pa_readStatement g_pa_readRest g_pa_readBlock ) {a0 : Nat} {a1 : Int32} {a2 : Int32} {w w' : WW} {E : String} (h : fo_pa_readStatements g_pa_readStatements g_pa_readStatement g_pa_readRest g_pa_readBlock a0 a1 a2 w = some (.inr E, w')) : xt l D cls (wo_tys cA) cA base y_pa_readStatements (Cond.code y_pa_readStatements b_pa_readStatements 7 (some (.object "AlarmForge$Statement")) :: gt) (rx_pa_readStatements (d + 1)) [.ref (base + a0), .int a1, .int a2] w E w' (rx_pa_readStatements (d + 1)).cells (rx_pa_readStatements (d + 1)).slots := by
  refine xt_start (by decide) (Nat.le_of_ble_eq_true rfl) ?_
  intro p e s m below meth c ls hx hb hr hml hown hts hlk hnm hK hG hW hl hnt
  have C : cx b_pa_readStatements (some (.object "AlarmForge$Statement")) 7 y_pa_readStatements.cls "readStatements" p s m [.ref (base + a0), .int a1, .int a2].toArray meth c D cA base ∧ (∀ x ∈ c.exceptionTable.toList, ∀ k : Nat, covers x k = false) ∧ l.stackTraces = false := ⟨⟨hx, hb, hr, hml, hown, hts, hlk, hnm, hK, hG⟩, hnt, hst⟩
  have hl : lv_has ls 7 [(0, .ref (base + a0)), (1, .int a1), (2, .int a2)] := hl
  unfold fo_pa_readStatements at h
  replace h := its h
  obtain ⟨-, h⟩ := h
  refine wo_null (base := base) hx hb d_pa_readStatements_0 ?_
  refine wo_astore_n (lv' := [(3, rb base none), (0, .ref (base + a0)), (1, .int a1), (2, .int a2)]) hx hb d_pa_readStatements_1 rfl hl (by decide) rfl (fun ls hl => ?_)
  refine wo_null (base := base) hx hb d_pa_readStatements_2 ?_
  refine wo_astore (lv' := [(4, rb base none), (3, rb base none), (0, .ref (base + a0)), (1, .int a1), (2, .int a2)]) hx hb d_pa_readStatements_3 hl (by decide) (by simp [rf_cat]) (fun ls hl => ?_)
  refine lv_iconst (v := (0 : Int32)) hx hb d_pa_readStatements_5 (by decide) ?_
  refine lv_istore (lv' := [(5, .int (0 : Int32)), (4, rb base none), (3, rb base none), (0, .ref (base + a0)), (1, .int a1), (2, .int a2)]) hx hb d_pa_readStatements_6 hl (by decide) (by simp [rf_cat]) (fun ls hl => ?_)
  exact jx_pa_readStatements_8 C HG HX KK a0 a1 a2 none none (0 : Int32) w h _ _ _ hW (lv_sub hl [3, 4, 5, 2, 1, 0] rfl)
theorem d_pa_readStatement_0 : decode b_pa_readStatement 0 = .ok (.aload_n 0, 1) := by decide +kernel
theorem d_pa_readStatement_1 : decode b_pa_readStatement 1 = .ok (.invokevirtual 55, 3) := by decide +kernel
theorem d_pa_readStatement_4 : decode b_pa_readStatement 4 = .ok (.istore_n 2, 1) := by decide +kernel
theorem d_pa_readStatement_5 : decode b_pa_readStatement 5 = .ok (.aload_n 0, 1) := by decide +kernel
theorem d_pa_readStatement_6 : decode b_pa_readStatement 6 = .ok (.iload_n 2, 1) := by decide +kernel
theorem d_pa_readStatement_7 : decode b_pa_readStatement 7 = .ok (.invokestatic 75, 3) := by decide +kernel
theorem d_pa_readStatement_10 : decode b_pa_readStatement 10 = .ok (.ifCond .eq (17), 3) := by decide +kernel
theorem d_pa_readStatement_13 : decode b_pa_readStatement 13 = .ok (.aload_n 0, 1) := by decide +kernel
theorem d_pa_readStatement_14 : decode b_pa_readStatement 14 = .ok (.getfield 22, 3) := by decide +kernel
theorem d_pa_readStatement_17 : decode b_pa_readStatement 17 = .ok (.invokevirtual 79, 3) := by decide +kernel
theorem d_pa_readStatement_20 : decode b_pa_readStatement 20 = .ok (.ifCond .ne (7), 3) := by decide +kernel
theorem d_pa_readStatement_23 : decode b_pa_readStatement 23 = .ok (.iconst 1, 1) := by decide +kernel
theorem d_pa_readStatement_24 : decode b_pa_readStatement 24 = .ok (.goto (4), 3) := by decide +kernel
theorem d_pa_readStatement_27 : decode b_pa_readStatement 27 = .ok (.iconst 0, 1) := by decide +kernel
theorem d_pa_readStatement_28 : decode b_pa_readStatement 28 = .ok (.invokevirtual 59, 3) := by decide +kernel
theorem d_pa_readStatement_31 : decode b_pa_readStatement 31 = .ok (.aload_n 0, 1) := by decide +kernel
theorem d_pa_readStatement_32 : decode b_pa_readStatement 32 = .ok (.getfield 22, 3) := by decide +kernel
theorem d_pa_readStatement_35 : decode b_pa_readStatement 35 = .ok (.invokevirtual 83, 3) := by decide +kernel
theorem d_pa_readStatement_38 : decode b_pa_readStatement 38 = .ok (.astore_n 3, 1) := by decide +kernel
theorem d_pa_readStatement_39 : decode b_pa_readStatement 39 = .ok (.aload_n 3, 1) := by decide +kernel
theorem d_pa_readStatement_40 : decode b_pa_readStatement 40 = .ok (.iload_n 2, 1) := by decide +kernel
theorem d_pa_readStatement_41 : decode b_pa_readStatement 41 = .ok (.aload_n 0, 1) := by decide +kernel
theorem d_pa_readStatement_42 : decode b_pa_readStatement 42 = .ok (.getfield 12, 3) := by decide +kernel
theorem d_pa_readStatement_45 : decode b_pa_readStatement 45 = .ok (.getfield 49, 3) := by decide +kernel
theorem d_pa_readStatement_48 : decode b_pa_readStatement 48 = .ok (.aload_n 0, 1) := by decide +kernel
theorem d_pa_readStatement_49 : decode b_pa_readStatement 49 = .ok (.getfield 34, 3) := by decide +kernel
theorem d_pa_readStatement_52 : decode b_pa_readStatement 52 = .ok (.iaload, 1) := by decide +kernel
theorem d_pa_readStatement_53 : decode b_pa_readStatement 53 = .ok (.aload_n 0, 1) := by decide +kernel
theorem d_pa_readStatement_54 : decode b_pa_readStatement 54 = .ok (.getfield 12, 3) := by decide +kernel
theorem d_pa_readStatement_57 : decode b_pa_readStatement 57 = .ok (.getfield 87, 3) := by decide +kernel
theorem d_pa_readStatement_60 : decode b_pa_readStatement 60 = .ok (.aload_n 0, 1) := by decide +kernel
theorem d_pa_readStatement_61 : decode b_pa_readStatement 61 = .ok (.getfield 34, 3) := by decide +kernel
theorem d_pa_readStatement_64 : decode b_pa_readStatement 64 = .ok (.iaload, 1) := by decide +kernel
theorem d_pa_readStatement_65 : decode b_pa_readStatement 65 = .ok (.invokevirtual 90, 3) := by decide +kernel
theorem d_pa_readStatement_68 : decode b_pa_readStatement 68 = .ok (.aload_n 0, 1) := by decide +kernel
theorem d_pa_readStatement_69 : decode b_pa_readStatement 69 = .ok (.invokevirtual 63, 3) := by decide +kernel
theorem d_pa_readStatement_72 : decode b_pa_readStatement 72 = .ok (.iload_n 2, 1) := by decide +kernel
theorem d_pa_readStatement_73 : decode b_pa_readStatement 73 = .ok (.iconst 2, 1) := by decide +kernel
theorem d_pa_readStatement_74 : decode b_pa_readStatement 74 = .ok (.if_icmp .ne (11), 3) := by decide +kernel
theorem d_pa_readStatement_77 : decode b_pa_readStatement 77 = .ok (.aload_n 0, 1) := by decide +kernel
theorem d_pa_readStatement_78 : decode b_pa_readStatement 78 = .ok (.aload_n 3, 1) := by decide +kernel
theorem d_pa_readStatement_79 : decode b_pa_readStatement 79 = .ok (.invokevirtual 94, 3) := by decide +kernel
theorem d_pa_readStatement_82 : decode b_pa_readStatement 82 = .ok (.goto (27), 3) := by decide +kernel
theorem d_pa_readStatement_85 : decode b_pa_readStatement 85 = .ok (.iload_n 2, 1) := by decide +kernel
theorem d_pa_readStatement_86 : decode b_pa_readStatement 86 = .ok (.iconst 3, 1) := by decide +kernel
theorem d_pa_readStatement_87 : decode b_pa_readStatement 87 = .ok (.if_icmp .ne (11), 3) := by decide +kernel
theorem d_pa_readStatement_90 : decode b_pa_readStatement 90 = .ok (.aload_n 0, 1) := by decide +kernel
theorem d_pa_readStatement_91 : decode b_pa_readStatement 91 = .ok (.aload_n 3, 1) := by decide +kernel
theorem d_pa_readStatement_92 : decode b_pa_readStatement 92 = .ok (.invokevirtual 98, 3) := by decide +kernel
theorem d_pa_readStatement_95 : decode b_pa_readStatement 95 = .ok (.goto (14), 3) := by decide +kernel
theorem d_pa_readStatement_98 : decode b_pa_readStatement 98 = .ok (.aload_n 0, 1) := by decide +kernel
theorem d_pa_readStatement_99 : decode b_pa_readStatement 99 = .ok (.aload_n 3, 1) := by decide +kernel
theorem d_pa_readStatement_100 : decode b_pa_readStatement 100 = .ok (.invokevirtual 101, 3) := by decide +kernel
theorem d_pa_readStatement_103 : decode b_pa_readStatement 103 = .ok (.aload_n 0, 1) := by decide +kernel
theorem d_pa_readStatement_104 : decode b_pa_readStatement 104 = .ok (.aload_n 3, 1) := by decide +kernel
theorem d_pa_readStatement_105 : decode b_pa_readStatement 105 = .ok (.iload_n 1, 1) := by decide +kernel
theorem d_pa_readStatement_106 : decode b_pa_readStatement 106 = .ok (.invokevirtual 104, 3) := by decide +kernel
theorem d_pa_readStatement_109 : decode b_pa_readStatement 109 = .ok (.aload_n 3, 1) := by decide +kernel
theorem d_pa_readStatement_110 : decode b_pa_readStatement 110 = .ok (.areturn, 1) := by decide +kernel
theorem kbo_pa_readStatement {g_pa_readStatements : Nat → Int32 → Int32 → WW → Option ((Option Nat ⊕ String) × WW)} {g_pa_readStatement : Nat → Int32 → WW → Option ((Option Nat ⊕ String) × WW)} {g_pa_readRest : Nat → Option Nat → Int32 → WW → Option ((Unit ⊕ String) × WW)} {g_pa_readBlock : Nat → Int32 → WW → Option ((Option Nat ⊕ String) × WW)} {a0 : Nat} {a1 : Int32} {w : WW} {r : ((Option Nat ⊕ String) × WW)} (h : fo_pa_readStatement g_pa_readStatements g_pa_readStatement g_pa_readRest g_pa_readBlock a0 a1 w = some r) : kb w a0 2 = true := (its h).1
set_option maxHeartbeats 4000000 in
set_option maxRecDepth 100000 in
theorem j_pa_readStatement_109 {p : Program} {l : Launch} {e : Env} {s : State} {m : MethodId} {args : Array Value} {below : List Frame} {meth : Method} {c : Code} {D : va_G} {cA : Nat → ClassId} {base : Nat} {r : Option Nat} {w' : WW} (C : cx b_pa_readStatement (some (.object "AlarmForge$Statement")) 4 y_pa_readStatement.cls "readStatement" p s m args meth c D cA base) {d : Nat} {g_pa_readStatements : Nat → Int32 → Int32 → WW → Option ((Option Nat ⊕ String) × WW)} {g_pa_readStatement : Nat → Int32 → WW → Option ((Option Nat ⊕ String) × WW)} {g_pa_readRest : Nat → Option Nat → Int32 → WW → Option ((Unit ⊕ String) × WW)} {g_pa_readBlock : Nat → Int32 → WW → Option ((Option Nat ⊕ String) × WW)} (HG : sA_pa4 l D cA base d g_pa_readStatements g_pa_readStatement g_pa_readRest g_pa_readBlock )   : ∀ (y3 : Nat) (w : WW), f_pa_readStatement_109 g_pa_readStatements g_pa_readStatement g_pa_readRest g_pa_readBlock y3 w = some (.inl r, w') → ∀ (H : Heap) (locs : List Loc) (ls : Array Slot), wo_S D cls cA base s w H locs → lv_has ls 4 [(3, .ref (base + y3))] → W p l e (rm_pa_readStatement (d + 1)) s m args below meth c H locs 0 0 (MQ below (wo_Q D cls cA base (some (rb base r)) w') args s (rm_pa_readStatement (d + 1)).cells (rm_pa_readStatement (d + 1)).slots (wo_B base)) (F0 m 109 ls []) := by
  obtain ⟨hx, hb, hr, hml, hown, hts, hlk, hnm, hK, hG⟩ := id C
  intro y3 w h H locs ls hW hl
  unfold f_pa_readStatement_109 at h
  refine lv_aload_n hx hb d_pa_readStatement_109 rfl (lv_at hl 0 rfl) ?_
  cases h
  exact wo_aret hx hb hr hlk hW d_pa_readStatement_110
set_option maxHeartbeats 4000000 in
set_option maxRecDepth 100000 in
theorem j_pa_readStatement_28 {p : Program} {l : Launch} {e : Env} {s : State} {m : MethodId} {args : Array Value} {below : List Frame} {meth : Method} {c : Code} {D : va_G} {cA : Nat → ClassId} {base : Nat} {r : Option Nat} {w' : WW} (C : cx b_pa_readStatement (some (.object "AlarmForge$Statement")) 4 y_pa_readStatement.cls "readStatement" p s m args meth c D cA base) {d : Nat} {g_pa_readStatements : Nat → Int32 → Int32 → WW → Option ((Option Nat ⊕ String) × WW)} {g_pa_readStatement : Nat → Int32 → WW → Option ((Option Nat ⊕ String) × WW)} {g_pa_readRest : Nat → Option Nat → Int32 → WW → Option ((Unit ⊕ String) × WW)} {g_pa_readBlock : Nat → Int32 → WW → Option ((Option Nat ⊕ String) × WW)} (HG : sA_pa4 l D cA base d g_pa_readStatements g_pa_readStatement g_pa_readRest g_pa_readBlock )   : ∀ (y0 : Nat) (y1 : Int32) (y2 : Int32) (z0 : Nat) (z1 : Int32) (w : WW), f_pa_readStatement_28 g_pa_readStatements g_pa_readStatement g_pa_readRest g_pa_readBlock y0 y1 y2 z0 z1 w = some (.inl r, w') → ∀ (H : Heap) (locs : List Loc) (ls : Array Slot), wo_S D cls cA base s w H locs → lv_has ls 4 [(0, .ref (base + y0)), (1, .int y1), (2, .int y2)] → W p l e (rm_pa_readStatement (d + 1)) s m args below meth c H locs 0 0 (MQ below (wo_Q D cls cA base (some (rb base r)) w') args s (rm_pa_readStatement (d + 1)).cells (rm_pa_readStatement (d + 1)).slots (wo_B base)) (F0 m 28 ls [.int z1, .ref (base + z0)]) := by
  obtain ⟨hx, hb, hr, hml, hown, hts, hlk, hnm, hK, hG⟩ := id C
  intro y0 y1 y2 z0 z1 w h H locs ls hW hl
  unfold f_pa_readStatement_28 at h
  replace h := bsx h
  obtain ⟨x7, w6, hw6, h⟩ := h
  refine cv_pa_59 (As := [.int z1]) (rest := []) hx hb hml hown hts hK hG hW (c_pa_need l D cA base hw6) (kb_pa_need hw6) ⟨by show 6 + 1 ≤ 74 + 1 * (d + 1); omega, by show 8 + (2 + 11) + 100 ≤ 1789 + 26 * (d + 1); omega⟩ ⟨Nat.le_of_ble_eq_true rfl, Nat.le_of_ble_eq_true rfl⟩ rfl hl.1 rfl (Nat.le_of_ble_eq_true rfl) d_pa_readStatement_28 (fun H locs hW => ?_)
  refine lv_aload_n hx hb d_pa_readStatement_31 rfl (lv_at hl 0 rfl) ?_
  replace h := bs h
  obtain ⟨x8, hx8, h⟩ := h
  refine gf_pa_22 hx hb hts hown hK hG hW (gR_s hx8) d_pa_readStatement_32 ?_
  replace h := bs h
  obtain ⟨x9, ex9, h⟩ := h
  subst ex9
  replace h := bs2 h
  obtain ⟨x11, w10, hw10, h⟩ := h
  refine cv_pa_83 (As := []) (rest := []) hx hb hml hown hts hK hG hW (c_pg_newStatement l D cA base hw10) (kb_pg_newStatement hw10) ⟨by show 0 + 1 ≤ 74 + 1 * (d + 1); omega, by show 8 + (2 + 11) + 0 ≤ 1789 + 26 * (d + 1); omega⟩ ⟨Nat.le_of_ble_eq_true rfl, Nat.le_of_ble_eq_true rfl⟩ rfl hl.1 rfl (Nat.le_of_ble_eq_true rfl) d_pa_readStatement_35 (fun H locs hW => ?_)
  refine wo_astore_n (lv' := [(3, rb base x11), (0, .ref (base + y0)), (1, .int y1), (2, .int y2)]) hx hb d_pa_readStatement_38 rfl hl (by decide) rfl (fun ls hl => ?_)
  refine wo_aload_n hx hb d_pa_readStatement_39 rfl (lv_at hl 0 rfl) ?_
  refine lv_iload_n hx hb d_pa_readStatement_40 rfl (lv_at hl 3 rfl) ?_
  refine lv_aload_n hx hb d_pa_readStatement_41 rfl (lv_at hl 1 rfl) ?_
  replace h := bs h
  obtain ⟨x12, hx12, h⟩ := h
  refine gf_pa_12 hx hb hts hown hK hG hW (gN_s hx12) d_pa_readStatement_42 ?_
  replace h := bs h
  obtain ⟨x13, hx13, h⟩ := h
  refine gf_pa_49 hx hb hts hown hK hG hW (gN_s hx13) d_pa_readStatement_45 ?_
  refine lv_aload_n hx hb d_pa_readStatement_48 rfl (lv_at hl 1 rfl) ?_
  replace h := bs h
  obtain ⟨x14, hx14, h⟩ := h
  refine gf_pa_34 hx hb hts hown hK hG hW (gI_s hx14) d_pa_readStatement_49 ?_
  replace h := bs h
  obtain ⟨x15, hx15, h⟩ := h
  refine wo_iald hx hb hK hW (t := 0) rfl hx15 d_pa_readStatement_52 ?_
  refine lv_aload_n hx hb d_pa_readStatement_53 rfl (lv_at hl 1 rfl) ?_
  replace h := bs h
  obtain ⟨x16, hx16, h⟩ := h
  refine gf_pa_12 hx hb hts hown hK hG hW (gN_s hx16) d_pa_readStatement_54 ?_
  replace h := bs h
  obtain ⟨x17, hx17, h⟩ := h
  refine gf_pa_87 hx hb hts hown hK hG hW (gN_s hx17) d_pa_readStatement_57 ?_
  refine lv_aload_n hx hb d_pa_readStatement_60 rfl (lv_at hl 1 rfl) ?_
  replace h := bs h
  obtain ⟨x18, hx18, h⟩ := h
  refine gf_pa_34 hx hb hts hown hK hG hW (gI_s hx18) d_pa_readStatement_61 ?_
  replace h := bs h
  obtain ⟨x19, hx19, h⟩ := h
  refine wo_iald hx hb hK hW (t := 0) rfl hx19 d_pa_readStatement_64 ?_
  replace h := bs h
  obtain ⟨x20, ex20, h⟩ := h
  subst ex20
  replace h := bs h
  obtain ⟨w21, hw21, h⟩ := h
  refine cv_pa_90 (As := [.int y2, .int x15, .int x19]) (rest := []) hx hb hml hown hts hK hG hW (c_st_begin l D cA base hw21) (kb_st_begin hw21) ⟨by show 0 + 1 ≤ 74 + 1 * (d + 1); omega, by show 8 + (4 + 11) + 0 ≤ 1789 + 26 * (d + 1); omega⟩ ⟨Nat.le_of_ble_eq_true rfl, Nat.le_of_ble_eq_true rfl⟩ rfl hl.1 rfl (Nat.le_of_ble_eq_true rfl) d_pa_readStatement_65 (fun H locs hW => ?_)
  have hl : lv_has ls 4 [(3, .ref (base + x20)), (0, .ref (base + y0)), (1, .int y1), (2, .int y2)] := hl
  refine lv_aload_n hx hb d_pa_readStatement_68 rfl (lv_at hl 1 rfl) ?_
  replace h := bs h
  obtain ⟨w22, hw22, h⟩ := h
  refine cv_pa_63 (As := []) (rest := []) hx hb hml hown hts hK hG hW (c_pa_advance l D cA base hw22) (kb_pa_advance hw22) ⟨by show 0 + 1 ≤ 74 + 1 * (d + 1); omega, by show 8 + (1 + 11) + 0 ≤ 1789 + 26 * (d + 1); omega⟩ ⟨Nat.le_of_ble_eq_true rfl, Nat.le_of_ble_eq_true rfl⟩ rfl hl.1 rfl (Nat.le_of_ble_eq_true rfl) d_pa_readStatement_69 (fun H locs hW => ?_)
  refine lv_iload_n hx hb d_pa_readStatement_72 rfl (lv_at hl 3 rfl) ?_
  refine lv_iconst (v := (2 : Int32)) hx hb d_pa_readStatement_73 (by decide) ?_
  refine lv_icmp_ne (tgt := 85) hx hb d_pa_readStatement_74 (by decide) (fun c23 => ?_) (fun c23 => ?_)
  · rw [if_neg c23] at h
    refine lv_iload_n hx hb d_pa_readStatement_85 rfl (lv_at hl 3 rfl) ?_
    refine lv_iconst (v := (3 : Int32)) hx hb d_pa_readStatement_86 (by decide) ?_
    refine lv_icmp_ne (tgt := 98) hx hb d_pa_readStatement_87 (by decide) (fun c24 => ?_) (fun c24 => ?_)
    · rw [if_neg c24] at h
      refine lv_aload_n hx hb d_pa_readStatement_98 rfl (lv_at hl 1 rfl) ?_
      refine lv_aload_n hx hb d_pa_readStatement_99 rfl (lv_at hl 0 rfl) ?_
      replace h := bsx h
      obtain ⟨x26, w25, hw25, h⟩ := h
      refine cv_pa_101 (As := [rb base (some x20)]) (rest := []) hx hb hml hown hts hK hG hW (c_pa_readCond l D cA base hw25) (kb_pa_readCond hw25) ⟨by show 73 + 1 ≤ 74 + 1 * (d + 1); omega, by show 8 + (3 + 11) + 1767 ≤ 1789 + 26 * (d + 1); omega⟩ ⟨Nat.le_of_ble_eq_true rfl, Nat.le_of_ble_eq_true rfl⟩ rfl hl.1 rfl (Nat.le_of_ble_eq_true rfl) d_pa_readStatement_100 (fun H locs hW => ?_)
      refine lv_aload_n hx hb d_pa_readStatement_103 rfl (lv_at hl 1 rfl) ?_
      refine lv_aload_n hx hb d_pa_readStatement_104 rfl (lv_at hl 0 rfl) ?_
      refine lv_iload_n hx hb d_pa_readStatement_105 rfl (lv_at hl 2 rfl) ?_
      replace h := bsx h
      obtain ⟨x28, w27, hw27, h⟩ := h
      refine cv_pa_104 (As := [rb base (some x20), .int y1]) (rest := []) hx hb hml hown hts hK hG hW (HG.2.2.1.1 hw27) (HG.2.2.1.2 hw27) ⟨by show 74 + 1 * d + 1 ≤ 74 + 1 * (d + 1); omega, by show 8 + (3 + 11) + (1789 + 26 * d) ≤ 1789 + 26 * (d + 1); omega⟩ ⟨Nat.le_of_ble_eq_true rfl, Nat.le_of_ble_eq_true rfl⟩ rfl hl.1 rfl (Nat.le_of_ble_eq_true rfl) d_pa_readStatement_106 (fun H locs hW => ?_)
      exact j_pa_readStatement_109 C HG x20 w27 h _ _ _ hW (lv_sub hl [0] rfl)
    · rw [if_pos c24] at h
      refine lv_aload_n hx hb d_pa_readStatement_90 rfl (lv_at hl 1 rfl) ?_
      refine lv_aload_n hx hb d_pa_readStatement_91 rfl (lv_at hl 0 rfl) ?_
      replace h := bsx h
      obtain ⟨x30, w29, hw29, h⟩ := h
      refine cv_pa_98 (As := [rb base (some x20)]) (rest := []) hx hb hml hown hts hK hG hW (c_pa_readStore l D cA base hw29) (kb_pa_readStore hw29) ⟨by show 73 + 1 ≤ 74 + 1 * (d + 1); omega, by show 8 + (2 + 11) + 1767 ≤ 1789 + 26 * (d + 1); omega⟩ ⟨Nat.le_of_ble_eq_true rfl, Nat.le_of_ble_eq_true rfl⟩ rfl hl.1 rfl (Nat.le_of_ble_eq_true rfl) d_pa_readStatement_92 (fun H locs hW => ?_)
      refine lv_goto (tgt := 109) hx hb d_pa_readStatement_95 (by decide) ?_
      exact j_pa_readStatement_109 C HG x20 w29 h _ _ _ hW (lv_sub hl [0] rfl)
  · rw [if_pos c23] at h
    refine lv_aload_n hx hb d_pa_readStatement_77 rfl (lv_at hl 1 rfl) ?_
    refine lv_aload_n hx hb d_pa_readStatement_78 rfl (lv_at hl 0 rfl) ?_
    replace h := bsx h
    obtain ⟨x32, w31, hw31, h⟩ := h
    refine cv_pa_94 (As := [rb base (some x20)]) (rest := []) hx hb hml hown hts hK hG hW (c_pa_readAssignment l D cA base hw31) (kb_pa_readAssignment hw31) ⟨by show 73 + 1 ≤ 74 + 1 * (d + 1); omega, by show 8 + (2 + 11) + 1767 ≤ 1789 + 26 * (d + 1); omega⟩ ⟨Nat.le_of_ble_eq_true rfl, Nat.le_of_ble_eq_true rfl⟩ rfl hl.1 rfl (Nat.le_of_ble_eq_true rfl) d_pa_readStatement_79 (fun H locs hW => ?_)
    refine lv_goto (tgt := 109) hx hb d_pa_readStatement_82 (by decide) ?_
    exact j_pa_readStatement_109 C HG x20 w31 h _ _ _ hW (lv_sub hl [0] rfl)
set_option maxHeartbeats 4000000 in
set_option maxRecDepth 100000 in
theorem j_pa_readStatement_27 {p : Program} {l : Launch} {e : Env} {s : State} {m : MethodId} {args : Array Value} {below : List Frame} {meth : Method} {c : Code} {D : va_G} {cA : Nat → ClassId} {base : Nat} {r : Option Nat} {w' : WW} (C : cx b_pa_readStatement (some (.object "AlarmForge$Statement")) 4 y_pa_readStatement.cls "readStatement" p s m args meth c D cA base) {d : Nat} {g_pa_readStatements : Nat → Int32 → Int32 → WW → Option ((Option Nat ⊕ String) × WW)} {g_pa_readStatement : Nat → Int32 → WW → Option ((Option Nat ⊕ String) × WW)} {g_pa_readRest : Nat → Option Nat → Int32 → WW → Option ((Unit ⊕ String) × WW)} {g_pa_readBlock : Nat → Int32 → WW → Option ((Option Nat ⊕ String) × WW)} (HG : sA_pa4 l D cA base d g_pa_readStatements g_pa_readStatement g_pa_readRest g_pa_readBlock )   : ∀ (y0 : Nat) (y1 : Int32) (y2 : Int32) (z0 : Nat) (w : WW), f_pa_readStatement_27 g_pa_readStatements g_pa_readStatement g_pa_readRest g_pa_readBlock y0 y1 y2 z0 w = some (.inl r, w') → ∀ (H : Heap) (locs : List Loc) (ls : Array Slot), wo_S D cls cA base s w H locs → lv_has ls 4 [(0, .ref (base + y0)), (1, .int y1), (2, .int y2)] → W p l e (rm_pa_readStatement (d + 1)) s m args below meth c H locs 0 0 (MQ below (wo_Q D cls cA base (some (rb base r)) w') args s (rm_pa_readStatement (d + 1)).cells (rm_pa_readStatement (d + 1)).slots (wo_B base)) (F0 m 27 ls [.ref (base + z0)]) := by
  obtain ⟨hx, hb, hr, hml, hown, hts, hlk, hnm, hK, hG⟩ := id C
  intro y0 y1 y2 z0 w h H locs ls hW hl
  unfold f_pa_readStatement_27 at h
  refine lv_iconst (v := (0 : Int32)) hx hb d_pa_readStatement_27 (by decide) ?_
  exact j_pa_readStatement_28 C HG y0 y1 y2 z0 (0 : Int32) w h _ _ _ hW (lv_sub hl [0, 1, 2] rfl)
set_option maxHeartbeats 4000000 in
set_option maxRecDepth 100000 in
theorem co_pa_readStatement (l : Launch) (D : va_G) (cA : Nat → ClassId) (base : Nat) {d : Nat} {g_pa_readStatements : Nat → Int32 → Int32 → WW → Option ((Option Nat ⊕ String) × WW)} {g_pa_readStatement : Nat → Int32 → WW → Option ((Option Nat ⊕ String) × WW)} {g_pa_readRest : Nat → Option Nat → Int32 → WW → Option ((Unit ⊕ String) × WW)} {g_pa_readBlock : Nat → Int32 → WW → Option ((Option Nat ⊕ String) × WW)} (HG : sA_pa4 l D cA base d g_pa_readStatements g_pa_readStatement g_pa_readRest g_pa_readBlock ) {a0 : Nat} {a1 : Int32} {w w' : WW} {r : Option Nat} (h : fo_pa_readStatement g_pa_readStatements g_pa_readStatement g_pa_readRest g_pa_readBlock a0 a1 w = some (.inl r, w')) : mt l D cls (wo_tys cA) cA base y_pa_readStatement (Cond.code y_pa_readStatement b_pa_readStatement 4 (some (.object "AlarmForge$Statement")) :: gt) (rm_pa_readStatement (d + 1)) [.ref (base + a0), .int a1] w (some (rb base r)) w' (rm_pa_readStatement (d + 1)).cells (rm_pa_readStatement (d + 1)).slots := by
  refine mt_start (by decide) (Nat.le_of_ble_eq_true rfl) ?_
  intro p e s m below meth c ls hx hb hr hml hown hts hlk hnm hK hG hW hl
  have C : cx b_pa_readStatement (some (.object "AlarmForge$Statement")) 4 y_pa_readStatement.cls "readStatement" p s m [.ref (base + a0), .int a1].toArray meth c D cA base := ⟨hx, hb, hr, hml, hown, hts, hlk, hnm, hK, hG⟩
  have hl : lv_has ls 4 [(0, .ref (base + a0)), (1, .int a1)] := hl
  unfold fo_pa_readStatement at h
  replace h := its h
  obtain ⟨-, h⟩ := h
  refine lv_aload_n hx hb d_pa_readStatement_0 rfl (lv_at hl 0 rfl) ?_
  replace h := bs2 h
  obtain ⟨x2, w1, hw1, h⟩ := h
  refine cv_pa_55 (As := []) (rest := []) hx hb hml hown hts hK hG hW (c_pa_kindHere l D cA base hw1) (kb_pa_kindHere hw1) ⟨by show 0 + 1 ≤ 74 + 1 * (d + 1); omega, by show 8 + (1 + 11) + 0 ≤ 1789 + 26 * (d + 1); omega⟩ ⟨Nat.le_of_ble_eq_true rfl, Nat.le_of_ble_eq_true rfl⟩ rfl hl.1 rfl (Nat.le_of_ble_eq_true rfl) d_pa_readStatement_1 (fun H locs hW => ?_)
  refine lv_istore_n (lv' := [(2, .int x2), (0, .ref (base + a0)), (1, .int a1)]) hx hb d_pa_readStatement_4 rfl hl (by decide) rfl (fun ls hl => ?_)
  refine lv_aload_n hx hb d_pa_readStatement_5 rfl (lv_at hl 1 rfl) ?_
  refine lv_iload_n hx hb d_pa_readStatement_6 rfl (lv_at hl 0 rfl) ?_
  replace h := bs2 h
  obtain ⟨x4, w3, hw3, h⟩ := h
  refine cs_pa_75 (As := [.int x2]) (rest := [.ref (base + a0)]) hx hb hml hown hts hK hG hW (c_pa_beginsStatement l D cA base hw3) ⟨by show 0 + 1 ≤ 74 + 1 * (d + 1); omega, by show 8 + (1 + 11) + 0 ≤ 1789 + 26 * (d + 1); omega⟩ ⟨Nat.le_of_ble_eq_true rfl, Nat.le_of_ble_eq_true rfl⟩ rfl hl.1 rfl (Nat.le_of_ble_eq_true rfl) d_pa_readStatement_7 (fun H locs hW => ?_)
  refine lv_if_eq (tgt := 27) hx hb d_pa_readStatement_10 (by decide) (fun c5 => ?_) (fun c5 => ?_)
  · rw [if_pos c5] at h
    exact j_pa_readStatement_27 C HG a0 a1 x2 a0 w3 h _ _ _ hW (lv_sub hl [1, 2, 0] rfl)
  · rw [if_neg c5] at h
    refine lv_aload_n hx hb d_pa_readStatement_13 rfl (lv_at hl 1 rfl) ?_
    replace h := bs h
    obtain ⟨x33, hx33, h⟩ := h
    refine gf_pa_22 hx hb hts hown hK hG hW (gR_s hx33) d_pa_readStatement_14 ?_
    replace h := bs h
    obtain ⟨x34, ex34, h⟩ := h
    subst ex34
    replace h := bs2 h
    obtain ⟨x36, w35, hw35, h⟩ := h
    refine cv_pa_79 (As := []) (rest := [.ref (base + a0)]) hx hb hml hown hts hK hG hW (c_pg_isFull l D cA base hw35) (kb_pg_isFull hw35) ⟨by show 0 + 1 ≤ 74 + 1 * (d + 1); omega, by show 8 + (1 + 11) + 0 ≤ 1789 + 26 * (d + 1); omega⟩ ⟨Nat.le_of_ble_eq_true rfl, Nat.le_of_ble_eq_true rfl⟩ rfl hl.1 rfl (Nat.le_of_ble_eq_true rfl) d_pa_readStatement_17 (fun H locs hW => ?_)
    refine lv_if_ne (tgt := 27) hx hb d_pa_readStatement_20 (by decide) (fun c37 => ?_) (fun c37 => ?_)
    · rw [if_neg c37] at h
      exact j_pa_readStatement_27 C HG a0 a1 x2 a0 w35 h _ _ _ hW (lv_sub hl [1, 2, 0] rfl)
    · rw [if_pos c37] at h
      refine lv_iconst (v := (1 : Int32)) hx hb d_pa_readStatement_23 (by decide) ?_
      refine lv_goto (tgt := 28) hx hb d_pa_readStatement_24 (by decide) ?_
      exact j_pa_readStatement_28 C HG a0 a1 x2 a0 (1 : Int32) w35 h _ _ _ hW (lv_sub hl [1, 2, 0] rfl)
set_option maxHeartbeats 4000000 in
set_option maxRecDepth 100000 in
theorem jx_pa_readStatement_109 {p : Program} {l : Launch} {e : Env} {s : State} {m : MethodId} {args : Array Value} {below : List Frame} {meth : Method} {c : Code} {D : va_G} {cA : Nat → ClassId} {base : Nat} {E : String} {w' : WW} (C : cx b_pa_readStatement (some (.object "AlarmForge$Statement")) 4 y_pa_readStatement.cls "readStatement" p s m args meth c D cA base ∧ (∀ x ∈ c.exceptionTable.toList, ∀ k : Nat, covers x k = false) ∧ l.stackTraces = false) {d : Nat} {g_pa_readStatements : Nat → Int32 → Int32 → WW → Option ((Option Nat ⊕ String) × WW)} {g_pa_readStatement : Nat → Int32 → WW → Option ((Option Nat ⊕ String) × WW)} {g_pa_readRest : Nat → Option Nat → Int32 → WW → Option ((Unit ⊕ String) × WW)} {g_pa_readBlock : Nat → Int32 → WW → Option ((Option Nat ⊕ String) × WW)} (HG : sA_pa4 l D cA base d g_pa_readStatements g_pa_readStatement g_pa_readRest g_pa_readBlock ) (HX : sX_pa4 l D cA base d g_pa_readStatements g_pa_readStatement g_pa_readRest g_pa_readBlock )   : ∀ (y3 : Nat) (w : WW), f_pa_readStatement_109 g_pa_readStatements g_pa_readStatement g_pa_readRest g_pa_readBlock y3 w = some (.inr E, w') → ∀ (H : Heap) (locs : List Loc) (ls : Array Slot), wo_S D cls cA base s w H locs → lv_has ls 4 [(3, .ref (base + y3))] → W p l e (rx_pa_readStatement (d + 1)) s m args below meth c H locs 0 0 (XQ below (wo_X D cls cA base E w' (rx_pa_readStatement (d + 1)).cells (rx_pa_readStatement (d + 1)).slots) args s) (F0 m 109 ls []) := by
  obtain ⟨hx, hb, hr, hml, hown, hts, hlk, hnm, hK, hG⟩ := id C.1
  have hnt := C.2.1
  have hst := C.2.2
  intro y3 w h H locs ls hW hl
  unfold f_pa_readStatement_109 at h
  refine lv_aload_n hx hb d_pa_readStatement_109 rfl (lv_at hl 0 rfl) ?_
  cases h
set_option maxHeartbeats 4000000 in
set_option maxRecDepth 100000 in
theorem jx_pa_readStatement_28 {p : Program} {l : Launch} {e : Env} {s : State} {m : MethodId} {args : Array Value} {below : List Frame} {meth : Method} {c : Code} {D : va_G} {cA : Nat → ClassId} {base : Nat} {E : String} {w' : WW} (C : cx b_pa_readStatement (some (.object "AlarmForge$Statement")) 4 y_pa_readStatement.cls "readStatement" p s m args meth c D cA base ∧ (∀ x ∈ c.exceptionTable.toList, ∀ k : Nat, covers x k = false) ∧ l.stackTraces = false) {d : Nat} {g_pa_readStatements : Nat → Int32 → Int32 → WW → Option ((Option Nat ⊕ String) × WW)} {g_pa_readStatement : Nat → Int32 → WW → Option ((Option Nat ⊕ String) × WW)} {g_pa_readRest : Nat → Option Nat → Int32 → WW → Option ((Unit ⊕ String) × WW)} {g_pa_readBlock : Nat → Int32 → WW → Option ((Option Nat ⊕ String) × WW)} (HG : sA_pa4 l D cA base d g_pa_readStatements g_pa_readStatement g_pa_readRest g_pa_readBlock ) (HX : sX_pa4 l D cA base d g_pa_readStatements g_pa_readStatement g_pa_readRest g_pa_readBlock )   : ∀ (y0 : Nat) (y1 : Int32) (y2 : Int32) (z0 : Nat) (z1 : Int32) (w : WW), f_pa_readStatement_28 g_pa_readStatements g_pa_readStatement g_pa_readRest g_pa_readBlock y0 y1 y2 z0 z1 w = some (.inr E, w') → ∀ (H : Heap) (locs : List Loc) (ls : Array Slot), wo_S D cls cA base s w H locs → lv_has ls 4 [(0, .ref (base + y0)), (1, .int y1), (2, .int y2)] → W p l e (rx_pa_readStatement (d + 1)) s m args below meth c H locs 0 0 (XQ below (wo_X D cls cA base E w' (rx_pa_readStatement (d + 1)).cells (rx_pa_readStatement (d + 1)).slots) args s) (F0 m 28 ls [.int z1, .ref (base + z0)]) := by
  obtain ⟨hx, hb, hr, hml, hown, hts, hlk, hnm, hK, hG⟩ := id C.1
  have hnt := C.2.1
  have hst := C.2.2
  intro y0 y1 y2 z0 z1 w h H locs ls hW hl
  unfold f_pa_readStatement_28 at h
  rcases bsy h with hw6 | ⟨x7, w6, hw6, hnw6⟩
  · exact xv_pa_59 (As := [.int z1]) (rest := []) hx hb hml hown hts hK hG hW (x_pa_need l hst D cA base hw6) (kb_pa_need hw6) ⟨by show 6 + 1 ≤ 74 + 1 * (d + 1); omega, by show 8 + (2 + 11) + 100 ≤ 1789 + 26 * (d + 1); omega⟩ ⟨Nat.le_of_ble_eq_true rfl, Nat.le_of_ble_eq_true rfl⟩ rfl hl.1 rfl (Nat.le_of_ble_eq_true rfl) d_pa_readStatement_28 (fun H locs q ce hW h1 h2 h3 => wo_xout hnt hlk hW h1 h2 h3 (Nat.le_of_ble_eq_true rfl) (Nat.le_of_ble_eq_true rfl))
  clear h
  have h := hnw6
  clear hnw6
  refine cv_pa_59 (As := [.int z1]) (rest := []) hx hb hml hown hts hK hG hW (c_pa_need l D cA base hw6) (kb_pa_need hw6) ⟨by show 6 + 1 ≤ 74 + 1 * (d + 1); omega, by show 8 + (2 + 11) + 100 ≤ 1789 + 26 * (d + 1); omega⟩ ⟨Nat.le_of_ble_eq_true rfl, Nat.le_of_ble_eq_true rfl⟩ rfl hl.1 rfl (Nat.le_of_ble_eq_true rfl) d_pa_readStatement_28 (fun H locs hW => ?_)
  refine lv_aload_n hx hb d_pa_readStatement_31 rfl (lv_at hl 0 rfl) ?_
  replace h := bs h
  obtain ⟨x8, hx8, h⟩ := h
  refine gf_pa_22 hx hb hts hown hK hG hW (gR_s hx8) d_pa_readStatement_32 ?_
  replace h := bs h
  obtain ⟨x9, ex9, h⟩ := h
  subst ex9
  replace h := bs2 h
  obtain ⟨x11, w10, hw10, h⟩ := h
  refine cv_pa_83 (As := []) (rest := []) hx hb hml hown hts hK hG hW (c_pg_newStatement l D cA base hw10) (kb_pg_newStatement hw10) ⟨by show 0 + 1 ≤ 74 + 1 * (d + 1); omega, by show 8 + (2 + 11) + 0 ≤ 1789 + 26 * (d + 1); omega⟩ ⟨Nat.le_of_ble_eq_true rfl, Nat.le_of_ble_eq_true rfl⟩ rfl hl.1 rfl (Nat.le_of_ble_eq_true rfl) d_pa_readStatement_35 (fun H locs hW => ?_)
  refine wo_astore_n (lv' := [(3, rb base x11), (0, .ref (base + y0)), (1, .int y1), (2, .int y2)]) hx hb d_pa_readStatement_38 rfl hl (by decide) rfl (fun ls hl => ?_)
  refine wo_aload_n hx hb d_pa_readStatement_39 rfl (lv_at hl 0 rfl) ?_
  refine lv_iload_n hx hb d_pa_readStatement_40 rfl (lv_at hl 3 rfl) ?_
  refine lv_aload_n hx hb d_pa_readStatement_41 rfl (lv_at hl 1 rfl) ?_
  replace h := bs h
  obtain ⟨x12, hx12, h⟩ := h
  refine gf_pa_12 hx hb hts hown hK hG hW (gN_s hx12) d_pa_readStatement_42 ?_
  replace h := bs h
  obtain ⟨x13, hx13, h⟩ := h
  refine gf_pa_49 hx hb hts hown hK hG hW (gN_s hx13) d_pa_readStatement_45 ?_
  refine lv_aload_n hx hb d_pa_readStatement_48 rfl (lv_at hl 1 rfl) ?_
  replace h := bs h
  obtain ⟨x14, hx14, h⟩ := h
  refine gf_pa_34 hx hb hts hown hK hG hW (gI_s hx14) d_pa_readStatement_49 ?_
  replace h := bs h
  obtain ⟨x15, hx15, h⟩ := h
  refine wo_iald hx hb hK hW (t := 0) rfl hx15 d_pa_readStatement_52 ?_
  refine lv_aload_n hx hb d_pa_readStatement_53 rfl (lv_at hl 1 rfl) ?_
  replace h := bs h
  obtain ⟨x16, hx16, h⟩ := h
  refine gf_pa_12 hx hb hts hown hK hG hW (gN_s hx16) d_pa_readStatement_54 ?_
  replace h := bs h
  obtain ⟨x17, hx17, h⟩ := h
  refine gf_pa_87 hx hb hts hown hK hG hW (gN_s hx17) d_pa_readStatement_57 ?_
  refine lv_aload_n hx hb d_pa_readStatement_60 rfl (lv_at hl 1 rfl) ?_
  replace h := bs h
  obtain ⟨x18, hx18, h⟩ := h
  refine gf_pa_34 hx hb hts hown hK hG hW (gI_s hx18) d_pa_readStatement_61 ?_
  replace h := bs h
  obtain ⟨x19, hx19, h⟩ := h
  refine wo_iald hx hb hK hW (t := 0) rfl hx19 d_pa_readStatement_64 ?_
  replace h := bs h
  obtain ⟨x20, ex20, h⟩ := h
  subst ex20
  replace h := bs h
  obtain ⟨w21, hw21, h⟩ := h
  refine cv_pa_90 (As := [.int y2, .int x15, .int x19]) (rest := []) hx hb hml hown hts hK hG hW (c_st_begin l D cA base hw21) (kb_st_begin hw21) ⟨by show 0 + 1 ≤ 74 + 1 * (d + 1); omega, by show 8 + (4 + 11) + 0 ≤ 1789 + 26 * (d + 1); omega⟩ ⟨Nat.le_of_ble_eq_true rfl, Nat.le_of_ble_eq_true rfl⟩ rfl hl.1 rfl (Nat.le_of_ble_eq_true rfl) d_pa_readStatement_65 (fun H locs hW => ?_)
  have hl : lv_has ls 4 [(3, .ref (base + x20)), (0, .ref (base + y0)), (1, .int y1), (2, .int y2)] := hl
  refine lv_aload_n hx hb d_pa_readStatement_68 rfl (lv_at hl 1 rfl) ?_
  replace h := bs h
  obtain ⟨w22, hw22, h⟩ := h
  refine cv_pa_63 (As := []) (rest := []) hx hb hml hown hts hK hG hW (c_pa_advance l D cA base hw22) (kb_pa_advance hw22) ⟨by show 0 + 1 ≤ 74 + 1 * (d + 1); omega, by show 8 + (1 + 11) + 0 ≤ 1789 + 26 * (d + 1); omega⟩ ⟨Nat.le_of_ble_eq_true rfl, Nat.le_of_ble_eq_true rfl⟩ rfl hl.1 rfl (Nat.le_of_ble_eq_true rfl) d_pa_readStatement_69 (fun H locs hW => ?_)
  refine lv_iload_n hx hb d_pa_readStatement_72 rfl (lv_at hl 3 rfl) ?_
  refine lv_iconst (v := (2 : Int32)) hx hb d_pa_readStatement_73 (by decide) ?_
  refine lv_icmp_ne (tgt := 85) hx hb d_pa_readStatement_74 (by decide) (fun c23 => ?_) (fun c23 => ?_)
  · rw [if_neg c23] at h
    refine lv_iload_n hx hb d_pa_readStatement_85 rfl (lv_at hl 3 rfl) ?_
    refine lv_iconst (v := (3 : Int32)) hx hb d_pa_readStatement_86 (by decide) ?_
    refine lv_icmp_ne (tgt := 98) hx hb d_pa_readStatement_87 (by decide) (fun c24 => ?_) (fun c24 => ?_)
    · rw [if_neg c24] at h
      refine lv_aload_n hx hb d_pa_readStatement_98 rfl (lv_at hl 1 rfl) ?_
      refine lv_aload_n hx hb d_pa_readStatement_99 rfl (lv_at hl 0 rfl) ?_
      rcases bsy h with hw25 | ⟨x26, w25, hw25, hnw25⟩
      · exact xv_pa_101 (As := [rb base (some x20)]) (rest := []) hx hb hml hown hts hK hG hW (x_pa_readCond l hst D cA base hw25) (kb_pa_readCond hw25) ⟨by show 73 + 1 ≤ 74 + 1 * (d + 1); omega, by show 8 + (3 + 11) + 1767 ≤ 1789 + 26 * (d + 1); omega⟩ ⟨Nat.le_of_ble_eq_true rfl, Nat.le_of_ble_eq_true rfl⟩ rfl hl.1 rfl (Nat.le_of_ble_eq_true rfl) d_pa_readStatement_100 (fun H locs q ce hW h1 h2 h3 => wo_xout hnt hlk hW h1 h2 h3 (Nat.le_of_ble_eq_true rfl) (Nat.le_of_ble_eq_true rfl))
      clear h
      have h := hnw25
      clear hnw25
      refine cv_pa_101 (As := [rb base (some x20)]) (rest := []) hx hb hml hown hts hK hG hW (c_pa_readCond l D cA base hw25) (kb_pa_readCond hw25) ⟨by show 73 + 1 ≤ 74 + 1 * (d + 1); omega, by show 8 + (3 + 11) + 1767 ≤ 1789 + 26 * (d + 1); omega⟩ ⟨Nat.le_of_ble_eq_true rfl, Nat.le_of_ble_eq_true rfl⟩ rfl hl.1 rfl (Nat.le_of_ble_eq_true rfl) d_pa_readStatement_100 (fun H locs hW => ?_)
      refine lv_aload_n hx hb d_pa_readStatement_103 rfl (lv_at hl 1 rfl) ?_
      refine lv_aload_n hx hb d_pa_readStatement_104 rfl (lv_at hl 0 rfl) ?_
      refine lv_iload_n hx hb d_pa_readStatement_105 rfl (lv_at hl 2 rfl) ?_
      rcases bsy h with hw27 | ⟨x28, w27, hw27, hnw27⟩
      · exact xv_pa_104 (As := [rb base (some x20), .int y1]) (rest := []) hx hb hml hown hts hK hG hW (HX.2.2.1 hw27) (HG.2.2.1.2 hw27) ⟨by show 74 + 1 * d + 1 ≤ 74 + 1 * (d + 1); omega, by show 8 + (3 + 11) + (1789 + 26 * d) ≤ 1789 + 26 * (d + 1); omega⟩ ⟨Nat.le_of_ble_eq_true rfl, Nat.le_of_ble_eq_true rfl⟩ rfl hl.1 rfl (Nat.le_of_ble_eq_true rfl) d_pa_readStatement_106 (fun H locs q ce hW h1 h2 h3 => wo_xout hnt hlk hW h1 h2 h3 (Nat.le_of_ble_eq_true rfl) (Nat.le_of_ble_eq_true rfl))
      clear h
      have h := hnw27
      clear hnw27
      refine cv_pa_104 (As := [rb base (some x20), .int y1]) (rest := []) hx hb hml hown hts hK hG hW (HG.2.2.1.1 hw27) (HG.2.2.1.2 hw27) ⟨by show 74 + 1 * d + 1 ≤ 74 + 1 * (d + 1); omega, by show 8 + (3 + 11) + (1789 + 26 * d) ≤ 1789 + 26 * (d + 1); omega⟩ ⟨Nat.le_of_ble_eq_true rfl, Nat.le_of_ble_eq_true rfl⟩ rfl hl.1 rfl (Nat.le_of_ble_eq_true rfl) d_pa_readStatement_106 (fun H locs hW => ?_)
      exact jx_pa_readStatement_109 C HG HX x20 w27 h _ _ _ hW (lv_sub hl [0] rfl)
    · rw [if_pos c24] at h
      refine lv_aload_n hx hb d_pa_readStatement_90 rfl (lv_at hl 1 rfl) ?_
      refine lv_aload_n hx hb d_pa_readStatement_91 rfl (lv_at hl 0 rfl) ?_
      rcases bsy h with hw29 | ⟨x30, w29, hw29, hnw29⟩
      · exact xv_pa_98 (As := [rb base (some x20)]) (rest := []) hx hb hml hown hts hK hG hW (x_pa_readStore l hst D cA base hw29) (kb_pa_readStore hw29) ⟨by show 73 + 1 ≤ 74 + 1 * (d + 1); omega, by show 8 + (2 + 11) + 1767 ≤ 1789 + 26 * (d + 1); omega⟩ ⟨Nat.le_of_ble_eq_true rfl, Nat.le_of_ble_eq_true rfl⟩ rfl hl.1 rfl (Nat.le_of_ble_eq_true rfl) d_pa_readStatement_92 (fun H locs q ce hW h1 h2 h3 => wo_xout hnt hlk hW h1 h2 h3 (Nat.le_of_ble_eq_true rfl) (Nat.le_of_ble_eq_true rfl))
      clear h
      have h := hnw29
      clear hnw29
      refine cv_pa_98 (As := [rb base (some x20)]) (rest := []) hx hb hml hown hts hK hG hW (c_pa_readStore l D cA base hw29) (kb_pa_readStore hw29) ⟨by show 73 + 1 ≤ 74 + 1 * (d + 1); omega, by show 8 + (2 + 11) + 1767 ≤ 1789 + 26 * (d + 1); omega⟩ ⟨Nat.le_of_ble_eq_true rfl, Nat.le_of_ble_eq_true rfl⟩ rfl hl.1 rfl (Nat.le_of_ble_eq_true rfl) d_pa_readStatement_92 (fun H locs hW => ?_)
      refine lv_goto (tgt := 109) hx hb d_pa_readStatement_95 (by decide) ?_
      exact jx_pa_readStatement_109 C HG HX x20 w29 h _ _ _ hW (lv_sub hl [0] rfl)
  · rw [if_pos c23] at h
    refine lv_aload_n hx hb d_pa_readStatement_77 rfl (lv_at hl 1 rfl) ?_
    refine lv_aload_n hx hb d_pa_readStatement_78 rfl (lv_at hl 0 rfl) ?_
    rcases bsy h with hw31 | ⟨x32, w31, hw31, hnw31⟩
    · exact xv_pa_94 (As := [rb base (some x20)]) (rest := []) hx hb hml hown hts hK hG hW (x_pa_readAssignment l hst D cA base hw31) (kb_pa_readAssignment hw31) ⟨by show 73 + 1 ≤ 74 + 1 * (d + 1); omega, by show 8 + (2 + 11) + 1767 ≤ 1789 + 26 * (d + 1); omega⟩ ⟨Nat.le_of_ble_eq_true rfl, Nat.le_of_ble_eq_true rfl⟩ rfl hl.1 rfl (Nat.le_of_ble_eq_true rfl) d_pa_readStatement_79 (fun H locs q ce hW h1 h2 h3 => wo_xout hnt hlk hW h1 h2 h3 (Nat.le_of_ble_eq_true rfl) (Nat.le_of_ble_eq_true rfl))
    clear h
    have h := hnw31
    clear hnw31
    refine cv_pa_94 (As := [rb base (some x20)]) (rest := []) hx hb hml hown hts hK hG hW (c_pa_readAssignment l D cA base hw31) (kb_pa_readAssignment hw31) ⟨by show 73 + 1 ≤ 74 + 1 * (d + 1); omega, by show 8 + (2 + 11) + 1767 ≤ 1789 + 26 * (d + 1); omega⟩ ⟨Nat.le_of_ble_eq_true rfl, Nat.le_of_ble_eq_true rfl⟩ rfl hl.1 rfl (Nat.le_of_ble_eq_true rfl) d_pa_readStatement_79 (fun H locs hW => ?_)
    refine lv_goto (tgt := 109) hx hb d_pa_readStatement_82 (by decide) ?_
    exact jx_pa_readStatement_109 C HG HX x20 w31 h _ _ _ hW (lv_sub hl [0] rfl)
set_option maxHeartbeats 4000000 in
set_option maxRecDepth 100000 in
theorem jx_pa_readStatement_27 {p : Program} {l : Launch} {e : Env} {s : State} {m : MethodId} {args : Array Value} {below : List Frame} {meth : Method} {c : Code} {D : va_G} {cA : Nat → ClassId} {base : Nat} {E : String} {w' : WW} (C : cx b_pa_readStatement (some (.object "AlarmForge$Statement")) 4 y_pa_readStatement.cls "readStatement" p s m args meth c D cA base ∧ (∀ x ∈ c.exceptionTable.toList, ∀ k : Nat, covers x k = false) ∧ l.stackTraces = false) {d : Nat} {g_pa_readStatements : Nat → Int32 → Int32 → WW → Option ((Option Nat ⊕ String) × WW)} {g_pa_readStatement : Nat → Int32 → WW → Option ((Option Nat ⊕ String) × WW)} {g_pa_readRest : Nat → Option Nat → Int32 → WW → Option ((Unit ⊕ String) × WW)} {g_pa_readBlock : Nat → Int32 → WW → Option ((Option Nat ⊕ String) × WW)} (HG : sA_pa4 l D cA base d g_pa_readStatements g_pa_readStatement g_pa_readRest g_pa_readBlock ) (HX : sX_pa4 l D cA base d g_pa_readStatements g_pa_readStatement g_pa_readRest g_pa_readBlock )   : ∀ (y0 : Nat) (y1 : Int32) (y2 : Int32) (z0 : Nat) (w : WW), f_pa_readStatement_27 g_pa_readStatements g_pa_readStatement g_pa_readRest g_pa_readBlock y0 y1 y2 z0 w = some (.inr E, w') → ∀ (H : Heap) (locs : List Loc) (ls : Array Slot), wo_S D cls cA base s w H locs → lv_has ls 4 [(0, .ref (base + y0)), (1, .int y1), (2, .int y2)] → W p l e (rx_pa_readStatement (d + 1)) s m args below meth c H locs 0 0 (XQ below (wo_X D cls cA base E w' (rx_pa_readStatement (d + 1)).cells (rx_pa_readStatement (d + 1)).slots) args s) (F0 m 27 ls [.ref (base + z0)]) := by
  obtain ⟨hx, hb, hr, hml, hown, hts, hlk, hnm, hK, hG⟩ := id C.1
  have hnt := C.2.1
  have hst := C.2.2
  intro y0 y1 y2 z0 w h H locs ls hW hl
  unfold f_pa_readStatement_27 at h
  refine lv_iconst (v := (0 : Int32)) hx hb d_pa_readStatement_27 (by decide) ?_
  exact jx_pa_readStatement_28 C HG HX y0 y1 y2 z0 (0 : Int32) w h _ _ _ hW (lv_sub hl [0, 1, 2] rfl)
set_option maxHeartbeats 4000000 in
set_option maxRecDepth 100000 in
theorem xo_pa_readStatement (l : Launch) (hst : l.stackTraces = false) (D : va_G) (cA : Nat → ClassId) (base : Nat) {d : Nat} {g_pa_readStatements : Nat → Int32 → Int32 → WW → Option ((Option Nat ⊕ String) × WW)} {g_pa_readStatement : Nat → Int32 → WW → Option ((Option Nat ⊕ String) × WW)} {g_pa_readRest : Nat → Option Nat → Int32 → WW → Option ((Unit ⊕ String) × WW)} {g_pa_readBlock : Nat → Int32 → WW → Option ((Option Nat ⊕ String) × WW)} (HG : sA_pa4 l D cA base d g_pa_readStatements g_pa_readStatement g_pa_readRest g_pa_readBlock ) (HX : sX_pa4 l D cA base d g_pa_readStatements g_pa_readStatement g_pa_readRest g_pa_readBlock ) {a0 : Nat} {a1 : Int32} {w w' : WW} {E : String} (h : fo_pa_readStatement g_pa_readStatements g_pa_readStatement g_pa_readRest g_pa_readBlock a0 a1 w = some (.inr E, w')) : xt l D cls (wo_tys cA) cA base y_pa_readStatement (Cond.code y_pa_readStatement b_pa_readStatement 4 (some (.object "AlarmForge$Statement")) :: gt) (rx_pa_readStatement (d + 1)) [.ref (base + a0), .int a1] w E w' (rx_pa_readStatement (d + 1)).cells (rx_pa_readStatement (d + 1)).slots := by
  refine xt_start (by decide) (Nat.le_of_ble_eq_true rfl) ?_
  intro p e s m below meth c ls hx hb hr hml hown hts hlk hnm hK hG hW hl hnt
  have C : cx b_pa_readStatement (some (.object "AlarmForge$Statement")) 4 y_pa_readStatement.cls "readStatement" p s m [.ref (base + a0), .int a1].toArray meth c D cA base ∧ (∀ x ∈ c.exceptionTable.toList, ∀ k : Nat, covers x k = false) ∧ l.stackTraces = false := ⟨⟨hx, hb, hr, hml, hown, hts, hlk, hnm, hK, hG⟩, hnt, hst⟩
  have hl : lv_has ls 4 [(0, .ref (base + a0)), (1, .int a1)] := hl
  unfold fo_pa_readStatement at h
  replace h := its h
  obtain ⟨-, h⟩ := h
  refine lv_aload_n hx hb d_pa_readStatement_0 rfl (lv_at hl 0 rfl) ?_
  replace h := bs2 h
  obtain ⟨x2, w1, hw1, h⟩ := h
  refine cv_pa_55 (As := []) (rest := []) hx hb hml hown hts hK hG hW (c_pa_kindHere l D cA base hw1) (kb_pa_kindHere hw1) ⟨by show 0 + 1 ≤ 74 + 1 * (d + 1); omega, by show 8 + (1 + 11) + 0 ≤ 1789 + 26 * (d + 1); omega⟩ ⟨Nat.le_of_ble_eq_true rfl, Nat.le_of_ble_eq_true rfl⟩ rfl hl.1 rfl (Nat.le_of_ble_eq_true rfl) d_pa_readStatement_1 (fun H locs hW => ?_)
  refine lv_istore_n (lv' := [(2, .int x2), (0, .ref (base + a0)), (1, .int a1)]) hx hb d_pa_readStatement_4 rfl hl (by decide) rfl (fun ls hl => ?_)
  refine lv_aload_n hx hb d_pa_readStatement_5 rfl (lv_at hl 1 rfl) ?_
  refine lv_iload_n hx hb d_pa_readStatement_6 rfl (lv_at hl 0 rfl) ?_
  replace h := bs2 h
  obtain ⟨x4, w3, hw3, h⟩ := h
  refine cs_pa_75 (As := [.int x2]) (rest := [.ref (base + a0)]) hx hb hml hown hts hK hG hW (c_pa_beginsStatement l D cA base hw3) ⟨by show 0 + 1 ≤ 74 + 1 * (d + 1); omega, by show 8 + (1 + 11) + 0 ≤ 1789 + 26 * (d + 1); omega⟩ ⟨Nat.le_of_ble_eq_true rfl, Nat.le_of_ble_eq_true rfl⟩ rfl hl.1 rfl (Nat.le_of_ble_eq_true rfl) d_pa_readStatement_7 (fun H locs hW => ?_)
  refine lv_if_eq (tgt := 27) hx hb d_pa_readStatement_10 (by decide) (fun c5 => ?_) (fun c5 => ?_)
  · rw [if_pos c5] at h
    exact jx_pa_readStatement_27 C HG HX a0 a1 x2 a0 w3 h _ _ _ hW (lv_sub hl [1, 2, 0] rfl)
  · rw [if_neg c5] at h
    refine lv_aload_n hx hb d_pa_readStatement_13 rfl (lv_at hl 1 rfl) ?_
    replace h := bs h
    obtain ⟨x33, hx33, h⟩ := h
    refine gf_pa_22 hx hb hts hown hK hG hW (gR_s hx33) d_pa_readStatement_14 ?_
    replace h := bs h
    obtain ⟨x34, ex34, h⟩ := h
    subst ex34
    replace h := bs2 h
    obtain ⟨x36, w35, hw35, h⟩ := h
    refine cv_pa_79 (As := []) (rest := [.ref (base + a0)]) hx hb hml hown hts hK hG hW (c_pg_isFull l D cA base hw35) (kb_pg_isFull hw35) ⟨by show 0 + 1 ≤ 74 + 1 * (d + 1); omega, by show 8 + (1 + 11) + 0 ≤ 1789 + 26 * (d + 1); omega⟩ ⟨Nat.le_of_ble_eq_true rfl, Nat.le_of_ble_eq_true rfl⟩ rfl hl.1 rfl (Nat.le_of_ble_eq_true rfl) d_pa_readStatement_17 (fun H locs hW => ?_)
    refine lv_if_ne (tgt := 27) hx hb d_pa_readStatement_20 (by decide) (fun c37 => ?_) (fun c37 => ?_)
    · rw [if_neg c37] at h
      exact jx_pa_readStatement_27 C HG HX a0 a1 x2 a0 w35 h _ _ _ hW (lv_sub hl [1, 2, 0] rfl)
    · rw [if_pos c37] at h
      refine lv_iconst (v := (1 : Int32)) hx hb d_pa_readStatement_23 (by decide) ?_
      refine lv_goto (tgt := 28) hx hb d_pa_readStatement_24 (by decide) ?_
      exact jx_pa_readStatement_28 C HG HX a0 a1 x2 a0 (1 : Int32) w35 h _ _ _ hW (lv_sub hl [1, 2, 0] rfl)
theorem d_pa_readRest_0 : decode b_pa_readRest 0 = .ok (.aload_n 1, 1) := by decide +kernel
theorem d_pa_readRest_1 : decode b_pa_readRest 1 = .ok (.getfield 112, 3) := by decide +kernel
theorem d_pa_readRest_4 : decode b_pa_readRest 4 = .ok (.bipush (7), 2) := by decide +kernel
theorem d_pa_readRest_6 : decode b_pa_readRest 6 = .ok (.if_icmp .ne (10), 3) := by decide +kernel
theorem d_pa_readRest_9 : decode b_pa_readRest 9 = .ok (.aload_n 0, 1) := by decide +kernel
theorem d_pa_readRest_10 : decode b_pa_readRest 10 = .ok (.bipush (59), 2) := by decide +kernel
theorem d_pa_readRest_12 : decode b_pa_readRest 12 = .ok (.invokevirtual 108, 3) := by decide +kernel
theorem d_pa_readRest_15 : decode b_pa_readRest 15 = .ok (.return_, 1) := by decide +kernel
theorem d_pa_readRest_16 : decode b_pa_readRest 16 = .ok (.aload_n 1, 1) := by decide +kernel
theorem d_pa_readRest_17 : decode b_pa_readRest 17 = .ok (.aload_n 0, 1) := by decide +kernel
theorem d_pa_readRest_18 : decode b_pa_readRest 18 = .ok (.iload_n 2, 1) := by decide +kernel
theorem d_pa_readRest_19 : decode b_pa_readRest 19 = .ok (.iconst 1, 1) := by decide +kernel
theorem d_pa_readRest_20 : decode b_pa_readRest 20 = .ok (.iadd, 1) := by decide +kernel
theorem d_pa_readRest_21 : decode b_pa_readRest 21 = .ok (.invokevirtual 134, 3) := by decide +kernel
theorem d_pa_readRest_24 : decode b_pa_readRest 24 = .ok (.putfield 137, 3) := by decide +kernel
theorem d_pa_readRest_27 : decode b_pa_readRest 27 = .ok (.aload_n 1, 1) := by decide +kernel
theorem d_pa_readRest_28 : decode b_pa_readRest 28 = .ok (.getfield 112, 3) := by decide +kernel
theorem d_pa_readRest_31 : decode b_pa_readRest 31 = .ok (.iconst 4, 1) := by decide +kernel
theorem d_pa_readRest_32 : decode b_pa_readRest 32 = .ok (.if_icmp .ne (26), 3) := by decide +kernel
theorem d_pa_readRest_35 : decode b_pa_readRest 35 = .ok (.aload_n 0, 1) := by decide +kernel
theorem d_pa_readRest_36 : decode b_pa_readRest 36 = .ok (.invokevirtual 55, 3) := by decide +kernel
theorem d_pa_readRest_39 : decode b_pa_readRest 39 = .ok (.iconst 5, 1) := by decide +kernel
theorem d_pa_readRest_40 : decode b_pa_readRest 40 = .ok (.if_icmp .ne (18), 3) := by decide +kernel
theorem d_pa_readRest_43 : decode b_pa_readRest 43 = .ok (.aload_n 0, 1) := by decide +kernel
theorem d_pa_readRest_44 : decode b_pa_readRest 44 = .ok (.invokevirtual 63, 3) := by decide +kernel
theorem d_pa_readRest_47 : decode b_pa_readRest 47 = .ok (.aload_n 1, 1) := by decide +kernel
theorem d_pa_readRest_48 : decode b_pa_readRest 48 = .ok (.aload_n 0, 1) := by decide +kernel
theorem d_pa_readRest_49 : decode b_pa_readRest 49 = .ok (.iload_n 2, 1) := by decide +kernel
theorem d_pa_readRest_50 : decode b_pa_readRest 50 = .ok (.iconst 1, 1) := by decide +kernel
theorem d_pa_readRest_51 : decode b_pa_readRest 51 = .ok (.iadd, 1) := by decide +kernel
theorem d_pa_readRest_52 : decode b_pa_readRest 52 = .ok (.invokevirtual 134, 3) := by decide +kernel
theorem d_pa_readRest_55 : decode b_pa_readRest 55 = .ok (.putfield 140, 3) := by decide +kernel
theorem d_pa_readRest_58 : decode b_pa_readRest 58 = .ok (.return_, 1) := by decide +kernel
theorem kbo_pa_readRest {g_pa_readStatements : Nat → Int32 → Int32 → WW → Option ((Option Nat ⊕ String) × WW)} {g_pa_readStatement : Nat → Int32 → WW → Option ((Option Nat ⊕ String) × WW)} {g_pa_readRest : Nat → Option Nat → Int32 → WW → Option ((Unit ⊕ String) × WW)} {g_pa_readBlock : Nat → Int32 → WW → Option ((Option Nat ⊕ String) × WW)} {a0 : Nat} {a1 : Option Nat} {a2 : Int32} {w : WW} {r : ((Unit ⊕ String) × WW)} (h : fo_pa_readRest g_pa_readStatements g_pa_readStatement g_pa_readRest g_pa_readBlock a0 a1 a2 w = some r) : kb w a0 2 = true := (its h).1
set_option maxHeartbeats 4000000 in
set_option maxRecDepth 100000 in
theorem j_pa_readRest_58 {p : Program} {l : Launch} {e : Env} {s : State} {m : MethodId} {args : Array Value} {below : List Frame} {meth : Method} {c : Code} {D : va_G} {cA : Nat → ClassId} {base : Nat} {w' : WW} (C : cx b_pa_readRest (none) 3 y_pa_readRest.cls "readRest" p s m args meth c D cA base) {d : Nat} {g_pa_readStatements : Nat → Int32 → Int32 → WW → Option ((Option Nat ⊕ String) × WW)} {g_pa_readStatement : Nat → Int32 → WW → Option ((Option Nat ⊕ String) × WW)} {g_pa_readRest : Nat → Option Nat → Int32 → WW → Option ((Unit ⊕ String) × WW)} {g_pa_readBlock : Nat → Int32 → WW → Option ((Option Nat ⊕ String) × WW)} (HG : sA_pa4 l D cA base d g_pa_readStatements g_pa_readStatement g_pa_readRest g_pa_readBlock )   : ∀  (w : WW), f_pa_readRest_58 g_pa_readStatements g_pa_readStatement g_pa_readRest g_pa_readBlock  w = some (.inl (), w') → ∀ (H : Heap) (locs : List Loc) (ls : Array Slot), wo_S D cls cA base s w H locs → lv_has ls 3 [] → W p l e (rm_pa_readRest (d + 1)) s m args below meth c H locs 0 0 (MQ below (wo_Q D cls cA base none w') args s (rm_pa_readRest (d + 1)).cells (rm_pa_readRest (d + 1)).slots (wo_B base)) (F0 m 58 ls []) := by
  obtain ⟨hx, hb, hr, hml, hown, hts, hlk, hnm, hK, hG⟩ := id C
  intro  w h H locs ls hW hl
  unfold f_pa_readRest_58 at h
  cases h
  exact wo_vret hx hb hr hlk hW d_pa_readRest_58
set_option maxHeartbeats 4000000 in
set_option maxRecDepth 100000 in
theorem co_pa_readRest (l : Launch) (D : va_G) (cA : Nat → ClassId) (base : Nat) {d : Nat} {g_pa_readStatements : Nat → Int32 → Int32 → WW → Option ((Option Nat ⊕ String) × WW)} {g_pa_readStatement : Nat → Int32 → WW → Option ((Option Nat ⊕ String) × WW)} {g_pa_readRest : Nat → Option Nat → Int32 → WW → Option ((Unit ⊕ String) × WW)} {g_pa_readBlock : Nat → Int32 → WW → Option ((Option Nat ⊕ String) × WW)} (HG : sA_pa4 l D cA base d g_pa_readStatements g_pa_readStatement g_pa_readRest g_pa_readBlock ) {a0 : Nat} {a1 : Option Nat} {a2 : Int32} {w w' : WW} (h : fo_pa_readRest g_pa_readStatements g_pa_readStatement g_pa_readRest g_pa_readBlock a0 a1 a2 w = some (.inl (), w')) : mt l D cls (wo_tys cA) cA base y_pa_readRest (Cond.code y_pa_readRest b_pa_readRest 3 (none) :: gt) (rm_pa_readRest (d + 1)) [.ref (base + a0), rb base a1, .int a2] w none w' (rm_pa_readRest (d + 1)).cells (rm_pa_readRest (d + 1)).slots := by
  refine mt_start (by decide) (by simp only [lg_sl_0, lg_sl_1, lg_sl_2, lg_sl_3, lg_sl_rf]; decide) ?_
  intro p e s m below meth c ls hx hb hr hml hown hts hlk hnm hK hG hW hl
  have C : cx b_pa_readRest (none) 3 y_pa_readRest.cls "readRest" p s m [.ref (base + a0), rb base a1, .int a2].toArray meth c D cA base := ⟨hx, hb, hr, hml, hown, hts, hlk, hnm, hK, hG⟩
  have hl : lv_has ls 3 [(0, .ref (base + a0)), (1, rb base a1), (2, .int a2)] := by simp only [lv_args_0, lv_args_1, lv_args_2, lv_args_3, lv_args_rf] at hl; exact hl
  unfold fo_pa_readRest at h
  replace h := its h
  obtain ⟨-, h⟩ := h
  refine wo_aload_n hx hb d_pa_readRest_0 rfl (lv_at hl 1 rfl) ?_
  replace h := bs h
  obtain ⟨x1, ex1, h⟩ := h
  subst ex1
  replace h := bs h
  obtain ⟨x2, hx2, h⟩ := h
  refine gf_pa_112 hx hb hts hown hK hG hW (gI_s hx2) d_pa_readRest_1 ?_
  have hl : lv_has ls 3 [(0, .ref (base + a0)), (1, .ref (base + x1)), (2, .int a2)] := hl
  refine lv_bipush (v := (7 : Int32)) hx hb d_pa_readRest_4 (by decide) ?_
  refine lv_icmp_ne (tgt := 16) hx hb d_pa_readRest_6 (by decide) (fun c3 => ?_) (fun c3 => ?_)
  · rw [if_neg c3] at h
    refine lv_aload_n hx hb d_pa_readRest_16 rfl (lv_at hl 1 rfl) ?_
    refine lv_aload_n hx hb d_pa_readRest_17 rfl (lv_at hl 0 rfl) ?_
    refine lv_iload_n hx hb d_pa_readRest_18 rfl (lv_at hl 2 rfl) ?_
    refine lv_iconst (v := (1 : Int32)) hx hb d_pa_readRest_19 (by decide) ?_
    refine lv_iadd hx hb d_pa_readRest_20 ?_
    replace h := bsx h
    obtain ⟨x5, w4, hw4, h⟩ := h
    refine cv_pa_134 (As := [.int (a2 + (1 : Int32))]) (rest := [.ref (base + x1)]) hx hb hml hown hts hK hG hW (HG.2.2.2.1 hw4) (HG.2.2.2.2 hw4) ⟨by show 74 + 1 * d + 1 ≤ 74 + 1 * (d + 1); omega, by show 8 + (3 + 11) + (1789 + 26 * d) ≤ 1789 + 26 * (d + 1); omega⟩ ⟨Nat.le_of_ble_eq_true rfl, Nat.le_of_ble_eq_true rfl⟩ rfl hl.1 rfl (Nat.le_of_ble_eq_true rfl) d_pa_readRest_21 (fun H locs hW => ?_)
    replace h := bs h
    obtain ⟨w6, hw6, h⟩ := h
    refine pf_pa_137 hx hb hts hown hK hG hW (rf_n _ _ _) (rf_f _ _ _) (pbi hw6 (ub_rf _ _)) d_pa_readRest_24 (fun H locs hW => ?_)
    refine lv_aload_n hx hb d_pa_readRest_27 rfl (lv_at hl 1 rfl) ?_
    replace h := bs h
    obtain ⟨x7, hx7, h⟩ := h
    refine gf_pa_112 hx hb hts hown hK hG hW (gI_s hx7) d_pa_readRest_28 ?_
    refine lv_iconst (v := (4 : Int32)) hx hb d_pa_readRest_31 (by decide) ?_
    refine lv_icmp_ne (tgt := 58) hx hb d_pa_readRest_32 (by decide) (fun c8 => ?_) (fun c8 => ?_)
    · rw [if_neg c8] at h
      exact j_pa_readRest_58 C HG w6 h _ _ _ hW (lv_sub hl [] rfl)
    · rw [if_pos c8] at h
      refine lv_aload_n hx hb d_pa_readRest_35 rfl (lv_at hl 0 rfl) ?_
      replace h := bs2 h
      obtain ⟨x10, w9, hw9, h⟩ := h
      refine cv_pa_55 (As := []) (rest := []) hx hb hml hown hts hK hG hW (c_pa_kindHere l D cA base hw9) (kb_pa_kindHere hw9) ⟨by show 0 + 1 ≤ 74 + 1 * (d + 1); omega, by show 8 + (1 + 11) + 0 ≤ 1789 + 26 * (d + 1); omega⟩ ⟨Nat.le_of_ble_eq_true rfl, Nat.le_of_ble_eq_true rfl⟩ rfl hl.1 rfl (Nat.le_of_ble_eq_true rfl) d_pa_readRest_36 (fun H locs hW => ?_)
      refine lv_iconst (v := (5 : Int32)) hx hb d_pa_readRest_39 (by decide) ?_
      refine lv_icmp_ne (tgt := 58) hx hb d_pa_readRest_40 (by decide) (fun c11 => ?_) (fun c11 => ?_)
      · rw [if_neg c11] at h
        exact j_pa_readRest_58 C HG w9 h _ _ _ hW (lv_sub hl [] rfl)
      · rw [if_pos c11] at h
        refine lv_aload_n hx hb d_pa_readRest_43 rfl (lv_at hl 0 rfl) ?_
        replace h := bs h
        obtain ⟨w12, hw12, h⟩ := h
        refine cv_pa_63 (As := []) (rest := []) hx hb hml hown hts hK hG hW (c_pa_advance l D cA base hw12) (kb_pa_advance hw12) ⟨by show 0 + 1 ≤ 74 + 1 * (d + 1); omega, by show 8 + (1 + 11) + 0 ≤ 1789 + 26 * (d + 1); omega⟩ ⟨Nat.le_of_ble_eq_true rfl, Nat.le_of_ble_eq_true rfl⟩ rfl hl.1 rfl (Nat.le_of_ble_eq_true rfl) d_pa_readRest_44 (fun H locs hW => ?_)
        refine lv_aload_n hx hb d_pa_readRest_47 rfl (lv_at hl 1 rfl) ?_
        refine lv_aload_n hx hb d_pa_readRest_48 rfl (lv_at hl 0 rfl) ?_
        refine lv_iload_n hx hb d_pa_readRest_49 rfl (lv_at hl 2 rfl) ?_
        refine lv_iconst (v := (1 : Int32)) hx hb d_pa_readRest_50 (by decide) ?_
        refine lv_iadd hx hb d_pa_readRest_51 ?_
        replace h := bsx h
        obtain ⟨x14, w13, hw13, h⟩ := h
        refine cv_pa_134 (As := [.int (a2 + (1 : Int32))]) (rest := [.ref (base + x1)]) hx hb hml hown hts hK hG hW (HG.2.2.2.1 hw13) (HG.2.2.2.2 hw13) ⟨by show 74 + 1 * d + 1 ≤ 74 + 1 * (d + 1); omega, by show 8 + (3 + 11) + (1789 + 26 * d) ≤ 1789 + 26 * (d + 1); omega⟩ ⟨Nat.le_of_ble_eq_true rfl, Nat.le_of_ble_eq_true rfl⟩ rfl hl.1 rfl (Nat.le_of_ble_eq_true rfl) d_pa_readRest_52 (fun H locs hW => ?_)
        replace h := bs h
        obtain ⟨w15, hw15, h⟩ := h
        refine pf_pa_140 hx hb hts hown hK hG hW (rf_n _ _ _) (rf_f _ _ _) (pbi hw15 (ub_rf _ _)) d_pa_readRest_55 (fun H locs hW => ?_)
        exact j_pa_readRest_58 C HG w15 h _ _ _ hW (lv_sub hl [] rfl)
  · rw [if_pos c3] at h
    refine lv_aload_n hx hb d_pa_readRest_9 rfl (lv_at hl 0 rfl) ?_
    refine lv_bipush (v := (59 : Int32)) hx hb d_pa_readRest_10 (by decide) ?_
    replace h := bsx h
    obtain ⟨x17, w16, hw16, h⟩ := h
    refine cv_pa_108 (As := [.int (59 : Int32)]) (rest := []) hx hb hml hown hts hK hG hW (c_pa_take l D cA base hw16) (kb_pa_take hw16) ⟨by show 7 + 1 ≤ 74 + 1 * (d + 1); omega, by show 8 + (2 + 11) + 121 ≤ 1789 + 26 * (d + 1); omega⟩ ⟨Nat.le_of_ble_eq_true rfl, Nat.le_of_ble_eq_true rfl⟩ rfl hl.1 rfl (Nat.le_of_ble_eq_true rfl) d_pa_readRest_12 (fun H locs hW => ?_)
    cases h
    exact wo_vret hx hb hr hlk hW d_pa_readRest_15
set_option maxHeartbeats 4000000 in
set_option maxRecDepth 100000 in
theorem jx_pa_readRest_58 {p : Program} {l : Launch} {e : Env} {s : State} {m : MethodId} {args : Array Value} {below : List Frame} {meth : Method} {c : Code} {D : va_G} {cA : Nat → ClassId} {base : Nat} {E : String} {w' : WW} (C : cx b_pa_readRest (none) 3 y_pa_readRest.cls "readRest" p s m args meth c D cA base ∧ (∀ x ∈ c.exceptionTable.toList, ∀ k : Nat, covers x k = false) ∧ l.stackTraces = false) {d : Nat} {g_pa_readStatements : Nat → Int32 → Int32 → WW → Option ((Option Nat ⊕ String) × WW)} {g_pa_readStatement : Nat → Int32 → WW → Option ((Option Nat ⊕ String) × WW)} {g_pa_readRest : Nat → Option Nat → Int32 → WW → Option ((Unit ⊕ String) × WW)} {g_pa_readBlock : Nat → Int32 → WW → Option ((Option Nat ⊕ String) × WW)} (HG : sA_pa4 l D cA base d g_pa_readStatements g_pa_readStatement g_pa_readRest g_pa_readBlock ) (HX : sX_pa4 l D cA base d g_pa_readStatements g_pa_readStatement g_pa_readRest g_pa_readBlock )   : ∀  (w : WW), f_pa_readRest_58 g_pa_readStatements g_pa_readStatement g_pa_readRest g_pa_readBlock  w = some (.inr E, w') → ∀ (H : Heap) (locs : List Loc) (ls : Array Slot), wo_S D cls cA base s w H locs → lv_has ls 3 [] → W p l e (rx_pa_readRest (d + 1)) s m args below meth c H locs 0 0 (XQ below (wo_X D cls cA base E w' (rx_pa_readRest (d + 1)).cells (rx_pa_readRest (d + 1)).slots) args s) (F0 m 58 ls []) := by
  obtain ⟨hx, hb, hr, hml, hown, hts, hlk, hnm, hK, hG⟩ := id C.1
  have hnt := C.2.1
  have hst := C.2.2
  intro  w h H locs ls hW hl
  unfold f_pa_readRest_58 at h
  cases h
set_option maxHeartbeats 4000000 in
set_option maxRecDepth 100000 in
theorem xo_pa_readRest (l : Launch) (hst : l.stackTraces = false) (D : va_G) (cA : Nat → ClassId) (base : Nat) {d : Nat} {g_pa_readStatements : Nat → Int32 → Int32 → WW → Option ((Option Nat ⊕ String) × WW)} {g_pa_readStatement : Nat → Int32 → WW → Option ((Option Nat ⊕ String) × WW)} {g_pa_readRest : Nat → Option Nat → Int32 → WW → Option ((Unit ⊕ String) × WW)} {g_pa_readBlock : Nat → Int32 → WW → Option ((Option Nat ⊕ String) × WW)} (HG : sA_pa4 l D cA base d g_pa_readStatements g_pa_readStatement g_pa_readRest g_pa_readBlock ) (HX : sX_pa4 l D cA base d g_pa_readStatements g_pa_readStatement g_pa_readRest g_pa_readBlock ) {a0 : Nat} {a1 : Option Nat} {a2 : Int32} {w w' : WW} {E : String} (h : fo_pa_readRest g_pa_readStatements g_pa_readStatement g_pa_readRest g_pa_readBlock a0 a1 a2 w = some (.inr E, w')) : xt l D cls (wo_tys cA) cA base y_pa_readRest (Cond.code y_pa_readRest b_pa_readRest 3 (none) :: gt) (rx_pa_readRest (d + 1)) [.ref (base + a0), rb base a1, .int a2] w E w' (rx_pa_readRest (d + 1)).cells (rx_pa_readRest (d + 1)).slots := by
  refine xt_start (by decide) (by simp only [lg_sl_0, lg_sl_1, lg_sl_2, lg_sl_3, lg_sl_rf]; decide) ?_
  intro p e s m below meth c ls hx hb hr hml hown hts hlk hnm hK hG hW hl hnt
  have C : cx b_pa_readRest (none) 3 y_pa_readRest.cls "readRest" p s m [.ref (base + a0), rb base a1, .int a2].toArray meth c D cA base ∧ (∀ x ∈ c.exceptionTable.toList, ∀ k : Nat, covers x k = false) ∧ l.stackTraces = false := ⟨⟨hx, hb, hr, hml, hown, hts, hlk, hnm, hK, hG⟩, hnt, hst⟩
  have hl : lv_has ls 3 [(0, .ref (base + a0)), (1, rb base a1), (2, .int a2)] := by simp only [lv_args_0, lv_args_1, lv_args_2, lv_args_3, lv_args_rf] at hl; exact hl
  unfold fo_pa_readRest at h
  replace h := its h
  obtain ⟨-, h⟩ := h
  refine wo_aload_n hx hb d_pa_readRest_0 rfl (lv_at hl 1 rfl) ?_
  replace h := bs h
  obtain ⟨x1, ex1, h⟩ := h
  subst ex1
  replace h := bs h
  obtain ⟨x2, hx2, h⟩ := h
  refine gf_pa_112 hx hb hts hown hK hG hW (gI_s hx2) d_pa_readRest_1 ?_
  have hl : lv_has ls 3 [(0, .ref (base + a0)), (1, .ref (base + x1)), (2, .int a2)] := hl
  refine lv_bipush (v := (7 : Int32)) hx hb d_pa_readRest_4 (by decide) ?_
  refine lv_icmp_ne (tgt := 16) hx hb d_pa_readRest_6 (by decide) (fun c3 => ?_) (fun c3 => ?_)
  · rw [if_neg c3] at h
    refine lv_aload_n hx hb d_pa_readRest_16 rfl (lv_at hl 1 rfl) ?_
    refine lv_aload_n hx hb d_pa_readRest_17 rfl (lv_at hl 0 rfl) ?_
    refine lv_iload_n hx hb d_pa_readRest_18 rfl (lv_at hl 2 rfl) ?_
    refine lv_iconst (v := (1 : Int32)) hx hb d_pa_readRest_19 (by decide) ?_
    refine lv_iadd hx hb d_pa_readRest_20 ?_
    rcases bsy h with hw4 | ⟨x5, w4, hw4, hnw4⟩
    · exact xv_pa_134 (As := [.int (a2 + (1 : Int32))]) (rest := [.ref (base + x1)]) hx hb hml hown hts hK hG hW (HX.2.2.2 hw4) (HG.2.2.2.2 hw4) ⟨by show 74 + 1 * d + 1 ≤ 74 + 1 * (d + 1); omega, by show 8 + (3 + 11) + (1789 + 26 * d) ≤ 1789 + 26 * (d + 1); omega⟩ ⟨Nat.le_of_ble_eq_true rfl, Nat.le_of_ble_eq_true rfl⟩ rfl hl.1 rfl (Nat.le_of_ble_eq_true rfl) d_pa_readRest_21 (fun H locs q ce hW h1 h2 h3 => wo_xout hnt hlk hW h1 h2 h3 (Nat.le_of_ble_eq_true rfl) (Nat.le_of_ble_eq_true rfl))
    clear h
    have h := hnw4
    clear hnw4
    refine cv_pa_134 (As := [.int (a2 + (1 : Int32))]) (rest := [.ref (base + x1)]) hx hb hml hown hts hK hG hW (HG.2.2.2.1 hw4) (HG.2.2.2.2 hw4) ⟨by show 74 + 1 * d + 1 ≤ 74 + 1 * (d + 1); omega, by show 8 + (3 + 11) + (1789 + 26 * d) ≤ 1789 + 26 * (d + 1); omega⟩ ⟨Nat.le_of_ble_eq_true rfl, Nat.le_of_ble_eq_true rfl⟩ rfl hl.1 rfl (Nat.le_of_ble_eq_true rfl) d_pa_readRest_21 (fun H locs hW => ?_)
    replace h := bs h
    obtain ⟨w6, hw6, h⟩ := h
    refine pf_pa_137 hx hb hts hown hK hG hW (rf_n _ _ _) (rf_f _ _ _) (pbi hw6 (ub_rf _ _)) d_pa_readRest_24 (fun H locs hW => ?_)
    refine lv_aload_n hx hb d_pa_readRest_27 rfl (lv_at hl 1 rfl) ?_
    replace h := bs h
    obtain ⟨x7, hx7, h⟩ := h
    refine gf_pa_112 hx hb hts hown hK hG hW (gI_s hx7) d_pa_readRest_28 ?_
    refine lv_iconst (v := (4 : Int32)) hx hb d_pa_readRest_31 (by decide) ?_
    refine lv_icmp_ne (tgt := 58) hx hb d_pa_readRest_32 (by decide) (fun c8 => ?_) (fun c8 => ?_)
    · rw [if_neg c8] at h
      exact jx_pa_readRest_58 C HG HX w6 h _ _ _ hW (lv_sub hl [] rfl)
    · rw [if_pos c8] at h
      refine lv_aload_n hx hb d_pa_readRest_35 rfl (lv_at hl 0 rfl) ?_
      replace h := bs2 h
      obtain ⟨x10, w9, hw9, h⟩ := h
      refine cv_pa_55 (As := []) (rest := []) hx hb hml hown hts hK hG hW (c_pa_kindHere l D cA base hw9) (kb_pa_kindHere hw9) ⟨by show 0 + 1 ≤ 74 + 1 * (d + 1); omega, by show 8 + (1 + 11) + 0 ≤ 1789 + 26 * (d + 1); omega⟩ ⟨Nat.le_of_ble_eq_true rfl, Nat.le_of_ble_eq_true rfl⟩ rfl hl.1 rfl (Nat.le_of_ble_eq_true rfl) d_pa_readRest_36 (fun H locs hW => ?_)
      refine lv_iconst (v := (5 : Int32)) hx hb d_pa_readRest_39 (by decide) ?_
      refine lv_icmp_ne (tgt := 58) hx hb d_pa_readRest_40 (by decide) (fun c11 => ?_) (fun c11 => ?_)
      · rw [if_neg c11] at h
        exact jx_pa_readRest_58 C HG HX w9 h _ _ _ hW (lv_sub hl [] rfl)
      · rw [if_pos c11] at h
        refine lv_aload_n hx hb d_pa_readRest_43 rfl (lv_at hl 0 rfl) ?_
        replace h := bs h
        obtain ⟨w12, hw12, h⟩ := h
        refine cv_pa_63 (As := []) (rest := []) hx hb hml hown hts hK hG hW (c_pa_advance l D cA base hw12) (kb_pa_advance hw12) ⟨by show 0 + 1 ≤ 74 + 1 * (d + 1); omega, by show 8 + (1 + 11) + 0 ≤ 1789 + 26 * (d + 1); omega⟩ ⟨Nat.le_of_ble_eq_true rfl, Nat.le_of_ble_eq_true rfl⟩ rfl hl.1 rfl (Nat.le_of_ble_eq_true rfl) d_pa_readRest_44 (fun H locs hW => ?_)
        refine lv_aload_n hx hb d_pa_readRest_47 rfl (lv_at hl 1 rfl) ?_
        refine lv_aload_n hx hb d_pa_readRest_48 rfl (lv_at hl 0 rfl) ?_
        refine lv_iload_n hx hb d_pa_readRest_49 rfl (lv_at hl 2 rfl) ?_
        refine lv_iconst (v := (1 : Int32)) hx hb d_pa_readRest_50 (by decide) ?_
        refine lv_iadd hx hb d_pa_readRest_51 ?_
        rcases bsy h with hw13 | ⟨x14, w13, hw13, hnw13⟩
        · exact xv_pa_134 (As := [.int (a2 + (1 : Int32))]) (rest := [.ref (base + x1)]) hx hb hml hown hts hK hG hW (HX.2.2.2 hw13) (HG.2.2.2.2 hw13) ⟨by show 74 + 1 * d + 1 ≤ 74 + 1 * (d + 1); omega, by show 8 + (3 + 11) + (1789 + 26 * d) ≤ 1789 + 26 * (d + 1); omega⟩ ⟨Nat.le_of_ble_eq_true rfl, Nat.le_of_ble_eq_true rfl⟩ rfl hl.1 rfl (Nat.le_of_ble_eq_true rfl) d_pa_readRest_52 (fun H locs q ce hW h1 h2 h3 => wo_xout hnt hlk hW h1 h2 h3 (Nat.le_of_ble_eq_true rfl) (Nat.le_of_ble_eq_true rfl))
        clear h
        have h := hnw13
        clear hnw13
        refine cv_pa_134 (As := [.int (a2 + (1 : Int32))]) (rest := [.ref (base + x1)]) hx hb hml hown hts hK hG hW (HG.2.2.2.1 hw13) (HG.2.2.2.2 hw13) ⟨by show 74 + 1 * d + 1 ≤ 74 + 1 * (d + 1); omega, by show 8 + (3 + 11) + (1789 + 26 * d) ≤ 1789 + 26 * (d + 1); omega⟩ ⟨Nat.le_of_ble_eq_true rfl, Nat.le_of_ble_eq_true rfl⟩ rfl hl.1 rfl (Nat.le_of_ble_eq_true rfl) d_pa_readRest_52 (fun H locs hW => ?_)
        replace h := bs h
        obtain ⟨w15, hw15, h⟩ := h
        refine pf_pa_140 hx hb hts hown hK hG hW (rf_n _ _ _) (rf_f _ _ _) (pbi hw15 (ub_rf _ _)) d_pa_readRest_55 (fun H locs hW => ?_)
        exact jx_pa_readRest_58 C HG HX w15 h _ _ _ hW (lv_sub hl [] rfl)
  · rw [if_pos c3] at h
    refine lv_aload_n hx hb d_pa_readRest_9 rfl (lv_at hl 0 rfl) ?_
    refine lv_bipush (v := (59 : Int32)) hx hb d_pa_readRest_10 (by decide) ?_
    rcases bsy h with hw16 | ⟨x17, w16, hw16, hnw16⟩
    · exact xv_pa_108 (As := [.int (59 : Int32)]) (rest := []) hx hb hml hown hts hK hG hW (x_pa_take l hst D cA base hw16) (kb_pa_take hw16) ⟨by show 7 + 1 ≤ 74 + 1 * (d + 1); omega, by show 8 + (2 + 11) + 121 ≤ 1789 + 26 * (d + 1); omega⟩ ⟨Nat.le_of_ble_eq_true rfl, Nat.le_of_ble_eq_true rfl⟩ rfl hl.1 rfl (Nat.le_of_ble_eq_true rfl) d_pa_readRest_12 (fun H locs q ce hW h1 h2 h3 => wo_xout hnt hlk hW h1 h2 h3 (Nat.le_of_ble_eq_true rfl) (Nat.le_of_ble_eq_true rfl))
    clear h
    have h := hnw16
    clear hnw16
    refine cv_pa_108 (As := [.int (59 : Int32)]) (rest := []) hx hb hml hown hts hK hG hW (c_pa_take l D cA base hw16) (kb_pa_take hw16) ⟨by show 7 + 1 ≤ 74 + 1 * (d + 1); omega, by show 8 + (2 + 11) + 121 ≤ 1789 + 26 * (d + 1); omega⟩ ⟨Nat.le_of_ble_eq_true rfl, Nat.le_of_ble_eq_true rfl⟩ rfl hl.1 rfl (Nat.le_of_ble_eq_true rfl) d_pa_readRest_12 (fun H locs hW => ?_)
    cases h
theorem d_pa_readBlock_0 : decode b_pa_readBlock 0 = .ok (.aload_n 0, 1) := by decide +kernel
theorem d_pa_readBlock_1 : decode b_pa_readBlock 1 = .ok (.iload_n 1, 1) := by decide +kernel
theorem d_pa_readBlock_2 : decode b_pa_readBlock 2 = .ok (.iconst 3, 1) := by decide +kernel
theorem d_pa_readBlock_3 : decode b_pa_readBlock 3 = .ok (.if_icmp .gt (7), 3) := by decide +kernel
theorem d_pa_readBlock_6 : decode b_pa_readBlock 6 = .ok (.iconst 1, 1) := by decide +kernel
theorem d_pa_readBlock_7 : decode b_pa_readBlock 7 = .ok (.goto (4), 3) := by decide +kernel
theorem d_pa_readBlock_10 : decode b_pa_readBlock 10 = .ok (.iconst 0, 1) := by decide +kernel
theorem d_pa_readBlock_11 : decode b_pa_readBlock 11 = .ok (.invokevirtual 59, 3) := by decide +kernel
theorem d_pa_readBlock_14 : decode b_pa_readBlock 14 = .ok (.aload_n 0, 1) := by decide +kernel
theorem d_pa_readBlock_15 : decode b_pa_readBlock 15 = .ok (.bipush (123), 2) := by decide +kernel
theorem d_pa_readBlock_17 : decode b_pa_readBlock 17 = .ok (.invokevirtual 108, 3) := by decide +kernel
theorem d_pa_readBlock_20 : decode b_pa_readBlock 20 = .ok (.aload_n 0, 1) := by decide +kernel
theorem d_pa_readBlock_21 : decode b_pa_readBlock 21 = .ok (.bipush (125), 2) := by decide +kernel
theorem d_pa_readBlock_23 : decode b_pa_readBlock 23 = .ok (.iload_n 1, 1) := by decide +kernel
theorem d_pa_readBlock_24 : decode b_pa_readBlock 24 = .ok (.invokevirtual 37, 3) := by decide +kernel
theorem d_pa_readBlock_27 : decode b_pa_readBlock 27 = .ok (.astore_n 2, 1) := by decide +kernel
theorem d_pa_readBlock_28 : decode b_pa_readBlock 28 = .ok (.aload_n 0, 1) := by decide +kernel
theorem d_pa_readBlock_29 : decode b_pa_readBlock 29 = .ok (.bipush (125), 2) := by decide +kernel
theorem d_pa_readBlock_31 : decode b_pa_readBlock 31 = .ok (.invokevirtual 108, 3) := by decide +kernel
theorem d_pa_readBlock_34 : decode b_pa_readBlock 34 = .ok (.aload_n 2, 1) := by decide +kernel
theorem d_pa_readBlock_35 : decode b_pa_readBlock 35 = .ok (.areturn, 1) := by decide +kernel
theorem kbo_pa_readBlock {g_pa_readStatements : Nat → Int32 → Int32 → WW → Option ((Option Nat ⊕ String) × WW)} {g_pa_readStatement : Nat → Int32 → WW → Option ((Option Nat ⊕ String) × WW)} {g_pa_readRest : Nat → Option Nat → Int32 → WW → Option ((Unit ⊕ String) × WW)} {g_pa_readBlock : Nat → Int32 → WW → Option ((Option Nat ⊕ String) × WW)} {a0 : Nat} {a1 : Int32} {w : WW} {r : ((Option Nat ⊕ String) × WW)} (h : fo_pa_readBlock g_pa_readStatements g_pa_readStatement g_pa_readRest g_pa_readBlock a0 a1 w = some r) : kb w a0 2 = true := (its h).1
set_option maxHeartbeats 4000000 in
set_option maxRecDepth 100000 in
theorem j_pa_readBlock_11 {p : Program} {l : Launch} {e : Env} {s : State} {m : MethodId} {args : Array Value} {below : List Frame} {meth : Method} {c : Code} {D : va_G} {cA : Nat → ClassId} {base : Nat} {r : Option Nat} {w' : WW} (C : cx b_pa_readBlock (some (.object "AlarmForge$Statement")) 3 y_pa_readBlock.cls "readBlock" p s m args meth c D cA base) {d : Nat} {g_pa_readStatements : Nat → Int32 → Int32 → WW → Option ((Option Nat ⊕ String) × WW)} {g_pa_readStatement : Nat → Int32 → WW → Option ((Option Nat ⊕ String) × WW)} {g_pa_readRest : Nat → Option Nat → Int32 → WW → Option ((Unit ⊕ String) × WW)} {g_pa_readBlock : Nat → Int32 → WW → Option ((Option Nat ⊕ String) × WW)} (HG : sA_pa4 l D cA base d g_pa_readStatements g_pa_readStatement g_pa_readRest g_pa_readBlock )   : ∀ (y0 : Nat) (y1 : Int32) (z0 : Nat) (z1 : Int32) (w : WW), f_pa_readBlock_11 g_pa_readStatements g_pa_readStatement g_pa_readRest g_pa_readBlock y0 y1 z0 z1 w = some (.inl r, w') → ∀ (H : Heap) (locs : List Loc) (ls : Array Slot), wo_S D cls cA base s w H locs → lv_has ls 3 [(0, .ref (base + y0)), (1, .int y1)] → W p l e (rm_pa_readBlock (d + 1)) s m args below meth c H locs 0 0 (MQ below (wo_Q D cls cA base (some (rb base r)) w') args s (rm_pa_readBlock (d + 1)).cells (rm_pa_readBlock (d + 1)).slots (wo_B base)) (F0 m 11 ls [.int z1, .ref (base + z0)]) := by
  obtain ⟨hx, hb, hr, hml, hown, hts, hlk, hnm, hK, hG⟩ := id C
  intro y0 y1 z0 z1 w h H locs ls hW hl
  unfold f_pa_readBlock_11 at h
  replace h := bsx h
  obtain ⟨x3, w2, hw2, h⟩ := h
  refine cv_pa_59 (As := [.int z1]) (rest := []) hx hb hml hown hts hK hG hW (c_pa_need l D cA base hw2) (kb_pa_need hw2) ⟨by show 6 + 1 ≤ 74 + 1 * (d + 1); omega, by show 8 + (2 + 11) + 100 ≤ 1789 + 26 * (d + 1); omega⟩ ⟨Nat.le_of_ble_eq_true rfl, Nat.le_of_ble_eq_true rfl⟩ rfl hl.1 rfl (Nat.le_of_ble_eq_true rfl) d_pa_readBlock_11 (fun H locs hW => ?_)
  refine lv_aload_n hx hb d_pa_readBlock_14 rfl (lv_at hl 0 rfl) ?_
  refine lv_bipush (v := (123 : Int32)) hx hb d_pa_readBlock_15 (by decide) ?_
  replace h := bsx h
  obtain ⟨x5, w4, hw4, h⟩ := h
  refine cv_pa_108 (As := [.int (123 : Int32)]) (rest := []) hx hb hml hown hts hK hG hW (c_pa_take l D cA base hw4) (kb_pa_take hw4) ⟨by show 7 + 1 ≤ 74 + 1 * (d + 1); omega, by show 8 + (2 + 11) + 121 ≤ 1789 + 26 * (d + 1); omega⟩ ⟨Nat.le_of_ble_eq_true rfl, Nat.le_of_ble_eq_true rfl⟩ rfl hl.1 rfl (Nat.le_of_ble_eq_true rfl) d_pa_readBlock_17 (fun H locs hW => ?_)
  refine lv_aload_n hx hb d_pa_readBlock_20 rfl (lv_at hl 0 rfl) ?_
  refine lv_bipush (v := (125 : Int32)) hx hb d_pa_readBlock_21 (by decide) ?_
  refine lv_iload_n hx hb d_pa_readBlock_23 rfl (lv_at hl 1 rfl) ?_
  replace h := bsx h
  obtain ⟨x7, w6, hw6, h⟩ := h
  refine cv_pa_37 (As := [.int (125 : Int32), .int y1]) (rest := []) hx hb hml hown hts hK hG hW (HG.1.1 hw6) (HG.1.2 hw6) ⟨by show 74 + 1 * d + 1 ≤ 74 + 1 * (d + 1); omega, by show 8 + (7 + 11) + (1789 + 26 * d) ≤ 1789 + 26 * (d + 1); omega⟩ ⟨Nat.le_of_ble_eq_true rfl, Nat.le_of_ble_eq_true rfl⟩ rfl hl.1 rfl (Nat.le_of_ble_eq_true rfl) d_pa_readBlock_24 (fun H locs hW => ?_)
  refine wo_astore_n (lv' := [(2, rb base x7), (0, .ref (base + y0)), (1, .int y1)]) hx hb d_pa_readBlock_27 rfl hl (by decide) rfl (fun ls hl => ?_)
  refine lv_aload_n hx hb d_pa_readBlock_28 rfl (lv_at hl 1 rfl) ?_
  refine lv_bipush (v := (125 : Int32)) hx hb d_pa_readBlock_29 (by decide) ?_
  replace h := bsx h
  obtain ⟨x9, w8, hw8, h⟩ := h
  refine cv_pa_108 (As := [.int (125 : Int32)]) (rest := []) hx hb hml hown hts hK hG hW (c_pa_take l D cA base hw8) (kb_pa_take hw8) ⟨by show 7 + 1 ≤ 74 + 1 * (d + 1); omega, by show 8 + (2 + 11) + 121 ≤ 1789 + 26 * (d + 1); omega⟩ ⟨Nat.le_of_ble_eq_true rfl, Nat.le_of_ble_eq_true rfl⟩ rfl hl.1 rfl (Nat.le_of_ble_eq_true rfl) d_pa_readBlock_31 (fun H locs hW => ?_)
  refine wo_aload_n hx hb d_pa_readBlock_34 rfl (lv_at hl 0 rfl) ?_
  cases h
  exact wo_aret hx hb hr hlk hW d_pa_readBlock_35
set_option maxHeartbeats 4000000 in
set_option maxRecDepth 100000 in
theorem co_pa_readBlock (l : Launch) (D : va_G) (cA : Nat → ClassId) (base : Nat) {d : Nat} {g_pa_readStatements : Nat → Int32 → Int32 → WW → Option ((Option Nat ⊕ String) × WW)} {g_pa_readStatement : Nat → Int32 → WW → Option ((Option Nat ⊕ String) × WW)} {g_pa_readRest : Nat → Option Nat → Int32 → WW → Option ((Unit ⊕ String) × WW)} {g_pa_readBlock : Nat → Int32 → WW → Option ((Option Nat ⊕ String) × WW)} (HG : sA_pa4 l D cA base d g_pa_readStatements g_pa_readStatement g_pa_readRest g_pa_readBlock ) {a0 : Nat} {a1 : Int32} {w w' : WW} {r : Option Nat} (h : fo_pa_readBlock g_pa_readStatements g_pa_readStatement g_pa_readRest g_pa_readBlock a0 a1 w = some (.inl r, w')) : mt l D cls (wo_tys cA) cA base y_pa_readBlock (Cond.code y_pa_readBlock b_pa_readBlock 3 (some (.object "AlarmForge$Statement")) :: gt) (rm_pa_readBlock (d + 1)) [.ref (base + a0), .int a1] w (some (rb base r)) w' (rm_pa_readBlock (d + 1)).cells (rm_pa_readBlock (d + 1)).slots := by
  refine mt_start (by decide) (Nat.le_of_ble_eq_true rfl) ?_
  intro p e s m below meth c ls hx hb hr hml hown hts hlk hnm hK hG hW hl
  have C : cx b_pa_readBlock (some (.object "AlarmForge$Statement")) 3 y_pa_readBlock.cls "readBlock" p s m [.ref (base + a0), .int a1].toArray meth c D cA base := ⟨hx, hb, hr, hml, hown, hts, hlk, hnm, hK, hG⟩
  have hl : lv_has ls 3 [(0, .ref (base + a0)), (1, .int a1)] := hl
  unfold fo_pa_readBlock at h
  replace h := its h
  obtain ⟨-, h⟩ := h
  refine lv_aload_n hx hb d_pa_readBlock_0 rfl (lv_at hl 0 rfl) ?_
  refine lv_iload_n hx hb d_pa_readBlock_1 rfl (lv_at hl 1 rfl) ?_
  refine lv_iconst (v := (3 : Int32)) hx hb d_pa_readBlock_2 (by decide) ?_
  refine lv_icmp_gt (tgt := 10) hx hb d_pa_readBlock_3 (by decide) (fun c1 => ?_) (fun c1 => ?_)
  · rw [if_pos c1] at h
    refine lv_iconst (v := (0 : Int32)) hx hb d_pa_readBlock_10 (by decide) ?_
    exact j_pa_readBlock_11 C HG a0 a1 a0 (0 : Int32) w h _ _ _ hW (lv_sub hl [0, 1] rfl)
  · rw [if_neg c1] at h
    refine lv_iconst (v := (1 : Int32)) hx hb d_pa_readBlock_6 (by decide) ?_
    refine lv_goto (tgt := 11) hx hb d_pa_readBlock_7 (by decide) ?_
    exact j_pa_readBlock_11 C HG a0 a1 a0 (1 : Int32) w h _ _ _ hW (lv_sub hl [0, 1] rfl)
set_option maxHeartbeats 4000000 in
set_option maxRecDepth 100000 in
theorem jx_pa_readBlock_11 {p : Program} {l : Launch} {e : Env} {s : State} {m : MethodId} {args : Array Value} {below : List Frame} {meth : Method} {c : Code} {D : va_G} {cA : Nat → ClassId} {base : Nat} {E : String} {w' : WW} (C : cx b_pa_readBlock (some (.object "AlarmForge$Statement")) 3 y_pa_readBlock.cls "readBlock" p s m args meth c D cA base ∧ (∀ x ∈ c.exceptionTable.toList, ∀ k : Nat, covers x k = false) ∧ l.stackTraces = false) {d : Nat} {g_pa_readStatements : Nat → Int32 → Int32 → WW → Option ((Option Nat ⊕ String) × WW)} {g_pa_readStatement : Nat → Int32 → WW → Option ((Option Nat ⊕ String) × WW)} {g_pa_readRest : Nat → Option Nat → Int32 → WW → Option ((Unit ⊕ String) × WW)} {g_pa_readBlock : Nat → Int32 → WW → Option ((Option Nat ⊕ String) × WW)} (HG : sA_pa4 l D cA base d g_pa_readStatements g_pa_readStatement g_pa_readRest g_pa_readBlock ) (HX : sX_pa4 l D cA base d g_pa_readStatements g_pa_readStatement g_pa_readRest g_pa_readBlock )   : ∀ (y0 : Nat) (y1 : Int32) (z0 : Nat) (z1 : Int32) (w : WW), f_pa_readBlock_11 g_pa_readStatements g_pa_readStatement g_pa_readRest g_pa_readBlock y0 y1 z0 z1 w = some (.inr E, w') → ∀ (H : Heap) (locs : List Loc) (ls : Array Slot), wo_S D cls cA base s w H locs → lv_has ls 3 [(0, .ref (base + y0)), (1, .int y1)] → W p l e (rx_pa_readBlock (d + 1)) s m args below meth c H locs 0 0 (XQ below (wo_X D cls cA base E w' (rx_pa_readBlock (d + 1)).cells (rx_pa_readBlock (d + 1)).slots) args s) (F0 m 11 ls [.int z1, .ref (base + z0)]) := by
  obtain ⟨hx, hb, hr, hml, hown, hts, hlk, hnm, hK, hG⟩ := id C.1
  have hnt := C.2.1
  have hst := C.2.2
  intro y0 y1 z0 z1 w h H locs ls hW hl
  unfold f_pa_readBlock_11 at h
  rcases bsy h with hw2 | ⟨x3, w2, hw2, hnw2⟩
  · exact xv_pa_59 (As := [.int z1]) (rest := []) hx hb hml hown hts hK hG hW (x_pa_need l hst D cA base hw2) (kb_pa_need hw2) ⟨by show 6 + 1 ≤ 74 + 1 * (d + 1); omega, by show 8 + (2 + 11) + 100 ≤ 1789 + 26 * (d + 1); omega⟩ ⟨Nat.le_of_ble_eq_true rfl, Nat.le_of_ble_eq_true rfl⟩ rfl hl.1 rfl (Nat.le_of_ble_eq_true rfl) d_pa_readBlock_11 (fun H locs q ce hW h1 h2 h3 => wo_xout hnt hlk hW h1 h2 h3 (Nat.le_of_ble_eq_true rfl) (Nat.le_of_ble_eq_true rfl))
  clear h
  have h := hnw2
  clear hnw2
  refine cv_pa_59 (As := [.int z1]) (rest := []) hx hb hml hown hts hK hG hW (c_pa_need l D cA base hw2) (kb_pa_need hw2) ⟨by show 6 + 1 ≤ 74 + 1 * (d + 1); omega, by show 8 + (2 + 11) + 100 ≤ 1789 + 26 * (d + 1); omega⟩ ⟨Nat.le_of_ble_eq_true rfl, Nat.le_of_ble_eq_true rfl⟩ rfl hl.1 rfl (Nat.le_of_ble_eq_true rfl) d_pa_readBlock_11 (fun H locs hW => ?_)
  refine lv_aload_n hx hb d_pa_readBlock_14 rfl (lv_at hl 0 rfl) ?_
  refine lv_bipush (v := (123 : Int32)) hx hb d_pa_readBlock_15 (by decide) ?_
  rcases bsy h with hw4 | ⟨x5, w4, hw4, hnw4⟩
  · exact xv_pa_108 (As := [.int (123 : Int32)]) (rest := []) hx hb hml hown hts hK hG hW (x_pa_take l hst D cA base hw4) (kb_pa_take hw4) ⟨by show 7 + 1 ≤ 74 + 1 * (d + 1); omega, by show 8 + (2 + 11) + 121 ≤ 1789 + 26 * (d + 1); omega⟩ ⟨Nat.le_of_ble_eq_true rfl, Nat.le_of_ble_eq_true rfl⟩ rfl hl.1 rfl (Nat.le_of_ble_eq_true rfl) d_pa_readBlock_17 (fun H locs q ce hW h1 h2 h3 => wo_xout hnt hlk hW h1 h2 h3 (Nat.le_of_ble_eq_true rfl) (Nat.le_of_ble_eq_true rfl))
  clear h
  have h := hnw4
  clear hnw4
  refine cv_pa_108 (As := [.int (123 : Int32)]) (rest := []) hx hb hml hown hts hK hG hW (c_pa_take l D cA base hw4) (kb_pa_take hw4) ⟨by show 7 + 1 ≤ 74 + 1 * (d + 1); omega, by show 8 + (2 + 11) + 121 ≤ 1789 + 26 * (d + 1); omega⟩ ⟨Nat.le_of_ble_eq_true rfl, Nat.le_of_ble_eq_true rfl⟩ rfl hl.1 rfl (Nat.le_of_ble_eq_true rfl) d_pa_readBlock_17 (fun H locs hW => ?_)
  refine lv_aload_n hx hb d_pa_readBlock_20 rfl (lv_at hl 0 rfl) ?_
  refine lv_bipush (v := (125 : Int32)) hx hb d_pa_readBlock_21 (by decide) ?_
  refine lv_iload_n hx hb d_pa_readBlock_23 rfl (lv_at hl 1 rfl) ?_
  rcases bsy h with hw6 | ⟨x7, w6, hw6, hnw6⟩
  · exact xv_pa_37 (As := [.int (125 : Int32), .int y1]) (rest := []) hx hb hml hown hts hK hG hW (HX.1 hw6) (HG.1.2 hw6) ⟨by show 74 + 1 * d + 1 ≤ 74 + 1 * (d + 1); omega, by show 8 + (7 + 11) + (1789 + 26 * d) ≤ 1789 + 26 * (d + 1); omega⟩ ⟨Nat.le_of_ble_eq_true rfl, Nat.le_of_ble_eq_true rfl⟩ rfl hl.1 rfl (Nat.le_of_ble_eq_true rfl) d_pa_readBlock_24 (fun H locs q ce hW h1 h2 h3 => wo_xout hnt hlk hW h1 h2 h3 (Nat.le_of_ble_eq_true rfl) (Nat.le_of_ble_eq_true rfl))
  clear h
  have h := hnw6
  clear hnw6
  refine cv_pa_37 (As := [.int (125 : Int32), .int y1]) (rest := []) hx hb hml hown hts hK hG hW (HG.1.1 hw6) (HG.1.2 hw6) ⟨by show 74 + 1 * d + 1 ≤ 74 + 1 * (d + 1); omega, by show 8 + (7 + 11) + (1789 + 26 * d) ≤ 1789 + 26 * (d + 1); omega⟩ ⟨Nat.le_of_ble_eq_true rfl, Nat.le_of_ble_eq_true rfl⟩ rfl hl.1 rfl (Nat.le_of_ble_eq_true rfl) d_pa_readBlock_24 (fun H locs hW => ?_)
  refine wo_astore_n (lv' := [(2, rb base x7), (0, .ref (base + y0)), (1, .int y1)]) hx hb d_pa_readBlock_27 rfl hl (by decide) rfl (fun ls hl => ?_)
  refine lv_aload_n hx hb d_pa_readBlock_28 rfl (lv_at hl 1 rfl) ?_
  refine lv_bipush (v := (125 : Int32)) hx hb d_pa_readBlock_29 (by decide) ?_
  rcases bsy h with hw8 | ⟨x9, w8, hw8, hnw8⟩
  · exact xv_pa_108 (As := [.int (125 : Int32)]) (rest := []) hx hb hml hown hts hK hG hW (x_pa_take l hst D cA base hw8) (kb_pa_take hw8) ⟨by show 7 + 1 ≤ 74 + 1 * (d + 1); omega, by show 8 + (2 + 11) + 121 ≤ 1789 + 26 * (d + 1); omega⟩ ⟨Nat.le_of_ble_eq_true rfl, Nat.le_of_ble_eq_true rfl⟩ rfl hl.1 rfl (Nat.le_of_ble_eq_true rfl) d_pa_readBlock_31 (fun H locs q ce hW h1 h2 h3 => wo_xout hnt hlk hW h1 h2 h3 (Nat.le_of_ble_eq_true rfl) (Nat.le_of_ble_eq_true rfl))
  clear h
  have h := hnw8
  clear hnw8
  refine cv_pa_108 (As := [.int (125 : Int32)]) (rest := []) hx hb hml hown hts hK hG hW (c_pa_take l D cA base hw8) (kb_pa_take hw8) ⟨by show 7 + 1 ≤ 74 + 1 * (d + 1); omega, by show 8 + (2 + 11) + 121 ≤ 1789 + 26 * (d + 1); omega⟩ ⟨Nat.le_of_ble_eq_true rfl, Nat.le_of_ble_eq_true rfl⟩ rfl hl.1 rfl (Nat.le_of_ble_eq_true rfl) d_pa_readBlock_31 (fun H locs hW => ?_)
  refine wo_aload_n hx hb d_pa_readBlock_34 rfl (lv_at hl 0 rfl) ?_
  cases h
set_option maxHeartbeats 4000000 in
set_option maxRecDepth 100000 in
theorem xo_pa_readBlock (l : Launch) (hst : l.stackTraces = false) (D : va_G) (cA : Nat → ClassId) (base : Nat) {d : Nat} {g_pa_readStatements : Nat → Int32 → Int32 → WW → Option ((Option Nat ⊕ String) × WW)} {g_pa_readStatement : Nat → Int32 → WW → Option ((Option Nat ⊕ String) × WW)} {g_pa_readRest : Nat → Option Nat → Int32 → WW → Option ((Unit ⊕ String) × WW)} {g_pa_readBlock : Nat → Int32 → WW → Option ((Option Nat ⊕ String) × WW)} (HG : sA_pa4 l D cA base d g_pa_readStatements g_pa_readStatement g_pa_readRest g_pa_readBlock ) (HX : sX_pa4 l D cA base d g_pa_readStatements g_pa_readStatement g_pa_readRest g_pa_readBlock ) {a0 : Nat} {a1 : Int32} {w w' : WW} {E : String} (h : fo_pa_readBlock g_pa_readStatements g_pa_readStatement g_pa_readRest g_pa_readBlock a0 a1 w = some (.inr E, w')) : xt l D cls (wo_tys cA) cA base y_pa_readBlock (Cond.code y_pa_readBlock b_pa_readBlock 3 (some (.object "AlarmForge$Statement")) :: gt) (rx_pa_readBlock (d + 1)) [.ref (base + a0), .int a1] w E w' (rx_pa_readBlock (d + 1)).cells (rx_pa_readBlock (d + 1)).slots := by
  refine xt_start (by decide) (Nat.le_of_ble_eq_true rfl) ?_
  intro p e s m below meth c ls hx hb hr hml hown hts hlk hnm hK hG hW hl hnt
  have C : cx b_pa_readBlock (some (.object "AlarmForge$Statement")) 3 y_pa_readBlock.cls "readBlock" p s m [.ref (base + a0), .int a1].toArray meth c D cA base ∧ (∀ x ∈ c.exceptionTable.toList, ∀ k : Nat, covers x k = false) ∧ l.stackTraces = false := ⟨⟨hx, hb, hr, hml, hown, hts, hlk, hnm, hK, hG⟩, hnt, hst⟩
  have hl : lv_has ls 3 [(0, .ref (base + a0)), (1, .int a1)] := hl
  unfold fo_pa_readBlock at h
  replace h := its h
  obtain ⟨-, h⟩ := h
  refine lv_aload_n hx hb d_pa_readBlock_0 rfl (lv_at hl 0 rfl) ?_
  refine lv_iload_n hx hb d_pa_readBlock_1 rfl (lv_at hl 1 rfl) ?_
  refine lv_iconst (v := (3 : Int32)) hx hb d_pa_readBlock_2 (by decide) ?_
  refine lv_icmp_gt (tgt := 10) hx hb d_pa_readBlock_3 (by decide) (fun c1 => ?_) (fun c1 => ?_)
  · rw [if_pos c1] at h
    refine lv_iconst (v := (0 : Int32)) hx hb d_pa_readBlock_10 (by decide) ?_
    exact jx_pa_readBlock_11 C HG HX a0 a1 a0 (0 : Int32) w h _ _ _ hW (lv_sub hl [0, 1] rfl)
  · rw [if_neg c1] at h
    refine lv_iconst (v := (1 : Int32)) hx hb d_pa_readBlock_6 (by decide) ?_
    refine lv_goto (tgt := 11) hx hb d_pa_readBlock_7 (by decide) ?_
    exact jx_pa_readBlock_11 C HG HX a0 a1 a0 (1 : Int32) w h _ _ _ hW (lv_sub hl [0, 1] rfl)
theorem sAll_pa4 (l : Launch) (D : va_G) (cA : Nat → ClassId) (base : Nat) : ∀ d : Nat, sA_pa4 l D cA base d (sc_pa4 d).1 (sc_pa4 d).2.1 (sc_pa4 d).2.2.1 (sc_pa4 d).2.2.2 := by
  intro d
  induction d with
  | zero => exact ⟨⟨(fun h => by cases h), (fun h => by cases h)⟩, ⟨(fun h => by cases h), (fun h => by cases h)⟩, ⟨(fun h => by cases h), (fun h => by cases h)⟩, ⟨(fun h => by cases h), (fun h => by cases h)⟩⟩
  | succ d ih => exact ⟨⟨fun h => co_pa_readStatements l D cA base ih h, fun h => kbo_pa_readStatements (g_pa_readStatements := (sc_pa4 d).1) (g_pa_readStatement := (sc_pa4 d).2.1) (g_pa_readRest := (sc_pa4 d).2.2.1) (g_pa_readBlock := (sc_pa4 d).2.2.2) h⟩, ⟨fun h => co_pa_readStatement l D cA base ih h, fun h => kbo_pa_readStatement (g_pa_readStatements := (sc_pa4 d).1) (g_pa_readStatement := (sc_pa4 d).2.1) (g_pa_readRest := (sc_pa4 d).2.2.1) (g_pa_readBlock := (sc_pa4 d).2.2.2) h⟩, ⟨fun h => co_pa_readRest l D cA base ih h, fun h => kbo_pa_readRest (g_pa_readStatements := (sc_pa4 d).1) (g_pa_readStatement := (sc_pa4 d).2.1) (g_pa_readRest := (sc_pa4 d).2.2.1) (g_pa_readBlock := (sc_pa4 d).2.2.2) h⟩, ⟨fun h => co_pa_readBlock l D cA base ih h, fun h => kbo_pa_readBlock (g_pa_readStatements := (sc_pa4 d).1) (g_pa_readStatement := (sc_pa4 d).2.1) (g_pa_readRest := (sc_pa4 d).2.2.1) (g_pa_readBlock := (sc_pa4 d).2.2.2) h⟩⟩
theorem sXll_pa4 (l : Launch) (hst : l.stackTraces = false) (D : va_G) (cA : Nat → ClassId) (base : Nat) : ∀ d : Nat, sX_pa4 l D cA base d (sc_pa4 d).1 (sc_pa4 d).2.1 (sc_pa4 d).2.2.1 (sc_pa4 d).2.2.2 := by
  intro d
  induction d with
  | zero => exact ⟨(fun h => by cases h), (fun h => by cases h), (fun h => by cases h), (fun h => by cases h)⟩
  | succ d ih => exact ⟨fun h => xo_pa_readStatements l hst D cA base (sAll_pa4 l D cA base d) ih h, fun h => xo_pa_readStatement l hst D cA base (sAll_pa4 l D cA base d) ih h, fun h => xo_pa_readRest l hst D cA base (sAll_pa4 l D cA base d) ih h, fun h => xo_pa_readBlock l hst D cA base (sAll_pa4 l D cA base d) ih h⟩
theorem c_pa_readStatements (l : Launch) (D : va_G) (cA : Nat → ClassId) (base : Nat) {d : Nat} : ∀ {a0 : Nat} {a1 : Int32} {a2 : Int32} {w w' : WW} {r : Option Nat}, f_pa_readStatements d a0 a1 a2 w = some (.inl r, w') → mt l D cls (wo_tys cA) cA base y_pa_readStatements (Cond.code y_pa_readStatements b_pa_readStatements 7 (some (.object "AlarmForge$Statement")) :: gt) (rm_pa_readStatements d) [.ref (base + a0), .int a1, .int a2] w (some (rb base r)) w' (rm_pa_readStatements d).cells (rm_pa_readStatements d).slots := (sAll_pa4 l D cA base d).1.1
theorem kb_pa_readStatements {d : Nat} : ∀ {a0 : Nat} {a1 : Int32} {a2 : Int32} {w : WW} {r : ((Option Nat ⊕ String) × WW)}, f_pa_readStatements d a0 a1 a2 w = some r → kb w a0 2 = true := by
  intro a0 a1 a2 w r h
  cases d with
  | zero => cases h
  | succ d => exact kbo_pa_readStatements (g_pa_readStatements := (sc_pa4 d).1) (g_pa_readStatement := (sc_pa4 d).2.1) (g_pa_readRest := (sc_pa4 d).2.2.1) (g_pa_readBlock := (sc_pa4 d).2.2.2) h
theorem x_pa_readStatements (l : Launch) (hst : l.stackTraces = false) (D : va_G) (cA : Nat → ClassId) (base : Nat) {d : Nat} : ∀ {a0 : Nat} {a1 : Int32} {a2 : Int32} {w w' : WW} {E : String}, f_pa_readStatements d a0 a1 a2 w = some (.inr E, w') → xt l D cls (wo_tys cA) cA base y_pa_readStatements (Cond.code y_pa_readStatements b_pa_readStatements 7 (some (.object "AlarmForge$Statement")) :: gt) (rx_pa_readStatements d) [.ref (base + a0), .int a1, .int a2] w E w' (rx_pa_readStatements d).cells (rx_pa_readStatements d).slots := (sXll_pa4 l hst D cA base d).1
theorem c_pa_readStatement (l : Launch) (D : va_G) (cA : Nat → ClassId) (base : Nat) {d : Nat} : ∀ {a0 : Nat} {a1 : Int32} {w w' : WW} {r : Option Nat}, f_pa_readStatement d a0 a1 w = some (.inl r, w') → mt l D cls (wo_tys cA) cA base y_pa_readStatement (Cond.code y_pa_readStatement b_pa_readStatement 4 (some (.object "AlarmForge$Statement")) :: gt) (rm_pa_readStatement d) [.ref (base + a0), .int a1] w (some (rb base r)) w' (rm_pa_readStatement d).cells (rm_pa_readStatement d).slots := (sAll_pa4 l D cA base d).2.1.1
theorem kb_pa_readStatement {d : Nat} : ∀ {a0 : Nat} {a1 : Int32} {w : WW} {r : ((Option Nat ⊕ String) × WW)}, f_pa_readStatement d a0 a1 w = some r → kb w a0 2 = true := by
  intro a0 a1 w r h
  cases d with
  | zero => cases h
  | succ d => exact kbo_pa_readStatement (g_pa_readStatements := (sc_pa4 d).1) (g_pa_readStatement := (sc_pa4 d).2.1) (g_pa_readRest := (sc_pa4 d).2.2.1) (g_pa_readBlock := (sc_pa4 d).2.2.2) h
theorem x_pa_readStatement (l : Launch) (hst : l.stackTraces = false) (D : va_G) (cA : Nat → ClassId) (base : Nat) {d : Nat} : ∀ {a0 : Nat} {a1 : Int32} {w w' : WW} {E : String}, f_pa_readStatement d a0 a1 w = some (.inr E, w') → xt l D cls (wo_tys cA) cA base y_pa_readStatement (Cond.code y_pa_readStatement b_pa_readStatement 4 (some (.object "AlarmForge$Statement")) :: gt) (rx_pa_readStatement d) [.ref (base + a0), .int a1] w E w' (rx_pa_readStatement d).cells (rx_pa_readStatement d).slots := (sXll_pa4 l hst D cA base d).2.1
theorem c_pa_readRest (l : Launch) (D : va_G) (cA : Nat → ClassId) (base : Nat) {d : Nat} : ∀ {a0 : Nat} {a1 : Option Nat} {a2 : Int32} {w w' : WW}, f_pa_readRest d a0 a1 a2 w = some (.inl (), w') → mt l D cls (wo_tys cA) cA base y_pa_readRest (Cond.code y_pa_readRest b_pa_readRest 3 (none) :: gt) (rm_pa_readRest d) [.ref (base + a0), rb base a1, .int a2] w none w' (rm_pa_readRest d).cells (rm_pa_readRest d).slots := (sAll_pa4 l D cA base d).2.2.1.1
theorem kb_pa_readRest {d : Nat} : ∀ {a0 : Nat} {a1 : Option Nat} {a2 : Int32} {w : WW} {r : ((Unit ⊕ String) × WW)}, f_pa_readRest d a0 a1 a2 w = some r → kb w a0 2 = true := by
  intro a0 a1 a2 w r h
  cases d with
  | zero => cases h
  | succ d => exact kbo_pa_readRest (g_pa_readStatements := (sc_pa4 d).1) (g_pa_readStatement := (sc_pa4 d).2.1) (g_pa_readRest := (sc_pa4 d).2.2.1) (g_pa_readBlock := (sc_pa4 d).2.2.2) h
theorem x_pa_readRest (l : Launch) (hst : l.stackTraces = false) (D : va_G) (cA : Nat → ClassId) (base : Nat) {d : Nat} : ∀ {a0 : Nat} {a1 : Option Nat} {a2 : Int32} {w w' : WW} {E : String}, f_pa_readRest d a0 a1 a2 w = some (.inr E, w') → xt l D cls (wo_tys cA) cA base y_pa_readRest (Cond.code y_pa_readRest b_pa_readRest 3 (none) :: gt) (rx_pa_readRest d) [.ref (base + a0), rb base a1, .int a2] w E w' (rx_pa_readRest d).cells (rx_pa_readRest d).slots := (sXll_pa4 l hst D cA base d).2.2.1
theorem c_pa_readBlock (l : Launch) (D : va_G) (cA : Nat → ClassId) (base : Nat) {d : Nat} : ∀ {a0 : Nat} {a1 : Int32} {w w' : WW} {r : Option Nat}, f_pa_readBlock d a0 a1 w = some (.inl r, w') → mt l D cls (wo_tys cA) cA base y_pa_readBlock (Cond.code y_pa_readBlock b_pa_readBlock 3 (some (.object "AlarmForge$Statement")) :: gt) (rm_pa_readBlock d) [.ref (base + a0), .int a1] w (some (rb base r)) w' (rm_pa_readBlock d).cells (rm_pa_readBlock d).slots := (sAll_pa4 l D cA base d).2.2.2.1
theorem kb_pa_readBlock {d : Nat} : ∀ {a0 : Nat} {a1 : Int32} {w : WW} {r : ((Option Nat ⊕ String) × WW)}, f_pa_readBlock d a0 a1 w = some r → kb w a0 2 = true := by
  intro a0 a1 w r h
  cases d with
  | zero => cases h
  | succ d => exact kbo_pa_readBlock (g_pa_readStatements := (sc_pa4 d).1) (g_pa_readStatement := (sc_pa4 d).2.1) (g_pa_readRest := (sc_pa4 d).2.2.1) (g_pa_readBlock := (sc_pa4 d).2.2.2) h
theorem x_pa_readBlock (l : Launch) (hst : l.stackTraces = false) (D : va_G) (cA : Nat → ClassId) (base : Nat) {d : Nat} : ∀ {a0 : Nat} {a1 : Int32} {w w' : WW} {E : String}, f_pa_readBlock d a0 a1 w = some (.inr E, w') → xt l D cls (wo_tys cA) cA base y_pa_readBlock (Cond.code y_pa_readBlock b_pa_readBlock 3 (some (.object "AlarmForge$Statement")) :: gt) (rx_pa_readBlock d) [.ref (base + a0), .int a1] w E w' (rx_pa_readBlock d).cells (rx_pa_readBlock d).slots := (sXll_pa4 l hst D cA base d).2.2.2
