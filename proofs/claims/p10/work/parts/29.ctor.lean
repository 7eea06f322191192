/-! Constructors as functions, and their contracts (by wip/gen/ctor.py). -/
abbrev b_va_init : ByteArray := prog_9_method_1_code
def y_va_init : MethodName := ⟨"AlarmForge$Value", "<init>", "()V"⟩
def rk_va_init (k : Nat) : Room := { frames := 1, cells := k, slots := kS k, locals := 24 }
theorem d_va_init_0 : decode b_va_init 0 = .ok (.aload_n 0, 1) := by decide +kernel
theorem d_va_init_1 : decode b_va_init 1 = .ok (.invokespecial 3, 3) := by decide +kernel
theorem d_va_init_4 : decode b_va_init 4 = .ok (.aload_n 0, 1) := by decide +kernel
theorem d_va_init_5 : decode b_va_init 5 = .ok (.iconst 1, 1) := by decide +kernel
theorem d_va_init_6 : decode b_va_init 6 = .ok (.putfield 9, 3) := by decide +kernel
theorem d_va_init_9 : decode b_va_init 9 = .ok (.return_, 1) := by decide +kernel
def f_va_init (a0 z0 lc : Nat) (w : WW) : Option WW :=
  if (1 : Int32) = 0 ∨ (1 : Int32) = 1 then
    (pv w a0 8 0 (.int (1 : Int32))).bind fun w1 =>
    if z0 = lc then some w1 else none
  else none
set_option maxHeartbeats 4000000 in
set_option maxRecDepth 100000 in
theorem c_va_init (l : Launch) (D : va_G) (cA : Nat → ClassId) (base : Nat) {a0 z0 lc : Nat} {w w' : WW} (h : f_va_init a0 z0 lc w = some w') : kt l D cls (wo_tys cA) cA base y_va_init (Cond.code y_va_init b_va_init 1 none :: gt) (rk_va_init (lc - z0)) [.ref (base + a0)] z0 lc w w' := by
  refine kt_start (by decide) (Nat.le_of_ble_eq_true rfl) ?_
  intro p e s m below meth c ls hx hb hr hml hown hts hlk hnm hK hG hZ hl
  have C : cx b_va_init (none) 1 y_va_init.cls "<init>" p s m [.ref (base + a0)].toArray meth c D cA base := ⟨hx, hb, hr, hml, hown, hts, hlk, hnm, hK, hG⟩
  have hl : lv_has ls 1 [(0, .ref (base + a0))] := hl
  have hW := hZ.1
  unfold f_va_init at h
  refine W.widen (k := z0 - z0) (n := kS (z0 - z0)) (Nat.le_refl _) (Nat.zero_le _) ?_
  refine lv_aload_n hx hb d_va_init_0 rfl (lv_at hl 0 rfl) ?_
  refine W.objInit hx hb hown (hts (.methodLink "AlarmForge$Value" 3 objectInit) (gt_of (i := 260) (by decide +kernel) (by decide +kernel))) (hts (.instanceMethod objectInit) (gt_of (i := 31) (by decide +kernel) (by decide +kernel))) (hts (.code objectInit ⟨#[0xb1]⟩ 1 none) (gt_of (i := 32) (by decide +kernel) (by decide +kernel))) rfl (hl.1.trans hml.symm) rfl d_va_init_1 (Nat.le_of_ble_eq_true rfl) (Nat.le_of_ble_eq_true rfl) ?_
  refine W.eq (g2 := F0 m 4 ls []) rfl ?_
  refine lv_aload_n hx hb d_va_init_4 rfl (lv_at hl 0 rfl) ?_
  refine lv_iconst (v := (1 : Int32)) hx hb d_va_init_5 (by decide) ?_
  replace h := its h
  obtain ⟨c2, h⟩ := h
  replace h := bs h
  obtain ⟨w1, hw1, h⟩ := h
  refine pf_va_9 hx hb hts hown hK hG hW (z_n c2) (z_f c2) (pbi hw1 rfl) d_va_init_6 (fun H locs hW => ?_)
  refine wz_back hZ (fun q g => pv_dom hw1 g) hW (fun hZ => ?_)
  have hW := hZ.1
  replace h := its h
  obtain ⟨c3, h⟩ := h
  cases h
  subst c3
  exact wo_kret hx hb hr hlk hZ d_va_init_9
abbrev b_st_init : ByteArray := prog_8_method_1_code
def y_st_init : MethodName := ⟨"AlarmForge$Statement", "<init>", "()V"⟩
def rk_st_init (k : Nat) : Room := { frames := 1, cells := k, slots := kS k, locals := 24 }
theorem d_st_init_0 : decode b_st_init 0 = .ok (.aload_n 0, 1) := by decide +kernel
theorem d_st_init_1 : decode b_st_init 1 = .ok (.invokespecial 1, 3) := by decide +kernel
theorem d_st_init_4 : decode b_st_init 4 = .ok (.return_, 1) := by decide +kernel
def f_st_init (a0 z0 lc : Nat) (w : WW) : Option WW :=
  if z0 = lc then some w else none
set_option maxHeartbeats 4000000 in
set_option maxRecDepth 100000 in
theorem c_st_init (l : Launch) (D : va_G) (cA : Nat → ClassId) (base : Nat) {a0 z0 lc : Nat} {w w' : WW} (h : f_st_init a0 z0 lc w = some w') : kt l D cls (wo_tys cA) cA base y_st_init (Cond.code y_st_init b_st_init 1 none :: gt) (rk_st_init (lc - z0)) [.ref (base + a0)] z0 lc w w' := by
  refine kt_start (by decide) (Nat.le_of_ble_eq_true rfl) ?_
  intro p e s m below meth c ls hx hb hr hml hown hts hlk hnm hK hG hZ hl
  have C : cx b_st_init (none) 1 y_st_init.cls "<init>" p s m [.ref (base + a0)].toArray meth c D cA base := ⟨hx, hb, hr, hml, hown, hts, hlk, hnm, hK, hG⟩
  have hl : lv_has ls 1 [(0, .ref (base + a0))] := hl
  have hW := hZ.1
  unfold f_st_init at h
  refine W.widen (k := z0 - z0) (n := kS (z0 - z0)) (Nat.le_refl _) (Nat.zero_le _) ?_
  refine lv_aload_n hx hb d_st_init_0 rfl (lv_at hl 0 rfl) ?_
  refine W.objInit hx hb hown (hts (.methodLink "AlarmForge$Statement" 1 objectInit) (gt_of (i := 106) (by decide +kernel) (by decide +kernel))) (hts (.instanceMethod objectInit) (gt_of (i := 31) (by decide +kernel) (by decide +kernel))) (hts (.code objectInit ⟨#[0xb1]⟩ 1 none) (gt_of (i := 32) (by decide +kernel) (by decide +kernel))) rfl (hl.1.trans hml.symm) rfl d_st_init_1 (Nat.le_of_ble_eq_true rfl) (Nat.le_of_ble_eq_true rfl) ?_
  refine W.eq (g2 := F0 m 4 ls []) rfl ?_
  replace h := its h
  obtain ⟨c1, h⟩ := h
  cases h
  subst c1
  exact wo_kret hx hb hr hlk hZ d_st_init_4
abbrev b_rd_init : ByteArray := prog_5_method_1_code
def y_rd_init : MethodName := ⟨"AlarmForge$Reader", "<init>", "()V"⟩
def rk_rd_init (k : Nat) : Room := { frames := 1, cells := k, slots := kS k, locals := 24 }
theorem d_rd_init_0 : decode b_rd_init 0 = .ok (.aload_n 0, 1) := by decide +kernel
theorem d_rd_init_1 : decode b_rd_init 1 = .ok (.invokespecial 3, 3) := by decide +kernel
theorem d_rd_init_4 : decode b_rd_init 4 = .ok (.aload_n 0, 1) := by decide +kernel
theorem d_rd_init_5 : decode b_rd_init 5 = .ok (.sipush (200), 3) := by decide +kernel
theorem d_rd_init_8 : decode b_rd_init 8 = .ok (.newarray .char, 2) := by decide +kernel
theorem d_rd_init_10 : decode b_rd_init 10 = .ok (.putfield 9, 3) := by decide +kernel
theorem d_rd_init_13 : decode b_rd_init 13 = .ok (.aload_n 0, 1) := by decide +kernel
theorem d_rd_init_14 : decode b_rd_init 14 = .ok (.sipush (201), 3) := by decide +kernel
theorem d_rd_init_17 : decode b_rd_init 17 = .ok (.newarray .int, 2) := by decide +kernel
theorem d_rd_init_19 : decode b_rd_init 19 = .ok (.putfield 15, 3) := by decide +kernel
theorem d_rd_init_22 : decode b_rd_init 22 = .ok (.aload_n 0, 1) := by decide +kernel
theorem d_rd_init_23 : decode b_rd_init 23 = .ok (.sipush (201), 3) := by decide +kernel
theorem d_rd_init_26 : decode b_rd_init 26 = .ok (.newarray .int, 2) := by decide +kernel
theorem d_rd_init_28 : decode b_rd_init 28 = .ok (.putfield 19, 3) := by decide +kernel
theorem d_rd_init_31 : decode b_rd_init 31 = .ok (.aload_n 0, 1) := by decide +kernel
theorem d_rd_init_32 : decode b_rd_init 32 = .ok (.sipush (201), 3) := by decide +kernel
theorem d_rd_init_35 : decode b_rd_init 35 = .ok (.newarray .int, 2) := by decide +kernel
theorem d_rd_init_37 : decode b_rd_init 37 = .ok (.putfield 22, 3) := by decide +kernel
theorem d_rd_init_40 : decode b_rd_init 40 = .ok (.return_, 1) := by decide +kernel
def f_rd_init (a0 z0 lc : Nat) (w : WW) : Option WW :=
  if z0 + 1 ≤ lc then
    (some (wo_up w z0 (.inl (3, 200, .inl (fun _ => 0))))).bind fun w2 =>
    (pv w2 a0 1 0 (.ref z0)).bind fun w3 =>
    if (z0 + 1) + 1 ≤ lc then
      (some (wo_up w3 (z0 + 1) (.inl (0, 201, .inl (fun _ => 0))))).bind fun w5 =>
      (pv w5 a0 1 1 (.ref (z0 + 1))).bind fun w6 =>
      if ((z0 + 1) + 1) + 1 ≤ lc then
        (some (wo_up w6 ((z0 + 1) + 1) (.inl (0, 201, .inl (fun _ => 0))))).bind fun w8 =>
        (pv w8 a0 1 2 (.ref ((z0 + 1) + 1))).bind fun w9 =>
        if (((z0 + 1) + 1) + 1) + 1 ≤ lc then
          (some (wo_up w9 (((z0 + 1) + 1) + 1) (.inl (0, 201, .inl (fun _ => 0))))).bind fun w11 =>
          (pv w11 a0 1 3 (.ref (((z0 + 1) + 1) + 1))).bind fun w12 =>
          if ((((z0 + 1) + 1) + 1) + 1) = lc then some w12 else none
        else none
      else none
    else none
  else none
set_option maxHeartbeats 4000000 in
set_option maxRecDepth 100000 in
theorem c_rd_init (l : Launch) (D : va_G) (cA : Nat → ClassId) (base : Nat) {a0 z0 lc : Nat} {w w' : WW} (h : f_rd_init a0 z0 lc w = some w') : kt l D cls (wo_tys cA) cA base y_rd_init (Cond.code y_rd_init b_rd_init 1 none :: gt) (rk_rd_init (lc - z0)) [.ref (base + a0)] z0 lc w w' := by
  refine kt_start (by decide) (Nat.le_of_ble_eq_true rfl) ?_
  intro p e s m below meth c ls hx hb hr hml hown hts hlk hnm hK hG hZ hl
  have C : cx b_rd_init (none) 1 y_rd_init.cls "<init>" p s m [.ref (base + a0)].toArray meth c D cA base := ⟨hx, hb, hr, hml, hown, hts, hlk, hnm, hK, hG⟩
  have hl : lv_has ls 1 [(0, .ref (base + a0))] := hl
  have hW := hZ.1
  unfold f_rd_init at h
  refine W.widen (k := z0 - z0) (n := kS (z0 - z0)) (Nat.le_refl _) (Nat.zero_le _) ?_
  refine lv_aload_n hx hb d_rd_init_0 rfl (lv_at hl 0 rfl) ?_
  refine W.objInit hx hb hown (hts (.methodLink "AlarmForge$Reader" 3 objectInit) (gt_of (i := 44) (by decide +kernel) (by decide +kernel))) (hts (.instanceMethod objectInit) (gt_of (i := 31) (by decide +kernel) (by decide +kernel))) (hts (.code objectInit ⟨#[0xb1]⟩ 1 none) (gt_of (i := 32) (by decide +kernel) (by decide +kernel))) rfl (hl.1.trans hml.symm) rfl d_rd_init_1 (Nat.le_of_ble_eq_true rfl) (Nat.le_of_ble_eq_true rfl) ?_
  refine W.eq (g2 := F0 m 4 ls []) rfl ?_
  refine lv_aload_n hx hb d_rd_init_4 rfl (lv_at hl 0 rfl) ?_
  refine lv_sipush (v := (200 : Int32)) hx hb d_rd_init_5 (by decide) ?_
  replace h := its h
  obtain ⟨c1, h⟩ := h
  refine wo_newaS (t := 3) (ty := .char) (atype := .char) (N' := 200) (a0 := (200, .inl (fun _ => 0))) hx hb (hts (.arrayClass .char) (gt_of (i := 77) (by decide +kernel) (by decide +kernel))) rfl hK hW hZ.2.1 rfl rfl (na_3 _) (by decide +kernel) (by decide +kernel) (by decide +kernel) (kC_new hZ.2.2.2.2.1 c1) (kS_new hZ.2.2.2.2.1 c1 (by decide)) d_rd_init_8 (fun H hsn hWn => ?_)
  have hle := hZ.2.2.2.2.1
  replace hZ := wz_new hZ hsn hWn
  replace h := bs h
  obtain ⟨w2, hw2, h⟩ := h
  rw [Option.some.inj hw2] at hZ
  have hW := hZ.1
  refine W.widen (k := (z0 + 1) - z0) (n := kS ((z0 + 1) - z0)) (kC_step hle) (kS_step hle (by decide)) ?_
  replace h := bs h
  obtain ⟨w3, hw3, h⟩ := h
  refine pf_rd_9 hx hb hts hown hK hG hW hnm rfl rfl (pbi hw3 rfl) d_rd_init_10 (fun H locs hW => ?_)
  refine wz_back hZ (fun q g => pv_dom hw3 g) hW (fun hZ => ?_)
  have hW := hZ.1
  refine lv_aload_n hx hb d_rd_init_13 rfl (lv_at hl 0 rfl) ?_
  refine lv_sipush (v := (201 : Int32)) hx hb d_rd_init_14 (by decide) ?_
  replace h := its h
  obtain ⟨c4, h⟩ := h
  refine wo_newaS (t := 0) (ty := .int) (atype := .int) (N' := 201) (a0 := (201, .inl (fun _ => 0))) hx hb (hts (.arrayClass .int) (gt_of (i := 78) (by decide +kernel) (by decide +kernel))) rfl hK hW hZ.2.1 rfl rfl (na_0 _) (by decide +kernel) (by decide +kernel) (by decide +kernel) (kC_new hZ.2.2.2.2.1 c4) (kS_new hZ.2.2.2.2.1 c4 (by decide)) d_rd_init_17 (fun H hsn hWn => ?_)
  have hle := hZ.2.2.2.2.1
  replace hZ := wz_new hZ hsn hWn
  replace h := bs h
  obtain ⟨w5, hw5, h⟩ := h
  rw [Option.some.inj hw5] at hZ
  have hW := hZ.1
  refine W.widen (k := ((z0 + 1) + 1) - z0) (n := kS (((z0 + 1) + 1) - z0)) (kC_step hle) (kS_step hle (by decide)) ?_
  replace h := bs h
  obtain ⟨w6, hw6, h⟩ := h
  refine pf_rd_15 hx hb hts hown hK hG hW hnm rfl rfl (pbi hw6 rfl) d_rd_init_19 (fun H locs hW => ?_)
  refine wz_back hZ (fun q g => pv_dom hw6 g) hW (fun hZ => ?_)
  have hW := hZ.1
  refine lv_aload_n hx hb d_rd_init_22 rfl (lv_at hl 0 rfl) ?_
  refine lv_sipush (v := (201 : Int32)) hx hb d_rd_init_23 (by decide) ?_
  replace h := its h
  obtain ⟨c7, h⟩ := h
  refine wo_newaS (t := 0) (ty := .int) (atype := .int) (N' := 201) (a0 := (201, .inl (fun _ => 0))) hx hb (hts (.arrayClass .int) (gt_of (i := 78) (by decide +kernel) (by decide +kernel))) rfl hK hW hZ.2.1 rfl rfl (na_0 _) (by decide +kernel) (by decide +kernel) (by decide +kernel) (kC_new hZ.2.2.2.2.1 c7) (kS_new hZ.2.2.2.2.1 c7 (by decide)) d_rd_init_26 (fun H hsn hWn => ?_)
  have hle := hZ.2.2.2.2.1
  replace hZ := wz_new hZ hsn hWn
  replace h := bs h
  obtain ⟨w8, hw8, h⟩ := h
  rw [Option.some.inj hw8] at hZ
  have hW := hZ.1
  refine W.widen (k := (((z0 + 1) + 1) + 1) - z0) (n := kS ((((z0 + 1) + 1) + 1) - z0)) (kC_step hle) (kS_step hle (by decide)) ?_
  replace h := bs h
  obtain ⟨w9, hw9, h⟩ := h
  refine pf_rd_19 hx hb hts hown hK hG hW hnm rfl rfl (pbi hw9 rfl) d_rd_init_28 (fun H locs hW => ?_)
  refine wz_back hZ (fun q g => pv_dom hw9 g) hW (fun hZ => ?_)
  have hW := hZ.1
  refine lv_aload_n hx hb d_rd_init_31 rfl (lv_at hl 0 rfl) ?_
  refine lv_sipush (v := (201 : Int32)) hx hb d_rd_init_32 (by decide) ?_
  replace h := its h
  obtain ⟨c10, h⟩ := h
  refine wo_newaS (t := 0) (ty := .int) (atype := .int) (N' := 201) (a0 := (201, .inl (fun _ => 0))) hx hb (hts (.arrayClass .int) (gt_of (i := 78) (by decide +kernel) (by decide +kernel))) rfl hK hW hZ.2.1 rfl rfl (na_0 _) (by decide +kernel) (by decide +kernel) (by decide +kernel) (kC_new hZ.2.2.2.2.1 c10) (kS_new hZ.2.2.2.2.1 c10 (by decide)) d_rd_init_35 (fun H hsn hWn => ?_)
  have hle := hZ.2.2.2.2.1
  replace hZ := wz_new hZ hsn hWn
  replace h := bs h
  obtain ⟨w11, hw11, h⟩ := h
  rw [Option.some.inj hw11] at hZ
  have hW := hZ.1
  refine W.widen (k := ((((z0 + 1) + 1) + 1) + 1) - z0) (n := kS (((((z0 + 1) + 1) + 1) + 1) - z0)) (kC_step hle) (kS_step hle (by decide)) ?_
  replace h := bs h
  obtain ⟨w12, hw12, h⟩ := h
  refine pf_rd_22 hx hb hts hown hK hG hW hnm rfl rfl (pbi hw12 rfl) d_rd_init_37 (fun H locs hW => ?_)
  refine wz_back hZ (fun q g => pv_dom hw12 g) hW (fun hZ => ?_)
  have hW := hZ.1
  replace h := its h
  obtain ⟨c13, h⟩ := h
  cases h
  subst c13
  exact wo_kret hx hb hr hlk hZ d_rd_init_40
abbrev b_pa_init : ByteArray := prog_3_method_1_code
def y_pa_init : MethodName := ⟨"AlarmForge$Parser", "<init>", "()V"⟩
def rk_pa_init (k : Nat) : Room := { frames := 2, cells := k, slots := kS k, locals := 44 }
theorem d_pa_init_0 : decode b_pa_init 0 = .ok (.aload_n 0, 1) := by decide +kernel
theorem d_pa_init_1 : decode b_pa_init 1 = .ok (.invokespecial 3, 3) := by decide +kernel
theorem d_pa_init_4 : decode b_pa_init 4 = .ok (.aload_n 0, 1) := by decide +kernel
theorem d_pa_init_5 : decode b_pa_init 5 = .ok (.new 9, 3) := by decide +kernel
theorem d_pa_init_8 : decode b_pa_init 8 = .ok (.dup, 1) := by decide +kernel
theorem d_pa_init_9 : decode b_pa_init 9 = .ok (.invokespecial 11, 3) := by decide +kernel
theorem d_pa_init_12 : decode b_pa_init 12 = .ok (.putfield 12, 3) := by decide +kernel
theorem d_pa_init_15 : decode b_pa_init 15 = .ok (.aload_n 0, 1) := by decide +kernel
theorem d_pa_init_16 : decode b_pa_init 16 = .ok (.bipush (-2), 2) := by decide +kernel
theorem d_pa_init_18 : decode b_pa_init 18 = .ok (.putfield 18, 3) := by decide +kernel
theorem d_pa_init_21 : decode b_pa_init 21 = .ok (.return_, 1) := by decide +kernel
def f_pa_init (a0 z0 lc : Nat) (w : WW) : Option WW :=
  if z0 + 1 ≤ lc then
    (some (wo_up w z0 (.inr (1, [.null, .null, .null, .null, .int 0, .int 0, .int 0, .int 0, .int 0])))).bind fun w2 =>
    if (z0 + 1) + 4 ≤ lc then
      (f_rd_init z0 (z0 + 1) ((z0 + 1) + 4) w2).bind fun w4 =>
      (pv w4 a0 2 0 (.ref z0)).bind fun w5 =>
      (pv w5 a0 2 3 (.int (-2 : Int32))).bind fun w6 =>
      if ((z0 + 1) + 4) = lc then some w6 else none
    else none
  else none
set_option maxHeartbeats 4000000 in
set_option maxRecDepth 100000 in
theorem c_pa_init (l : Launch) (D : va_G) (cA : Nat → ClassId) (base : Nat) {a0 z0 lc : Nat} {w w' : WW} (h : f_pa_init a0 z0 lc w = some w') : kt l D cls (wo_tys cA) cA base y_pa_init (Cond.code y_pa_init b_pa_init 1 none :: gt) (rk_pa_init (lc - z0)) [.ref (base + a0)] z0 lc w w' := by
  refine kt_start (by decide) (Nat.le_of_ble_eq_true rfl) ?_
  intro p e s m below meth c ls hx hb hr hml hown hts hlk hnm hK hG hZ hl
  have C : cx b_pa_init (none) 1 y_pa_init.cls "<init>" p s m [.ref (base + a0)].toArray meth c D cA base := ⟨hx, hb, hr, hml, hown, hts, hlk, hnm, hK, hG⟩
  have hl : lv_has ls 1 [(0, .ref (base + a0))] := hl
  have hW := hZ.1
  unfold f_pa_init at h
  refine W.widen (k := z0 - z0) (n := kS (z0 - z0)) (Nat.le_refl _) (Nat.zero_le _) ?_
  refine lv_aload_n hx hb d_pa_init_0 rfl (lv_at hl 0 rfl) ?_
  refine W.objInit hx hb hown (hts (.methodLink "AlarmForge$Parser" 3 objectInit) (gt_of (i := 38) (by decide +kernel) (by decide +kernel))) (hts (.instanceMethod objectInit) (gt_of (i := 31) (by decide +kernel) (by decide +kernel))) (hts (.code objectInit ⟨#[0xb1]⟩ 1 none) (gt_of (i := 32) (by decide +kernel) (by decide +kernel))) rfl (hl.1.trans hml.symm) rfl d_pa_init_1 (Nat.le_of_ble_eq_true rfl) (Nat.le_of_ble_eq_true rfl) ?_
  refine W.eq (g2 := F0 m 4 ls []) rfl ?_
  refine lv_aload_n hx hb d_pa_init_4 rfl (lv_at hl 0 rfl) ?_
  replace h := its h
  obtain ⟨c1, h⟩ := h
  refine wo_newS (ci := 1) (fs := [.null, .null, .null, .null, .int 0, .int 0, .int 0, .int 0, .int 0]) (C := Rc_rd) (T := Fc_rd) (N := 9) hx hb hts ic_rd tc_rd tc_rd_ok hown (hts (.classLink "AlarmForge$Parser" 9 "AlarmForge$Reader") (gt_of (i := 39) (by decide +kernel) (by decide +kernel))) (hts (.instantiable "AlarmForge$Reader" 9) (gt_of (i := 40) (by decide +kernel) (by decide +kernel))) (hts (.initialized "AlarmForge$Reader") (gt_of (i := 3) (by decide +kernel) (by decide +kernel))) hK hW hZ.2.1 rfl rfl (by decide +kernel) (kC_new hZ.2.2.2.2.1 c1) (kS_new hZ.2.2.2.2.1 c1 (by decide)) d_pa_init_5 (fun H hsn hWn => ?_)
  have hle := hZ.2.2.2.2.1
  replace hZ := wz_new hZ hsn hWn
  replace h := bs h
  obtain ⟨w2, hw2, h⟩ := h
  rw [Option.some.inj hw2] at hZ
  have hW := hZ.1
  refine W.widen (k := (z0 + 1) - z0) (n := kS ((z0 + 1) - z0)) (kC_step hle) (kS_step hle (by decide)) ?_
  refine lv_dup hx hb d_pa_init_8 rfl ?_
  replace h := its h
  obtain ⟨c3, h⟩ := h
  replace h := bs h
  obtain ⟨w4, hw4, h⟩ := h
  have hle := hZ.2.2.2.2.1
  refine wo_callK (As := []) (rest := [.ref (base + z0), .ref (base + a0)]) (lc := (z0 + 1) + 4) (n := 0) (y := y_rd_init) hx hb hml hown hts hK hG hZ (c_rd_init l D cA base hw4) (Nat.le_add_right _ _) (cwI 0 hts (gt_in (gt_of (i := 43) (by decide +kernel) (by decide +kernel))) rfl rfl rfl (hts _ (gt_of (i := 3) (by decide +kernel) (by decide +kernel))) (hts _ (gt_of (i := 41) (by decide +kernel) (by decide +kernel))) (hts _ (gt_of (i := 42) (by decide +kernel) (by decide +kernel))) rfl (by decide +kernel) ⟨Nat.le_of_ble_eq_true rfl, Nat.le_of_ble_eq_true rfl⟩) ⟨kC_call hZ.2.2.2.2.1 c3, kS_call hZ.2.2.2.2.1 c3⟩ rfl hl.1 rfl (Nat.le_of_ble_eq_true rfl) d_pa_init_9 (fun H locs hZ => ?_)
  have hW := hZ.1
  refine W.widen (k := ((z0 + 1) + 4) - z0) (n := kS (((z0 + 1) + 4) - z0)) (kC_past hle) (kS_past hle) ?_
  replace h := bs h
  obtain ⟨w5, hw5, h⟩ := h
  refine pf_pa_12 hx hb hts hown hK hG hW hnm rfl rfl (pbi hw5 rfl) d_pa_init_12 (fun H locs hW => ?_)
  refine wz_back hZ (fun q g => pv_dom hw5 g) hW (fun hZ => ?_)
  have hW := hZ.1
  refine lv_aload_n hx hb d_pa_init_15 rfl (lv_at hl 0 rfl) ?_
  refine lv_bipush (v := (-2 : Int32)) hx hb d_pa_init_16 (by decide) ?_
  replace h := bs h
  obtain ⟨w6, hw6, h⟩ := h
  refine pf_pa_18 hx hb hts hown hK hG hW rfl rfl (pbi hw6 rfl) d_pa_init_18 (fun H locs hW => ?_)
  refine wz_back hZ (fun q g => pv_dom hw6 g) hW (fun hZ => ?_)
  have hW := hZ.1
  replace h := its h
  obtain ⟨c7, h⟩ := h
  cases h
  subst c7
  exact wo_kret hx hb hr hlk hZ d_pa_init_21
abbrev b_pg_init : ByteArray := prog_4_method_1_code
def y_pg_init : MethodName := ⟨"AlarmForge$Program", "<init>", "()V"⟩
def rk_pg_init (k : Nat) : Room := { frames := 2, cells := k, slots := kS k, locals := 44 }
theorem d_pg_init_0 : decode b_pg_init 0 = .ok (.aload_n 0, 1) := by decide +kernel
theorem d_pg_init_1 : decode b_pg_init 1 = .ok (.invokespecial 3, 3) := by decide +kernel
theorem d_pg_init_4 : decode b_pg_init 4 = .ok (.aload_n 0, 1) := by decide +kernel
theorem d_pg_init_5 : decode b_pg_init 5 = .ok (.bipush (50), 2) := by decide +kernel
theorem d_pg_init_7 : decode b_pg_init 7 = .ok (.anewarray 9, 3) := by decide +kernel
theorem d_pg_init_10 : decode b_pg_init 10 = .ok (.putfield 11, 3) := by decide +kernel
theorem d_pg_init_13 : decode b_pg_init 13 = .ok (.iconst 0, 1) := by decide +kernel
theorem d_pg_init_14 : decode b_pg_init 14 = .ok (.istore_n 1, 1) := by decide +kernel
theorem d_pg_init_15 : decode b_pg_init 15 = .ok (.iload_n 1, 1) := by decide +kernel
theorem d_pg_init_16 : decode b_pg_init 16 = .ok (.bipush (50), 2) := by decide +kernel
theorem d_pg_init_18 : decode b_pg_init 18 = .ok (.if_icmp .ge (22), 3) := by decide +kernel
theorem d_pg_init_21 : decode b_pg_init 21 = .ok (.aload_n 0, 1) := by decide +kernel
theorem d_pg_init_22 : decode b_pg_init 22 = .ok (.getfield 11, 3) := by decide +kernel
theorem d_pg_init_25 : decode b_pg_init 25 = .ok (.iload_n 1, 1) := by decide +kernel
theorem d_pg_init_26 : decode b_pg_init 26 = .ok (.new 9, 3) := by decide +kernel
theorem d_pg_init_29 : decode b_pg_init 29 = .ok (.dup, 1) := by decide +kernel
theorem d_pg_init_30 : decode b_pg_init 30 = .ok (.invokespecial 17, 3) := by decide +kernel
theorem d_pg_init_33 : decode b_pg_init 33 = .ok (.aastore, 1) := by decide +kernel
theorem d_pg_init_34 : decode b_pg_init 34 = .ok (.iinc 1 (1), 3) := by decide +kernel
theorem d_pg_init_37 : decode b_pg_init 37 = .ok (.goto (-22), 3) := by decide +kernel
theorem d_pg_init_40 : decode b_pg_init 40 = .ok (.aload_n 0, 1) := by decide +kernel
theorem d_pg_init_41 : decode b_pg_init 41 = .ok (.sipush (200), 3) := by decide +kernel
theorem d_pg_init_44 : decode b_pg_init 44 = .ok (.newarray .int, 2) := by decide +kernel
theorem d_pg_init_46 : decode b_pg_init 46 = .ok (.putfield 18, 3) := by decide +kernel
theorem d_pg_init_49 : decode b_pg_init 49 = .ok (.aload_n 0, 1) := by decide +kernel
theorem d_pg_init_50 : decode b_pg_init 50 = .ok (.sipush (200), 3) := by decide +kernel
theorem d_pg_init_53 : decode b_pg_init 53 = .ok (.newarray .int, 2) := by decide +kernel
theorem d_pg_init_55 : decode b_pg_init 55 = .ok (.putfield 22, 3) := by decide +kernel
theorem d_pg_init_58 : decode b_pg_init 58 = .ok (.aload_n 0, 1) := by decide +kernel
theorem d_pg_init_59 : decode b_pg_init 59 = .ok (.sipush (200), 3) := by decide +kernel
theorem d_pg_init_62 : decode b_pg_init 62 = .ok (.newarray .int, 2) := by decide +kernel
theorem d_pg_init_64 : decode b_pg_init 64 = .ok (.putfield 25, 3) := by decide +kernel
theorem d_pg_init_67 : decode b_pg_init 67 = .ok (.return_, 1) := by decide +kernel
def f_pg_init_15 (lc : Nat) : Nat → Nat → Int32 → Nat → WW → Option WW
  | 0, _, _, _, _ => none
  | n + 1, y0, y1, sz, w =>
    if (50 : Int32) ≤ y1 then
      if sz + 1 ≤ lc then
        (some (wo_up w sz (.inl (0, 200, .inl (fun _ => 0))))).bind fun w6 =>
        (pv w6 y0 3 2 (.ref sz)).bind fun w7 =>
        if (sz + 1) + 1 ≤ lc then
          (some (wo_up w7 (sz + 1) (.inl (0, 200, .inl (fun _ => 0))))).bind fun w9 =>
          (pv w9 y0 3 3 (.ref (sz + 1))).bind fun w10 =>
          if ((sz + 1) + 1) + 1 ≤ lc then
            (some (wo_up w10 ((sz + 1) + 1) (.inl (0, 200, .inl (fun _ => 0))))).bind fun w12 =>
            (pv w12 y0 3 4 (.ref ((sz + 1) + 1))).bind fun w13 =>
            if (((sz + 1) + 1) + 1) = lc then some w13 else none
          else none
        else none
      else none
    else
      (gN w y0 3 0).bind fun x15 =>
      if sz + 1 ≤ lc then
        (some (wo_up w sz (.inr (4, [.int 0, .int 0, .int 0, .int 0, .int 0, .int 0, .int 0, .null, .null, .null])))).bind fun w17 =>
        if (sz + 1) + 0 ≤ lc then
          (f_st_init sz (sz + 1) ((sz + 1) + 0) w17).bind fun w19 =>
          (sR w19 x15 6 4 y1 sz).bind fun w20 =>
          f_pg_init_15 lc n y0 (y1 + (1 : Int32)) ((sz + 1) + 0) w20
        else none
      else none
def f_pg_init (a0 z0 lc : Nat) (w : WW) : Option WW :=
  if z0 + 1 ≤ lc then
    (some (wo_up w z0 (.inl (6, 50, .inr (.inr (.inr (.inr (fun _ => none)))))))).bind fun w2 =>
    (pv w2 a0 3 0 (.ref z0)).bind fun w3 =>
    f_pg_init_15 lc KK a0 (0 : Int32) (z0 + 1) w3
  else none
set_option maxHeartbeats 4000000 in
set_option maxRecDepth 100000 in
theorem j_pg_init_15 {p : Program} {l : Launch} {e : Env} {s : State} {m : MethodId} {args : Array Value} {below : List Frame} {meth : Method} {c : Code} {D : va_G} {cA : Nat → ClassId} {base z0 lc : Nat} {w0 w' : WW} (C : cx b_pg_init (none) 2 y_pg_init.cls "<init>" p s m args meth c D cA base) : ∀ n : Nat, ∀ (y0 : Nat) (y1 : Int32) (sz : Nat) (w : WW), f_pg_init_15 lc n y0 y1 sz w = some w' → ∀ (H : Heap) (locs : List Loc) (ls : Array Slot), wz D cls cA base s z0 w0 sz w H locs → lv_has ls 2 [(0, .ref (base + y0)), (1, .int y1)] → W p l e (rk_pg_init (lc - z0)) s m args below meth c H locs (sz - z0) (kS (sz - z0)) (MQ below (fun a st o t => wo_Q D cls cA base none w' a st o t ∧ t.heap.size = base + lc ∧ (∀ q : Nat, z0 ≤ q → q < lc → w' q ≠ none) ∧ ∀ q : Nat, w0 q ≠ none → w' q ≠ none) args s (rk_pg_init (lc - z0)).cells (rk_pg_init (lc - z0)).slots (wo_B base)) (F0 m 15 ls []) := by
  obtain ⟨hx, hb, hr, hml, hown, hts, hlk, hnm, hK, hG⟩ := id C
  intro n
  induction n with
  | zero => intro y0 y1 sz w h; cases h
  | succ n ih =>
    intro y0 y1 sz w h H locs ls hZ hl
    have hW := hZ.1
    rw [f_pg_init_15] at h
    refine lv_iload_n hx hb d_pg_init_15 rfl (lv_at hl 1 rfl) ?_
    refine lv_bipush (v := (50 : Int32)) hx hb d_pg_init_16 (by decide) ?_
    refine lv_icmp_ge (tgt := 40) hx hb d_pg_init_18 (by decide) (fun c4 => ?_) (fun c4 => ?_)
    · rw [if_pos c4] at h
      refine lv_aload_n hx hb d_pg_init_40 rfl (lv_at hl 0 rfl) ?_
      refine lv_sipush (v := (200 : Int32)) hx hb d_pg_init_41 (by decide) ?_
      replace h := its h
      obtain ⟨c5, h⟩ := h
      refine wo_newaS (t := 0) (ty := .int) (atype := .int) (N' := 200) (a0 := (200, .inl (fun _ => 0))) hx hb (hts (.arrayClass .int) (gt_of (i := 78) (by decide +kernel) (by decide +kernel))) rfl hK hW hZ.2.1 rfl rfl (na_0 _) (by decide +kernel) (by decide +kernel) (by decide +kernel) (kC_new hZ.2.2.2.2.1 c5) (kS_new hZ.2.2.2.2.1 c5 (by decide)) d_pg_init_44 (fun H hsn hWn => ?_)
      have hle := hZ.2.2.2.2.1
      replace hZ := wz_new hZ hsn hWn
      replace h := bs h
      obtain ⟨w6, hw6, h⟩ := h
      rw [Option.some.inj hw6] at hZ
      have hW := hZ.1
      refine W.widen (k := (sz + 1) - z0) (n := kS ((sz + 1) - z0)) (kC_step hle) (kS_step hle (by decide)) ?_
      replace h := bs h
      obtain ⟨w7, hw7, h⟩ := h
      refine pf_pg_18 hx hb hts hown hK hG hW hnm rfl rfl (pbi hw7 rfl) d_pg_init_46 (fun H locs hW => ?_)
      refine wz_back hZ (fun q g => pv_dom hw7 g) hW (fun hZ => ?_)
      have hW := hZ.1
      refine lv_aload_n hx hb d_pg_init_49 rfl (lv_at hl 0 rfl) ?_
      refine lv_sipush (v := (200 : Int32)) hx hb d_pg_init_50 (by decide) ?_
      replace h := its h
      obtain ⟨c8, h⟩ := h
      refine wo_newaS (t := 0) (ty := .int) (atype := .int) (N' := 200) (a0 := (200, .inl (fun _ => 0))) hx hb (hts (.arrayClass .int) (gt_of (i := 78) (by decide +kernel) (by decide +kernel))) rfl hK hW hZ.2.1 rfl rfl (na_0 _) (by decide +kernel) (by decide +kernel) (by decide +kernel) (kC_new hZ.2.2.2.2.1 c8) (kS_new hZ.2.2.2.2.1 c8 (by decide)) d_pg_init_53 (fun H hsn hWn => ?_)
      have hle := hZ.2.2.2.2.1
      replace hZ := wz_new hZ hsn hWn
      replace h := bs h
      obtain ⟨w9, hw9, h⟩ := h
      rw [Option.some.inj hw9] at hZ
      have hW := hZ.1
      refine W.widen (k := ((sz + 1) + 1) - z0) (n := kS (((sz + 1) + 1) - z0)) (kC_step hle) (kS_step hle (by decide)) ?_
      replace h := bs h
      obtain ⟨w10, hw10, h⟩ := h
      refine pf_pg_22 hx hb hts hown hK hG hW hnm rfl rfl (pbi hw10 rfl) d_pg_init_55 (fun H locs hW => ?_)
      refine wz_back hZ (fun q g => pv_dom hw10 g) hW (fun hZ => ?_)
      have hW := hZ.1
      refine lv_aload_n hx hb d_pg_init_58 rfl (lv_at hl 0 rfl) ?_
      refine lv_sipush (v := (200 : Int32)) hx hb d_pg_init_59 (by decide) ?_
      replace h := its h
      obtain ⟨c11, h⟩ := h
      refine wo_newaS (t := 0) (ty := .int) (atype := .int) (N' := 200) (a0 := (200, .inl (fun _ => 0))) hx hb (hts (.arrayClass .int) (gt_of (i := 78) (by decide +kernel) (by decide +kernel))) rfl hK hW hZ.2.1 rfl rfl (na_0 _) (by decide +kernel) (by decide +kernel) (by decide +kernel) (kC_new hZ.2.2.2.2.1 c11) (kS_new hZ.2.2.2.2.1 c11 (by decide)) d_pg_init_62 (fun H hsn hWn => ?_)
      have hle := hZ.2.2.2.2.1
      replace hZ := wz_new hZ hsn hWn
      replace h := bs h
      obtain ⟨w12, hw12, h⟩ := h
      rw [Option.some.inj hw12] at hZ
      have hW := hZ.1
      refine W.widen (k := (((sz + 1) + 1) + 1) - z0) (n := kS ((((sz + 1) + 1) + 1) - z0)) (kC_step hle) (kS_step hle (by decide)) ?_
      replace h := bs h
      obtain ⟨w13, hw13, h⟩ := h
      refine pf_pg_25 hx hb hts hown hK hG hW hnm rfl rfl (pbi hw13 rfl) d_pg_init_64 (fun H locs hW => ?_)
      refine wz_back hZ (fun q g => pv_dom hw13 g) hW (fun hZ => ?_)
      have hW := hZ.1
      replace h := its h
      obtain ⟨c14, h⟩ := h
      cases h
      subst c14
      exact wo_kret hx hb hr hlk hZ d_pg_init_67
    · rw [if_neg c4] at h
      refine lv_aload_n hx hb d_pg_init_21 rfl (lv_at hl 0 rfl) ?_
      replace h := bs h
      obtain ⟨x15, hx15, h⟩ := h
      refine gf_pg_11 hx hb hts hown hK hG hW (gN_s hx15) d_pg_init_22 ?_
      refine lv_iload_n hx hb d_pg_init_25 rfl (lv_at hl 1 rfl) ?_
      replace h := its h
      obtain ⟨c16, h⟩ := h
      refine wo_newS (ci := 4) (fs := [.int 0, .int 0, .int 0, .int 0, .int 0, .int 0, .int 0, .null, .null, .null]) (C := Rc_st) (T := Fc_st) (N := 10) hx hb hts ic_st tc_st tc_st_ok hown (hts (.classLink "AlarmForge$Program" 9 "AlarmForge$Statement") (gt_of (i := 100) (by decide +kernel) (by decide +kernel))) (hts (.instantiable "AlarmForge$Statement" 10) (gt_of (i := 102) (by decide +kernel) (by decide +kernel))) (hts (.initialized "AlarmForge$Statement") (gt_of (i := 5) (by decide +kernel) (by decide +kernel))) hK hW hZ.2.1 rfl rfl (by decide +kernel) (kC_new hZ.2.2.2.2.1 c16) (kS_new hZ.2.2.2.2.1 c16 (by decide)) d_pg_init_26 (fun H hsn hWn => ?_)
      have hle := hZ.2.2.2.2.1
      replace hZ := wz_new hZ hsn hWn
      replace h := bs h
      obtain ⟨w17, hw17, h⟩ := h
      rw [Option.some.inj hw17] at hZ
      have hW := hZ.1
      refine W.widen (k := (sz + 1) - z0) (n := kS ((sz + 1) - z0)) (kC_step hle) (kS_step hle (by decide)) ?_
      refine lv_dup hx hb d_pg_init_29 rfl ?_
      replace h := its h
      obtain ⟨c18, h⟩ := h
      replace h := bs h
      obtain ⟨w19, hw19, h⟩ := h
      have hle := hZ.2.2.2.2.1
      refine wo_callKN (As := []) (rest := [.ref (base + sz), .int y1, .ref (base + x15)]) (lc := (sz + 1) + 0) (n := 0) (y := y_st_init) hx hb hml hown hts hK hG hZ (c_st_init l D cA base hw19) (Nat.le_add_right _ _) ⟨va_cnB (host := "AlarmForge") 0 hts (gt_in (gt_of (i := 105) (by decide +kernel) (by decide +kernel))) rfl rfl rfl (hG.1 _ (List.mem_of_getElem? (i := 103) (by decide +kernel)) rfl) (hts _ (gt_of (i := 5) (by decide +kernel) (by decide +kernel))) (by decide +kernel) ⟨Nat.le_of_ble_eq_true rfl, Nat.le_of_ble_eq_true rfl⟩, rfl, hts _ (gt_of (i := 104) (by decide +kernel) (by decide +kernel))⟩ ⟨kC_call hZ.2.2.2.2.1 c18, kS_call hZ.2.2.2.2.1 c18⟩ rfl hl.1 rfl (Nat.le_of_ble_eq_true rfl) d_pg_init_30 (fun H locs hZ => ?_)
      have hW := hZ.1
      refine W.widen (k := ((sz + 1) + 0) - z0) (n := kS (((sz + 1) + 0) - z0)) (kC_past hle) (kS_past hle) ?_
      replace h := bs h
      obtain ⟨w20, hw20, h⟩ := h
      refine wo_aast (t := 6) (ci := 4) (r := (Rc_st, Fc_st, 10)) hx hb hK hW rfl rfl hw20 d_pg_init_33 (fun H locs hW => ?_)
      refine wz_back hZ (fun q g => sR_dom hw20 g) hW (fun hZ => ?_)
      have hW := hZ.1
      refine lv_iinc (v := (y1 + (1 : Int32))) (lv' := [(1, .int (y1 + (1 : Int32))), (0, .ref (base + y0))]) hx hb d_pg_init_34 hl (k := 1) rfl rfl (by decide) rfl (fun ls hl => ?_)
      refine lv_goto (tgt := 15) hx hb d_pg_init_37 (by decide) ?_
      exact ih y0 (y1 + (1 : Int32)) ((sz + 1) + 0) w20 h _ _ _ hZ (lv_sub hl [1, 0] rfl)
set_option maxHeartbeats 4000000 in
set_option maxRecDepth 100000 in
theorem c_pg_init (l : Launch) (D : va_G) (cA : Nat → ClassId) (base : Nat) {a0 z0 lc : Nat} {w w' : WW} (h : f_pg_init a0 z0 lc w = some w') : kt l D cls (wo_tys cA) cA base y_pg_init (Cond.code y_pg_init b_pg_init 2 none :: gt) (rk_pg_init (lc - z0)) [.ref (base + a0)] z0 lc w w' := by
  refine kt_start (by decide) (Nat.le_of_ble_eq_true rfl) ?_
  intro p e s m below meth c ls hx hb hr hml hown hts hlk hnm hK hG hZ hl
  have C : cx b_pg_init (none) 2 y_pg_init.cls "<init>" p s m [.ref (base + a0)].toArray meth c D cA base := ⟨hx, hb, hr, hml, hown, hts, hlk, hnm, hK, hG⟩
  have hl : lv_has ls 2 [(0, .ref (base + a0))] := hl
  have hW := hZ.1
  unfold f_pg_init at h
  refine W.widen (k := z0 - z0) (n := kS (z0 - z0)) (Nat.le_refl _) (Nat.zero_le _) ?_
  refine lv_aload_n hx hb d_pg_init_0 rfl (lv_at hl 0 rfl) ?_
  refine W.objInit hx hb hown (hts (.methodLink "AlarmForge$Program" 3 objectInit) (gt_of (i := 99) (by decide +kernel) (by decide +kernel))) (hts (.instanceMethod objectInit) (gt_of (i := 31) (by decide +kernel) (by decide +kernel))) (hts (.code objectInit ⟨#[0xb1]⟩ 1 none) (gt_of (i := 32) (by decide +kernel) (by decide +kernel))) rfl (hl.1.trans hml.symm) rfl d_pg_init_1 (Nat.le_of_ble_eq_true rfl) (Nat.le_of_ble_eq_true rfl) ?_
  refine W.eq (g2 := F0 m 4 ls []) rfl ?_
  refine lv_aload_n hx hb d_pg_init_4 rfl (lv_at hl 0 rfl) ?_
  refine lv_bipush (v := (50 : Int32)) hx hb d_pg_init_5 (by decide) ?_
  replace h := its h
  obtain ⟨c1, h⟩ := h
  refine wo_anewS (t := 6) (N' := 50) hx hb hown (hts (.classLink "AlarmForge$Program" 9 "AlarmForge$Statement") (gt_of (i := 100) (by decide +kernel) (by decide +kernel))) (va_AO.use hG.2.2.2.2.2.1) hK hW hZ.2.1 rfl (by decide +kernel) (by decide +kernel) (by decide +kernel) (kC_new hZ.2.2.2.2.1 c1) (kS_new hZ.2.2.2.2.1 c1 (by decide)) d_pg_init_7 (fun H hsn hWn => ?_)
  have hle := hZ.2.2.2.2.1
  replace hZ := wz_new hZ hsn hWn
  replace h := bs h
  obtain ⟨w2, hw2, h⟩ := h
  rw [Option.some.inj hw2] at hZ
  have hW := hZ.1
  refine W.widen (k := (z0 + 1) - z0) (n := kS ((z0 + 1) - z0)) (kC_step hle) (kS_step hle (by decide)) ?_
  replace h := bs h
  obtain ⟨w3, hw3, h⟩ := h
  refine pf_pg_11 hx hb hts hown hK hG hW hnm rfl rfl (pbi hw3 rfl) d_pg_init_10 (fun H locs hW => ?_)
  refine wz_back hZ (fun q g => pv_dom hw3 g) hW (fun hZ => ?_)
  have hW := hZ.1
  refine lv_iconst (v := (0 : Int32)) hx hb d_pg_init_13 (by decide) ?_
  refine lv_istore_n (lv' := [(1, .int (0 : Int32)), (0, .ref (base + a0))]) hx hb d_pg_init_14 rfl hl (by decide) rfl (fun ls hl => ?_)
  exact j_pg_init_15 C KK a0 (0 : Int32) (z0 + 1) w3 h _ _ _ hZ (lv_sub hl [1, 0] rfl)
abbrev b_ru_init : ByteArray := prog_6_method_1_code
def y_ru_init : MethodName := ⟨"AlarmForge$Runner", "<init>", "()V"⟩
def rk_ru_init (k : Nat) : Room := { frames := 1, cells := k, slots := kS k, locals := 24 }
theorem d_ru_init_0 : decode b_ru_init 0 = .ok (.aload_n 0, 1) := by decide +kernel
theorem d_ru_init_1 : decode b_ru_init 1 = .ok (.invokespecial 3, 3) := by decide +kernel
theorem d_ru_init_4 : decode b_ru_init 4 = .ok (.aload_n 0, 1) := by decide +kernel
theorem d_ru_init_5 : decode b_ru_init 5 = .ok (.bipush (6), 2) := by decide +kernel
theorem d_ru_init_7 : decode b_ru_init 7 = .ok (.newarray .int, 2) := by decide +kernel
theorem d_ru_init_9 : decode b_ru_init 9 = .ok (.putfield 9, 3) := by decide +kernel
theorem d_ru_init_12 : decode b_ru_init 12 = .ok (.aload_n 0, 1) := by decide +kernel
theorem d_ru_init_13 : decode b_ru_init 13 = .ok (.bipush (6), 2) := by decide +kernel
theorem d_ru_init_15 : decode b_ru_init 15 = .ok (.newarray .boolean, 2) := by decide +kernel
theorem d_ru_init_17 : decode b_ru_init 17 = .ok (.putfield 15, 3) := by decide +kernel
theorem d_ru_init_20 : decode b_ru_init 20 = .ok (.iconst 0, 1) := by decide +kernel
theorem d_ru_init_21 : decode b_ru_init 21 = .ok (.istore_n 1, 1) := by decide +kernel
theorem d_ru_init_22 : decode b_ru_init 22 = .ok (.iload_n 1, 1) := by decide +kernel
theorem d_ru_init_23 : decode b_ru_init 23 = .ok (.bipush (6), 2) := by decide +kernel
theorem d_ru_init_25 : decode b_ru_init 25 = .ok (.if_icmp .ge (16), 3) := by decide +kernel
theorem d_ru_init_28 : decode b_ru_init 28 = .ok (.aload_n 0, 1) := by decide +kernel
theorem d_ru_init_29 : decode b_ru_init 29 = .ok (.getfield 15, 3) := by decide +kernel
theorem d_ru_init_32 : decode b_ru_init 32 = .ok (.iload_n 1, 1) := by decide +kernel
theorem d_ru_init_33 : decode b_ru_init 33 = .ok (.iconst 1, 1) := by decide +kernel
theorem d_ru_init_34 : decode b_ru_init 34 = .ok (.bastore, 1) := by decide +kernel
theorem d_ru_init_35 : decode b_ru_init 35 = .ok (.iinc 1 (1), 3) := by decide +kernel
theorem d_ru_init_38 : decode b_ru_init 38 = .ok (.goto (-16), 3) := by decide +kernel
theorem d_ru_init_41 : decode b_ru_init 41 = .ok (.aload_n 0, 1) := by decide +kernel
theorem d_ru_init_42 : decode b_ru_init 42 = .ok (.bipush (8), 2) := by decide +kernel
theorem d_ru_init_44 : decode b_ru_init 44 = .ok (.newarray .int, 2) := by decide +kernel
theorem d_ru_init_46 : decode b_ru_init 46 = .ok (.putfield 19, 3) := by decide +kernel
theorem d_ru_init_49 : decode b_ru_init 49 = .ok (.aload_n 0, 1) := by decide +kernel
theorem d_ru_init_50 : decode b_ru_init 50 = .ok (.bipush (25), 2) := by decide +kernel
theorem d_ru_init_52 : decode b_ru_init 52 = .ok (.newarray .int, 2) := by decide +kernel
theorem d_ru_init_54 : decode b_ru_init 54 = .ok (.putfield 22, 3) := by decide +kernel
theorem d_ru_init_57 : decode b_ru_init 57 = .ok (.aload_n 0, 1) := by decide +kernel
theorem d_ru_init_58 : decode b_ru_init 58 = .ok (.bipush (8), 2) := by decide +kernel
theorem d_ru_init_60 : decode b_ru_init 60 = .ok (.newarray .int, 2) := by decide +kernel
theorem d_ru_init_62 : decode b_ru_init 62 = .ok (.putfield 25, 3) := by decide +kernel
theorem d_ru_init_65 : decode b_ru_init 65 = .ok (.return_, 1) := by decide +kernel
def f_ru_init_22 (lc : Nat) : Nat → Nat → Int32 → Nat → WW → Option WW
  | 0, _, _, _, _ => none
  | n + 1, y0, y1, sz, w =>
    if (6 : Int32) ≤ y1 then
      if sz + 1 ≤ lc then
        (some (wo_up w sz (.inl (0, 8, .inl (fun _ => 0))))).bind fun w9 =>
        (pv w9 y0 5 2 (.ref sz)).bind fun w10 =>
        if (sz + 1) + 1 ≤ lc then
          (some (wo_up w10 (sz + 1) (.inl (0, 25, .inl (fun _ => 0))))).bind fun w12 =>
          (pv w12 y0 5 3 (.ref (sz + 1))).bind fun w13 =>
          if ((sz + 1) + 1) + 1 ≤ lc then
            (some (wo_up w13 ((sz + 1) + 1) (.inl (0, 8, .inl (fun _ => 0))))).bind fun w15 =>
            (pv w15 y0 5 4 (.ref ((sz + 1) + 1))).bind fun w16 =>
            if (((sz + 1) + 1) + 1) = lc then some w16 else none
          else none
        else none
      else none
    else
      (gN w y0 5 1).bind fun x18 =>
      (sI w x18 2 y1 (vp_nar .boolean (1 : Int32))).bind fun w19 =>
      f_ru_init_22 lc n y0 (y1 + (1 : Int32)) sz w19
def f_ru_init (a0 z0 lc : Nat) (w : WW) : Option WW :=
  if z0 + 1 ≤ lc then
    (some (wo_up w z0 (.inl (0, 6, .inl (fun _ => 0))))).bind fun w2 =>
    (pv w2 a0 5 0 (.ref z0)).bind fun w3 =>
    if (z0 + 1) + 1 ≤ lc then
      (some (wo_up w3 (z0 + 1) (.inl (2, 6, .inl (fun _ => 0))))).bind fun w5 =>
      (pv w5 a0 5 1 (.ref (z0 + 1))).bind fun w6 =>
      f_ru_init_22 lc KK a0 (0 : Int32) ((z0 + 1) + 1) w6
    else none
  else none
set_option maxHeartbeats 4000000 in
set_option maxRecDepth 100000 in
theorem j_ru_init_22 {p : Program} {l : Launch} {e : Env} {s : State} {m : MethodId} {args : Array Value} {below : List Frame} {meth : Method} {c : Code} {D : va_G} {cA : Nat → ClassId} {base z0 lc : Nat} {w0 w' : WW} (C : cx b_ru_init (none) 2 y_ru_init.cls "<init>" p s m args meth c D cA base) : ∀ n : Nat, ∀ (y0 : Nat) (y1 : Int32) (sz : Nat) (w : WW), f_ru_init_22 lc n y0 y1 sz w = some w' → ∀ (H : Heap) (locs : List Loc) (ls : Array Slot), wz D cls cA base s z0 w0 sz w H locs → lv_has ls 2 [(0, .ref (base + y0)), (1, .int y1)] → W p l e (rk_ru_init (lc - z0)) s m args below meth c H locs (sz - z0) (kS (sz - z0)) (MQ below (fun a st o t => wo_Q D cls cA base none w' a st o t ∧ t.heap.size = base + lc ∧ (∀ q : Nat, z0 ≤ q → q < lc → w' q ≠ none) ∧ ∀ q : Nat, w0 q ≠ none → w' q ≠ none) args s (rk_ru_init (lc - z0)).cells (rk_ru_init (lc - z0)).slots (wo_B base)) (F0 m 22 ls []) := by
  obtain ⟨hx, hb, hr, hml, hown, hts, hlk, hnm, hK, hG⟩ := id C
  intro n
  induction n with
  | zero => intro y0 y1 sz w h; cases h
  | succ n ih =>
    intro y0 y1 sz w h H locs ls hZ hl
    have hW := hZ.1
    rw [f_ru_init_22] at h
    refine lv_iload_n hx hb d_ru_init_22 rfl (lv_at hl 1 rfl) ?_
    refine lv_bipush (v := (6 : Int32)) hx hb d_ru_init_23 (by decide) ?_
    refine lv_icmp_ge (tgt := 41) hx hb d_ru_init_25 (by decide) (fun c7 => ?_) (fun c7 => ?_)
    · rw [if_pos c7] at h
      refine lv_aload_n hx hb d_ru_init_41 rfl (lv_at hl 0 rfl) ?_
      refine lv_bipush (v := (8 : Int32)) hx hb d_ru_init_42 (by decide) ?_
      replace h := its h
      obtain ⟨c8, h⟩ := h
      refine wo_newaS (t := 0) (ty := .int) (atype := .int) (N' := 8) (a0 := (8, .inl (fun _ => 0))) hx hb (hts (.arrayClass .int) (gt_of (i := 78) (by decide +kernel) (by decide +kernel))) rfl hK hW hZ.2.1 rfl rfl (na_0 _) (by decide +kernel) (by decide +kernel) (by decide +kernel) (kC_new hZ.2.2.2.2.1 c8) (kS_new hZ.2.2.2.2.1 c8 (by decide)) d_ru_init_44 (fun H hsn hWn => ?_)
      have hle := hZ.2.2.2.2.1
      replace hZ := wz_new hZ hsn hWn
      replace h := bs h
      obtain ⟨w9, hw9, h⟩ := h
      rw [Option.some.inj hw9] at hZ
      have hW := hZ.1
      refine W.widen (k := (sz + 1) - z0) (n := kS ((sz + 1) - z0)) (kC_step hle) (kS_step hle (by decide)) ?_
      replace h := bs h
      obtain ⟨w10, hw10, h⟩ := h
      refine pf_ru_19 hx hb hts hown hK hG hW hnm rfl rfl (pbi hw10 rfl) d_ru_init_46 (fun H locs hW => ?_)
      refine wz_back hZ (fun q g => pv_dom hw10 g) hW (fun hZ => ?_)
      have hW := hZ.1
      refine lv_aload_n hx hb d_ru_init_49 rfl (lv_at hl 0 rfl) ?_
      refine lv_bipush (v := (25 : Int32)) hx hb d_ru_init_50 (by decide) ?_
      replace h := its h
      obtain ⟨c11, h⟩ := h
      refine wo_newaS (t := 0) (ty := .int) (atype := .int) (N' := 25) (a0 := (25, .inl (fun _ => 0))) hx hb (hts (.arrayClass .int) (gt_of (i := 78) (by decide +kernel) (by decide +kernel))) rfl hK hW hZ.2.1 rfl rfl (na_0 _) (by decide +kernel) (by decide +kernel) (by decide +kernel) (kC_new hZ.2.2.2.2.1 c11) (kS_new hZ.2.2.2.2.1 c11 (by decide)) d_ru_init_52 (fun H hsn hWn => ?_)
      have hle := hZ.2.2.2.2.1
      replace hZ := wz_new hZ hsn hWn
      replace h := bs h
      obtain ⟨w12, hw12, h⟩ := h
      rw [Option.some.inj hw12] at hZ
      have hW := hZ.1
      refine W.widen (k := ((sz + 1) + 1) - z0) (n := kS (((sz + 1) + 1) - z0)) (kC_step hle) (kS_step hle (by decide)) ?_
      replace h := bs h
      obtain ⟨w13, hw13, h⟩ := h
      refine pf_ru_22 hx hb hts hown hK hG hW hnm rfl rfl (pbi hw13 rfl) d_ru_init_54 (fun H locs hW => ?_)
      refine wz_back hZ (fun q g => pv_dom hw13 g) hW (fun hZ => ?_)
      have hW := hZ.1
      refine lv_aload_n hx hb d_ru_init_57 rfl (lv_at hl 0 rfl) ?_
      refine lv_bipush (v := (8 : Int32)) hx hb d_ru_init_58 (by decide) ?_
      replace h := its h
      obtain ⟨c14, h⟩ := h
      refine wo_newaS (t := 0) (ty := .int) (atype := .int) (N' := 8) (a0 := (8, .inl (fun _ => 0))) hx hb (hts (.arrayClass .int) (gt_of (i := 78) (by decide +kernel) (by decide +kernel))) rfl hK hW hZ.2.1 rfl rfl (na_0 _) (by decide +kernel) (by decide +kernel) (by decide +kernel) (kC_new hZ.2.2.2.2.1 c14) (kS_new hZ.2.2.2.2.1 c14 (by decide)) d_ru_init_60 (fun H hsn hWn => ?_)
      have hle := hZ.2.2.2.2.1
      replace hZ := wz_new hZ hsn hWn
      replace h := bs h
      obtain ⟨w15, hw15, h⟩ := h
      rw [Option.some.inj hw15] at hZ
      have hW := hZ.1
      refine W.widen (k := (((sz + 1) + 1) + 1) - z0) (n := kS ((((sz + 1) + 1) + 1) - z0)) (kC_step hle) (kS_step hle (by decide)) ?_
      replace h := bs h
      obtain ⟨w16, hw16, h⟩ := h
      refine pf_ru_25 hx hb hts hown hK hG hW hnm rfl rfl (pbi hw16 rfl) d_ru_init_62 (fun H locs hW => ?_)
      refine wz_back hZ (fun q g => pv_dom hw16 g) hW (fun hZ => ?_)
      have hW := hZ.1
      replace h := its h
      obtain ⟨c17, h⟩ := h
      cases h
      subst c17
      exact wo_kret hx hb hr hlk hZ d_ru_init_65
    · rw [if_neg c7] at h
      refine lv_aload_n hx hb d_ru_init_28 rfl (lv_at hl 0 rfl) ?_
      replace h := bs h
      obtain ⟨x18, hx18, h⟩ := h
      refine gf_ru_15 hx hb hts hown hK hG hW (gN_s hx18) d_ru_init_29 ?_
      refine lv_iload_n hx hb d_ru_init_32 rfl (lv_at hl 1 rfl) ?_
      refine lv_iconst (v := (1 : Int32)) hx hb d_ru_init_33 (by decide) ?_
      replace h := bs h
      obtain ⟨w19, hw19, h⟩ := h
      refine wo_zast hx hb hK hW (t := 2) rfl hw19 d_ru_init_34 (fun H locs hW => ?_)
      refine wz_back hZ (fun q g => sI_dom hw19 g) hW (fun hZ => ?_)
      have hW := hZ.1
      refine lv_iinc (v := (y1 + (1 : Int32))) (lv' := [(1, .int (y1 + (1 : Int32))), (0, .ref (base + y0))]) hx hb d_ru_init_35 hl (k := 1) rfl rfl (by decide) rfl (fun ls hl => ?_)
      refine lv_goto (tgt := 22) hx hb d_ru_init_38 (by decide) ?_
      exact ih y0 (y1 + (1 : Int32)) sz w19 h _ _ _ hZ (lv_sub hl [1, 0] rfl)
set_option maxHeartbeats 4000000 in
set_option maxRecDepth 100000 in
theorem c_ru_init (l : Launch) (D : va_G) (cA : Nat → ClassId) (base : Nat) {a0 z0 lc : Nat} {w w' : WW} (h : f_ru_init a0 z0 lc w = some w') : kt l D cls (wo_tys cA) cA base y_ru_init (Cond.code y_ru_init b_ru_init 2 none :: gt) (rk_ru_init (lc - z0)) [.ref (base + a0)] z0 lc w w' := by
  refine kt_start (by decide) (Nat.le_of_ble_eq_true rfl) ?_
  intro p e s m below meth c ls hx hb hr hml hown hts hlk hnm hK hG hZ hl
  have C : cx b_ru_init (none) 2 y_ru_init.cls "<init>" p s m [.ref (base + a0)].toArray meth c D cA base := ⟨hx, hb, hr, hml, hown, hts, hlk, hnm, hK, hG⟩
  have hl : lv_has ls 2 [(0, .ref (base + a0))] := hl
  have hW := hZ.1
  unfold f_ru_init at h
  refine W.widen (k := z0 - z0) (n := kS (z0 - z0)) (Nat.le_refl _) (Nat.zero_le _) ?_
  refine lv_aload_n hx hb d_ru_init_0 rfl (lv_at hl 0 rfl) ?_
  refine W.objInit hx hb hown (hts (.methodLink "AlarmForge$Runner" 3 objectInit) (gt_of (i := 199) (by decide +kernel) (by decide +kernel))) (hts (.instanceMethod objectInit) (gt_of (i := 31) (by decide +kernel) (by decide +kernel))) (hts (.code objectInit ⟨#[0xb1]⟩ 1 none) (gt_of (i := 32) (by decide +kernel) (by decide +kernel))) rfl (hl.1.trans hml.symm) rfl d_ru_init_1 (Nat.le_of_ble_eq_true rfl) (Nat.le_of_ble_eq_true rfl) ?_
  refine W.eq (g2 := F0 m 4 ls []) rfl ?_
  refine lv_aload_n hx hb d_ru_init_4 rfl (lv_at hl 0 rfl) ?_
  refine lv_bipush (v := (6 : Int32)) hx hb d_ru_init_5 (by decide) ?_
  replace h := its h
  obtain ⟨c1, h⟩ := h
  refine wo_newaS (t := 0) (ty := .int) (atype := .int) (N' := 6) (a0 := (6, .inl (fun _ => 0))) hx hb (hts (.arrayClass .int) (gt_of (i := 78) (by decide +kernel) (by decide +kernel))) rfl hK hW hZ.2.1 rfl rfl (na_0 _) (by decide +kernel) (by decide +kernel) (by decide +kernel) (kC_new hZ.2.2.2.2.1 c1) (kS_new hZ.2.2.2.2.1 c1 (by decide)) d_ru_init_7 (fun H hsn hWn => ?_)
  have hle := hZ.2.2.2.2.1
  replace hZ := wz_new hZ hsn hWn
  replace h := bs h
  obtain ⟨w2, hw2, h⟩ := h
  rw [Option.some.inj hw2] at hZ
  have hW := hZ.1
  refine W.widen (k := (z0 + 1) - z0) (n := kS ((z0 + 1) - z0)) (kC_step hle) (kS_step hle (by decide)) ?_
  replace h := bs h
  obtain ⟨w3, hw3, h⟩ := h
  refine pf_ru_9 hx hb hts hown hK hG hW hnm rfl rfl (pbi hw3 rfl) d_ru_init_9 (fun H locs hW => ?_)
  refine wz_back hZ (fun q g => pv_dom hw3 g) hW (fun hZ => ?_)
  have hW := hZ.1
  refine lv_aload_n hx hb d_ru_init_12 rfl (lv_at hl 0 rfl) ?_
  refine lv_bipush (v := (6 : Int32)) hx hb d_ru_init_13 (by decide) ?_
  replace h := its h
  obtain ⟨c4, h⟩ := h
  refine wo_newaS (t := 2) (ty := .boolean) (atype := .boolean) (N' := 6) (a0 := (6, .inl (fun _ => 0))) hx hb (hts (.arrayClass .boolean) (gt_of (i := 241) (by decide +kernel) (by decide +kernel))) rfl hK hW hZ.2.1 rfl rfl (na_2 _) (by decide +kernel) (by decide +kernel) (by decide +kernel) (kC_new hZ.2.2.2.2.1 c4) (kS_new hZ.2.2.2.2.1 c4 (by decide)) d_ru_init_15 (fun H hsn hWn => ?_)
  have hle := hZ.2.2.2.2.1
  replace hZ := wz_new hZ hsn hWn
  replace h := bs h
  obtain ⟨w5, hw5, h⟩ := h
  rw [Option.some.inj hw5] at hZ
  have hW := hZ.1
  refine W.widen (k := ((z0 + 1) + 1) - z0) (n := kS (((z0 + 1) + 1) - z0)) (kC_step hle) (kS_step hle (by decide)) ?_
  replace h := bs h
  obtain ⟨w6, hw6, h⟩ := h
  refine pf_ru_15 hx hb hts hown hK hG hW hnm rfl rfl (pbi hw6 rfl) d_ru_init_17 (fun H locs hW => ?_)
  refine wz_back hZ (fun q g => pv_dom hw6 g) hW (fun hZ => ?_)
  have hW := hZ.1
  refine lv_iconst (v := (0 : Int32)) hx hb d_ru_init_20 (by decide) ?_
  refine lv_istore_n (lv' := [(1, .int (0 : Int32)), (0, .ref (base + a0))]) hx hb d_ru_init_21 rfl hl (by decide) rfl (fun ls hl => ?_)
  exact j_ru_init_22 C KK a0 (0 : Int32) ((z0 + 1) + 1) w6 h _ _ _ hZ (lv_sub hl [1, 0] rfl)
abbrev b_sa_init : ByteArray := prog_7_method_1_code
def y_sa_init : MethodName := ⟨"AlarmForge$State", "<init>", "()V"⟩
def rk_sa_init (k : Nat) : Room := { frames := 2, cells := k, slots := kS k, locals := 44 }
theorem d_sa_init_0 : decode b_sa_init 0 = .ok (.aload_n 0, 1) := by decide +kernel
theorem d_sa_init_1 : decode b_sa_init 1 = .ok (.invokespecial 3, 3) := by decide +kernel
theorem d_sa_init_4 : decode b_sa_init 4 = .ok (.aload_n 0, 1) := by decide +kernel
theorem d_sa_init_5 : decode b_sa_init 5 = .ok (.bipush (14), 2) := by decide +kernel
theorem d_sa_init_7 : decode b_sa_init 7 = .ok (.anewarray 9, 3) := by decide +kernel
theorem d_sa_init_10 : decode b_sa_init 10 = .ok (.putfield 11, 3) := by decide +kernel
theorem d_sa_init_13 : decode b_sa_init 13 = .ok (.iconst 0, 1) := by decide +kernel
theorem d_sa_init_14 : decode b_sa_init 14 = .ok (.istore_n 1, 1) := by decide +kernel
theorem d_sa_init_15 : decode b_sa_init 15 = .ok (.iload_n 1, 1) := by decide +kernel
theorem d_sa_init_16 : decode b_sa_init 16 = .ok (.bipush (14), 2) := by decide +kernel
theorem d_sa_init_18 : decode b_sa_init 18 = .ok (.if_icmp .ge (22), 3) := by decide +kernel
theorem d_sa_init_21 : decode b_sa_init 21 = .ok (.aload_n 0, 1) := by decide +kernel
theorem d_sa_init_22 : decode b_sa_init 22 = .ok (.getfield 11, 3) := by decide +kernel
theorem d_sa_init_25 : decode b_sa_init 25 = .ok (.iload_n 1, 1) := by decide +kernel
theorem d_sa_init_26 : decode b_sa_init 26 = .ok (.new 9, 3) := by decide +kernel
theorem d_sa_init_29 : decode b_sa_init 29 = .ok (.dup, 1) := by decide +kernel
theorem d_sa_init_30 : decode b_sa_init 30 = .ok (.invokespecial 17, 3) := by decide +kernel
theorem d_sa_init_33 : decode b_sa_init 33 = .ok (.aastore, 1) := by decide +kernel
theorem d_sa_init_34 : decode b_sa_init 34 = .ok (.iinc 1 (1), 3) := by decide +kernel
theorem d_sa_init_37 : decode b_sa_init 37 = .ok (.goto (-22), 3) := by decide +kernel
theorem d_sa_init_40 : decode b_sa_init 40 = .ok (.aload_n 0, 1) := by decide +kernel
theorem d_sa_init_41 : decode b_sa_init 41 = .ok (.bipush (6), 2) := by decide +kernel
theorem d_sa_init_43 : decode b_sa_init 43 = .ok (.newarray .boolean, 2) := by decide +kernel
theorem d_sa_init_45 : decode b_sa_init 45 = .ok (.putfield 18, 3) := by decide +kernel
theorem d_sa_init_48 : decode b_sa_init 48 = .ok (.return_, 1) := by decide +kernel
def f_sa_init_15 (lc : Nat) : Nat → Nat → Int32 → Nat → WW → Option WW
  | 0, _, _, _, _ => none
  | n + 1, y0, y1, sz, w =>
    if (14 : Int32) ≤ y1 then
      if sz + 1 ≤ lc then
        (some (wo_up w sz (.inl (2, 6, .inl (fun _ => 0))))).bind fun w6 =>
        (pv w6 y0 7 2 (.ref sz)).bind fun w7 =>
        if (sz + 1) = lc then some w7 else none
      else none
    else
      (gN w y0 7 1).bind fun x9 =>
      if sz + 1 ≤ lc then
        (some (wo_up w sz (.inr (8, [.int 0, .long 0, .long 0, .long 0, .long 0])))).bind fun w11 =>
        if (sz + 1) + 0 ≤ lc then
          (f_va_init sz (sz + 1) ((sz + 1) + 0) w11).bind fun w13 =>
          (sR w13 x9 4 8 y1 sz).bind fun w14 =>
          f_sa_init_15 lc n y0 (y1 + (1 : Int32)) ((sz + 1) + 0) w14
        else none
      else none
def f_sa_init (a0 z0 lc : Nat) (w : WW) : Option WW :=
  if z0 + 1 ≤ lc then
    (some (wo_up w z0 (.inl (4, 14, .inr (.inr (.inr (.inr (fun _ => none)))))))).bind fun w2 =>
    (pv w2 a0 7 1 (.ref z0)).bind fun w3 =>
    f_sa_init_15 lc KK a0 (0 : Int32) (z0 + 1) w3
  else none
set_option maxHeartbeats 4000000 in
set_option maxRecDepth 100000 in
theorem j_sa_init_15 {p : Program} {l : Launch} {e : Env} {s : State} {m : MethodId} {args : Array Value} {below : List Frame} {meth : Method} {c : Code} {D : va_G} {cA : Nat → ClassId} {base z0 lc : Nat} {w0 w' : WW} (C : cx b_sa_init (none) 2 y_sa_init.cls "<init>" p s m args meth c D cA base) : ∀ n : Nat, ∀ (y0 : Nat) (y1 : Int32) (sz : Nat) (w : WW), f_sa_init_15 lc n y0 y1 sz w = some w' → ∀ (H : Heap) (locs : List Loc) (ls : Array Slot), wz D cls cA base s z0 w0 sz w H locs → lv_has ls 2 [(0, .ref (base + y0)), (1, .int y1)] → W p l e (rk_sa_init (lc - z0)) s m args below meth c H locs (sz - z0) (kS (sz - z0)) (MQ below (fun a st o t => wo_Q D cls cA base none w' a st o t ∧ t.heap.size = base + lc ∧ (∀ q : Nat, z0 ≤ q → q < lc → w' q ≠ none) ∧ ∀ q : Nat, w0 q ≠ none → w' q ≠ none) args s (rk_sa_init (lc - z0)).cells (rk_sa_init (lc - z0)).slots (wo_B base)) (F0 m 15 ls []) := by
  obtain ⟨hx, hb, hr, hml, hown, hts, hlk, hnm, hK, hG⟩ := id C
  intro n
  induction n with
  | zero => intro y0 y1 sz w h; cases h
  | succ n ih =>
    intro y0 y1 sz w h H locs ls hZ hl
    have hW := hZ.1
    rw [f_sa_init_15] at h
    refine lv_iload_n hx hb d_sa_init_15 rfl (lv_at hl 1 rfl) ?_
    refine lv_bipush (v := (14 : Int32)) hx hb d_sa_init_16 (by decide) ?_
    refine lv_icmp_ge (tgt := 40) hx hb d_sa_init_18 (by decide) (fun c4 => ?_) (fun c4 => ?_)
    · rw [if_pos c4] at h
      refine lv_aload_n hx hb d_sa_init_40 rfl (lv_at hl 0 rfl) ?_
      refine lv_bipush (v := (6 : Int32)) hx hb d_sa_init_41 (by decide) ?_
      replace h := its h
      obtain ⟨c5, h⟩ := h
      refine wo_newaS (t := 2) (ty := .boolean) (atype := .boolean) (N' := 6) (a0 := (6, .inl (fun _ => 0))) hx hb (hts (.arrayClass .boolean) (gt_of (i := 241) (by decide +kernel) (by decide +kernel))) rfl hK hW hZ.2.1 rfl rfl (na_2 _) (by decide +kernel) (by decide +kernel) (by decide +kernel) (kC_new hZ.2.2.2.2.1 c5) (kS_new hZ.2.2.2.2.1 c5 (by decide)) d_sa_init_43 (fun H hsn hWn => ?_)
      have hle := hZ.2.2.2.2.1
      replace hZ := wz_new hZ hsn hWn
      replace h := bs h
      obtain ⟨w6, hw6, h⟩ := h
      rw [Option.some.inj hw6] at hZ
      have hW := hZ.1
      refine W.widen (k := (sz + 1) - z0) (n := kS ((sz + 1) - z0)) (kC_step hle) (kS_step hle (by decide)) ?_
      replace h := bs h
      obtain ⟨w7, hw7, h⟩ := h
      refine pf_sa_18 hx hb hts hown hK hG hW hnm rfl rfl (pbi hw7 rfl) d_sa_init_45 (fun H locs hW => ?_)
      refine wz_back hZ (fun q g => pv_dom hw7 g) hW (fun hZ => ?_)
      have hW := hZ.1
      replace h := its h
      obtain ⟨c8, h⟩ := h
      cases h
      subst c8
      exact wo_kret hx hb hr hlk hZ d_sa_init_48
    · rw [if_neg c4] at h
      refine lv_aload_n hx hb d_sa_init_21 rfl (lv_at hl 0 rfl) ?_
      replace h := bs h
      obtain ⟨x9, hx9, h⟩ := h
      refine gf_sa_11 hx hb hts hown hK hG hW (gN_s hx9) d_sa_init_22 ?_
      refine lv_iload_n hx hb d_sa_init_25 rfl (lv_at hl 1 rfl) ?_
      replace h := its h
      obtain ⟨c10, h⟩ := h
      refine wo_newS (ci := 8) (fs := [.int 0, .long 0, .long 0, .long 0, .long 0]) (C := Rc_va) (T := Fc_va) (N := 5) hx hb hts ic_va tc_va tc_va_ok hown (hts (.classLink "AlarmForge$State" 9 "AlarmForge$Value") (gt_of (i := 254) (by decide +kernel) (by decide +kernel))) (hts (.instantiable "AlarmForge$Value" 5) (gt_of (i := 256) (by decide +kernel) (by decide +kernel))) (hts (.initialized "AlarmForge$Value") (gt_of (i := 9) (by decide +kernel) (by decide +kernel))) hK hW hZ.2.1 rfl rfl (by decide +kernel) (kC_new hZ.2.2.2.2.1 c10) (kS_new hZ.2.2.2.2.1 c10 (by decide)) d_sa_init_26 (fun H hsn hWn => ?_)
      have hle := hZ.2.2.2.2.1
      replace hZ := wz_new hZ hsn hWn
      replace h := bs h
      obtain ⟨w11, hw11, h⟩ := h
      rw [Option.some.inj hw11] at hZ
      have hW := hZ.1
      refine W.widen (k := (sz + 1) - z0) (n := kS ((sz + 1) - z0)) (kC_step hle) (kS_step hle (by decide)) ?_
      refine lv_dup hx hb d_sa_init_29 rfl ?_
      replace h := its h
      obtain ⟨c12, h⟩ := h
      replace h := bs h
      obtain ⟨w13, hw13, h⟩ := h
      have hle := hZ.2.2.2.2.1
      refine wo_callK (As := []) (rest := [.ref (base + sz), .int y1, .ref (base + x9)]) (lc := (sz + 1) + 0) (n := 0) (y := y_va_init) hx hb hml hown hts hK hG hZ (c_va_init l D cA base hw13) (Nat.le_add_right _ _) (cwI 0 hts (gt_in (gt_of (i := 259) (by decide +kernel) (by decide +kernel))) rfl rfl rfl (hts _ (gt_of (i := 9) (by decide +kernel) (by decide +kernel))) (hts _ (gt_of (i := 257) (by decide +kernel) (by decide +kernel))) (hts _ (gt_of (i := 258) (by decide +kernel) (by decide +kernel))) rfl (by decide +kernel) ⟨Nat.le_of_ble_eq_true rfl, Nat.le_of_ble_eq_true rfl⟩) ⟨kC_call hZ.2.2.2.2.1 c12, kS_call hZ.2.2.2.2.1 c12⟩ rfl hl.1 rfl (Nat.le_of_ble_eq_true rfl) d_sa_init_30 (fun H locs hZ => ?_)
      have hW := hZ.1
      refine W.widen (k := ((sz + 1) + 0) - z0) (n := kS (((sz + 1) + 0) - z0)) (kC_past hle) (kS_past hle) ?_
      replace h := bs h
      obtain ⟨w14, hw14, h⟩ := h
      refine wo_aast (t := 4) (ci := 8) (r := (Rc_va, Fc_va, 5)) hx hb hK hW rfl rfl hw14 d_sa_init_33 (fun H locs hW => ?_)
      refine wz_back hZ (fun q g => sR_dom hw14 g) hW (fun hZ => ?_)
      have hW := hZ.1
      refine lv_iinc (v := (y1 + (1 : Int32))) (lv' := [(1, .int (y1 + (1 : Int32))), (0, .ref (base + y0))]) hx hb d_sa_init_34 hl (k := 1) rfl rfl (by decide) rfl (fun ls hl => ?_)
      refine lv_goto (tgt := 15) hx hb d_sa_init_37 (by decide) ?_
      exact ih y0 (y1 + (1 : Int32)) ((sz + 1) + 0) w14 h _ _ _ hZ (lv_sub hl [1, 0] rfl)
set_option maxHeartbeats 4000000 in
set_option maxRecDepth 100000 in
theorem c_sa_init (l : Launch) (D : va_G) (cA : Nat → ClassId) (base : Nat) {a0 z0 lc : Nat} {w w' : WW} (h : f_sa_init a0 z0 lc w = some w') : kt l D cls (wo_tys cA) cA base y_sa_init (Cond.code y_sa_init b_sa_init 2 none :: gt) (rk_sa_init (lc - z0)) [.ref (base + a0)] z0 lc w w' := by
  refine kt_start (by decide) (Nat.le_of_ble_eq_true rfl) ?_
  intro p e s m below meth c ls hx hb hr hml hown hts hlk hnm hK hG hZ hl
  have C : cx b_sa_init (none) 2 y_sa_init.cls "<init>" p s m [.ref (base + a0)].toArray meth c D cA base := ⟨hx, hb, hr, hml, hown, hts, hlk, hnm, hK, hG⟩
  have hl : lv_has ls 2 [(0, .ref (base + a0))] := hl
  have hW := hZ.1
  unfold f_sa_init at h
  refine W.widen (k := z0 - z0) (n := kS (z0 - z0)) (Nat.le_refl _) (Nat.zero_le _) ?_
  refine lv_aload_n hx hb d_sa_init_0 rfl (lv_at hl 0 rfl) ?_
  refine W.objInit hx hb hown (hts (.methodLink "AlarmForge$State" 3 objectInit) (gt_of (i := 253) (by decide +kernel) (by decide +kernel))) (hts (.instanceMethod objectInit) (gt_of (i := 31) (by decide +kernel) (by decide +kernel))) (hts (.code objectInit ⟨#[0xb1]⟩ 1 none) (gt_of (i := 32) (by decide +kernel) (by decide +kernel))) rfl (hl.1.trans hml.symm) rfl d_sa_init_1 (Nat.le_of_ble_eq_true rfl) (Nat.le_of_ble_eq_true rfl) ?_
  refine W.eq (g2 := F0 m 4 ls []) rfl ?_
  refine lv_aload_n hx hb d_sa_init_4 rfl (lv_at hl 0 rfl) ?_
  refine lv_bipush (v := (14 : Int32)) hx hb d_sa_init_5 (by decide) ?_
  replace h := its h
  obtain ⟨c1, h⟩ := h
  refine wo_anewS (t := 4) (N' := 14) hx hb hown (hts (.classLink "AlarmForge$State" 9 "AlarmForge$Value") (gt_of (i := 254) (by decide +kernel) (by decide +kernel))) (va_AO.use hG.2.2.2.1) hK hW hZ.2.1 rfl (by decide +kernel) (by decide +kernel) (by decide +kernel) (kC_new hZ.2.2.2.2.1 c1) (kS_new hZ.2.2.2.2.1 c1 (by decide)) d_sa_init_7 (fun H hsn hWn => ?_)
  have hle := hZ.2.2.2.2.1
  replace hZ := wz_new hZ hsn hWn
  replace h := bs h
  obtain ⟨w2, hw2, h⟩ := h
  rw [Option.some.inj hw2] at hZ
  have hW := hZ.1
  refine W.widen (k := (z0 + 1) - z0) (n := kS ((z0 + 1) - z0)) (kC_step hle) (kS_step hle (by decide)) ?_
  replace h := bs h
  obtain ⟨w3, hw3, h⟩ := h
  refine pf_sa_11 hx hb hts hown hK hG hW hnm rfl rfl (pbi hw3 rfl) d_sa_init_10 (fun H locs hW => ?_)
  refine wz_back hZ (fun q g => pv_dom hw3 g) hW (fun hZ => ?_)
  have hW := hZ.1
  refine lv_iconst (v := (0 : Int32)) hx hb d_sa_init_13 (by decide) ?_
  refine lv_istore_n (lv' := [(1, .int (0 : Int32)), (0, .ref (base + a0))]) hx hb d_sa_init_14 rfl hl (by decide) rfl (fun ls hl => ?_)
  exact j_sa_init_15 C KK a0 (0 : Int32) (z0 + 1) w3 h _ _ _ hZ (lv_sub hl [1, 0] rfl)
abbrev b_an_init : ByteArray := prog_2_method_1_code
def y_an_init : MethodName := ⟨"AlarmForge$Analyser", "<init>", "()V"⟩
def rk_an_init (k : Nat) : Room := { frames := 3, cells := k, slots := kS k, locals := 65 }
theorem d_an_init_0 : decode b_an_init 0 = .ok (.aload_n 0, 1) := by decide +kernel
theorem d_an_init_1 : decode b_an_init 1 = .ok (.invokespecial 3, 3) := by decide +kernel
theorem d_an_init_4 : decode b_an_init 4 = .ok (.aload_n 0, 1) := by decide +kernel
theorem d_an_init_5 : decode b_an_init 5 = .ok (.new 9, 3) := by decide +kernel
theorem d_an_init_8 : decode b_an_init 8 = .ok (.dup, 1) := by decide +kernel
theorem d_an_init_9 : decode b_an_init 9 = .ok (.invokespecial 11, 3) := by decide +kernel
theorem d_an_init_12 : decode b_an_init 12 = .ok (.putfield 12, 3) := by decide +kernel
theorem d_an_init_15 : decode b_an_init 15 = .ok (.aload_n 0, 1) := by decide +kernel
theorem d_an_init_16 : decode b_an_init 16 = .ok (.bipush (12), 2) := by decide +kernel
theorem d_an_init_18 : decode b_an_init 18 = .ok (.anewarray 9, 3) := by decide +kernel
theorem d_an_init_21 : decode b_an_init 21 = .ok (.putfield 18, 3) := by decide +kernel
theorem d_an_init_24 : decode b_an_init 24 = .ok (.iconst 0, 1) := by decide +kernel
theorem d_an_init_25 : decode b_an_init 25 = .ok (.istore_n 1, 1) := by decide +kernel
theorem d_an_init_26 : decode b_an_init 26 = .ok (.iload_n 1, 1) := by decide +kernel
theorem d_an_init_27 : decode b_an_init 27 = .ok (.aload_n 0, 1) := by decide +kernel
theorem d_an_init_28 : decode b_an_init 28 = .ok (.getfield 18, 3) := by decide +kernel
theorem d_an_init_31 : decode b_an_init 31 = .ok (.arraylength, 1) := by decide +kernel
theorem d_an_init_32 : decode b_an_init 32 = .ok (.if_icmp .ge (22), 3) := by decide +kernel
theorem d_an_init_35 : decode b_an_init 35 = .ok (.aload_n 0, 1) := by decide +kernel
theorem d_an_init_36 : decode b_an_init 36 = .ok (.getfield 18, 3) := by decide +kernel
theorem d_an_init_39 : decode b_an_init 39 = .ok (.iload_n 1, 1) := by decide +kernel
theorem d_an_init_40 : decode b_an_init 40 = .ok (.new 9, 3) := by decide +kernel
theorem d_an_init_43 : decode b_an_init 43 = .ok (.dup, 1) := by decide +kernel
theorem d_an_init_44 : decode b_an_init 44 = .ok (.invokespecial 11, 3) := by decide +kernel
theorem d_an_init_47 : decode b_an_init 47 = .ok (.aastore, 1) := by decide +kernel
theorem d_an_init_48 : decode b_an_init 48 = .ok (.iinc 1 (1), 3) := by decide +kernel
theorem d_an_init_51 : decode b_an_init 51 = .ok (.goto (-25), 3) := by decide +kernel
theorem d_an_init_54 : decode b_an_init 54 = .ok (.aload_n 0, 1) := by decide +kernel
theorem d_an_init_55 : decode b_an_init 55 = .ok (.bipush (25), 2) := by decide +kernel
theorem d_an_init_57 : decode b_an_init 57 = .ok (.anewarray 22, 3) := by decide +kernel
theorem d_an_init_60 : decode b_an_init 60 = .ok (.putfield 24, 3) := by decide +kernel
theorem d_an_init_63 : decode b_an_init 63 = .ok (.iconst 0, 1) := by decide +kernel
theorem d_an_init_64 : decode b_an_init 64 = .ok (.istore_n 1, 1) := by decide +kernel
theorem d_an_init_65 : decode b_an_init 65 = .ok (.iload_n 1, 1) := by decide +kernel
theorem d_an_init_66 : decode b_an_init 66 = .ok (.bipush (25), 2) := by decide +kernel
theorem d_an_init_68 : decode b_an_init 68 = .ok (.if_icmp .ge (22), 3) := by decide +kernel
theorem d_an_init_71 : decode b_an_init 71 = .ok (.aload_n 0, 1) := by decide +kernel
theorem d_an_init_72 : decode b_an_init 72 = .ok (.getfield 24, 3) := by decide +kernel
theorem d_an_init_75 : decode b_an_init 75 = .ok (.iload_n 1, 1) := by decide +kernel
theorem d_an_init_76 : decode b_an_init 76 = .ok (.new 22, 3) := by decide +kernel
theorem d_an_init_79 : decode b_an_init 79 = .ok (.dup, 1) := by decide +kernel
theorem d_an_init_80 : decode b_an_init 80 = .ok (.invokespecial 28, 3) := by decide +kernel
theorem d_an_init_83 : decode b_an_init 83 = .ok (.aastore, 1) := by decide +kernel
theorem d_an_init_84 : decode b_an_init 84 = .ok (.iinc 1 (1), 3) := by decide +kernel
theorem d_an_init_87 : decode b_an_init 87 = .ok (.goto (-22), 3) := by decide +kernel
theorem d_an_init_90 : decode b_an_init 90 = .ok (.aload_n 0, 1) := by decide +kernel
theorem d_an_init_91 : decode b_an_init 91 = .ok (.sipush (200), 3) := by decide +kernel
theorem d_an_init_94 : decode b_an_init 94 = .ok (.newarray .int, 2) := by decide +kernel
theorem d_an_init_96 : decode b_an_init 96 = .ok (.putfield 29, 3) := by decide +kernel
theorem d_an_init_99 : decode b_an_init 99 = .ok (.return_, 1) := by decide +kernel
def f_an_init_65 (lc : Nat) : Nat → Nat → Int32 → Nat → WW → Option WW
  | 0, _, _, _, _ => none
  | n + 1, y0, y1, sz, w =>
    if (25 : Int32) ≤ y1 then
      if sz + 1 ≤ lc then
        (some (wo_up w sz (.inl (0, 200, .inl (fun _ => 0))))).bind fun w17 =>
        (pv w17 y0 6 3 (.ref sz)).bind fun w18 =>
        if (sz + 1) = lc then some w18 else none
      else none
    else
      (gN w y0 6 2).bind fun x20 =>
      if sz + 1 ≤ lc then
        (some (wo_up w sz (.inr (8, [.int 0, .long 0, .long 0, .long 0, .long 0])))).bind fun w22 =>
        if (sz + 1) + 0 ≤ lc then
          (f_va_init sz (sz + 1) ((sz + 1) + 0) w22).bind fun w24 =>
          (sR w24 x20 4 8 y1 sz).bind fun w25 =>
          f_an_init_65 lc n y0 (y1 + (1 : Int32)) ((sz + 1) + 0) w25
        else none
      else none
def f_an_init_26 (lc : Nat) : Nat → Nat → Int32 → Nat → WW → Option WW
  | 0, _, _, _, _ => none
  | n + 1, y0, y1, sz, w =>
    (gN w y0 6 1).bind fun x9 =>
    (al w x9 5).bind fun x10 =>
    if x10 ≤ y1 then
      if sz + 1 ≤ lc then
        (some (wo_up w sz (.inl (4, 25, .inr (.inr (.inr (.inr (fun _ => none)))))))).bind fun w13 =>
        (pv w13 y0 6 2 (.ref sz)).bind fun w14 =>
        f_an_init_65 lc KK y0 (0 : Int32) (sz + 1) w14
      else none
    else
      (gN w y0 6 1).bind fun x26 =>
      if sz + 1 ≤ lc then
        (some (wo_up w sz (.inr (7, [.int 0, .null, .null])))).bind fun w28 =>
        if (sz + 1) + 16 ≤ lc then
          (f_sa_init sz (sz + 1) ((sz + 1) + 16) w28).bind fun w30 =>
          (sR w30 x26 5 7 y1 sz).bind fun w31 =>
          f_an_init_26 lc n y0 (y1 + (1 : Int32)) ((sz + 1) + 16) w31
        else none
      else none
def f_an_init (a0 z0 lc : Nat) (w : WW) : Option WW :=
  if z0 + 1 ≤ lc then
    (some (wo_up w z0 (.inr (7, [.int 0, .null, .null])))).bind fun w2 =>
    if (z0 + 1) + 16 ≤ lc then
      (f_sa_init z0 (z0 + 1) ((z0 + 1) + 16) w2).bind fun w4 =>
      (pv w4 a0 6 0 (.ref z0)).bind fun w5 =>
      if ((z0 + 1) + 16) + 1 ≤ lc then
        (some (wo_up w5 ((z0 + 1) + 16) (.inl (5, 12, .inr (.inr (.inr (.inr (fun _ => none)))))))).bind fun w7 =>
        (pv w7 a0 6 1 (.ref ((z0 + 1) + 16))).bind fun w8 =>
        f_an_init_26 lc KK a0 (0 : Int32) (((z0 + 1) + 16) + 1) w8
      else none
    else none
  else none
set_option maxHeartbeats 4000000 in
set_option maxRecDepth 100000 in
theorem j_an_init_65 {p : Program} {l : Launch} {e : Env} {s : State} {m : MethodId} {args : Array Value} {below : List Frame} {meth : Method} {c : Code} {D : va_G} {cA : Nat → ClassId} {base z0 lc : Nat} {w0 w' : WW} (C : cx b_an_init (none) 2 y_an_init.cls "<init>" p s m args meth c D cA base) : ∀ n : Nat, ∀ (y0 : Nat) (y1 : Int32) (sz : Nat) (w : WW), f_an_init_65 lc n y0 y1 sz w = some w' → ∀ (H : Heap) (locs : List Loc) (ls : Array Slot), wz D cls cA base s z0 w0 sz w H locs → lv_has ls 2 [(0, .ref (base + y0)), (1, .int y1)] → W p l e (rk_an_init (lc - z0)) s m args below meth c H locs (sz - z0) (kS (sz - z0)) (MQ below (fun a st o t => wo_Q D cls cA base none w' a st o t ∧ t.heap.size = base + lc ∧ (∀ q : Nat, z0 ≤ q → q < lc → w' q ≠ none) ∧ ∀ q : Nat, w0 q ≠ none → w' q ≠ none) args s (rk_an_init (lc - z0)).cells (rk_an_init (lc - z0)).slots (wo_B base)) (F0 m 65 ls []) := by
  obtain ⟨hx, hb, hr, hml, hown, hts, hlk, hnm, hK, hG⟩ := id C
  intro n
  induction n with
  | zero => intro y0 y1 sz w h; cases h
  | succ n ih =>
    intro y0 y1 sz w h H locs ls hZ hl
    have hW := hZ.1
    rw [f_an_init_65] at h
    refine lv_iload_n hx hb d_an_init_65 rfl (lv_at hl 1 rfl) ?_
    refine lv_bipush (v := (25 : Int32)) hx hb d_an_init_66 (by decide) ?_
    refine lv_icmp_ge (tgt := 90) hx hb d_an_init_68 (by decide) (fun c15 => ?_) (fun c15 => ?_)
    · rw [if_pos c15] at h
      refine lv_aload_n hx hb d_an_init_90 rfl (lv_at hl 0 rfl) ?_
      refine lv_sipush (v := (200 : Int32)) hx hb d_an_init_91 (by decide) ?_
      replace h := its h
      obtain ⟨c16, h⟩ := h
      refine wo_newaS (t := 0) (ty := .int) (atype := .int) (N' := 200) (a0 := (200, .inl (fun _ => 0))) hx hb (hts (.arrayClass .int) (gt_of (i := 78) (by decide +kernel) (by decide +kernel))) rfl hK hW hZ.2.1 rfl rfl (na_0 _) (by decide +kernel) (by decide +kernel) (by decide +kernel) (kC_new hZ.2.2.2.2.1 c16) (kS_new hZ.2.2.2.2.1 c16 (by decide)) d_an_init_94 (fun H hsn hWn => ?_)
      have hle := hZ.2.2.2.2.1
      replace hZ := wz_new hZ hsn hWn
      replace h := bs h
      obtain ⟨w17, hw17, h⟩ := h
      rw [Option.some.inj hw17] at hZ
      have hW := hZ.1
      refine W.widen (k := (sz + 1) - z0) (n := kS ((sz + 1) - z0)) (kC_step hle) (kS_step hle (by decide)) ?_
      replace h := bs h
      obtain ⟨w18, hw18, h⟩ := h
      refine pf_an_29 hx hb hts hown hK hG hW hnm rfl rfl (pbi hw18 rfl) d_an_init_96 (fun H locs hW => ?_)
      refine wz_back hZ (fun q g => pv_dom hw18 g) hW (fun hZ => ?_)
      have hW := hZ.1
      replace h := its h
      obtain ⟨c19, h⟩ := h
      cases h
      subst c19
      exact wo_kret hx hb hr hlk hZ d_an_init_99
    · rw [if_neg c15] at h
      refine lv_aload_n hx hb d_an_init_71 rfl (lv_at hl 0 rfl) ?_
      replace h := bs h
      obtain ⟨x20, hx20, h⟩ := h
      refine gf_an_24 hx hb hts hown hK hG hW (gN_s hx20) d_an_init_72 ?_
      refine lv_iload_n hx hb d_an_init_75 rfl (lv_at hl 1 rfl) ?_
      replace h := its h
      obtain ⟨c21, h⟩ := h
      refine wo_newS (ci := 8) (fs := [.int 0, .long 0, .long 0, .long 0, .long 0]) (C := Rc_va) (T := Fc_va) (N := 5) hx hb hts ic_va tc_va tc_va_ok hown (hts (.classLink "AlarmForge$Analyser" 22 "AlarmForge$Value") (gt_of (i := 300) (by decide +kernel) (by decide +kernel))) (hts (.instantiable "AlarmForge$Value" 5) (gt_of (i := 256) (by decide +kernel) (by decide +kernel))) (hts (.initialized "AlarmForge$Value") (gt_of (i := 9) (by decide +kernel) (by decide +kernel))) hK hW hZ.2.1 rfl rfl (by decide +kernel) (kC_new hZ.2.2.2.2.1 c21) (kS_new hZ.2.2.2.2.1 c21 (by decide)) d_an_init_76 (fun H hsn hWn => ?_)
      have hle := hZ.2.2.2.2.1
      replace hZ := wz_new hZ hsn hWn
      replace h := bs h
      obtain ⟨w22, hw22, h⟩ := h
      rw [Option.some.inj hw22] at hZ
      have hW := hZ.1
      refine W.widen (k := (sz + 1) - z0) (n := kS ((sz + 1) - z0)) (kC_step hle) (kS_step hle (by decide)) ?_
      refine lv_dup hx hb d_an_init_79 rfl ?_
      replace h := its h
      obtain ⟨c23, h⟩ := h
      replace h := bs h
      obtain ⟨w24, hw24, h⟩ := h
      have hle := hZ.2.2.2.2.1
      refine wo_callK (As := []) (rest := [.ref (base + sz), .int y1, .ref (base + x20)]) (lc := (sz + 1) + 0) (n := 0) (y := y_va_init) hx hb hml hown hts hK hG hZ (c_va_init l D cA base hw24) (Nat.le_add_right _ _) (cwI 0 hts (gt_in (gt_of (i := 259) (by decide +kernel) (by decide +kernel))) rfl rfl rfl (hts _ (gt_of (i := 9) (by decide +kernel) (by decide +kernel))) (hts _ (gt_of (i := 301) (by decide +kernel) (by decide +kernel))) (hts _ (gt_of (i := 258) (by decide +kernel) (by decide +kernel))) rfl (by decide +kernel) ⟨Nat.le_of_ble_eq_true rfl, Nat.le_of_ble_eq_true rfl⟩) ⟨kC_call hZ.2.2.2.2.1 c23, kS_call hZ.2.2.2.2.1 c23⟩ rfl hl.1 rfl (Nat.le_of_ble_eq_true rfl) d_an_init_80 (fun H locs hZ => ?_)
      have hW := hZ.1
      refine W.widen (k := ((sz + 1) + 0) - z0) (n := kS (((sz + 1) + 0) - z0)) (kC_past hle) (kS_past hle) ?_
      replace h := bs h
      obtain ⟨w25, hw25, h⟩ := h
      refine wo_aast (t := 4) (ci := 8) (r := (Rc_va, Fc_va, 5)) hx hb hK hW rfl rfl hw25 d_an_init_83 (fun H locs hW => ?_)
      refine wz_back hZ (fun q g => sR_dom hw25 g) hW (fun hZ => ?_)
      have hW := hZ.1
      refine lv_iinc (v := (y1 + (1 : Int32))) (lv' := [(1, .int (y1 + (1 : Int32))), (0, .ref (base + y0))]) hx hb d_an_init_84 hl (k := 1) rfl rfl (by decide) rfl (fun ls hl => ?_)
      refine lv_goto (tgt := 65) hx hb d_an_init_87 (by decide) ?_
      exact ih y0 (y1 + (1 : Int32)) ((sz + 1) + 0) w25 h _ _ _ hZ (lv_sub hl [1, 0] rfl)
set_option maxHeartbeats 4000000 in
set_option maxRecDepth 100000 in
theorem j_an_init_26 {p : Program} {l : Launch} {e : Env} {s : State} {m : MethodId} {args : Array Value} {below : List Frame} {meth : Method} {c : Code} {D : va_G} {cA : Nat → ClassId} {base z0 lc : Nat} {w0 w' : WW} (C : cx b_an_init (none) 2 y_an_init.cls "<init>" p s m args meth c D cA base) : ∀ n : Nat, ∀ (y0 : Nat) (y1 : Int32) (sz : Nat) (w : WW), f_an_init_26 lc n y0 y1 sz w = some w' → ∀ (H : Heap) (locs : List Loc) (ls : Array Slot), wz D cls cA base s z0 w0 sz w H locs → lv_has ls 2 [(0, .ref (base + y0)), (1, .int y1)] → W p l e (rk_an_init (lc - z0)) s m args below meth c H locs (sz - z0) (kS (sz - z0)) (MQ below (fun a st o t => wo_Q D cls cA base none w' a st o t ∧ t.heap.size = base + lc ∧ (∀ q : Nat, z0 ≤ q → q < lc → w' q ≠ none) ∧ ∀ q : Nat, w0 q ≠ none → w' q ≠ none) args s (rk_an_init (lc - z0)).cells (rk_an_init (lc - z0)).slots (wo_B base)) (F0 m 26 ls []) := by
  obtain ⟨hx, hb, hr, hml, hown, hts, hlk, hnm, hK, hG⟩ := id C
  intro n
  induction n with
  | zero => intro y0 y1 sz w h; cases h
  | succ n ih =>
    intro y0 y1 sz w h H locs ls hZ hl
    have hW := hZ.1
    rw [f_an_init_26] at h
    refine lv_iload_n hx hb d_an_init_26 rfl (lv_at hl 1 rfl) ?_
    refine lv_aload_n hx hb d_an_init_27 rfl (lv_at hl 0 rfl) ?_
    replace h := bs h
    obtain ⟨x9, hx9, h⟩ := h
    refine gf_an_18 hx hb hts hown hK hG hW (gN_s hx9) d_an_init_28 ?_
    replace h := bs h
    obtain ⟨x10, hx10, h⟩ := h
    refine wo_alen hx hb hK hW (t := 5) rfl hx10 d_an_init_31 ?_
    refine lv_icmp_ge (tgt := 54) hx hb d_an_init_32 (by decide) (fun c11 => ?_) (fun c11 => ?_)
    · rw [if_pos c11] at h
      refine lv_aload_n hx hb d_an_init_54 rfl (lv_at hl 0 rfl) ?_
      refine lv_bipush (v := (25 : Int32)) hx hb d_an_init_55 (by decide) ?_
      replace h := its h
      obtain ⟨c12, h⟩ := h
      refine wo_anewS (t := 4) (N' := 25) hx hb hown (hts (.classLink "AlarmForge$Analyser" 22 "AlarmForge$Value") (gt_of (i := 300) (by decide +kernel) (by decide +kernel))) (va_AO.use hG.2.2.2.1) hK hW hZ.2.1 rfl (by decide +kernel) (by decide +kernel) (by decide +kernel) (kC_new hZ.2.2.2.2.1 c12) (kS_new hZ.2.2.2.2.1 c12 (by decide)) d_an_init_57 (fun H hsn hWn => ?_)
      have hle := hZ.2.2.2.2.1
      replace hZ := wz_new hZ hsn hWn
      replace h := bs h
      obtain ⟨w13, hw13, h⟩ := h
      rw [Option.some.inj hw13] at hZ
      have hW := hZ.1
      refine W.widen (k := (sz + 1) - z0) (n := kS ((sz + 1) - z0)) (kC_step hle) (kS_step hle (by decide)) ?_
      replace h := bs h
      obtain ⟨w14, hw14, h⟩ := h
      refine pf_an_24 hx hb hts hown hK hG hW hnm rfl rfl (pbi hw14 rfl) d_an_init_60 (fun H locs hW => ?_)
      refine wz_back hZ (fun q g => pv_dom hw14 g) hW (fun hZ => ?_)
      have hW := hZ.1
      refine lv_iconst (v := (0 : Int32)) hx hb d_an_init_63 (by decide) ?_
      refine lv_istore_n (lv' := [(1, .int (0 : Int32)), (0, .ref (base + y0))]) hx hb d_an_init_64 rfl hl (by decide) rfl (fun ls hl => ?_)
      exact j_an_init_65 C KK y0 (0 : Int32) (sz + 1) w14 h _ _ _ hZ (lv_sub hl [1, 0] rfl)
    · rw [if_neg c11] at h
      refine lv_aload_n hx hb d_an_init_35 rfl (lv_at hl 0 rfl) ?_
      replace h := bs h
      obtain ⟨x26, hx26, h⟩ := h
      refine gf_an_18 hx hb hts hown hK hG hW (gN_s hx26) d_an_init_36 ?_
      refine lv_iload_n hx hb d_an_init_39 rfl (lv_at hl 1 rfl) ?_
      replace h := its h
      obtain ⟨c27, h⟩ := h
      refine wo_newS (ci := 7) (fs := [.int 0, .null, .null]) (C := Rc_sa) (T := Fc_sa) (N := 3) hx hb hts ic_sa tc_sa tc_sa_ok hown (hts (.classLink "AlarmForge$Analyser" 9 "AlarmForge$State") (gt_of (i := 248) (by decide +kernel) (by decide +kernel))) (hts (.instantiable "AlarmForge$State" 3) (gt_of (i := 249) (by decide +kernel) (by decide +kernel))) (hts (.initialized "AlarmForge$State") (gt_of (i := 8) (by decide +kernel) (by decide +kernel))) hK hW hZ.2.1 rfl rfl (by decide +kernel) (kC_new hZ.2.2.2.2.1 c27) (kS_new hZ.2.2.2.2.1 c27 (by decide)) d_an_init_40 (fun H hsn hWn => ?_)
      have hle := hZ.2.2.2.2.1
      replace hZ := wz_new hZ hsn hWn
      replace h := bs h
      obtain ⟨w28, hw28, h⟩ := h
      rw [Option.some.inj hw28] at hZ
      have hW := hZ.1
      refine W.widen (k := (sz + 1) - z0) (n := kS ((sz + 1) - z0)) (kC_step hle) (kS_step hle (by decide)) ?_
      refine lv_dup hx hb d_an_init_43 rfl ?_
      replace h := its h
      obtain ⟨c29, h⟩ := h
      replace h := bs h
      obtain ⟨w30, hw30, h⟩ := h
      have hle := hZ.2.2.2.2.1
      refine wo_callK (As := []) (rest := [.ref (base + sz), .int y1, .ref (base + x26)]) (lc := (sz + 1) + 16) (n := 0) (y := y_sa_init) hx hb hml hown hts hK hG hZ (c_sa_init l D cA base hw30) (Nat.le_add_right _ _) (cwI 0 hts (gt_in (gt_of (i := 252) (by decide +kernel) (by decide +kernel))) rfl rfl rfl (hts _ (gt_of (i := 8) (by decide +kernel) (by decide +kernel))) (hts _ (gt_of (i := 250) (by decide +kernel) (by decide +kernel))) (hts _ (gt_of (i := 251) (by decide +kernel) (by decide +kernel))) rfl (by decide +kernel) ⟨Nat.le_of_ble_eq_true rfl, Nat.le_of_ble_eq_true rfl⟩) ⟨kC_call hZ.2.2.2.2.1 c29, kS_call hZ.2.2.2.2.1 c29⟩ rfl hl.1 rfl (Nat.le_of_ble_eq_true rfl) d_an_init_44 (fun H locs hZ => ?_)
      have hW := hZ.1
      refine W.widen (k := ((sz + 1) + 16) - z0) (n := kS (((sz + 1) + 16) - z0)) (kC_past hle) (kS_past hle) ?_
      replace h := bs h
      obtain ⟨w31, hw31, h⟩ := h
      refine wo_aast (t := 5) (ci := 7) (r := (Rc_sa, Fc_sa, 3)) hx hb hK hW rfl rfl hw31 d_an_init_47 (fun H locs hW => ?_)
      refine wz_back hZ (fun q g => sR_dom hw31 g) hW (fun hZ => ?_)
      have hW := hZ.1
      refine lv_iinc (v := (y1 + (1 : Int32))) (lv' := [(1, .int (y1 + (1 : Int32))), (0, .ref (base + y0))]) hx hb d_an_init_48 hl (k := 1) rfl rfl (by decide) rfl (fun ls hl => ?_)
      refine lv_goto (tgt := 26) hx hb d_an_init_51 (by decide) ?_
      exact ih y0 (y1 + (1 : Int32)) ((sz + 1) + 16) w31 h _ _ _ hZ (lv_sub hl [1, 0] rfl)
set_option maxHeartbeats 4000000 in
set_option maxRecDepth 100000 in
theorem c_an_init (l : Launch) (D : va_G) (cA : Nat → ClassId) (base : Nat) {a0 z0 lc : Nat} {w w' : WW} (h : f_an_init a0 z0 lc w = some w') : kt l D cls (wo_tys cA) cA base y_an_init (Cond.code y_an_init b_an_init 2 none :: gt) (rk_an_init (lc - z0)) [.ref (base + a0)] z0 lc w w' := by
  refine kt_start (by decide) (Nat.le_of_ble_eq_true rfl) ?_
  intro p e s m below meth c ls hx hb hr hml hown hts hlk hnm hK hG hZ hl
  have C : cx b_an_init (none) 2 y_an_init.cls "<init>" p s m [.ref (base + a0)].toArray meth c D cA base := ⟨hx, hb, hr, hml, hown, hts, hlk, hnm, hK, hG⟩
  have hl : lv_has ls 2 [(0, .ref (base + a0))] := hl
  have hW := hZ.1
  unfold f_an_init at h
  refine W.widen (k := z0 - z0) (n := kS (z0 - z0)) (Nat.le_refl _) (Nat.zero_le _) ?_
  refine lv_aload_n hx hb d_an_init_0 rfl (lv_at hl 0 rfl) ?_
  refine W.objInit hx hb hown (hts (.methodLink "AlarmForge$Analyser" 3 objectInit) (gt_of (i := 247) (by decide +kernel) (by decide +kernel))) (hts (.instanceMethod objectInit) (gt_of (i := 31) (by decide +kernel) (by decide +kernel))) (hts (.code objectInit ⟨#[0xb1]⟩ 1 none) (gt_of (i := 32) (by decide +kernel) (by decide +kernel))) rfl (hl.1.trans hml.symm) rfl d_an_init_1 (Nat.le_of_ble_eq_true rfl) (Nat.le_of_ble_eq_true rfl) ?_
  refine W.eq (g2 := F0 m 4 ls []) rfl ?_
  refine lv_aload_n hx hb d_an_init_4 rfl (lv_at hl 0 rfl) ?_
  replace h := its h
  obtain ⟨c1, h⟩ := h
  refine wo_newS (ci := 7) (fs := [.int 0, .null, .null]) (C := Rc_sa) (T := Fc_sa) (N := 3) hx hb hts ic_sa tc_sa tc_sa_ok hown (hts (.classLink "AlarmForge$Analyser" 9 "AlarmForge$State") (gt_of (i := 248) (by decide +kernel) (by decide +kernel))) (hts (.instantiable "AlarmForge$State" 3) (gt_of (i := 249) (by decide +kernel) (by decide +kernel))) (hts (.initialized "AlarmForge$State") (gt_of (i := 8) (by decide +kernel) (by decide +kernel))) hK hW hZ.2.1 rfl rfl (by decide +kernel) (kC_new hZ.2.2.2.2.1 c1) (kS_new hZ.2.2.2.2.1 c1 (by decide)) d_an_init_5 (fun H hsn hWn => ?_)
  have hle := hZ.2.2.2.2.1
  replace hZ := wz_new hZ hsn hWn
  replace h := bs h
  obtain ⟨w2, hw2, h⟩ := h
  rw [Option.some.inj hw2] at hZ
  have hW := hZ.1
  refine W.widen (k := (z0 + 1) - z0) (n := kS ((z0 + 1) - z0)) (kC_step hle) (kS_step hle (by decide)) ?_
  refine lv_dup hx hb d_an_init_8 rfl ?_
  replace h := its h
  obtain ⟨c3, h⟩ := h
  replace h := bs h
  obtain ⟨w4, hw4, h⟩ := h
  have hle := hZ.2.2.2.2.1
  refine wo_callK (As := []) (rest := [.ref (base + z0), .ref (base + a0)]) (lc := (z0 + 1) + 16) (n := 0) (y := y_sa_init) hx hb hml hown hts hK hG hZ (c_sa_init l D cA base hw4) (Nat.le_add_right _ _) (cwI 0 hts (gt_in (gt_of (i := 252) (by decide +kernel) (by decide +kernel))) rfl rfl rfl (hts _ (gt_of (i := 8) (by decide +kernel) (by decide +kernel))) (hts _ (gt_of (i := 250) (by decide +kernel) (by decide +kernel))) (hts _ (gt_of (i := 251) (by decide +kernel) (by decide +kernel))) rfl (by decide +kernel) ⟨Nat.le_of_ble_eq_true rfl, Nat.le_of_ble_eq_true rfl⟩) ⟨kC_call hZ.2.2.2.2.1 c3, kS_call hZ.2.2.2.2.1 c3⟩ rfl hl.1 rfl (Nat.le_of_ble_eq_true rfl) d_an_init_9 (fun H locs hZ => ?_)
  have hW := hZ.1
  refine W.widen (k := ((z0 + 1) + 16) - z0) (n := kS (((z0 + 1) + 16) - z0)) (kC_past hle) (kS_past hle) ?_
  replace h := bs h
  obtain ⟨w5, hw5, h⟩ := h
  refine pf_an_12 hx hb hts hown hK hG hW hnm rfl rfl (pbi hw5 rfl) d_an_init_12 (fun H locs hW => ?_)
  refine wz_back hZ (fun q g => pv_dom hw5 g) hW (fun hZ => ?_)
  have hW := hZ.1
  refine lv_aload_n hx hb d_an_init_15 rfl (lv_at hl 0 rfl) ?_
  refine lv_bipush (v := (12 : Int32)) hx hb d_an_init_16 (by decide) ?_
  replace h := its h
  obtain ⟨c6, h⟩ := h
  refine wo_anewS (t := 5) (N' := 12) hx hb hown (hts (.classLink "AlarmForge$Analyser" 9 "AlarmForge$State") (gt_of (i := 248) (by decide +kernel) (by decide +kernel))) (va_AO.use hG.2.2.2.2.1) hK hW hZ.2.1 rfl (by decide +kernel) (by decide +kernel) (by decide +kernel) (kC_new hZ.2.2.2.2.1 c6) (kS_new hZ.2.2.2.2.1 c6 (by decide)) d_an_init_18 (fun H hsn hWn => ?_)
  have hle := hZ.2.2.2.2.1
  replace hZ := wz_new hZ hsn hWn
  replace h := bs h
  obtain ⟨w7, hw7, h⟩ := h
  rw [Option.some.inj hw7] at hZ
  have hW := hZ.1
  refine W.widen (k := (((z0 + 1) + 16) + 1) - z0) (n := kS ((((z0 + 1) + 16) + 1) - z0)) (kC_step hle) (kS_step hle (by decide)) ?_
  replace h := bs h
  obtain ⟨w8, hw8, h⟩ := h
  refine pf_an_18 hx hb hts hown hK hG hW hnm rfl rfl (pbi hw8 rfl) d_an_init_21 (fun H locs hW => ?_)
  refine wz_back hZ (fun q g => pv_dom hw8 g) hW (fun hZ => ?_)
  have hW := hZ.1
  refine lv_iconst (v := (0 : Int32)) hx hb d_an_init_24 (by decide) ?_
  refine lv_istore_n (lv' := [(1, .int (0 : Int32)), (0, .ref (base + a0))]) hx hb d_an_init_25 rfl hl (by decide) rfl (fun ls hl => ?_)
  exact j_an_init_26 C KK a0 (0 : Int32) (((z0 + 1) + 16) + 1) w8 h _ _ _ hZ (lv_sub hl [1, 0] rfl)
abbrev b_a_init : ByteArray := prog_1_method_1_code
def y_a_init : MethodName := ⟨"AlarmForge", "<init>", "()V"⟩
def rk_a_init (k : Nat) : Room := { frames := 4, cells := k, slots := kS k, locals := 86 }
theorem d_a_init_0 : decode b_a_init 0 = .ok (.aload_n 0, 1) := by decide +kernel
theorem d_a_init_1 : decode b_a_init 1 = .ok (.invokespecial 5, 3) := by decide +kernel
theorem d_a_init_4 : decode b_a_init 4 = .ok (.aload_n 0, 1) := by decide +kernel
theorem d_a_init_5 : decode b_a_init 5 = .ok (.iconst 1, 1) := by decide +kernel
theorem d_a_init_6 : decode b_a_init 6 = .ok (.putfield 11, 3) := by decide +kernel
theorem d_a_init_9 : decode b_a_init 9 = .ok (.aload_n 0, 1) := by decide +kernel
theorem d_a_init_10 : decode b_a_init 10 = .ok (.iconst 1, 1) := by decide +kernel
theorem d_a_init_11 : decode b_a_init 11 = .ok (.putfield 15, 3) := by decide +kernel
theorem d_a_init_14 : decode b_a_init 14 = .ok (.aload_n 0, 1) := by decide +kernel
theorem d_a_init_15 : decode b_a_init 15 = .ok (.new 18, 3) := by decide +kernel
theorem d_a_init_18 : decode b_a_init 18 = .ok (.dup, 1) := by decide +kernel
theorem d_a_init_19 : decode b_a_init 19 = .ok (.invokespecial 20, 3) := by decide +kernel
theorem d_a_init_22 : decode b_a_init 22 = .ok (.putfield 21, 3) := by decide +kernel
theorem d_a_init_25 : decode b_a_init 25 = .ok (.aload_n 0, 1) := by decide +kernel
theorem d_a_init_26 : decode b_a_init 26 = .ok (.aload_n 0, 1) := by decide +kernel
theorem d_a_init_27 : decode b_a_init 27 = .ok (.getfield 21, 3) := by decide +kernel
theorem d_a_init_30 : decode b_a_init 30 = .ok (.getfield 25, 3) := by decide +kernel
theorem d_a_init_33 : decode b_a_init 33 = .ok (.putfield 29, 3) := by decide +kernel
theorem d_a_init_36 : decode b_a_init 36 = .ok (.aload_n 0, 1) := by decide +kernel
theorem d_a_init_37 : decode b_a_init 37 = .ok (.new 30, 3) := by decide +kernel
theorem d_a_init_40 : decode b_a_init 40 = .ok (.dup, 1) := by decide +kernel
theorem d_a_init_41 : decode b_a_init 41 = .ok (.invokespecial 32, 3) := by decide +kernel
theorem d_a_init_44 : decode b_a_init 44 = .ok (.putfield 33, 3) := by decide +kernel
theorem d_a_init_47 : decode b_a_init 47 = .ok (.aload_n 0, 1) := by decide +kernel
theorem d_a_init_48 : decode b_a_init 48 = .ok (.new 30, 3) := by decide +kernel
theorem d_a_init_51 : decode b_a_init 51 = .ok (.dup, 1) := by decide +kernel
theorem d_a_init_52 : decode b_a_init 52 = .ok (.invokespecial 32, 3) := by decide +kernel
theorem d_a_init_55 : decode b_a_init 55 = .ok (.putfield 37, 3) := by decide +kernel
theorem d_a_init_58 : decode b_a_init 58 = .ok (.aload_n 0, 1) := by decide +kernel
theorem d_a_init_59 : decode b_a_init 59 = .ok (.new 40, 3) := by decide +kernel
theorem d_a_init_62 : decode b_a_init 62 = .ok (.dup, 1) := by decide +kernel
theorem d_a_init_63 : decode b_a_init 63 = .ok (.invokespecial 42, 3) := by decide +kernel
theorem d_a_init_66 : decode b_a_init 66 = .ok (.putfield 43, 3) := by decide +kernel
theorem d_a_init_69 : decode b_a_init 69 = .ok (.aload_n 0, 1) := by decide +kernel
theorem d_a_init_70 : decode b_a_init 70 = .ok (.new 47, 3) := by decide +kernel
theorem d_a_init_73 : decode b_a_init 73 = .ok (.dup, 1) := by decide +kernel
theorem d_a_init_74 : decode b_a_init 74 = .ok (.invokespecial 49, 3) := by decide +kernel
theorem d_a_init_77 : decode b_a_init 77 = .ok (.putfield 50, 3) := by decide +kernel
theorem d_a_init_80 : decode b_a_init 80 = .ok (.return_, 1) := by decide +kernel
def f_a_init (a0 z0 lc : Nat) (w : WW) : Option WW :=
  (pv w a0 0 0 (.int (1 : Int32))).bind fun w1 =>
  (pv w1 a0 0 1 (.int (1 : Int32))).bind fun w2 =>
  if z0 + 1 ≤ lc then
    (some (wo_up w2 z0 (.inr (2, [.null, .int 0, .null, .int 0])))).bind fun w4 =>
    if (z0 + 1) + 5 ≤ lc then
      (f_pa_init z0 (z0 + 1) ((z0 + 1) + 5) w4).bind fun w6 =>
      (pv w6 a0 0 2 (.ref z0)).bind fun w7 =>
      (gN w7 a0 0 2).bind fun x8 =>
      (gN w7 x8 2 0).bind fun x9 =>
      (pv w7 a0 0 3 (.ref x9)).bind fun w10 =>
      if ((z0 + 1) + 5) + 1 ≤ lc then
        (some (wo_up w10 ((z0 + 1) + 5) (.inr (3, [.null, .int 0, .null, .null, .null, .int 0, .null])))).bind fun w12 =>
        if (((z0 + 1) + 5) + 1) + 54 ≤ lc then
          (f_pg_init ((z0 + 1) + 5) (((z0 + 1) + 5) + 1) ((((z0 + 1) + 5) + 1) + 54) w12).bind fun w14 =>
          (pv w14 a0 0 4 (.ref ((z0 + 1) + 5))).bind fun w15 =>
          if ((((z0 + 1) + 5) + 1) + 54) + 1 ≤ lc then
            (some (wo_up w15 ((((z0 + 1) + 5) + 1) + 54) (.inr (3, [.null, .int 0, .null, .null, .null, .int 0, .null])))).bind fun w17 =>
            if (((((z0 + 1) + 5) + 1) + 54) + 1) + 54 ≤ lc then
              (f_pg_init ((((z0 + 1) + 5) + 1) + 54) (((((z0 + 1) + 5) + 1) + 54) + 1) ((((((z0 + 1) + 5) + 1) + 54) + 1) + 54) w17).bind fun w19 =>
              (pv w19 a0 0 5 (.ref ((((z0 + 1) + 5) + 1) + 54))).bind fun w20 =>
              if ((((((z0 + 1) + 5) + 1) + 54) + 1) + 54) + 1 ≤ lc then
                (some (wo_up w20 ((((((z0 + 1) + 5) + 1) + 54) + 1) + 54) (.inr (5, [.null, .null, .null, .null, .null, .int 0, .null, .int 0, .int 0, .int 0, .int 0])))).bind fun w22 =>
                if (((((((z0 + 1) + 5) + 1) + 54) + 1) + 54) + 1) + 5 ≤ lc then
                  (f_ru_init ((((((z0 + 1) + 5) + 1) + 54) + 1) + 54) (((((((z0 + 1) + 5) + 1) + 54) + 1) + 54) + 1) ((((((((z0 + 1) + 5) + 1) + 54) + 1) + 54) + 1) + 5) w22).bind fun w24 =>
                  (pv w24 a0 0 7 (.ref ((((((z0 + 1) + 5) + 1) + 54) + 1) + 54))).bind fun w25 =>
                  if ((((((((z0 + 1) + 5) + 1) + 54) + 1) + 54) + 1) + 5) + 1 ≤ lc then
                    (some (wo_up w25 ((((((((z0 + 1) + 5) + 1) + 54) + 1) + 54) + 1) + 5) (.inr (6, [.null, .null, .null, .null, .null, .int 0, .int 0, .int 0, .int 0, .int 0, .int 0])))).bind fun w27 =>
                    if (((((((((z0 + 1) + 5) + 1) + 54) + 1) + 54) + 1) + 5) + 1) + 249 ≤ lc then
                      (f_an_init ((((((((z0 + 1) + 5) + 1) + 54) + 1) + 54) + 1) + 5) (((((((((z0 + 1) + 5) + 1) + 54) + 1) + 54) + 1) + 5) + 1) ((((((((((z0 + 1) + 5) + 1) + 54) + 1) + 54) + 1) + 5) + 1) + 249) w27).bind fun w29 =>
                      (pv w29 a0 0 8 (.ref ((((((((z0 + 1) + 5) + 1) + 54) + 1) + 54) + 1) + 5))).bind fun w30 =>
                      if ((((((((((z0 + 1) + 5) + 1) + 54) + 1) + 54) + 1) + 5) + 1) + 249) = lc then some w30 else none
                    else none
                  else none
                else none
              else none
            else none
          else none
        else none
      else none
    else none
  else none
set_option maxHeartbeats 4000000 in
set_option maxRecDepth 100000 in
theorem c_a_init (l : Launch) (D : va_G) (cA : Nat → ClassId) (base : Nat) {a0 z0 lc : Nat} {w w' : WW} (h : f_a_init a0 z0 lc w = some w') : kt l D cls (wo_tys cA) cA base y_a_init (Cond.code y_a_init b_a_init 1 none :: gt) (rk_a_init (lc - z0)) [.ref (base + a0)] z0 lc w w' := by
  refine kt_start (by decide) (Nat.le_of_ble_eq_true rfl) ?_
  intro p e s m below meth c ls hx hb hr hml hown hts hlk hnm hK hG hZ hl
  have C : cx b_a_init (none) 1 y_a_init.cls "<init>" p s m [.ref (base + a0)].toArray meth c D cA base := ⟨hx, hb, hr, hml, hown, hts, hlk, hnm, hK, hG⟩
  have hl : lv_has ls 1 [(0, .ref (base + a0))] := hl
  have hW := hZ.1
  unfold f_a_init at h
  refine W.widen (k := z0 - z0) (n := kS (z0 - z0)) (Nat.le_refl _) (Nat.zero_le _) ?_
  refine lv_aload_n hx hb d_a_init_0 rfl (lv_at hl 0 rfl) ?_
  refine W.objInit hx hb hown (hts (.methodLink "AlarmForge" 5 objectInit) (gt_of (i := 30) (by decide +kernel) (by decide +kernel))) (hts (.instanceMethod objectInit) (gt_of (i := 31) (by decide +kernel) (by decide +kernel))) (hts (.code objectInit ⟨#[0xb1]⟩ 1 none) (gt_of (i := 32) (by decide +kernel) (by decide +kernel))) rfl (hl.1.trans hml.symm) rfl d_a_init_1 (Nat.le_of_ble_eq_true rfl) (Nat.le_of_ble_eq_true rfl) ?_
  refine W.eq (g2 := F0 m 4 ls []) rfl ?_
  refine lv_aload_n hx hb d_a_init_4 rfl (lv_at hl 0 rfl) ?_
  refine lv_iconst (v := (1 : Int32)) hx hb d_a_init_5 (by decide) ?_
  replace h := bs h
  obtain ⟨w1, hw1, h⟩ := h
  refine pf_a_11 hx hb hts hown hK hG hW rfl rfl (pbi hw1 rfl) d_a_init_6 (fun H locs hW => ?_)
  refine wz_back hZ (fun q g => pv_dom hw1 g) hW (fun hZ => ?_)
  have hW := hZ.1
  refine lv_aload_n hx hb d_a_init_9 rfl (lv_at hl 0 rfl) ?_
  refine lv_iconst (v := (1 : Int32)) hx hb d_a_init_10 (by decide) ?_
  replace h := bs h
  obtain ⟨w2, hw2, h⟩ := h
  refine pf_a_15 hx hb hts hown hK hG hW rfl rfl (pbi hw2 rfl) d_a_init_11 (fun H locs hW => ?_)
  refine wz_back hZ (fun q g => pv_dom hw2 g) hW (fun hZ => ?_)
  have hW := hZ.1
  refine lv_aload_n hx hb d_a_init_14 rfl (lv_at hl 0 rfl) ?_
  replace h := its h
  obtain ⟨c3, h⟩ := h
  refine wo_newS (ci := 2) (fs := [.null, .int 0, .null, .int 0]) (C := Rc_pa) (T := Fc_pa) (N := 4) hx hb hts ic_pa tc_pa tc_pa_ok hown (hts (.classLink "AlarmForge" 18 "AlarmForge$Parser") (gt_of (i := 33) (by decide +kernel) (by decide +kernel))) (hts (.instantiable "AlarmForge$Parser" 4) (gt_of (i := 34) (by decide +kernel) (by decide +kernel))) (hts (.initialized "AlarmForge$Parser") (gt_of (i := 2) (by decide +kernel) (by decide +kernel))) hK hW hZ.2.1 rfl rfl (by decide +kernel) (kC_new hZ.2.2.2.2.1 c3) (kS_new hZ.2.2.2.2.1 c3 (by decide)) d_a_init_15 (fun H hsn hWn => ?_)
  have hle := hZ.2.2.2.2.1
  replace hZ := wz_new hZ hsn hWn
  replace h := bs h
  obtain ⟨w4, hw4, h⟩ := h
  rw [Option.some.inj hw4] at hZ
  have hW := hZ.1
  refine W.widen (k := (z0 + 1) - z0) (n := kS ((z0 + 1) - z0)) (kC_step hle) (kS_step hle (by decide)) ?_
  refine lv_dup hx hb d_a_init_18 rfl ?_
  replace h := its h
  obtain ⟨c5, h⟩ := h
  replace h := bs h
  obtain ⟨w6, hw6, h⟩ := h
  have hle := hZ.2.2.2.2.1
  refine wo_callK (As := []) (rest := [.ref (base + z0), .ref (base + a0)]) (lc := (z0 + 1) + 5) (n := 0) (y := y_pa_init) hx hb hml hown hts hK hG hZ (c_pa_init l D cA base hw6) (Nat.le_add_right _ _) (cwI 0 hts (gt_in (gt_of (i := 37) (by decide +kernel) (by decide +kernel))) rfl rfl rfl (hts _ (gt_of (i := 2) (by decide +kernel) (by decide +kernel))) (hts _ (gt_of (i := 35) (by decide +kernel) (by decide +kernel))) (hts _ (gt_of (i := 36) (by decide +kernel) (by decide +kernel))) rfl (by decide +kernel) ⟨Nat.le_of_ble_eq_true rfl, Nat.le_of_ble_eq_true rfl⟩) ⟨kC_call hZ.2.2.2.2.1 c5, kS_call hZ.2.2.2.2.1 c5⟩ rfl hl.1 rfl (Nat.le_of_ble_eq_true rfl) d_a_init_19 (fun H locs hZ => ?_)
  have hW := hZ.1
  refine W.widen (k := ((z0 + 1) + 5) - z0) (n := kS (((z0 + 1) + 5) - z0)) (kC_past hle) (kS_past hle) ?_
  replace h := bs h
  obtain ⟨w7, hw7, h⟩ := h
  refine pf_a_21 hx hb hts hown hK hG hW hnm rfl rfl (pbi hw7 rfl) d_a_init_22 (fun H locs hW => ?_)
  refine wz_back hZ (fun q g => pv_dom hw7 g) hW (fun hZ => ?_)
  have hW := hZ.1
  refine lv_aload_n hx hb d_a_init_25 rfl (lv_at hl 0 rfl) ?_
  refine lv_aload_n hx hb d_a_init_26 rfl (lv_at hl 0 rfl) ?_
  replace h := bs h
  obtain ⟨x8, hx8, h⟩ := h
  refine gf_a_21 hx hb hts hown hK hG hW (gN_s hx8) d_a_init_27 ?_
  replace h := bs h
  obtain ⟨x9, hx9, h⟩ := h
  refine gf_a_25 hx hb hts hown hK hG hW (gN_s hx9) d_a_init_30 ?_
  replace h := bs h
  obtain ⟨w10, hw10, h⟩ := h
  refine pf_a_29 hx hb hts hown hK hG hW hnm rfl rfl (pbi hw10 rfl) d_a_init_33 (fun H locs hW => ?_)
  refine wz_back hZ (fun q g => pv_dom hw10 g) hW (fun hZ => ?_)
  have hW := hZ.1
  refine lv_aload_n hx hb d_a_init_36 rfl (lv_at hl 0 rfl) ?_
  replace h := its h
  obtain ⟨c11, h⟩ := h
  refine wo_newS (ci := 3) (fs := [.null, .int 0, .null, .null, .null, .int 0, .null]) (C := Rc_pg) (T := Fc_pg) (N := 7) hx hb hts ic_pg tc_pg tc_pg_ok hown (hts (.classLink "AlarmForge" 30 "AlarmForge$Program") (gt_of (i := 94) (by decide +kernel) (by decide +kernel))) (hts (.instantiable "AlarmForge$Program" 7) (gt_of (i := 95) (by decide +kernel) (by decide +kernel))) (hts (.initialized "AlarmForge$Program") (gt_of (i := 4) (by decide +kernel) (by decide +kernel))) hK hW hZ.2.1 rfl rfl (by decide +kernel) (kC_new hZ.2.2.2.2.1 c11) (kS_new hZ.2.2.2.2.1 c11 (by decide)) d_a_init_37 (fun H hsn hWn => ?_)
  have hle := hZ.2.2.2.2.1
  replace hZ := wz_new hZ hsn hWn
  replace h := bs h
  obtain ⟨w12, hw12, h⟩ := h
  rw [Option.some.inj hw12] at hZ
  have hW := hZ.1
  refine W.widen (k := (((z0 + 1) + 5) + 1) - z0) (n := kS ((((z0 + 1) + 5) + 1) - z0)) (kC_step hle) (kS_step hle (by decide)) ?_
  refine lv_dup hx hb d_a_init_40 rfl ?_
  replace h := its h
  obtain ⟨c13, h⟩ := h
  replace h := bs h
  obtain ⟨w14, hw14, h⟩ := h
  have hle := hZ.2.2.2.2.1
  refine wo_callK (As := []) (rest := [.ref (base + ((z0 + 1) + 5)), .ref (base + a0)]) (lc := (((z0 + 1) + 5) + 1) + 54) (n := 0) (y := y_pg_init) hx hb hml hown hts hK hG hZ (c_pg_init l D cA base hw14) (Nat.le_add_right _ _) (cwI 0 hts (gt_in (gt_of (i := 98) (by decide +kernel) (by decide +kernel))) rfl rfl rfl (hts _ (gt_of (i := 4) (by decide +kernel) (by decide +kernel))) (hts _ (gt_of (i := 96) (by decide +kernel) (by decide +kernel))) (hts _ (gt_of (i := 97) (by decide +kernel) (by decide +kernel))) rfl (by decide +kernel) ⟨Nat.le_of_ble_eq_true rfl, Nat.le_of_ble_eq_true rfl⟩) ⟨kC_call hZ.2.2.2.2.1 c13, kS_call hZ.2.2.2.2.1 c13⟩ rfl hl.1 rfl (Nat.le_of_ble_eq_true rfl) d_a_init_41 (fun H locs hZ => ?_)
  have hW := hZ.1
  refine W.widen (k := ((((z0 + 1) + 5) + 1) + 54) - z0) (n := kS (((((z0 + 1) + 5) + 1) + 54) - z0)) (kC_past hle) (kS_past hle) ?_
  replace h := bs h
  obtain ⟨w15, hw15, h⟩ := h
  refine pf_a_33 hx hb hts hown hK hG hW rfl rfl (pbi hw15 rfl) d_a_init_44 (fun H locs hW => ?_)
  refine wz_back hZ (fun q g => pv_dom hw15 g) hW (fun hZ => ?_)
  have hW := hZ.1
  refine lv_aload_n hx hb d_a_init_47 rfl (lv_at hl 0 rfl) ?_
  replace h := its h
  obtain ⟨c16, h⟩ := h
  refine wo_newS (ci := 3) (fs := [.null, .int 0, .null, .null, .null, .int 0, .null]) (C := Rc_pg) (T := Fc_pg) (N := 7) hx hb hts ic_pg tc_pg tc_pg_ok hown (hts (.classLink "AlarmForge" 30 "AlarmForge$Program") (gt_of (i := 94) (by decide +kernel) (by decide +kernel))) (hts (.instantiable "AlarmForge$Program" 7) (gt_of (i := 95) (by decide +kernel) (by decide +kernel))) (hts (.initialized "AlarmForge$Program") (gt_of (i := 4) (by decide +kernel) (by decide +kernel))) hK hW hZ.2.1 rfl rfl (by decide +kernel) (kC_new hZ.2.2.2.2.1 c16) (kS_new hZ.2.2.2.2.1 c16 (by decide)) d_a_init_48 (fun H hsn hWn => ?_)
  have hle := hZ.2.2.2.2.1
  replace hZ := wz_new hZ hsn hWn
  replace h := bs h
  obtain ⟨w17, hw17, h⟩ := h
  rw [Option.some.inj hw17] at hZ
  have hW := hZ.1
  refine W.widen (k := (((((z0 + 1) + 5) + 1) + 54) + 1) - z0) (n := kS ((((((z0 + 1) + 5) + 1) + 54) + 1) - z0)) (kC_step hle) (kS_step hle (by decide)) ?_
  refine lv_dup hx hb d_a_init_51 rfl ?_
  replace h := its h
  obtain ⟨c18, h⟩ := h
  replace h := bs h
  obtain ⟨w19, hw19, h⟩ := h
  have hle := hZ.2.2.2.2.1
  refine wo_callK (As := []) (rest := [.ref (base + ((((z0 + 1) + 5) + 1) + 54)), .ref (base + a0)]) (lc := (((((z0 + 1) + 5) + 1) + 54) + 1) + 54) (n := 0) (y := y_pg_init) hx hb hml hown hts hK hG hZ (c_pg_init l D cA base hw19) (Nat.le_add_right _ _) (cwI 0 hts (gt_in (gt_of (i := 98) (by decide +kernel) (by decide +kernel))) rfl rfl rfl (hts _ (gt_of (i := 4) (by decide +kernel) (by decide +kernel))) (hts _ (gt_of (i := 96) (by decide +kernel) (by decide +kernel))) (hts _ (gt_of (i := 97) (by decide +kernel) (by decide +kernel))) rfl (by decide +kernel) ⟨Nat.le_of_ble_eq_true rfl, Nat.le_of_ble_eq_true rfl⟩) ⟨kC_call hZ.2.2.2.2.1 c18, kS_call hZ.2.2.2.2.1 c18⟩ rfl hl.1 rfl (Nat.le_of_ble_eq_true rfl) d_a_init_52 (fun H locs hZ => ?_)
  have hW := hZ.1
  refine W.widen (k := ((((((z0 + 1) + 5) + 1) + 54) + 1) + 54) - z0) (n := kS (((((((z0 + 1) + 5) + 1) + 54) + 1) + 54) - z0)) (kC_past hle) (kS_past hle) ?_
  replace h := bs h
  obtain ⟨w20, hw20, h⟩ := h
  refine pf_a_37 hx hb hts hown hK hG hW rfl rfl (pbi hw20 rfl) d_a_init_55 (fun H locs hW => ?_)
  refine wz_back hZ (fun q g => pv_dom hw20 g) hW (fun hZ => ?_)
  have hW := hZ.1
  refine lv_aload_n hx hb d_a_init_58 rfl (lv_at hl 0 rfl) ?_
  replace h := its h
  obtain ⟨c21, h⟩ := h
  refine wo_newS (ci := 5) (fs := [.null, .null, .null, .null, .null, .int 0, .null, .int 0, .int 0, .int 0, .int 0]) (C := Rc_ru) (T := Fc_ru) (N := 11) hx hb hts ic_ru tc_ru tc_ru_ok hown (hts (.classLink "AlarmForge" 40 "AlarmForge$Runner") (gt_of (i := 194) (by decide +kernel) (by decide +kernel))) (hts (.instantiable "AlarmForge$Runner" 11) (gt_of (i := 195) (by decide +kernel) (by decide +kernel))) (hts (.initialized "AlarmForge$Runner") (gt_of (i := 6) (by decide +kernel) (by decide +kernel))) hK hW hZ.2.1 rfl rfl (by decide +kernel) (kC_new hZ.2.2.2.2.1 c21) (kS_new hZ.2.2.2.2.1 c21 (by decide)) d_a_init_59 (fun H hsn hWn => ?_)
  have hle := hZ.2.2.2.2.1
  replace hZ := wz_new hZ hsn hWn
  replace h := bs h
  obtain ⟨w22, hw22, h⟩ := h
  rw [Option.some.inj hw22] at hZ
  have hW := hZ.1
  refine W.widen (k := (((((((z0 + 1) + 5) + 1) + 54) + 1) + 54) + 1) - z0) (n := kS ((((((((z0 + 1) + 5) + 1) + 54) + 1) + 54) + 1) - z0)) (kC_step hle) (kS_step hle (by decide)) ?_
  refine lv_dup hx hb d_a_init_62 rfl ?_
  replace h := its h
  obtain ⟨c23, h⟩ := h
  replace h := bs h
  obtain ⟨w24, hw24, h⟩ := h
  have hle := hZ.2.2.2.2.1
  refine wo_callK (As := []) (rest := [.ref (base + ((((((z0 + 1) + 5) + 1) + 54) + 1) + 54)), .ref (base + a0)]) (lc := (((((((z0 + 1) + 5) + 1) + 54) + 1) + 54) + 1) + 5) (n := 0) (y := y_ru_init) hx hb hml hown hts hK hG hZ (c_ru_init l D cA base hw24) (Nat.le_add_right _ _) (cwI 0 hts (gt_in (gt_of (i := 198) (by decide +kernel) (by decide +kernel))) rfl rfl rfl (hts _ (gt_of (i := 6) (by decide +kernel) (by decide +kernel))) (hts _ (gt_of (i := 196) (by decide +kernel) (by decide +kernel))) (hts _ (gt_of (i := 197) (by decide +kernel) (by decide +kernel))) rfl (by decide +kernel) ⟨Nat.le_of_ble_eq_true rfl, Nat.le_of_ble_eq_true rfl⟩) ⟨kC_call hZ.2.2.2.2.1 c23, kS_call hZ.2.2.2.2.1 c23⟩ rfl hl.1 rfl (Nat.le_of_ble_eq_true rfl) d_a_init_63 (fun H locs hZ => ?_)
  have hW := hZ.1
  refine W.widen (k := ((((((((z0 + 1) + 5) + 1) + 54) + 1) + 54) + 1) + 5) - z0) (n := kS (((((((((z0 + 1) + 5) + 1) + 54) + 1) + 54) + 1) + 5) - z0)) (kC_past hle) (kS_past hle) ?_
  replace h := bs h
  obtain ⟨w25, hw25, h⟩ := h
  refine pf_a_43 hx hb hts hown hK hG hW hnm rfl rfl (pbi hw25 rfl) d_a_init_66 (fun H locs hW => ?_)
  refine wz_back hZ (fun q g => pv_dom hw25 g) hW (fun hZ => ?_)
  have hW := hZ.1
  refine lv_aload_n hx hb d_a_init_69 rfl (lv_at hl 0 rfl) ?_
  replace h := its h
  obtain ⟨c26, h⟩ := h
  refine wo_newS (ci := 6) (fs := [.null, .null, .null, .null, .null, .int 0, .int 0, .int 0, .int 0, .int 0, .int 0]) (C := Rc_an) (T := Fc_an) (N := 11) hx hb hts ic_an tc_an tc_an_ok hown (hts (.classLink "AlarmForge" 47 "AlarmForge$Analyser") (gt_of (i := 242) (by decide +kernel) (by decide +kernel))) (hts (.instantiable "AlarmForge$Analyser" 11) (gt_of (i := 243) (by decide +kernel) (by decide +kernel))) (hts (.initialized "AlarmForge$Analyser") (gt_of (i := 7) (by decide +kernel) (by decide +kernel))) hK hW hZ.2.1 rfl rfl (by decide +kernel) (kC_new hZ.2.2.2.2.1 c26) (kS_new hZ.2.2.2.2.1 c26 (by decide)) d_a_init_70 (fun H hsn hWn => ?_)
  have hle := hZ.2.2.2.2.1
  replace hZ := wz_new hZ hsn hWn
  replace h := bs h
  obtain ⟨w27, hw27, h⟩ := h
  rw [Option.some.inj hw27] at hZ
  have hW := hZ.1
  refine W.widen (k := (((((((((z0 + 1) + 5) + 1) + 54) + 1) + 54) + 1) + 5) + 1) - z0) (n := kS ((((((((((z0 + 1) + 5) + 1) + 54) + 1) + 54) + 1) + 5) + 1) - z0)) (kC_step hle) (kS_step hle (by decide)) ?_
  refine lv_dup hx hb d_a_init_73 rfl ?_
  replace h := its h
  obtain ⟨c28, h⟩ := h
  replace h := bs h
  obtain ⟨w29, hw29, h⟩ := h
  have hle := hZ.2.2.2.2.1
  refine wo_callK (As := []) (rest := [.ref (base + ((((((((z0 + 1) + 5) + 1) + 54) + 1) + 54) + 1) + 5)), .ref (base + a0)]) (lc := (((((((((z0 + 1) + 5) + 1) + 54) + 1) + 54) + 1) + 5) + 1) + 249) (n := 0) (y := y_an_init) hx hb hml hown hts hK hG hZ (c_an_init l D cA base hw29) (Nat.le_add_right _ _) (cwI 0 hts (gt_in (gt_of (i := 246) (by decide +kernel) (by decide +kernel))) rfl rfl rfl (hts _ (gt_of (i := 7) (by decide +kernel) (by decide +kernel))) (hts _ (gt_of (i := 244) (by decide +kernel) (by decide +kernel))) (hts _ (gt_of (i := 245) (by decide +kernel) (by decide +kernel))) rfl (by decide +kernel) ⟨Nat.le_of_ble_eq_true rfl, Nat.le_of_ble_eq_true rfl⟩) ⟨kC_call hZ.2.2.2.2.1 c28, kS_call hZ.2.2.2.2.1 c28⟩ rfl hl.1 rfl (Nat.le_of_ble_eq_true rfl) d_a_init_74 (fun H locs hZ => ?_)
  have hW := hZ.1
  refine W.widen (k := ((((((((((z0 + 1) + 5) + 1) + 54) + 1) + 54) + 1) + 5) + 1) + 249) - z0) (n := kS (((((((((((z0 + 1) + 5) + 1) + 54) + 1) + 54) + 1) + 5) + 1) + 249) - z0)) (kC_past hle) (kS_past hle) ?_
  replace h := bs h
  obtain ⟨w30, hw30, h⟩ := h
  refine pf_a_50 hx hb hts hown hK hG hW hnm rfl rfl (pbi hw30 rfl) d_a_init_77 (fun H locs hW => ?_)
  refine wz_back hZ (fun q g => pv_dom hw30 g) hW (fun hZ => ?_)
  have hW := hZ.1
  replace h := its h
  obtain ⟨c31, h⟩ := h
  cases h
  subst c31
  exact wo_kret hx hb hr hlk hZ d_a_init_80
abbrev b_q_init : ByteArray := prog_11_method_1_code
def y_q_init : MethodName := ⟨"AlarmForgeModel", "<init>", "()V"⟩
def rk_q_init (k : Nat) : Room := { frames := 1, cells := k, slots := kS k, locals := 24 }
theorem d_q_init_0 : decode b_q_init 0 = .ok (.aload_n 0, 1) := by decide +kernel
theorem d_q_init_1 : decode b_q_init 1 = .ok (.invokespecial 1, 3) := by decide +kernel
theorem d_q_init_4 : decode b_q_init 4 = .ok (.aload_n 0, 1) := by decide +kernel
theorem d_q_init_5 : decode b_q_init 5 = .ok (.sipush (200), 3) := by decide +kernel
theorem d_q_init_8 : decode b_q_init 8 = .ok (.newarray .int, 2) := by decide +kernel
theorem d_q_init_10 : decode b_q_init 10 = .ok (.putfield 7, 3) := by decide +kernel
theorem d_q_init_13 : decode b_q_init 13 = .ok (.aload_n 0, 1) := by decide +kernel
theorem d_q_init_14 : decode b_q_init 14 = .ok (.bipush (8), 2) := by decide +kernel
theorem d_q_init_16 : decode b_q_init 16 = .ok (.newarray .int, 2) := by decide +kernel
theorem d_q_init_18 : decode b_q_init 18 = .ok (.putfield 13, 3) := by decide +kernel
theorem d_q_init_21 : decode b_q_init 21 = .ok (.aload_n 0, 1) := by decide +kernel
theorem d_q_init_22 : decode b_q_init 22 = .ok (.bipush (-2), 2) := by decide +kernel
theorem d_q_init_24 : decode b_q_init 24 = .ok (.putfield 16, 3) := by decide +kernel
theorem d_q_init_27 : decode b_q_init 27 = .ok (.aload_n 0, 1) := by decide +kernel
theorem d_q_init_28 : decode b_q_init 28 = .ok (.iconst 1, 1) := by decide +kernel
theorem d_q_init_29 : decode b_q_init 29 = .ok (.putfield 20, 3) := by decide +kernel
theorem d_q_init_32 : decode b_q_init 32 = .ok (.aload_n 0, 1) := by decide +kernel
theorem d_q_init_33 : decode b_q_init 33 = .ok (.iconst 1, 1) := by decide +kernel
theorem d_q_init_34 : decode b_q_init 34 = .ok (.putfield 23, 3) := by decide +kernel
theorem d_q_init_37 : decode b_q_init 37 = .ok (.aload_n 0, 1) := by decide +kernel
theorem d_q_init_38 : decode b_q_init 38 = .ok (.sipush (160), 3) := by decide +kernel
theorem d_q_init_41 : decode b_q_init 41 = .ok (.newarray .int, 2) := by decide +kernel
theorem d_q_init_43 : decode b_q_init 43 = .ok (.putfield 26, 3) := by decide +kernel
theorem d_q_init_46 : decode b_q_init 46 = .ok (.aload_n 0, 1) := by decide +kernel
theorem d_q_init_47 : decode b_q_init 47 = .ok (.sipush (160), 3) := by decide +kernel
theorem d_q_init_50 : decode b_q_init 50 = .ok (.newarray .int, 2) := by decide +kernel
theorem d_q_init_52 : decode b_q_init 52 = .ok (.putfield 29, 3) := by decide +kernel
theorem d_q_init_55 : decode b_q_init 55 = .ok (.aload_n 0, 1) := by decide +kernel
theorem d_q_init_56 : decode b_q_init 56 = .ok (.sipush (160), 3) := by decide +kernel
theorem d_q_init_59 : decode b_q_init 59 = .ok (.newarray .int, 2) := by decide +kernel
theorem d_q_init_61 : decode b_q_init 61 = .ok (.putfield 32, 3) := by decide +kernel
theorem d_q_init_64 : decode b_q_init 64 = .ok (.aload_n 0, 1) := by decide +kernel
theorem d_q_init_65 : decode b_q_init 65 = .ok (.sipush (160), 3) := by decide +kernel
theorem d_q_init_68 : decode b_q_init 68 = .ok (.newarray .int, 2) := by decide +kernel
theorem d_q_init_70 : decode b_q_init 70 = .ok (.putfield 35, 3) := by decide +kernel
theorem d_q_init_73 : decode b_q_init 73 = .ok (.aload_n 0, 1) := by decide +kernel
theorem d_q_init_74 : decode b_q_init 74 = .ok (.sipush (160), 3) := by decide +kernel
theorem d_q_init_77 : decode b_q_init 77 = .ok (.newarray .int, 2) := by decide +kernel
theorem d_q_init_79 : decode b_q_init 79 = .ok (.putfield 38, 3) := by decide +kernel
theorem d_q_init_82 : decode b_q_init 82 = .ok (.aload_n 0, 1) := by decide +kernel
theorem d_q_init_83 : decode b_q_init 83 = .ok (.sipush (160), 3) := by decide +kernel
theorem d_q_init_86 : decode b_q_init 86 = .ok (.newarray .int, 2) := by decide +kernel
theorem d_q_init_88 : decode b_q_init 88 = .ok (.putfield 41, 3) := by decide +kernel
theorem d_q_init_91 : decode b_q_init 91 = .ok (.aload_n 0, 1) := by decide +kernel
theorem d_q_init_92 : decode b_q_init 92 = .ok (.sipush (160), 3) := by decide +kernel
theorem d_q_init_95 : decode b_q_init 95 = .ok (.newarray .int, 2) := by decide +kernel
theorem d_q_init_97 : decode b_q_init 97 = .ok (.putfield 44, 3) := by decide +kernel
theorem d_q_init_100 : decode b_q_init 100 = .ok (.aload_n 0, 1) := by decide +kernel
theorem d_q_init_101 : decode b_q_init 101 = .ok (.sipush (160), 3) := by decide +kernel
theorem d_q_init_104 : decode b_q_init 104 = .ok (.newarray .int, 2) := by decide +kernel
theorem d_q_init_106 : decode b_q_init 106 = .ok (.putfield 47, 3) := by decide +kernel
theorem d_q_init_109 : decode b_q_init 109 = .ok (.aload_n 0, 1) := by decide +kernel
theorem d_q_init_110 : decode b_q_init 110 = .ok (.sipush (160), 3) := by decide +kernel
theorem d_q_init_113 : decode b_q_init 113 = .ok (.newarray .int, 2) := by decide +kernel
theorem d_q_init_115 : decode b_q_init 115 = .ok (.putfield 50, 3) := by decide +kernel
theorem d_q_init_118 : decode b_q_init 118 = .ok (.aload_n 0, 1) := by decide +kernel
theorem d_q_init_119 : decode b_q_init 119 = .ok (.sipush (160), 3) := by decide +kernel
theorem d_q_init_122 : decode b_q_init 122 = .ok (.newarray .int, 2) := by decide +kernel
theorem d_q_init_124 : decode b_q_init 124 = .ok (.putfield 53, 3) := by decide +kernel
theorem d_q_init_127 : decode b_q_init 127 = .ok (.aload_n 0, 1) := by decide +kernel
theorem d_q_init_128 : decode b_q_init 128 = .ok (.sipush (160), 3) := by decide +kernel
theorem d_q_init_131 : decode b_q_init 131 = .ok (.newarray .int, 2) := by decide +kernel
theorem d_q_init_133 : decode b_q_init 133 = .ok (.putfield 56, 3) := by decide +kernel
theorem d_q_init_136 : decode b_q_init 136 = .ok (.aload_n 0, 1) := by decide +kernel
theorem d_q_init_137 : decode b_q_init 137 = .ok (.sipush (160), 3) := by decide +kernel
theorem d_q_init_140 : decode b_q_init 140 = .ok (.newarray .boolean, 2) := by decide +kernel
theorem d_q_init_142 : decode b_q_init 142 = .ok (.putfield 59, 3) := by decide +kernel
theorem d_q_init_145 : decode b_q_init 145 = .ok (.aload_n 0, 1) := by decide +kernel
theorem d_q_init_146 : decode b_q_init 146 = .ok (.iconst 2, 1) := by decide +kernel
theorem d_q_init_147 : decode b_q_init 147 = .ok (.newarray .int, 2) := by decide +kernel
theorem d_q_init_149 : decode b_q_init 149 = .ok (.putfield 63, 3) := by decide +kernel
theorem d_q_init_152 : decode b_q_init 152 = .ok (.aload_n 0, 1) := by decide +kernel
theorem d_q_init_153 : decode b_q_init 153 = .ok (.iconst 2, 1) := by decide +kernel
theorem d_q_init_154 : decode b_q_init 154 = .ok (.newarray .int, 2) := by decide +kernel
theorem d_q_init_156 : decode b_q_init 156 = .ok (.putfield 66, 3) := by decide +kernel
theorem d_q_init_159 : decode b_q_init 159 = .ok (.aload_n 0, 1) := by decide +kernel
theorem d_q_init_160 : decode b_q_init 160 = .ok (.iconst 2, 1) := by decide +kernel
theorem d_q_init_161 : decode b_q_init 161 = .ok (.newarray .int, 2) := by decide +kernel
theorem d_q_init_163 : decode b_q_init 163 = .ok (.putfield 69, 3) := by decide +kernel
theorem d_q_init_166 : decode b_q_init 166 = .ok (.aload_n 0, 1) := by decide +kernel
theorem d_q_init_167 : decode b_q_init 167 = .ok (.sipush (440), 3) := by decide +kernel
theorem d_q_init_170 : decode b_q_init 170 = .ok (.newarray .int, 2) := by decide +kernel
theorem d_q_init_172 : decode b_q_init 172 = .ok (.putfield 72, 3) := by decide +kernel
theorem d_q_init_175 : decode b_q_init 175 = .ok (.aload_n 0, 1) := by decide +kernel
theorem d_q_init_176 : decode b_q_init 176 = .ok (.sipush (440), 3) := by decide +kernel
theorem d_q_init_179 : decode b_q_init 179 = .ok (.newarray .int, 2) := by decide +kernel
theorem d_q_init_181 : decode b_q_init 181 = .ok (.putfield 75, 3) := by decide +kernel
theorem d_q_init_184 : decode b_q_init 184 = .ok (.aload_n 0, 1) := by decide +kernel
theorem d_q_init_185 : decode b_q_init 185 = .ok (.sipush (440), 3) := by decide +kernel
theorem d_q_init_188 : decode b_q_init 188 = .ok (.newarray .int, 2) := by decide +kernel
theorem d_q_init_190 : decode b_q_init 190 = .ok (.putfield 78, 3) := by decide +kernel
theorem d_q_init_193 : decode b_q_init 193 = .ok (.aload_n 0, 1) := by decide +kernel
theorem d_q_init_194 : decode b_q_init 194 = .ok (.bipush (8), 2) := by decide +kernel
theorem d_q_init_196 : decode b_q_init 196 = .ok (.newarray .int, 2) := by decide +kernel
theorem d_q_init_198 : decode b_q_init 198 = .ok (.putfield 81, 3) := by decide +kernel
theorem d_q_init_201 : decode b_q_init 201 = .ok (.aload_n 0, 1) := by decide +kernel
theorem d_q_init_202 : decode b_q_init 202 = .ok (.bipush (8), 2) := by decide +kernel
theorem d_q_init_204 : decode b_q_init 204 = .ok (.newarray .int, 2) := by decide +kernel
theorem d_q_init_206 : decode b_q_init 206 = .ok (.putfield 84, 3) := by decide +kernel
theorem d_q_init_209 : decode b_q_init 209 = .ok (.aload_n 0, 1) := by decide +kernel
theorem d_q_init_210 : decode b_q_init 210 = .ok (.bipush (8), 2) := by decide +kernel
theorem d_q_init_212 : decode b_q_init 212 = .ok (.newarray .int, 2) := by decide +kernel
theorem d_q_init_214 : decode b_q_init 214 = .ok (.putfield 87, 3) := by decide +kernel
theorem d_q_init_217 : decode b_q_init 217 = .ok (.aload_n 0, 1) := by decide +kernel
theorem d_q_init_218 : decode b_q_init 218 = .ok (.sipush (300), 3) := by decide +kernel
theorem d_q_init_221 : decode b_q_init 221 = .ok (.newarray .int, 2) := by decide +kernel
theorem d_q_init_223 : decode b_q_init 223 = .ok (.putfield 90, 3) := by decide +kernel
theorem d_q_init_226 : decode b_q_init 226 = .ok (.aload_n 0, 1) := by decide +kernel
theorem d_q_init_227 : decode b_q_init 227 = .ok (.sipush (300), 3) := by decide +kernel
theorem d_q_init_230 : decode b_q_init 230 = .ok (.newarray .int, 2) := by decide +kernel
theorem d_q_init_232 : decode b_q_init 232 = .ok (.putfield 93, 3) := by decide +kernel
theorem d_q_init_235 : decode b_q_init 235 = .ok (.aload_n 0, 1) := by decide +kernel
theorem d_q_init_236 : decode b_q_init 236 = .ok (.sipush (300), 3) := by decide +kernel
theorem d_q_init_239 : decode b_q_init 239 = .ok (.newarray .int, 2) := by decide +kernel
theorem d_q_init_241 : decode b_q_init 241 = .ok (.putfield 96, 3) := by decide +kernel
theorem d_q_init_244 : decode b_q_init 244 = .ok (.aload_n 0, 1) := by decide +kernel
theorem d_q_init_245 : decode b_q_init 245 = .ok (.sipush (300), 3) := by decide +kernel
theorem d_q_init_248 : decode b_q_init 248 = .ok (.newarray .int, 2) := by decide +kernel
theorem d_q_init_250 : decode b_q_init 250 = .ok (.putfield 99, 3) := by decide +kernel
theorem d_q_init_253 : decode b_q_init 253 = .ok (.aload_n 0, 1) := by decide +kernel
theorem d_q_init_254 : decode b_q_init 254 = .ok (.bipush (6), 2) := by decide +kernel
theorem d_q_init_256 : decode b_q_init 256 = .ok (.newarray .int, 2) := by decide +kernel
theorem d_q_init_258 : decode b_q_init 258 = .ok (.putfield 102, 3) := by decide +kernel
theorem d_q_init_261 : decode b_q_init 261 = .ok (.aload_n 0, 1) := by decide +kernel
theorem d_q_init_262 : decode b_q_init 262 = .ok (.bipush (8), 2) := by decide +kernel
theorem d_q_init_264 : decode b_q_init 264 = .ok (.newarray .int, 2) := by decide +kernel
theorem d_q_init_266 : decode b_q_init 266 = .ok (.putfield 105, 3) := by decide +kernel
theorem d_q_init_269 : decode b_q_init 269 = .ok (.aload_n 0, 1) := by decide +kernel
theorem d_q_init_270 : decode b_q_init 270 = .ok (.bipush (120), 2) := by decide +kernel
theorem d_q_init_272 : decode b_q_init 272 = .ok (.newarray .int, 2) := by decide +kernel
theorem d_q_init_274 : decode b_q_init 274 = .ok (.putfield 108, 3) := by decide +kernel
theorem d_q_init_277 : decode b_q_init 277 = .ok (.aload_n 0, 1) := by decide +kernel
theorem d_q_init_278 : decode b_q_init 278 = .ok (.bipush (8), 2) := by decide +kernel
theorem d_q_init_280 : decode b_q_init 280 = .ok (.newarray .int, 2) := by decide +kernel
theorem d_q_init_282 : decode b_q_init 282 = .ok (.putfield 111, 3) := by decide +kernel
theorem d_q_init_285 : decode b_q_init 285 = .ok (.aload_n 0, 1) := by decide +kernel
theorem d_q_init_286 : decode b_q_init 286 = .ok (.bipush (6), 2) := by decide +kernel
theorem d_q_init_288 : decode b_q_init 288 = .ok (.newarray .boolean, 2) := by decide +kernel
theorem d_q_init_290 : decode b_q_init 290 = .ok (.putfield 114, 3) := by decide +kernel
theorem d_q_init_293 : decode b_q_init 293 = .ok (.aload_n 0, 1) := by decide +kernel
theorem d_q_init_294 : decode b_q_init 294 = .ok (.sipush (360), 3) := by decide +kernel
theorem d_q_init_297 : decode b_q_init 297 = .ok (.newarray .long, 2) := by decide +kernel
theorem d_q_init_299 : decode b_q_init 299 = .ok (.putfield 117, 3) := by decide +kernel
theorem d_q_init_302 : decode b_q_init 302 = .ok (.aload_n 0, 1) := by decide +kernel
theorem d_q_init_303 : decode b_q_init 303 = .ok (.sipush (360), 3) := by decide +kernel
theorem d_q_init_306 : decode b_q_init 306 = .ok (.newarray .long, 2) := by decide +kernel
theorem d_q_init_308 : decode b_q_init 308 = .ok (.putfield 121, 3) := by decide +kernel
theorem d_q_init_311 : decode b_q_init 311 = .ok (.aload_n 0, 1) := by decide +kernel
theorem d_q_init_312 : decode b_q_init 312 = .ok (.sipush (360), 3) := by decide +kernel
theorem d_q_init_315 : decode b_q_init 315 = .ok (.newarray .long, 2) := by decide +kernel
theorem d_q_init_317 : decode b_q_init 317 = .ok (.putfield 124, 3) := by decide +kernel
theorem d_q_init_320 : decode b_q_init 320 = .ok (.aload_n 0, 1) := by decide +kernel
theorem d_q_init_321 : decode b_q_init 321 = .ok (.sipush (360), 3) := by decide +kernel
theorem d_q_init_324 : decode b_q_init 324 = .ok (.newarray .long, 2) := by decide +kernel
theorem d_q_init_326 : decode b_q_init 326 = .ok (.putfield 127, 3) := by decide +kernel
theorem d_q_init_329 : decode b_q_init 329 = .ok (.aload_n 0, 1) := by decide +kernel
theorem d_q_init_330 : decode b_q_init 330 = .ok (.bipush (96), 2) := by decide +kernel
theorem d_q_init_332 : decode b_q_init 332 = .ok (.newarray .boolean, 2) := by decide +kernel
theorem d_q_init_334 : decode b_q_init 334 = .ok (.putfield 130, 3) := by decide +kernel
theorem d_q_init_337 : decode b_q_init 337 = .ok (.aload_n 0, 1) := by decide +kernel
theorem d_q_init_338 : decode b_q_init 338 = .ok (.bipush (16), 2) := by decide +kernel
theorem d_q_init_340 : decode b_q_init 340 = .ok (.newarray .boolean, 2) := by decide +kernel
theorem d_q_init_342 : decode b_q_init 342 = .ok (.putfield 133, 3) := by decide +kernel
theorem d_q_init_345 : decode b_q_init 345 = .ok (.aload_n 0, 1) := by decide +kernel
theorem d_q_init_346 : decode b_q_init 346 = .ok (.sipush (1200), 3) := by decide +kernel
theorem d_q_init_349 : decode b_q_init 349 = .ok (.newarray .boolean, 2) := by decide +kernel
theorem d_q_init_351 : decode b_q_init 351 = .ok (.putfield 136, 3) := by decide +kernel
theorem d_q_init_354 : decode b_q_init 354 = .ok (.aload_n 0, 1) := by decide +kernel
theorem d_q_init_355 : decode b_q_init 355 = .ok (.bipush (8), 2) := by decide +kernel
theorem d_q_init_357 : decode b_q_init 357 = .ok (.newarray .int, 2) := by decide +kernel
theorem d_q_init_359 : decode b_q_init 359 = .ok (.putfield 139, 3) := by decide +kernel
theorem d_q_init_362 : decode b_q_init 362 = .ok (.aload_n 0, 1) := by decide +kernel
theorem d_q_init_363 : decode b_q_init 363 = .ok (.bipush (8), 2) := by decide +kernel
theorem d_q_init_365 : decode b_q_init 365 = .ok (.newarray .int, 2) := by decide +kernel
theorem d_q_init_367 : decode b_q_init 367 = .ok (.putfield 142, 3) := by decide +kernel
theorem d_q_init_370 : decode b_q_init 370 = .ok (.aload_n 0, 1) := by decide +kernel
theorem d_q_init_371 : decode b_q_init 371 = .ok (.bipush (8), 2) := by decide +kernel
theorem d_q_init_373 : decode b_q_init 373 = .ok (.newarray .int, 2) := by decide +kernel
theorem d_q_init_375 : decode b_q_init 375 = .ok (.putfield 145, 3) := by decide +kernel
theorem d_q_init_378 : decode b_q_init 378 = .ok (.aload_n 0, 1) := by decide +kernel
theorem d_q_init_379 : decode b_q_init 379 = .ok (.getfield 63, 3) := by decide +kernel
theorem d_q_init_382 : decode b_q_init 382 = .ok (.iconst 0, 1) := by decide +kernel
theorem d_q_init_383 : decode b_q_init 383 = .ok (.iconst (-1), 1) := by decide +kernel
theorem d_q_init_384 : decode b_q_init 384 = .ok (.iastore, 1) := by decide +kernel
theorem d_q_init_385 : decode b_q_init 385 = .ok (.iconst 0, 1) := by decide +kernel
theorem d_q_init_386 : decode b_q_init 386 = .ok (.istore_n 1, 1) := by decide +kernel
theorem d_q_init_387 : decode b_q_init 387 = .ok (.iload_n 1, 1) := by decide +kernel
theorem d_q_init_388 : decode b_q_init 388 = .ok (.bipush (6), 2) := by decide +kernel
theorem d_q_init_390 : decode b_q_init 390 = .ok (.if_icmp .ge (16), 3) := by decide +kernel
theorem d_q_init_393 : decode b_q_init 393 = .ok (.aload_n 0, 1) := by decide +kernel
theorem d_q_init_394 : decode b_q_init 394 = .ok (.getfield 114, 3) := by decide +kernel
theorem d_q_init_397 : decode b_q_init 397 = .ok (.iload_n 1, 1) := by decide +kernel
theorem d_q_init_398 : decode b_q_init 398 = .ok (.iconst 0, 1) := by decide +kernel
theorem d_q_init_399 : decode b_q_init 399 = .ok (.bastore, 1) := by decide +kernel
theorem d_q_init_400 : decode b_q_init 400 = .ok (.iinc 1 (1), 3) := by decide +kernel
theorem d_q_init_403 : decode b_q_init 403 = .ok (.goto (-16), 3) := by decide +kernel
theorem d_q_init_406 : decode b_q_init 406 = .ok (.return_, 1) := by decide +kernel
def f_q_init_387 (lc : Nat) : Nat → Nat → Int32 → Nat → WW → Option WW
  | 0, _, _, _, _ => none
  | n + 1, y0, y1, sz, w =>
    if (6 : Int32) ≤ y1 then
      if sz = lc then some w else none
    else
      (gN w y0 9 49).bind fun x134 =>
      (sI w x134 2 y1 (vp_nar .boolean (0 : Int32))).bind fun w135 =>
      f_q_init_387 lc n y0 (y1 + (1 : Int32)) sz w135
def f_q_init (a0 z0 lc : Nat) (w : WW) : Option WW :=
  if z0 + 1 ≤ lc then
    (some (wo_up w z0 (.inl (0, 200, .inl (fun _ => 0))))).bind fun w2 =>
    (pv w2 a0 9 0 (.ref z0)).bind fun w3 =>
    if (z0 + 1) + 1 ≤ lc then
      (some (wo_up w3 (z0 + 1) (.inl (0, 8, .inl (fun _ => 0))))).bind fun w5 =>
      (pv w5 a0 9 1 (.ref (z0 + 1))).bind fun w6 =>
      (pv w6 a0 9 4 (.int (-2 : Int32))).bind fun w7 =>
      (pv w7 a0 9 6 (.int (1 : Int32))).bind fun w8 =>
      (pv w8 a0 9 7 (.int (1 : Int32))).bind fun w9 =>
      if ((z0 + 1) + 1) + 1 ≤ lc then
        (some (wo_up w9 ((z0 + 1) + 1) (.inl (0, 160, .inl (fun _ => 0))))).bind fun w11 =>
        (pv w11 a0 9 9 (.ref ((z0 + 1) + 1))).bind fun w12 =>
        if (((z0 + 1) + 1) + 1) + 1 ≤ lc then
          (some (wo_up w12 (((z0 + 1) + 1) + 1) (.inl (0, 160, .inl (fun _ => 0))))).bind fun w14 =>
          (pv w14 a0 9 10 (.ref (((z0 + 1) + 1) + 1))).bind fun w15 =>
          if ((((z0 + 1) + 1) + 1) + 1) + 1 ≤ lc then
            (some (wo_up w15 ((((z0 + 1) + 1) + 1) + 1) (.inl (0, 160, .inl (fun _ => 0))))).bind fun w17 =>
            (pv w17 a0 9 11 (.ref ((((z0 + 1) + 1) + 1) + 1))).bind fun w18 =>
            if (((((z0 + 1) + 1) + 1) + 1) + 1) + 1 ≤ lc then
              (some (wo_up w18 (((((z0 + 1) + 1) + 1) + 1) + 1) (.inl (0, 160, .inl (fun _ => 0))))).bind fun w20 =>
              (pv w20 a0 9 12 (.ref (((((z0 + 1) + 1) + 1) + 1) + 1))).bind fun w21 =>
              if ((((((z0 + 1) + 1) + 1) + 1) + 1) + 1) + 1 ≤ lc then
                (some (wo_up w21 ((((((z0 + 1) + 1) + 1) + 1) + 1) + 1) (.inl (0, 160, .inl (fun _ => 0))))).bind fun w23 =>
                (pv w23 a0 9 13 (.ref ((((((z0 + 1) + 1) + 1) + 1) + 1) + 1))).bind fun w24 =>
                if (((((((z0 + 1) + 1) + 1) + 1) + 1) + 1) + 1) + 1 ≤ lc then
                  (some (wo_up w24 (((((((z0 + 1) + 1) + 1) + 1) + 1) + 1) + 1) (.inl (0, 160, .inl (fun _ => 0))))).bind fun w26 =>
                  (pv w26 a0 9 14 (.ref (((((((z0 + 1) + 1) + 1) + 1) + 1) + 1) + 1))).bind fun w27 =>
                  if ((((((((z0 + 1) + 1) + 1) + 1) + 1) + 1) + 1) + 1) + 1 ≤ lc then
                    (some (wo_up w27 ((((((((z0 + 1) + 1) + 1) + 1) + 1) + 1) + 1) + 1) (.inl (0, 160, .inl (fun _ => 0))))).bind fun w29 =>
                    (pv w29 a0 9 15 (.ref ((((((((z0 + 1) + 1) + 1) + 1) + 1) + 1) + 1) + 1))).bind fun w30 =>
                    if (((((((((z0 + 1) + 1) + 1) + 1) + 1) + 1) + 1) + 1) + 1) + 1 ≤ lc then
                      (some (wo_up w30 (((((((((z0 + 1) + 1) + 1) + 1) + 1) + 1) + 1) + 1) + 1) (.inl (0, 160, .inl (fun _ => 0))))).bind fun w32 =>
                      (pv w32 a0 9 16 (.ref (((((((((z0 + 1) + 1) + 1) + 1) + 1) + 1) + 1) + 1) + 1))).bind fun w33 =>
                      if ((((((((((z0 + 1) + 1) + 1) + 1) + 1) + 1) + 1) + 1) + 1) + 1) + 1 ≤ lc then
                        (some (wo_up w33 ((((((((((z0 + 1) + 1) + 1) + 1) + 1) + 1) + 1) + 1) + 1) + 1) (.inl (0, 160, .inl (fun _ => 0))))).bind fun w35 =>
                        (pv w35 a0 9 17 (.ref ((((((((((z0 + 1) + 1) + 1) + 1) + 1) + 1) + 1) + 1) + 1) + 1))).bind fun w36 =>
                        if (((((((((((z0 + 1) + 1) + 1) + 1) + 1) + 1) + 1) + 1) + 1) + 1) + 1) + 1 ≤ lc then
                          (some (wo_up w36 (((((((((((z0 + 1) + 1) + 1) + 1) + 1) + 1) + 1) + 1) + 1) + 1) + 1) (.inl (0, 160, .inl (fun _ => 0))))).bind fun w38 =>
                          (pv w38 a0 9 18 (.ref (((((((((((z0 + 1) + 1) + 1) + 1) + 1) + 1) + 1) + 1) + 1) + 1) + 1))).bind fun w39 =>
                          if ((((((((((((z0 + 1) + 1) + 1) + 1) + 1) + 1) + 1) + 1) + 1) + 1) + 1) + 1) + 1 ≤ lc then
                            (some (wo_up w39 ((((((((((((z0 + 1) + 1) + 1) + 1) + 1) + 1) + 1) + 1) + 1) + 1) + 1) + 1) (.inl (0, 160, .inl (fun _ => 0))))).bind fun w41 =>
                            (pv w41 a0 9 19 (.ref ((((((((((((z0 + 1) + 1) + 1) + 1) + 1) + 1) + 1) + 1) + 1) + 1) + 1) + 1))).bind fun w42 =>
                            if (((((((((((((z0 + 1) + 1) + 1) + 1) + 1) + 1) + 1) + 1) + 1) + 1) + 1) + 1) + 1) + 1 ≤ lc then
                              (some (wo_up w42 (((((((((((((z0 + 1) + 1) + 1) + 1) + 1) + 1) + 1) + 1) + 1) + 1) + 1) + 1) + 1) (.inl (2, 160, .inl (fun _ => 0))))).bind fun w44 =>
                              (pv w44 a0 9 20 (.ref (((((((((((((z0 + 1) + 1) + 1) + 1) + 1) + 1) + 1) + 1) + 1) + 1) + 1) + 1) + 1))).bind fun w45 =>
                              if ((((((((((((((z0 + 1) + 1) + 1) + 1) + 1) + 1) + 1) + 1) + 1) + 1) + 1) + 1) + 1) + 1) + 1 ≤ lc then
                                (some (wo_up w45 ((((((((((((((z0 + 1) + 1) + 1) + 1) + 1) + 1) + 1) + 1) + 1) + 1) + 1) + 1) + 1) + 1) (.inl (0, 2, .inl (fun _ => 0))))).bind fun w47 =>
                                (pv w47 a0 9 21 (.ref ((((((((((((((z0 + 1) + 1) + 1) + 1) + 1) + 1) + 1) + 1) + 1) + 1) + 1) + 1) + 1) + 1))).bind fun w48 =>
                                if (((((((((((((((z0 + 1) + 1) + 1) + 1) + 1) + 1) + 1) + 1) + 1) + 1) + 1) + 1) + 1) + 1) + 1) + 1 ≤ lc then
                                  (some (wo_up w48 (((((((((((((((z0 + 1) + 1) + 1) + 1) + 1) + 1) + 1) + 1) + 1) + 1) + 1) + 1) + 1) + 1) + 1) (.inl (0, 2, .inl (fun _ => 0))))).bind fun w50 =>
                                  (pv w50 a0 9 22 (.ref (((((((((((((((z0 + 1) + 1) + 1) + 1) + 1) + 1) + 1) + 1) + 1) + 1) + 1) + 1) + 1) + 1) + 1))).bind fun w51 =>
                                  if ((((((((((((((((z0 + 1) + 1) + 1) + 1) + 1) + 1) + 1) + 1) + 1) + 1) + 1) + 1) + 1) + 1) + 1) + 1) + 1 ≤ lc then
                                    (some (wo_up w51 ((((((((((((((((z0 + 1) + 1) + 1) + 1) + 1) + 1) + 1) + 1) + 1) + 1) + 1) + 1) + 1) + 1) + 1) + 1) (.inl (0, 2, .inl (fun _ => 0))))).bind fun w53 =>
                                    (pv w53 a0 9 23 (.ref ((((((((((((((((z0 + 1) + 1) + 1) + 1) + 1) + 1) + 1) + 1) + 1) + 1) + 1) + 1) + 1) + 1) + 1) + 1))).bind fun w54 =>
                                    if (((((((((((((((((z0 + 1) + 1) + 1) + 1) + 1) + 1) + 1) + 1) + 1) + 1) + 1) + 1) + 1) + 1) + 1) + 1) + 1) + 1 ≤ lc then
                                      (some (wo_up w54 (((((((((((((((((z0 + 1) + 1) + 1) + 1) + 1) + 1) + 1) + 1) + 1) + 1) + 1) + 1) + 1) + 1) + 1) + 1) + 1) (.inl (0, 440, .inl (fun _ => 0))))).bind fun w56 =>
                                      (pv w56 a0 9 24 (.ref (((((((((((((((((z0 + 1) + 1) + 1) + 1) + 1) + 1) + 1) + 1) + 1) + 1) + 1) + 1) + 1) + 1) + 1) + 1) + 1))).bind fun w57 =>
                                      if ((((((((((((((((((z0 + 1) + 1) + 1) + 1) + 1) + 1) + 1) + 1) + 1) + 1) + 1) + 1) + 1) + 1) + 1) + 1) + 1) + 1) + 1 ≤ lc then
                                        (some (wo_up w57 ((((((((((((((((((z0 + 1) + 1) + 1) + 1) + 1) + 1) + 1) + 1) + 1) + 1) + 1) + 1) + 1) + 1) + 1) + 1) + 1) + 1) (.inl (0, 440, .inl (fun _ => 0))))).bind fun w59 =>
                                        (pv w59 a0 9 25 (.ref ((((((((((((((((((z0 + 1) + 1) + 1) + 1) + 1) + 1) + 1) + 1) + 1) + 1) + 1) + 1) + 1) + 1) + 1) + 1) + 1) + 1))).bind fun w60 =>
                                        if (((((((((((((((((((z0 + 1) + 1) + 1) + 1) + 1) + 1) + 1) + 1) + 1) + 1) + 1) + 1) + 1) + 1) + 1) + 1) + 1) + 1) + 1) + 1 ≤ lc then
                                          (some (wo_up w60 (((((((((((((((((((z0 + 1) + 1) + 1) + 1) + 1) + 1) + 1) + 1) + 1) + 1) + 1) + 1) + 1) + 1) + 1) + 1) + 1) + 1) + 1) (.inl (0, 440, .inl (fun _ => 0))))).bind fun w62 =>
                                          (pv w62 a0 9 26 (.ref (((((((((((((((((((z0 + 1) + 1) + 1) + 1) + 1) + 1) + 1) + 1) + 1) + 1) + 1) + 1) + 1) + 1) + 1) + 1) + 1) + 1) + 1))).bind fun w63 =>
                                          if ((((((((((((((((((((z0 + 1) + 1) + 1) + 1) + 1) + 1) + 1) + 1) + 1) + 1) + 1) + 1) + 1) + 1) + 1) + 1) + 1) + 1) + 1) + 1) + 1 ≤ lc then
                                            (some (wo_up w63 ((((((((((((((((((((z0 + 1) + 1) + 1) + 1) + 1) + 1) + 1) + 1) + 1) + 1) + 1) + 1) + 1) + 1) + 1) + 1) + 1) + 1) + 1) + 1) (.inl (0, 8, .inl (fun _ => 0))))).bind fun w65 =>
                                            (pv w65 a0 9 35 (.ref ((((((((((((((((((((z0 + 1) + 1) + 1) + 1) + 1) + 1) + 1) + 1) + 1) + 1) + 1) + 1) + 1) + 1) + 1) + 1) + 1) + 1) + 1) + 1))).bind fun w66 =>
                                            if (((((((((((((((((((((z0 + 1) + 1) + 1) + 1) + 1) + 1) + 1) + 1) + 1) + 1) + 1) + 1) + 1) + 1) + 1) + 1) + 1) + 1) + 1) + 1) + 1) + 1 ≤ lc then
                                              (some (wo_up w66 (((((((((((((((((((((z0 + 1) + 1) + 1) + 1) + 1) + 1) + 1) + 1) + 1) + 1) + 1) + 1) + 1) + 1) + 1) + 1) + 1) + 1) + 1) + 1) + 1) (.inl (0, 8, .inl (fun _ => 0))))).bind fun w68 =>
                                              (pv w68 a0 9 36 (.ref (((((((((((((((((((((z0 + 1) + 1) + 1) + 1) + 1) + 1) + 1) + 1) + 1) + 1) + 1) + 1) + 1) + 1) + 1) + 1) + 1) + 1) + 1) + 1) + 1))).bind fun w69 =>
                                              if ((((((((((((((((((((((z0 + 1) + 1) + 1) + 1) + 1) + 1) + 1) + 1) + 1) + 1) + 1) + 1) + 1) + 1) + 1) + 1) + 1) + 1) + 1) + 1) + 1) + 1) + 1 ≤ lc then
                                                (some (wo_up w69 ((((((((((((((((((((((z0 + 1) + 1) + 1) + 1) + 1) + 1) + 1) + 1) + 1) + 1) + 1) + 1) + 1) + 1) + 1) + 1) + 1) + 1) + 1) + 1) + 1) + 1) (.inl (0, 8, .inl (fun _ => 0))))).bind fun w71 =>
                                                (pv w71 a0 9 37 (.ref ((((((((((((((((((((((z0 + 1) + 1) + 1) + 1) + 1) + 1) + 1) + 1) + 1) + 1) + 1) + 1) + 1) + 1) + 1) + 1) + 1) + 1) + 1) + 1) + 1) + 1))).bind fun w72 =>
                                                if (((((((((((((((((((((((z0 + 1) + 1) + 1) + 1) + 1) + 1) + 1) + 1) + 1) + 1) + 1) + 1) + 1) + 1) + 1) + 1) + 1) + 1) + 1) + 1) + 1) + 1) + 1) + 1 ≤ lc then
                                                  (some (wo_up w72 (((((((((((((((((((((((z0 + 1) + 1) + 1) + 1) + 1) + 1) + 1) + 1) + 1) + 1) + 1) + 1) + 1) + 1) + 1) + 1) + 1) + 1) + 1) + 1) + 1) + 1) + 1) (.inl (0, 300, .inl (fun _ => 0))))).bind fun w74 =>
                                                  (pv w74 a0 9 38 (.ref (((((((((((((((((((((((z0 + 1) + 1) + 1) + 1) + 1) + 1) + 1) + 1) + 1) + 1) + 1) + 1) + 1) + 1) + 1) + 1) + 1) + 1) + 1) + 1) + 1) + 1) + 1))).bind fun w75 =>
                                                  if ((((((((((((((((((((((((z0 + 1) + 1) + 1) + 1) + 1) + 1) + 1) + 1) + 1) + 1) + 1) + 1) + 1) + 1) + 1) + 1) + 1) + 1) + 1) + 1) + 1) + 1) + 1) + 1) + 1 ≤ lc then
                                                    (some (wo_up w75 ((((((((((((((((((((((((z0 + 1) + 1) + 1) + 1) + 1) + 1) + 1) + 1) + 1) + 1) + 1) + 1) + 1) + 1) + 1) + 1) + 1) + 1) + 1) + 1) + 1) + 1) + 1) + 1) (.inl (0, 300, .inl (fun _ => 0))))).bind fun w77 =>
                                                    (pv w77 a0 9 39 (.ref ((((((((((((((((((((((((z0 + 1) + 1) + 1) + 1) + 1) + 1) + 1) + 1) + 1) + 1) + 1) + 1) + 1) + 1) + 1) + 1) + 1) + 1) + 1) + 1) + 1) + 1) + 1) + 1))).bind fun w78 =>
                                                    if (((((((((((((((((((((((((z0 + 1) + 1) + 1) + 1) + 1) + 1) + 1) + 1) + 1) + 1) + 1) + 1) + 1) + 1) + 1) + 1) + 1) + 1) + 1) + 1) + 1) + 1) + 1) + 1) + 1) + 1 ≤ lc then
                                                      (some (wo_up w78 (((((((((((((((((((((((((z0 + 1) + 1) + 1) + 1) + 1) + 1) + 1) + 1) + 1) + 1) + 1) + 1) + 1) + 1) + 1) + 1) + 1) + 1) + 1) + 1) + 1) + 1) + 1) + 1) + 1) (.inl (0, 300, .inl (fun _ => 0))))).bind fun w80 =>
                                                      (pv w80 a0 9 40 (.ref (((((((((((((((((((((((((z0 + 1) + 1) + 1) + 1) + 1) + 1) + 1) + 1) + 1) + 1) + 1) + 1) + 1) + 1) + 1) + 1) + 1) + 1) + 1) + 1) + 1) + 1) + 1) + 1) + 1))).bind fun w81 =>
                                                      if ((((((((((((((((((((((((((z0 + 1) + 1) + 1) + 1) + 1) + 1) + 1) + 1) + 1) + 1) + 1) + 1) + 1) + 1) + 1) + 1) + 1) + 1) + 1) + 1) + 1) + 1) + 1) + 1) + 1) + 1) + 1 ≤ lc then
                                                        (some (wo_up w81 ((((((((((((((((((((((((((z0 + 1) + 1) + 1) + 1) + 1) + 1) + 1) + 1) + 1) + 1) + 1) + 1) + 1) + 1) + 1) + 1) + 1) + 1) + 1) + 1) + 1) + 1) + 1) + 1) + 1) + 1) (.inl (0, 300, .inl (fun _ => 0))))).bind fun w83 =>
                                                        (pv w83 a0 9 41 (.ref ((((((((((((((((((((((((((z0 + 1) + 1) + 1) + 1) + 1) + 1) + 1) + 1) + 1) + 1) + 1) + 1) + 1) + 1) + 1) + 1) + 1) + 1) + 1) + 1) + 1) + 1) + 1) + 1) + 1) + 1))).bind fun w84 =>
                                                        if (((((((((((((((((((((((((((z0 + 1) + 1) + 1) + 1) + 1) + 1) + 1) + 1) + 1) + 1) + 1) + 1) + 1) + 1) + 1) + 1) + 1) + 1) + 1) + 1) + 1) + 1) + 1) + 1) + 1) + 1) + 1) + 1 ≤ lc then
                                                          (some (wo_up w84 (((((((((((((((((((((((((((z0 + 1) + 1) + 1) + 1) + 1) + 1) + 1) + 1) + 1) + 1) + 1) + 1) + 1) + 1) + 1) + 1) + 1) + 1) + 1) + 1) + 1) + 1) + 1) + 1) + 1) + 1) + 1) (.inl (0, 6, .inl (fun _ => 0))))).bind fun w86 =>
                                                          (pv w86 a0 9 45 (.ref (((((((((((((((((((((((((((z0 + 1) + 1) + 1) + 1) + 1) + 1) + 1) + 1) + 1) + 1) + 1) + 1) + 1) + 1) + 1) + 1) + 1) + 1) + 1) + 1) + 1) + 1) + 1) + 1) + 1) + 1) + 1))).bind fun w87 =>
                                                          if ((((((((((((((((((((((((((((z0 + 1) + 1) + 1) + 1) + 1) + 1) + 1) + 1) + 1) + 1) + 1) + 1) + 1) + 1) + 1) + 1) + 1) + 1) + 1) + 1) + 1) + 1) + 1) + 1) + 1) + 1) + 1) + 1) + 1 ≤ lc then
                                                            (some (wo_up w87 ((((((((((((((((((((((((((((z0 + 1) + 1) + 1) + 1) + 1) + 1) + 1) + 1) + 1) + 1) + 1) + 1) + 1) + 1) + 1) + 1) + 1) + 1) + 1) + 1) + 1) + 1) + 1) + 1) + 1) + 1) + 1) + 1) (.inl (0, 8, .inl (fun _ => 0))))).bind fun w89 =>
                                                            (pv w89 a0 9 46 (.ref ((((((((((((((((((((((((((((z0 + 1) + 1) + 1) + 1) + 1) + 1) + 1) + 1) + 1) + 1) + 1) + 1) + 1) + 1) + 1) + 1) + 1) + 1) + 1) + 1) + 1) + 1) + 1) + 1) + 1) + 1) + 1) + 1))).bind fun w90 =>
                                                            if (((((((((((((((((((((((((((((z0 + 1) + 1) + 1) + 1) + 1) + 1) + 1) + 1) + 1) + 1) + 1) + 1) + 1) + 1) + 1) + 1) + 1) + 1) + 1) + 1) + 1) + 1) + 1) + 1) + 1) + 1) + 1) + 1) + 1) + 1 ≤ lc then
                                                              (some (wo_up w90 (((((((((((((((((((((((((((((z0 + 1) + 1) + 1) + 1) + 1) + 1) + 1) + 1) + 1) + 1) + 1) + 1) + 1) + 1) + 1) + 1) + 1) + 1) + 1) + 1) + 1) + 1) + 1) + 1) + 1) + 1) + 1) + 1) + 1) (.inl (0, 120, .inl (fun _ => 0))))).bind fun w92 =>
                                                              (pv w92 a0 9 47 (.ref (((((((((((((((((((((((((((((z0 + 1) + 1) + 1) + 1) + 1) + 1) + 1) + 1) + 1) + 1) + 1) + 1) + 1) + 1) + 1) + 1) + 1) + 1) + 1) + 1) + 1) + 1) + 1) + 1) + 1) + 1) + 1) + 1) + 1))).bind fun w93 =>
                                                              if ((((((((((((((((((((((((((((((z0 + 1) + 1) + 1) + 1) + 1) + 1) + 1) + 1) + 1) + 1) + 1) + 1) + 1) + 1) + 1) + 1) + 1) + 1) + 1) + 1) + 1) + 1) + 1) + 1) + 1) + 1) + 1) + 1) + 1) + 1) + 1 ≤ lc then
                                                                (some (wo_up w93 ((((((((((((((((((((((((((((((z0 + 1) + 1) + 1) + 1) + 1) + 1) + 1) + 1) + 1) + 1) + 1) + 1) + 1) + 1) + 1) + 1) + 1) + 1) + 1) + 1) + 1) + 1) + 1) + 1) + 1) + 1) + 1) + 1) + 1) + 1) (.inl (0, 8, .inl (fun _ => 0))))).bind fun w95 =>
                                                                (pv w95 a0 9 48 (.ref ((((((((((((((((((((((((((((((z0 + 1) + 1) + 1) + 1) + 1) + 1) + 1) + 1) + 1) + 1) + 1) + 1) + 1) + 1) + 1) + 1) + 1) + 1) + 1) + 1) + 1) + 1) + 1) + 1) + 1) + 1) + 1) + 1) + 1) + 1))).bind fun w96 =>
                                                                if (((((((((((((((((((((((((((((((z0 + 1) + 1) + 1) + 1) + 1) + 1) + 1) + 1) + 1) + 1) + 1) + 1) + 1) + 1) + 1) + 1) + 1) + 1) + 1) + 1) + 1) + 1) + 1) + 1) + 1) + 1) + 1) + 1) + 1) + 1) + 1) + 1 ≤ lc then
                                                                  (some (wo_up w96 (((((((((((((((((((((((((((((((z0 + 1) + 1) + 1) + 1) + 1) + 1) + 1) + 1) + 1) + 1) + 1) + 1) + 1) + 1) + 1) + 1) + 1) + 1) + 1) + 1) + 1) + 1) + 1) + 1) + 1) + 1) + 1) + 1) + 1) + 1) + 1) (.inl (2, 6, .inl (fun _ => 0))))).bind fun w98 =>
                                                                  (pv w98 a0 9 49 (.ref (((((((((((((((((((((((((((((((z0 + 1) + 1) + 1) + 1) + 1) + 1) + 1) + 1) + 1) + 1) + 1) + 1) + 1) + 1) + 1) + 1) + 1) + 1) + 1) + 1) + 1) + 1) + 1) + 1) + 1) + 1) + 1) + 1) + 1) + 1) + 1))).bind fun w99 =>
                                                                  if ((((((((((((((((((((((((((((((((z0 + 1) + 1) + 1) + 1) + 1) + 1) + 1) + 1) + 1) + 1) + 1) + 1) + 1) + 1) + 1) + 1) + 1) + 1) + 1) + 1) + 1) + 1) + 1) + 1) + 1) + 1) + 1) + 1) + 1) + 1) + 1) + 1) + 1 ≤ lc then
                                                                    (some (wo_up w99 ((((((((((((((((((((((((((((((((z0 + 1) + 1) + 1) + 1) + 1) + 1) + 1) + 1) + 1) + 1) + 1) + 1) + 1) + 1) + 1) + 1) + 1) + 1) + 1) + 1) + 1) + 1) + 1) + 1) + 1) + 1) + 1) + 1) + 1) + 1) + 1) + 1) (.inl (1, 360, .inr (.inl (fun _ => 0)))))).bind fun w101 =>
                                                                    (pv w101 a0 9 54 (.ref ((((((((((((((((((((((((((((((((z0 + 1) + 1) + 1) + 1) + 1) + 1) + 1) + 1) + 1) + 1) + 1) + 1) + 1) + 1) + 1) + 1) + 1) + 1) + 1) + 1) + 1) + 1) + 1) + 1) + 1) + 1) + 1) + 1) + 1) + 1) + 1) + 1))).bind fun w102 =>
                                                                    if (((((((((((((((((((((((((((((((((z0 + 1) + 1) + 1) + 1) + 1) + 1) + 1) + 1) + 1) + 1) + 1) + 1) + 1) + 1) + 1) + 1) + 1) + 1) + 1) + 1) + 1) + 1) + 1) + 1) + 1) + 1) + 1) + 1) + 1) + 1) + 1) + 1) + 1) + 1 ≤ lc then
                                                                      (some (wo_up w102 (((((((((((((((((((((((((((((((((z0 + 1) + 1) + 1) + 1) + 1) + 1) + 1) + 1) + 1) + 1) + 1) + 1) + 1) + 1) + 1) + 1) + 1) + 1) + 1) + 1) + 1) + 1) + 1) + 1) + 1) + 1) + 1) + 1) + 1) + 1) + 1) + 1) + 1) (.inl (1, 360, .inr (.inl (fun _ => 0)))))).bind fun w104 =>
                                                                      (pv w104 a0 9 55 (.ref (((((((((((((((((((((((((((((((((z0 + 1) + 1) + 1) + 1) + 1) + 1) + 1) + 1) + 1) + 1) + 1) + 1) + 1) + 1) + 1) + 1) + 1) + 1) + 1) + 1) + 1) + 1) + 1) + 1) + 1) + 1) + 1) + 1) + 1) + 1) + 1) + 1) + 1))).bind fun w105 =>
                                                                      if ((((((((((((((((((((((((((((((((((z0 + 1) + 1) + 1) + 1) + 1) + 1) + 1) + 1) + 1) + 1) + 1) + 1) + 1) + 1) + 1) + 1) + 1) + 1) + 1) + 1) + 1) + 1) + 1) + 1) + 1) + 1) + 1) + 1) + 1) + 1) + 1) + 1) + 1) + 1) + 1 ≤ lc then
                                                                        (some (wo_up w105 ((((((((((((((((((((((((((((((((((z0 + 1) + 1) + 1) + 1) + 1) + 1) + 1) + 1) + 1) + 1) + 1) + 1) + 1) + 1) + 1) + 1) + 1) + 1) + 1) + 1) + 1) + 1) + 1) + 1) + 1) + 1) + 1) + 1) + 1) + 1) + 1) + 1) + 1) + 1) (.inl (1, 360, .inr (.inl (fun _ => 0)))))).bind fun w107 =>
                                                                        (pv w107 a0 9 56 (.ref ((((((((((((((((((((((((((((((((((z0 + 1) + 1) + 1) + 1) + 1) + 1) + 1) + 1) + 1) + 1) + 1) + 1) + 1) + 1) + 1) + 1) + 1) + 1) + 1) + 1) + 1) + 1) + 1) + 1) + 1) + 1) + 1) + 1) + 1) + 1) + 1) + 1) + 1) + 1))).bind fun w108 =>
                                                                        if (((((((((((((((((((((((((((((((((((z0 + 1) + 1) + 1) + 1) + 1) + 1) + 1) + 1) + 1) + 1) + 1) + 1) + 1) + 1) + 1) + 1) + 1) + 1) + 1) + 1) + 1) + 1) + 1) + 1) + 1) + 1) + 1) + 1) + 1) + 1) + 1) + 1) + 1) + 1) + 1) + 1 ≤ lc then
                                                                          (some (wo_up w108 (((((((((((((((((((((((((((((((((((z0 + 1) + 1) + 1) + 1) + 1) + 1) + 1) + 1) + 1) + 1) + 1) + 1) + 1) + 1) + 1) + 1) + 1) + 1) + 1) + 1) + 1) + 1) + 1) + 1) + 1) + 1) + 1) + 1) + 1) + 1) + 1) + 1) + 1) + 1) + 1) (.inl (1, 360, .inr (.inl (fun _ => 0)))))).bind fun w110 =>
                                                                          (pv w110 a0 9 57 (.ref (((((((((((((((((((((((((((((((((((z0 + 1) + 1) + 1) + 1) + 1) + 1) + 1) + 1) + 1) + 1) + 1) + 1) + 1) + 1) + 1) + 1) + 1) + 1) + 1) + 1) + 1) + 1) + 1) + 1) + 1) + 1) + 1) + 1) + 1) + 1) + 1) + 1) + 1) + 1) + 1))).bind fun w111 =>
                                                                          if ((((((((((((((((((((((((((((((((((((z0 + 1) + 1) + 1) + 1) + 1) + 1) + 1) + 1) + 1) + 1) + 1) + 1) + 1) + 1) + 1) + 1) + 1) + 1) + 1) + 1) + 1) + 1) + 1) + 1) + 1) + 1) + 1) + 1) + 1) + 1) + 1) + 1) + 1) + 1) + 1) + 1) + 1 ≤ lc then
                                                                            (some (wo_up w111 ((((((((((((((((((((((((((((((((((((z0 + 1) + 1) + 1) + 1) + 1) + 1) + 1) + 1) + 1) + 1) + 1) + 1) + 1) + 1) + 1) + 1) + 1) + 1) + 1) + 1) + 1) + 1) + 1) + 1) + 1) + 1) + 1) + 1) + 1) + 1) + 1) + 1) + 1) + 1) + 1) + 1) (.inl (2, 96, .inl (fun _ => 0))))).bind fun w113 =>
                                                                            (pv w113 a0 9 58 (.ref ((((((((((((((((((((((((((((((((((((z0 + 1) + 1) + 1) + 1) + 1) + 1) + 1) + 1) + 1) + 1) + 1) + 1) + 1) + 1) + 1) + 1) + 1) + 1) + 1) + 1) + 1) + 1) + 1) + 1) + 1) + 1) + 1) + 1) + 1) + 1) + 1) + 1) + 1) + 1) + 1) + 1))).bind fun w114 =>
                                                                            if (((((((((((((((((((((((((((((((((((((z0 + 1) + 1) + 1) + 1) + 1) + 1) + 1) + 1) + 1) + 1) + 1) + 1) + 1) + 1) + 1) + 1) + 1) + 1) + 1) + 1) + 1) + 1) + 1) + 1) + 1) + 1) + 1) + 1) + 1) + 1) + 1) + 1) + 1) + 1) + 1) + 1) + 1) + 1 ≤ lc then
                                                                              (some (wo_up w114 (((((((((((((((((((((((((((((((((((((z0 + 1) + 1) + 1) + 1) + 1) + 1) + 1) + 1) + 1) + 1) + 1) + 1) + 1) + 1) + 1) + 1) + 1) + 1) + 1) + 1) + 1) + 1) + 1) + 1) + 1) + 1) + 1) + 1) + 1) + 1) + 1) + 1) + 1) + 1) + 1) + 1) + 1) (.inl (2, 16, .inl (fun _ => 0))))).bind fun w116 =>
                                                                              (pv w116 a0 9 59 (.ref (((((((((((((((((((((((((((((((((((((z0 + 1) + 1) + 1) + 1) + 1) + 1) + 1) + 1) + 1) + 1) + 1) + 1) + 1) + 1) + 1) + 1) + 1) + 1) + 1) + 1) + 1) + 1) + 1) + 1) + 1) + 1) + 1) + 1) + 1) + 1) + 1) + 1) + 1) + 1) + 1) + 1) + 1))).bind fun w117 =>
                                                                              if ((((((((((((((((((((((((((((((((((((((z0 + 1) + 1) + 1) + 1) + 1) + 1) + 1) + 1) + 1) + 1) + 1) + 1) + 1) + 1) + 1) + 1) + 1) + 1) + 1) + 1) + 1) + 1) + 1) + 1) + 1) + 1) + 1) + 1) + 1) + 1) + 1) + 1) + 1) + 1) + 1) + 1) + 1) + 1) + 1 ≤ lc then
                                                                                (some (wo_up w117 ((((((((((((((((((((((((((((((((((((((z0 + 1) + 1) + 1) + 1) + 1) + 1) + 1) + 1) + 1) + 1) + 1) + 1) + 1) + 1) + 1) + 1) + 1) + 1) + 1) + 1) + 1) + 1) + 1) + 1) + 1) + 1) + 1) + 1) + 1) + 1) + 1) + 1) + 1) + 1) + 1) + 1) + 1) + 1) (.inl (2, 1200, .inl (fun _ => 0))))).bind fun w119 =>
                                                                                (pv w119 a0 9 60 (.ref ((((((((((((((((((((((((((((((((((((((z0 + 1) + 1) + 1) + 1) + 1) + 1) + 1) + 1) + 1) + 1) + 1) + 1) + 1) + 1) + 1) + 1) + 1) + 1) + 1) + 1) + 1) + 1) + 1) + 1) + 1) + 1) + 1) + 1) + 1) + 1) + 1) + 1) + 1) + 1) + 1) + 1) + 1) + 1))).bind fun w120 =>
                                                                                if (((((((((((((((((((((((((((((((((((((((z0 + 1) + 1) + 1) + 1) + 1) + 1) + 1) + 1) + 1) + 1) + 1) + 1) + 1) + 1) + 1) + 1) + 1) + 1) + 1) + 1) + 1) + 1) + 1) + 1) + 1) + 1) + 1) + 1) + 1) + 1) + 1) + 1) + 1) + 1) + 1) + 1) + 1) + 1) + 1) + 1 ≤ lc then
                                                                                  (some (wo_up w120 (((((((((((((((((((((((((((((((((((((((z0 + 1) + 1) + 1) + 1) + 1) + 1) + 1) + 1) + 1) + 1) + 1) + 1) + 1) + 1) + 1) + 1) + 1) + 1) + 1) + 1) + 1) + 1) + 1) + 1) + 1) + 1) + 1) + 1) + 1) + 1) + 1) + 1) + 1) + 1) + 1) + 1) + 1) + 1) + 1) (.inl (0, 8, .inl (fun _ => 0))))).bind fun w122 =>
                                                                                  (pv w122 a0 9 61 (.ref (((((((((((((((((((((((((((((((((((((((z0 + 1) + 1) + 1) + 1) + 1) + 1) + 1) + 1) + 1) + 1) + 1) + 1) + 1) + 1) + 1) + 1) + 1) + 1) + 1) + 1) + 1) + 1) + 1) + 1) + 1) + 1) + 1) + 1) + 1) + 1) + 1) + 1) + 1) + 1) + 1) + 1) + 1) + 1) + 1))).bind fun w123 =>
                                                                                  if ((((((((((((((((((((((((((((((((((((((((z0 + 1) + 1) + 1) + 1) + 1) + 1) + 1) + 1) + 1) + 1) + 1) + 1) + 1) + 1) + 1) + 1) + 1) + 1) + 1) + 1) + 1) + 1) + 1) + 1) + 1) + 1) + 1) + 1) + 1) + 1) + 1) + 1) + 1) + 1) + 1) + 1) + 1) + 1) + 1) + 1) + 1 ≤ lc then
                                                                                    (some (wo_up w123 ((((((((((((((((((((((((((((((((((((((((z0 + 1) + 1) + 1) + 1) + 1) + 1) + 1) + 1) + 1) + 1) + 1) + 1) + 1) + 1) + 1) + 1) + 1) + 1) + 1) + 1) + 1) + 1) + 1) + 1) + 1) + 1) + 1) + 1) + 1) + 1) + 1) + 1) + 1) + 1) + 1) + 1) + 1) + 1) + 1) + 1) (.inl (0, 8, .inl (fun _ => 0))))).bind fun w125 =>
                                                                                    (pv w125 a0 9 62 (.ref ((((((((((((((((((((((((((((((((((((((((z0 + 1) + 1) + 1) + 1) + 1) + 1) + 1) + 1) + 1) + 1) + 1) + 1) + 1) + 1) + 1) + 1) + 1) + 1) + 1) + 1) + 1) + 1) + 1) + 1) + 1) + 1) + 1) + 1) + 1) + 1) + 1) + 1) + 1) + 1) + 1) + 1) + 1) + 1) + 1) + 1))).bind fun w126 =>
                                                                                    if (((((((((((((((((((((((((((((((((((((((((z0 + 1) + 1) + 1) + 1) + 1) + 1) + 1) + 1) + 1) + 1) + 1) + 1) + 1) + 1) + 1) + 1) + 1) + 1) + 1) + 1) + 1) + 1) + 1) + 1) + 1) + 1) + 1) + 1) + 1) + 1) + 1) + 1) + 1) + 1) + 1) + 1) + 1) + 1) + 1) + 1) + 1) + 1 ≤ lc then
                                                                                      (some (wo_up w126 (((((((((((((((((((((((((((((((((((((((((z0 + 1) + 1) + 1) + 1) + 1) + 1) + 1) + 1) + 1) + 1) + 1) + 1) + 1) + 1) + 1) + 1) + 1) + 1) + 1) + 1) + 1) + 1) + 1) + 1) + 1) + 1) + 1) + 1) + 1) + 1) + 1) + 1) + 1) + 1) + 1) + 1) + 1) + 1) + 1) + 1) + 1) (.inl (0, 8, .inl (fun _ => 0))))).bind fun w128 =>
                                                                                      (pv w128 a0 9 63 (.ref (((((((((((((((((((((((((((((((((((((((((z0 + 1) + 1) + 1) + 1) + 1) + 1) + 1) + 1) + 1) + 1) + 1) + 1) + 1) + 1) + 1) + 1) + 1) + 1) + 1) + 1) + 1) + 1) + 1) + 1) + 1) + 1) + 1) + 1) + 1) + 1) + 1) + 1) + 1) + 1) + 1) + 1) + 1) + 1) + 1) + 1) + 1))).bind fun w129 =>
                                                                                      (gN w129 a0 9 21).bind fun x130 =>
                                                                                      (sI w129 x130 0 (0 : Int32) (-1 : Int32)).bind fun w131 =>
                                                                                      f_q_init_387 lc KK a0 (0 : Int32) ((((((((((((((((((((((((((((((((((((((((((z0 + 1) + 1) + 1) + 1) + 1) + 1) + 1) + 1) + 1) + 1) + 1) + 1) + 1) + 1) + 1) + 1) + 1) + 1) + 1) + 1) + 1) + 1) + 1) + 1) + 1) + 1) + 1) + 1) + 1) + 1) + 1) + 1) + 1) + 1) + 1) + 1) + 1) + 1) + 1) + 1) + 1) + 1) w131
                                                                                    else none
                                                                                  else none
                                                                                else none
                                                                              else none
                                                                            else none
                                                                          else none
                                                                        else none
                                                                      else none
                                                                    else none
                                                                  else none
                                                                else none
                                                              else none
                                                            else none
                                                          else none
                                                        else none
                                                      else none
                                                    else none
                                                  else none
                                                else none
                                              else none
                                            else none
                                          else none
                                        else none
                                      else none
                                    else none
                                  else none
                                else none
                              else none
                            else none
                          else none
                        else none
                      else none
                    else none
                  else none
                else none
              else none
            else none
          else none
        else none
      else none
    else none
  else none
set_option maxHeartbeats 4000000 in
set_option maxRecDepth 100000 in
theorem j_q_init_387 {p : Program} {l : Launch} {e : Env} {s : State} {m : MethodId} {args : Array Value} {below : List Frame} {meth : Method} {c : Code} {D : va_G} {cA : Nat → ClassId} {base z0 lc : Nat} {w0 w' : WW} (C : cx b_q_init (none) 2 y_q_init.cls "<init>" p s m args meth c D cA base) : ∀ n : Nat, ∀ (y0 : Nat) (y1 : Int32) (sz : Nat) (w : WW), f_q_init_387 lc n y0 y1 sz w = some w' → ∀ (H : Heap) (locs : List Loc) (ls : Array Slot), wz D cls cA base s z0 w0 sz w H locs → lv_has ls 2 [(0, .ref (base + y0)), (1, .int y1)] → W p l e (rk_q_init (lc - z0)) s m args below meth c H locs (sz - z0) (kS (sz - z0)) (MQ below (fun a st o t => wo_Q D cls cA base none w' a st o t ∧ t.heap.size = base + lc ∧ (∀ q : Nat, z0 ≤ q → q < lc → w' q ≠ none) ∧ ∀ q : Nat, w0 q ≠ none → w' q ≠ none) args s (rk_q_init (lc - z0)).cells (rk_q_init (lc - z0)).slots (wo_B base)) (F0 m 387 ls []) := by
  obtain ⟨hx, hb, hr, hml, hown, hts, hlk, hnm, hK, hG⟩ := id C
  intro n
  induction n with
  | zero => intro y0 y1 sz w h; cases h
  | succ n ih =>
    intro y0 y1 sz w h H locs ls hZ hl
    have hW := hZ.1
    rw [f_q_init_387] at h
    refine lv_iload_n hx hb d_q_init_387 rfl (lv_at hl 1 rfl) ?_
    refine lv_bipush (v := (6 : Int32)) hx hb d_q_init_388 (by decide) ?_
    refine lv_icmp_ge (tgt := 406) hx hb d_q_init_390 (by decide) (fun c132 => ?_) (fun c132 => ?_)
    · rw [if_pos c132] at h
      replace h := its h
      obtain ⟨c133, h⟩ := h
      cases h
      subst c133
      exact wo_kret hx hb hr hlk hZ d_q_init_406
    · rw [if_neg c132] at h
      refine lv_aload_n hx hb d_q_init_393 rfl (lv_at hl 0 rfl) ?_
      replace h := bs h
      obtain ⟨x134, hx134, h⟩ := h
      refine gf_q_114 hx hb hts hown hK hG hW (gN_s hx134) d_q_init_394 ?_
      refine lv_iload_n hx hb d_q_init_397 rfl (lv_at hl 1 rfl) ?_
      refine lv_iconst (v := (0 : Int32)) hx hb d_q_init_398 (by decide) ?_
      replace h := bs h
      obtain ⟨w135, hw135, h⟩ := h
      refine wo_zast hx hb hK hW (t := 2) rfl hw135 d_q_init_399 (fun H locs hW => ?_)
      refine wz_back hZ (fun q g => sI_dom hw135 g) hW (fun hZ => ?_)
      have hW := hZ.1
      refine lv_iinc (v := (y1 + (1 : Int32))) (lv' := [(1, .int (y1 + (1 : Int32))), (0, .ref (base + y0))]) hx hb d_q_init_400 hl (k := 1) rfl rfl (by decide) rfl (fun ls hl => ?_)
      refine lv_goto (tgt := 387) hx hb d_q_init_403 (by decide) ?_
      exact ih y0 (y1 + (1 : Int32)) sz w135 h _ _ _ hZ (lv_sub hl [1, 0] rfl)
set_option maxHeartbeats 4000000 in
set_option maxRecDepth 100000 in
theorem c_q_init (l : Launch) (D : va_G) (cA : Nat → ClassId) (base : Nat) {a0 z0 lc : Nat} {w w' : WW} (h : f_q_init a0 z0 lc w = some w') : kt l D cls (wo_tys cA) cA base y_q_init (Cond.code y_q_init b_q_init 2 none :: gt) (rk_q_init (lc - z0)) [.ref (base + a0)] z0 lc w w' := by
  refine kt_start (by decide) (Nat.le_of_ble_eq_true rfl) ?_
  intro p e s m below meth c ls hx hb hr hml hown hts hlk hnm hK hG hZ hl
  have C : cx b_q_init (none) 2 y_q_init.cls "<init>" p s m [.ref (base + a0)].toArray meth c D cA base := ⟨hx, hb, hr, hml, hown, hts, hlk, hnm, hK, hG⟩
  have hl : lv_has ls 2 [(0, .ref (base + a0))] := hl
  have hW := hZ.1
  unfold f_q_init at h
  refine W.widen (k := z0 - z0) (n := kS (z0 - z0)) (Nat.le_refl _) (Nat.zero_le _) ?_
  refine lv_aload_n hx hb d_q_init_0 rfl (lv_at hl 0 rfl) ?_
  refine W.objInit hx hb hown (hts (.methodLink "AlarmForgeModel" 1 objectInit) (gt_of (i := 1158) (by decide +kernel) (by decide +kernel))) (hts (.instanceMethod objectInit) (gt_of (i := 31) (by decide +kernel) (by decide +kernel))) (hts (.code objectInit ⟨#[0xb1]⟩ 1 none) (gt_of (i := 32) (by decide +kernel) (by decide +kernel))) rfl (hl.1.trans hml.symm) rfl d_q_init_1 (Nat.le_of_ble_eq_true rfl) (Nat.le_of_ble_eq_true rfl) ?_
  refine W.eq (g2 := F0 m 4 ls []) rfl ?_
  refine lv_aload_n hx hb d_q_init_4 rfl (lv_at hl 0 rfl) ?_
  refine lv_sipush (v := (200 : Int32)) hx hb d_q_init_5 (by decide) ?_
  replace h := its h
  obtain ⟨c1, h⟩ := h
  refine wo_newaS (t := 0) (ty := .int) (atype := .int) (N' := 200) (a0 := (200, .inl (fun _ => 0))) hx hb (hts (.arrayClass .int) (gt_of (i := 78) (by decide +kernel) (by decide +kernel))) rfl hK hW hZ.2.1 rfl rfl (na_0 _) (by decide +kernel) (by decide +kernel) (by decide +kernel) (kC_new hZ.2.2.2.2.1 c1) (kS_new hZ.2.2.2.2.1 c1 (by decide)) d_q_init_8 (fun H hsn hWn => ?_)
  have hle := hZ.2.2.2.2.1
  replace hZ := wz_new hZ hsn hWn
  replace h := bs h
  obtain ⟨w2, hw2, h⟩ := h
  rw [Option.some.inj hw2] at hZ
  have hW := hZ.1
  refine W.widen (k := (z0 + 1) - z0) (n := kS ((z0 + 1) - z0)) (kC_step hle) (kS_step hle (by decide)) ?_
  replace h := bs h
  obtain ⟨w3, hw3, h⟩ := h
  refine pf_q_7 hx hb hts hown hK hG hW hnm rfl rfl (pbi hw3 rfl) d_q_init_10 (fun H locs hW => ?_)
  refine wz_back hZ (fun q g => pv_dom hw3 g) hW (fun hZ => ?_)
  have hW := hZ.1
  refine lv_aload_n hx hb d_q_init_13 rfl (lv_at hl 0 rfl) ?_
  refine lv_bipush (v := (8 : Int32)) hx hb d_q_init_14 (by decide) ?_
  replace h := its h
  obtain ⟨c4, h⟩ := h
  refine wo_newaS (t := 0) (ty := .int) (atype := .int) (N' := 8) (a0 := (8, .inl (fun _ => 0))) hx hb (hts (.arrayClass .int) (gt_of (i := 78) (by decide +kernel) (by decide +kernel))) rfl hK hW hZ.2.1 rfl rfl (na_0 _) (by decide +kernel) (by decide +kernel) (by decide +kernel) (kC_new hZ.2.2.2.2.1 c4) (kS_new hZ.2.2.2.2.1 c4 (by decide)) d_q_init_16 (fun H hsn hWn => ?_)
  have hle := hZ.2.2.2.2.1
  replace hZ := wz_new hZ hsn hWn
  replace h := bs h
  obtain ⟨w5, hw5, h⟩ := h
  rw [Option.some.inj hw5] at hZ
  have hW := hZ.1
  refine W.widen (k := ((z0 + 1) + 1) - z0) (n := kS (((z0 + 1) + 1) - z0)) (kC_step hle) (kS_step hle (by decide)) ?_
  replace h := bs h
  obtain ⟨w6, hw6, h⟩ := h
  refine pf_q_13 hx hb hts hown hK hG hW hnm rfl rfl (pbi hw6 rfl) d_q_init_18 (fun H locs hW => ?_)
  refine wz_back hZ (fun q g => pv_dom hw6 g) hW (fun hZ => ?_)
  have hW := hZ.1
  refine lv_aload_n hx hb d_q_init_21 rfl (lv_at hl 0 rfl) ?_
  refine lv_bipush (v := (-2 : Int32)) hx hb d_q_init_22 (by decide) ?_
  replace h := bs h
  obtain ⟨w7, hw7, h⟩ := h
  refine pf_q_16 hx hb hts hown hK hG hW rfl rfl (pbi hw7 rfl) d_q_init_24 (fun H locs hW => ?_)
  refine wz_back hZ (fun q g => pv_dom hw7 g) hW (fun hZ => ?_)
  have hW := hZ.1
  refine lv_aload_n hx hb d_q_init_27 rfl (lv_at hl 0 rfl) ?_
  refine lv_iconst (v := (1 : Int32)) hx hb d_q_init_28 (by decide) ?_
  replace h := bs h
  obtain ⟨w8, hw8, h⟩ := h
  refine pf_q_20 hx hb hts hown hK hG hW rfl rfl (pbi hw8 rfl) d_q_init_29 (fun H locs hW => ?_)
  refine wz_back hZ (fun q g => pv_dom hw8 g) hW (fun hZ => ?_)
  have hW := hZ.1
  refine lv_aload_n hx hb d_q_init_32 rfl (lv_at hl 0 rfl) ?_
  refine lv_iconst (v := (1 : Int32)) hx hb d_q_init_33 (by decide) ?_
  replace h := bs h
  obtain ⟨w9, hw9, h⟩ := h
  refine pf_q_23 hx hb hts hown hK hG hW rfl rfl (pbi hw9 rfl) d_q_init_34 (fun H locs hW => ?_)
  refine wz_back hZ (fun q g => pv_dom hw9 g) hW (fun hZ => ?_)
  have hW := hZ.1
  refine lv_aload_n hx hb d_q_init_37 rfl (lv_at hl 0 rfl) ?_
  refine lv_sipush (v := (160 : Int32)) hx hb d_q_init_38 (by decide) ?_
  replace h := its h
  obtain ⟨c10, h⟩ := h
  refine wo_newaS (t := 0) (ty := .int) (atype := .int) (N' := 160) (a0 := (160, .inl (fun _ => 0))) hx hb (hts (.arrayClass .int) (gt_of (i := 78) (by decide +kernel) (by decide +kernel))) rfl hK hW hZ.2.1 rfl rfl (na_0 _) (by decide +kernel) (by decide +kernel) (by decide +kernel) (kC_new hZ.2.2.2.2.1 c10) (kS_new hZ.2.2.2.2.1 c10 (by decide)) d_q_init_41 (fun H hsn hWn => ?_)
  have hle := hZ.2.2.2.2.1
  replace hZ := wz_new hZ hsn hWn
  replace h := bs h
  obtain ⟨w11, hw11, h⟩ := h
  rw [Option.some.inj hw11] at hZ
  have hW := hZ.1
  refine W.widen (k := (((z0 + 1) + 1) + 1) - z0) (n := kS ((((z0 + 1) + 1) + 1) - z0)) (kC_step hle) (kS_step hle (by decide)) ?_
  replace h := bs h
  obtain ⟨w12, hw12, h⟩ := h
  refine pf_q_26 hx hb hts hown hK hG hW hnm rfl rfl (pbi hw12 rfl) d_q_init_43 (fun H locs hW => ?_)
  refine wz_back hZ (fun q g => pv_dom hw12 g) hW (fun hZ => ?_)
  have hW := hZ.1
  refine lv_aload_n hx hb d_q_init_46 rfl (lv_at hl 0 rfl) ?_
  refine lv_sipush (v := (160 : Int32)) hx hb d_q_init_47 (by decide) ?_
  replace h := its h
  obtain ⟨c13, h⟩ := h
  refine wo_newaS (t := 0) (ty := .int) (atype := .int) (N' := 160) (a0 := (160, .inl (fun _ => 0))) hx hb (hts (.arrayClass .int) (gt_of (i := 78) (by decide +kernel) (by decide +kernel))) rfl hK hW hZ.2.1 rfl rfl (na_0 _) (by decide +kernel) (by decide +kernel) (by decide +kernel) (kC_new hZ.2.2.2.2.1 c13) (kS_new hZ.2.2.2.2.1 c13 (by decide)) d_q_init_50 (fun H hsn hWn => ?_)
  have hle := hZ.2.2.2.2.1
  replace hZ := wz_new hZ hsn hWn
  replace h := bs h
  obtain ⟨w14, hw14, h⟩ := h
  rw [Option.some.inj hw14] at hZ
  have hW := hZ.1
  refine W.widen (k := ((((z0 + 1) + 1) + 1) + 1) - z0) (n := kS (((((z0 + 1) + 1) + 1) + 1) - z0)) (kC_step hle) (kS_step hle (by decide)) ?_
  replace h := bs h
  obtain ⟨w15, hw15, h⟩ := h
  refine pf_q_29 hx hb hts hown hK hG hW hnm rfl rfl (pbi hw15 rfl) d_q_init_52 (fun H locs hW => ?_)
  refine wz_back hZ (fun q g => pv_dom hw15 g) hW (fun hZ => ?_)
  have hW := hZ.1
  refine lv_aload_n hx hb d_q_init_55 rfl (lv_at hl 0 rfl) ?_
  refine lv_sipush (v := (160 : Int32)) hx hb d_q_init_56 (by decide) ?_
  replace h := its h
  obtain ⟨c16, h⟩ := h
  refine wo_newaS (t := 0) (ty := .int) (atype := .int) (N' := 160) (a0 := (160, .inl (fun _ => 0))) hx hb (hts (.arrayClass .int) (gt_of (i := 78) (by decide +kernel) (by decide +kernel))) rfl hK hW hZ.2.1 rfl rfl (na_0 _) (by decide +kernel) (by decide +kernel) (by decide +kernel) (kC_new hZ.2.2.2.2.1 c16) (kS_new hZ.2.2.2.2.1 c16 (by decide)) d_q_init_59 (fun H hsn hWn => ?_)
  have hle := hZ.2.2.2.2.1
  replace hZ := wz_new hZ hsn hWn
  replace h := bs h
  obtain ⟨w17, hw17, h⟩ := h
  rw [Option.some.inj hw17] at hZ
  have hW := hZ.1
  refine W.widen (k := (((((z0 + 1) + 1) + 1) + 1) + 1) - z0) (n := kS ((((((z0 + 1) + 1) + 1) + 1) + 1) - z0)) (kC_step hle) (kS_step hle (by decide)) ?_
  replace h := bs h
  obtain ⟨w18, hw18, h⟩ := h
  refine pf_q_32 hx hb hts hown hK hG hW hnm rfl rfl (pbi hw18 rfl) d_q_init_61 (fun H locs hW => ?_)
  refine wz_back hZ (fun q g => pv_dom hw18 g) hW (fun hZ => ?_)
  have hW := hZ.1
  refine lv_aload_n hx hb d_q_init_64 rfl (lv_at hl 0 rfl) ?_
  refine lv_sipush (v := (160 : Int32)) hx hb d_q_init_65 (by decide) ?_
  replace h := its h
  obtain ⟨c19, h⟩ := h
  refine wo_newaS (t := 0) (ty := .int) (atype := .int) (N' := 160) (a0 := (160, .inl (fun _ => 0))) hx hb (hts (.arrayClass .int) (gt_of (i := 78) (by decide +kernel) (by decide +kernel))) rfl hK hW hZ.2.1 rfl rfl (na_0 _) (by decide +kernel) (by decide +kernel) (by decide +kernel) (kC_new hZ.2.2.2.2.1 c19) (kS_new hZ.2.2.2.2.1 c19 (by decide)) d_q_init_68 (fun H hsn hWn => ?_)
  have hle := hZ.2.2.2.2.1
  replace hZ := wz_new hZ hsn hWn
  replace h := bs h
  obtain ⟨w20, hw20, h⟩ := h
  rw [Option.some.inj hw20] at hZ
  have hW := hZ.1
  refine W.widen (k := ((((((z0 + 1) + 1) + 1) + 1) + 1) + 1) - z0) (n := kS (((((((z0 + 1) + 1) + 1) + 1) + 1) + 1) - z0)) (kC_step hle) (kS_step hle (by decide)) ?_
  replace h := bs h
  obtain ⟨w21, hw21, h⟩ := h
  refine pf_q_35 hx hb hts hown hK hG hW hnm rfl rfl (pbi hw21 rfl) d_q_init_70 (fun H locs hW => ?_)
  refine wz_back hZ (fun q g => pv_dom hw21 g) hW (fun hZ => ?_)
  have hW := hZ.1
  refine lv_aload_n hx hb d_q_init_73 rfl (lv_at hl 0 rfl) ?_
  refine lv_sipush (v := (160 : Int32)) hx hb d_q_init_74 (by decide) ?_
  replace h := its h
  obtain ⟨c22, h⟩ := h
  refine wo_newaS (t := 0) (ty := .int) (atype := .int) (N' := 160) (a0 := (160, .inl (fun _ => 0))) hx hb (hts (.arrayClass .int) (gt_of (i := 78) (by decide +kernel) (by decide +kernel))) rfl hK hW hZ.2.1 rfl rfl (na_0 _) (by decide +kernel) (by decide +kernel) (by decide +kernel) (kC_new hZ.2.2.2.2.1 c22) (kS_new hZ.2.2.2.2.1 c22 (by decide)) d_q_init_77 (fun H hsn hWn => ?_)
  have hle := hZ.2.2.2.2.1
  replace hZ := wz_new hZ hsn hWn
  replace h := bs h
  obtain ⟨w23, hw23, h⟩ := h
  rw [Option.some.inj hw23] at hZ
  have hW := hZ.1
  refine W.widen (k := (((((((z0 + 1) + 1) + 1) + 1) + 1) + 1) + 1) - z0) (n := kS ((((((((z0 + 1) + 1) + 1) + 1) + 1) + 1) + 1) - z0)) (kC_step hle) (kS_step hle (by decide)) ?_
  replace h := bs h
  obtain ⟨w24, hw24, h⟩ := h
  refine pf_q_38 hx hb hts hown hK hG hW hnm rfl rfl (pbi hw24 rfl) d_q_init_79 (fun H locs hW => ?_)
  refine wz_back hZ (fun q g => pv_dom hw24 g) hW (fun hZ => ?_)
  have hW := hZ.1
  refine lv_aload_n hx hb d_q_init_82 rfl (lv_at hl 0 rfl) ?_
  refine lv_sipush (v := (160 : Int32)) hx hb d_q_init_83 (by decide) ?_
  replace h := its h
  obtain ⟨c25, h⟩ := h
  refine wo_newaS (t := 0) (ty := .int) (atype := .int) (N' := 160) (a0 := (160, .inl (fun _ => 0))) hx hb (hts (.arrayClass .int) (gt_of (i := 78) (by decide +kernel) (by decide +kernel))) rfl hK hW hZ.2.1 rfl rfl (na_0 _) (by decide +kernel) (by decide +kernel) (by decide +kernel) (kC_new hZ.2.2.2.2.1 c25) (kS_new hZ.2.2.2.2.1 c25 (by decide)) d_q_init_86 (fun H hsn hWn => ?_)
  have hle := hZ.2.2.2.2.1
  replace hZ := wz_new hZ hsn hWn
  replace h := bs h
  obtain ⟨w26, hw26, h⟩ := h
  rw [Option.some.inj hw26] at hZ
  have hW := hZ.1
  refine W.widen (k := ((((((((z0 + 1) + 1) + 1) + 1) + 1) + 1) + 1) + 1) - z0) (n := kS (((((((((z0 + 1) + 1) + 1) + 1) + 1) + 1) + 1) + 1) - z0)) (kC_step hle) (kS_step hle (by decide)) ?_
  replace h := bs h
  obtain ⟨w27, hw27, h⟩ := h
  refine pf_q_41 hx hb hts hown hK hG hW hnm rfl rfl (pbi hw27 rfl) d_q_init_88 (fun H locs hW => ?_)
  refine wz_back hZ (fun q g => pv_dom hw27 g) hW (fun hZ => ?_)
  have hW := hZ.1
  refine lv_aload_n hx hb d_q_init_91 rfl (lv_at hl 0 rfl) ?_
  refine lv_sipush (v := (160 : Int32)) hx hb d_q_init_92 (by decide) ?_
  replace h := its h
  obtain ⟨c28, h⟩ := h
  refine wo_newaS (t := 0) (ty := .int) (atype := .int) (N' := 160) (a0 := (160, .inl (fun _ => 0))) hx hb (hts (.arrayClass .int) (gt_of (i := 78) (by decide +kernel) (by decide +kernel))) rfl hK hW hZ.2.1 rfl rfl (na_0 _) (by decide +kernel) (by decide +kernel) (by decide +kernel) (kC_new hZ.2.2.2.2.1 c28) (kS_new hZ.2.2.2.2.1 c28 (by decide)) d_q_init_95 (fun H hsn hWn => ?_)
  have hle := hZ.2.2.2.2.1
  replace hZ := wz_new hZ hsn hWn
  replace h := bs h
  obtain ⟨w29, hw29, h⟩ := h
  rw [Option.some.inj hw29] at hZ
  have hW := hZ.1
  refine W.widen (k := (((((((((z0 + 1) + 1) + 1) + 1) + 1) + 1) + 1) + 1) + 1) - z0) (n := kS ((((((((((z0 + 1) + 1) + 1) + 1) + 1) + 1) + 1) + 1) + 1) - z0)) (kC_step hle) (kS_step hle (by decide)) ?_
  replace h := bs h
  obtain ⟨w30, hw30, h⟩ := h
  refine pf_q_44 hx hb hts hown hK hG hW hnm rfl rfl (pbi hw30 rfl) d_q_init_97 (fun H locs hW => ?_)
  refine wz_back hZ (fun q g => pv_dom hw30 g) hW (fun hZ => ?_)
  have hW := hZ.1
  refine lv_aload_n hx hb d_q_init_100 rfl (lv_at hl 0 rfl) ?_
  refine lv_sipush (v := (160 : Int32)) hx hb d_q_init_101 (by decide) ?_
  replace h := its h
  obtain ⟨c31, h⟩ := h
  refine wo_newaS (t := 0) (ty := .int) (atype := .int) (N' := 160) (a0 := (160, .inl (fun _ => 0))) hx hb (hts (.arrayClass .int) (gt_of (i := 78) (by decide +kernel) (by decide +kernel))) rfl hK hW hZ.2.1 rfl rfl (na_0 _) (by decide +kernel) (by decide +kernel) (by decide +kernel) (kC_new hZ.2.2.2.2.1 c31) (kS_new hZ.2.2.2.2.1 c31 (by decide)) d_q_init_104 (fun H hsn hWn => ?_)
  have hle := hZ.2.2.2.2.1
  replace hZ := wz_new hZ hsn hWn
  replace h := bs h
  obtain ⟨w32, hw32, h⟩ := h
  rw [Option.some.inj hw32] at hZ
  have hW := hZ.1
  refine W.widen (k := ((((((((((z0 + 1) + 1) + 1) + 1) + 1) + 1) + 1) + 1) + 1) + 1) - z0) (n := kS (((((((((((z0 + 1) + 1) + 1) + 1) + 1) + 1) + 1) + 1) + 1) + 1) - z0)) (kC_step hle) (kS_step hle (by decide)) ?_
  replace h := bs h
  obtain ⟨w33, hw33, h⟩ := h
  refine pf_q_47 hx hb hts hown hK hG hW hnm rfl rfl (pbi hw33 rfl) d_q_init_106 (fun H locs hW => ?_)
  refine wz_back hZ (fun q g => pv_dom hw33 g) hW (fun hZ => ?_)
  have hW := hZ.1
  refine lv_aload_n hx hb d_q_init_109 rfl (lv_at hl 0 rfl) ?_
  refine lv_sipush (v := (160 : Int32)) hx hb d_q_init_110 (by decide) ?_
  replace h := its h
  obtain ⟨c34, h⟩ := h
  refine wo_newaS (t := 0) (ty := .int) (atype := .int) (N' := 160) (a0 := (160, .inl (fun _ => 0))) hx hb (hts (.arrayClass .int) (gt_of (i := 78) (by decide +kernel) (by decide +kernel))) rfl hK hW hZ.2.1 rfl rfl (na_0 _) (by decide +kernel) (by decide +kernel) (by decide +kernel) (kC_new hZ.2.2.2.2.1 c34) (kS_new hZ.2.2.2.2.1 c34 (by decide)) d_q_init_113 (fun H hsn hWn => ?_)
  have hle := hZ.2.2.2.2.1
  replace hZ := wz_new hZ hsn hWn
  replace h := bs h
  obtain ⟨w35, hw35, h⟩ := h
  rw [Option.some.inj hw35] at hZ
  have hW := hZ.1
  refine W.widen (k := (((((((((((z0 + 1) + 1) + 1) + 1) + 1) + 1) + 1) + 1) + 1) + 1) + 1) - z0) (n := kS ((((((((((((z0 + 1) + 1) + 1) + 1) + 1) + 1) + 1) + 1) + 1) + 1) + 1) - z0)) (kC_step hle) (kS_step hle (by decide)) ?_
  replace h := bs h
  obtain ⟨w36, hw36, h⟩ := h
  refine pf_q_50 hx hb hts hown hK hG hW hnm rfl rfl (pbi hw36 rfl) d_q_init_115 (fun H locs hW => ?_)
  refine wz_back hZ (fun q g => pv_dom hw36 g) hW (fun hZ => ?_)
  have hW := hZ.1
  refine lv_aload_n hx hb d_q_init_118 rfl (lv_at hl 0 rfl) ?_
  refine lv_sipush (v := (160 : Int32)) hx hb d_q_init_119 (by decide) ?_
  replace h := its h
  obtain ⟨c37, h⟩ := h
  refine wo_newaS (t := 0) (ty := .int) (atype := .int) (N' := 160) (a0 := (160, .inl (fun _ => 0))) hx hb (hts (.arrayClass .int) (gt_of (i := 78) (by decide +kernel) (by decide +kernel))) rfl hK hW hZ.2.1 rfl rfl (na_0 _) (by decide +kernel) (by decide +kernel) (by decide +kernel) (kC_new hZ.2.2.2.2.1 c37) (kS_new hZ.2.2.2.2.1 c37 (by decide)) d_q_init_122 (fun H hsn hWn => ?_)
  have hle := hZ.2.2.2.2.1
  replace hZ := wz_new hZ hsn hWn
  replace h := bs h
  obtain ⟨w38, hw38, h⟩ := h
  rw [Option.some.inj hw38] at hZ
  have hW := hZ.1
  refine W.widen (k := ((((((((((((z0 + 1) + 1) + 1) + 1) + 1) + 1) + 1) + 1) + 1) + 1) + 1) + 1) - z0) (n := kS (((((((((((((z0 + 1) + 1) + 1) + 1) + 1) + 1) + 1) + 1) + 1) + 1) + 1) + 1) - z0)) (kC_step hle) (kS_step hle (by decide)) ?_
  replace h := bs h
  obtain ⟨w39, hw39, h⟩ := h
  refine pf_q_53 hx hb hts hown hK hG hW hnm rfl rfl (pbi hw39 rfl) d_q_init_124 (fun H locs hW => ?_)
  refine wz_back hZ (fun q g => pv_dom hw39 g) hW (fun hZ => ?_)
  have hW := hZ.1
  refine lv_aload_n hx hb d_q_init_127 rfl (lv_at hl 0 rfl) ?_
  refine lv_sipush (v := (160 : Int32)) hx hb d_q_init_128 (by decide) ?_
  replace h := its h
  obtain ⟨c40, h⟩ := h
  refine wo_newaS (t := 0) (ty := .int) (atype := .int) (N' := 160) (a0 := (160, .inl (fun _ => 0))) hx hb (hts (.arrayClass .int) (gt_of (i := 78) (by decide +kernel) (by decide +kernel))) rfl hK hW hZ.2.1 rfl rfl (na_0 _) (by decide +kernel) (by decide +kernel) (by decide +kernel) (kC_new hZ.2.2.2.2.1 c40) (kS_new hZ.2.2.2.2.1 c40 (by decide)) d_q_init_131 (fun H hsn hWn => ?_)
  have hle := hZ.2.2.2.2.1
  replace hZ := wz_new hZ hsn hWn
  replace h := bs h
  obtain ⟨w41, hw41, h⟩ := h
  rw [Option.some.inj hw41] at hZ
  have hW := hZ.1
  refine W.widen (k := (((((((((((((z0 + 1) + 1) + 1) + 1) + 1) + 1) + 1) + 1) + 1) + 1) + 1) + 1) + 1) - z0) (n := kS ((((((((((((((z0 + 1) + 1) + 1) + 1) + 1) + 1) + 1) + 1) + 1) + 1) + 1) + 1) + 1) - z0)) (kC_step hle) (kS_step hle (by decide)) ?_
  replace h := bs h
  obtain ⟨w42, hw42, h⟩ := h
  refine pf_q_56 hx hb hts hown hK hG hW hnm rfl rfl (pbi hw42 rfl) d_q_init_133 (fun H locs hW => ?_)
  refine wz_back hZ (fun q g => pv_dom hw42 g) hW (fun hZ => ?_)
  have hW := hZ.1
  refine lv_aload_n hx hb d_q_init_136 rfl (lv_at hl 0 rfl) ?_
  refine lv_sipush (v := (160 : Int32)) hx hb d_q_init_137 (by decide) ?_
  replace h := its h
  obtain ⟨c43, h⟩ := h
  refine wo_newaS (t := 2) (ty := .boolean) (atype := .boolean) (N' := 160) (a0 := (160, .inl (fun _ => 0))) hx hb (hts (.arrayClass .boolean) (gt_of (i := 241) (by decide +kernel) (by decide +kernel))) rfl hK hW hZ.2.1 rfl rfl (na_2 _) (by decide +kernel) (by decide +kernel) (by decide +kernel) (kC_new hZ.2.2.2.2.1 c43) (kS_new hZ.2.2.2.2.1 c43 (by decide)) d_q_init_140 (fun H hsn hWn => ?_)
  have hle := hZ.2.2.2.2.1
  replace hZ := wz_new hZ hsn hWn
  replace h := bs h
  obtain ⟨w44, hw44, h⟩ := h
  rw [Option.some.inj hw44] at hZ
  have hW := hZ.1
  refine W.widen (k := ((((((((((((((z0 + 1) + 1) + 1) + 1) + 1) + 1) + 1) + 1) + 1) + 1) + 1) + 1) + 1) + 1) - z0) (n := kS (((((((((((((((z0 + 1) + 1) + 1) + 1) + 1) + 1) + 1) + 1) + 1) + 1) + 1) + 1) + 1) + 1) - z0)) (kC_step hle) (kS_step hle (by decide)) ?_
  replace h := bs h
  obtain ⟨w45, hw45, h⟩ := h
  refine pf_q_59 hx hb hts hown hK hG hW hnm rfl rfl (pbi hw45 rfl) d_q_init_142 (fun H locs hW => ?_)
  refine wz_back hZ (fun q g => pv_dom hw45 g) hW (fun hZ => ?_)
  have hW := hZ.1
  refine lv_aload_n hx hb d_q_init_145 rfl (lv_at hl 0 rfl) ?_
  refine lv_iconst (v := (2 : Int32)) hx hb d_q_init_146 (by decide) ?_
  replace h := its h
  obtain ⟨c46, h⟩ := h
  refine wo_newaS (t := 0) (ty := .int) (atype := .int) (N' := 2) (a0 := (2, .inl (fun _ => 0))) hx hb (hts (.arrayClass .int) (gt_of (i := 78) (by decide +kernel) (by decide +kernel))) rfl hK hW hZ.2.1 rfl rfl (na_0 _) (by decide +kernel) (by decide +kernel) (by decide +kernel) (kC_new hZ.2.2.2.2.1 c46) (kS_new hZ.2.2.2.2.1 c46 (by decide)) d_q_init_147 (fun H hsn hWn => ?_)
  have hle := hZ.2.2.2.2.1
  replace hZ := wz_new hZ hsn hWn
  replace h := bs h
  obtain ⟨w47, hw47, h⟩ := h
  rw [Option.some.inj hw47] at hZ
  have hW := hZ.1
  refine W.widen (k := (((((((((((((((z0 + 1) + 1) + 1) + 1) + 1) + 1) + 1) + 1) + 1) + 1) + 1) + 1) + 1) + 1) + 1) - z0) (n := kS ((((((((((((((((z0 + 1) + 1) + 1) + 1) + 1) + 1) + 1) + 1) + 1) + 1) + 1) + 1) + 1) + 1) + 1) - z0)) (kC_step hle) (kS_step hle (by decide)) ?_
  replace h := bs h
  obtain ⟨w48, hw48, h⟩ := h
  refine pf_q_63 hx hb hts hown hK hG hW hnm rfl rfl (pbi hw48 rfl) d_q_init_149 (fun H locs hW => ?_)
  refine wz_back hZ (fun q g => pv_dom hw48 g) hW (fun hZ => ?_)
  have hW := hZ.1
  refine lv_aload_n hx hb d_q_init_152 rfl (lv_at hl 0 rfl) ?_
  refine lv_iconst (v := (2 : Int32)) hx hb d_q_init_153 (by decide) ?_
  replace h := its h
  obtain ⟨c49, h⟩ := h
  refine wo_newaS (t := 0) (ty := .int) (atype := .int) (N' := 2) (a0 := (2, .inl (fun _ => 0))) hx hb (hts (.arrayClass .int) (gt_of (i := 78) (by decide +kernel) (by decide +kernel))) rfl hK hW hZ.2.1 rfl rfl (na_0 _) (by decide +kernel) (by decide +kernel) (by decide +kernel) (kC_new hZ.2.2.2.2.1 c49) (kS_new hZ.2.2.2.2.1 c49 (by decide)) d_q_init_154 (fun H hsn hWn => ?_)
  have hle := hZ.2.2.2.2.1
  replace hZ := wz_new hZ hsn hWn
  replace h := bs h
  obtain ⟨w50, hw50, h⟩ := h
  rw [Option.some.inj hw50] at hZ
  have hW := hZ.1
  refine W.widen (k := ((((((((((((((((z0 + 1) + 1) + 1) + 1) + 1) + 1) + 1) + 1) + 1) + 1) + 1) + 1) + 1) + 1) + 1) + 1) - z0) (n := kS (((((((((((((((((z0 + 1) + 1) + 1) + 1) + 1) + 1) + 1) + 1) + 1) + 1) + 1) + 1) + 1) + 1) + 1) + 1) - z0)) (kC_step hle) (kS_step hle (by decide)) ?_
  replace h := bs h
  obtain ⟨w51, hw51, h⟩ := h
  refine pf_q_66 hx hb hts hown hK hG hW hnm rfl rfl (pbi hw51 rfl) d_q_init_156 (fun H locs hW => ?_)
  refine wz_back hZ (fun q g => pv_dom hw51 g) hW (fun hZ => ?_)
  have hW := hZ.1
  refine lv_aload_n hx hb d_q_init_159 rfl (lv_at hl 0 rfl) ?_
  refine lv_iconst (v := (2 : Int32)) hx hb d_q_init_160 (by decide) ?_
  replace h := its h
  obtain ⟨c52, h⟩ := h
  refine wo_newaS (t := 0) (ty := .int) (atype := .int) (N' := 2) (a0 := (2, .inl (fun _ => 0))) hx hb (hts (.arrayClass .int) (gt_of (i := 78) (by decide +kernel) (by decide +kernel))) rfl hK hW hZ.2.1 rfl rfl (na_0 _) (by decide +kernel) (by decide +kernel) (by decide +kernel) (kC_new hZ.2.2.2.2.1 c52) (kS_new hZ.2.2.2.2.1 c52 (by decide)) d_q_init_161 (fun H hsn hWn => ?_)
  have hle := hZ.2.2.2.2.1
  replace hZ := wz_new hZ hsn hWn
  replace h := bs h
  obtain ⟨w53, hw53, h⟩ := h
  rw [Option.some.inj hw53] at hZ
  have hW := hZ.1
  refine W.widen (k := (((((((((((((((((z0 + 1) + 1) + 1) + 1) + 1) + 1) + 1) + 1) + 1) + 1) + 1) + 1) + 1) + 1) + 1) + 1) + 1) - z0) (n := kS ((((((((((((((((((z0 + 1) + 1) + 1) + 1) + 1) + 1) + 1) + 1) + 1) + 1) + 1) + 1) + 1) + 1) + 1) + 1) + 1) - z0)) (kC_step hle) (kS_step hle (by decide)) ?_
  replace h := bs h
  obtain ⟨w54, hw54, h⟩ := h
  refine pf_q_69 hx hb hts hown hK hG hW hnm rfl rfl (pbi hw54 rfl) d_q_init_163 (fun H locs hW => ?_)
  refine wz_back hZ (fun q g => pv_dom hw54 g) hW (fun hZ => ?_)
  have hW := hZ.1
  refine lv_aload_n hx hb d_q_init_166 rfl (lv_at hl 0 rfl) ?_
  refine lv_sipush (v := (440 : Int32)) hx hb d_q_init_167 (by decide) ?_
  replace h := its h
  obtain ⟨c55, h⟩ := h
  refine wo_newaS (t := 0) (ty := .int) (atype := .int) (N' := 440) (a0 := (440, .inl (fun _ => 0))) hx hb (hts (.arrayClass .int) (gt_of (i := 78) (by decide +kernel) (by decide +kernel))) rfl hK hW hZ.2.1 rfl rfl (na_0 _) (by decide +kernel) (by decide +kernel) (by decide +kernel) (kC_new hZ.2.2.2.2.1 c55) (kS_new hZ.2.2.2.2.1 c55 (by decide)) d_q_init_170 (fun H hsn hWn => ?_)
  have hle := hZ.2.2.2.2.1
  replace hZ := wz_new hZ hsn hWn
  replace h := bs h
  obtain ⟨w56, hw56, h⟩ := h
  rw [Option.some.inj hw56] at hZ
  have hW := hZ.1
  refine W.widen (k := ((((((((((((((((((z0 + 1) + 1) + 1) + 1) + 1) + 1) + 1) + 1) + 1) + 1) + 1) + 1) + 1) + 1) + 1) + 1) + 1) + 1) - z0) (n := kS (((((((((((((((((((z0 + 1) + 1) + 1) + 1) + 1) + 1) + 1) + 1) + 1) + 1) + 1) + 1) + 1) + 1) + 1) + 1) + 1) + 1) - z0)) (kC_step hle) (kS_step hle (by decide)) ?_
  replace h := bs h
  obtain ⟨w57, hw57, h⟩ := h
  refine pf_q_72 hx hb hts hown hK hG hW hnm rfl rfl (pbi hw57 rfl) d_q_init_172 (fun H locs hW => ?_)
  refine wz_back hZ (fun q g => pv_dom hw57 g) hW (fun hZ => ?_)
  have hW := hZ.1
  refine lv_aload_n hx hb d_q_init_175 rfl (lv_at hl 0 rfl) ?_
  refine lv_sipush (v := (440 : Int32)) hx hb d_q_init_176 (by decide) ?_
  replace h := its h
  obtain ⟨c58, h⟩ := h
  refine wo_newaS (t := 0) (ty := .int) (atype := .int) (N' := 440) (a0 := (440, .inl (fun _ => 0))) hx hb (hts (.arrayClass .int) (gt_of (i := 78) (by decide +kernel) (by decide +kernel))) rfl hK hW hZ.2.1 rfl rfl (na_0 _) (by decide +kernel) (by decide +kernel) (by decide +kernel) (kC_new hZ.2.2.2.2.1 c58) (kS_new hZ.2.2.2.2.1 c58 (by decide)) d_q_init_179 (fun H hsn hWn => ?_)
  have hle := hZ.2.2.2.2.1
  replace hZ := wz_new hZ hsn hWn
  replace h := bs h
  obtain ⟨w59, hw59, h⟩ := h
  rw [Option.some.inj hw59] at hZ
  have hW := hZ.1
  refine W.widen (k := (((((((((((((((((((z0 + 1) + 1) + 1) + 1) + 1) + 1) + 1) + 1) + 1) + 1) + 1) + 1) + 1) + 1) + 1) + 1) + 1) + 1) + 1) - z0) (n := kS ((((((((((((((((((((z0 + 1) + 1) + 1) + 1) + 1) + 1) + 1) + 1) + 1) + 1) + 1) + 1) + 1) + 1) + 1) + 1) + 1) + 1) + 1) - z0)) (kC_step hle) (kS_step hle (by decide)) ?_
  replace h := bs h
  obtain ⟨w60, hw60, h⟩ := h
  refine pf_q_75 hx hb hts hown hK hG hW hnm rfl rfl (pbi hw60 rfl) d_q_init_181 (fun H locs hW => ?_)
  refine wz_back hZ (fun q g => pv_dom hw60 g) hW (fun hZ => ?_)
  have hW := hZ.1
  refine lv_aload_n hx hb d_q_init_184 rfl (lv_at hl 0 rfl) ?_
  refine lv_sipush (v := (440 : Int32)) hx hb d_q_init_185 (by decide) ?_
  replace h := its h
  obtain ⟨c61, h⟩ := h
  refine wo_newaS (t := 0) (ty := .int) (atype := .int) (N' := 440) (a0 := (440, .inl (fun _ => 0))) hx hb (hts (.arrayClass .int) (gt_of (i := 78) (by decide +kernel) (by decide +kernel))) rfl hK hW hZ.2.1 rfl rfl (na_0 _) (by decide +kernel) (by decide +kernel) (by decide +kernel) (kC_new hZ.2.2.2.2.1 c61) (kS_new hZ.2.2.2.2.1 c61 (by decide)) d_q_init_188 (fun H hsn hWn => ?_)
  have hle := hZ.2.2.2.2.1
  replace hZ := wz_new hZ hsn hWn
  replace h := bs h
  obtain ⟨w62, hw62, h⟩ := h
  rw [Option.some.inj hw62] at hZ
  have hW := hZ.1
  refine W.widen (k := ((((((((((((((((((((z0 + 1) + 1) + 1) + 1) + 1) + 1) + 1) + 1) + 1) + 1) + 1) + 1) + 1) + 1) + 1) + 1) + 1) + 1) + 1) + 1) - z0) (n := kS (((((((((((((((((((((z0 + 1) + 1) + 1) + 1) + 1) + 1) + 1) + 1) + 1) + 1) + 1) + 1) + 1) + 1) + 1) + 1) + 1) + 1) + 1) + 1) - z0)) (kC_step hle) (kS_step hle (by decide)) ?_
  replace h := bs h
  obtain ⟨w63, hw63, h⟩ := h
  refine pf_q_78 hx hb hts hown hK hG hW hnm rfl rfl (pbi hw63 rfl) d_q_init_190 (fun H locs hW => ?_)
  refine wz_back hZ (fun q g => pv_dom hw63 g) hW (fun hZ => ?_)
  have hW := hZ.1
  refine lv_aload_n hx hb d_q_init_193 rfl (lv_at hl 0 rfl) ?_
  refine lv_bipush (v := (8 : Int32)) hx hb d_q_init_194 (by decide) ?_
  replace h := its h
  obtain ⟨c64, h⟩ := h
  refine wo_newaS (t := 0) (ty := .int) (atype := .int) (N' := 8) (a0 := (8, .inl (fun _ => 0))) hx hb (hts (.arrayClass .int) (gt_of (i := 78) (by decide +kernel) (by decide +kernel))) rfl hK hW hZ.2.1 rfl rfl (na_0 _) (by decide +kernel) (by decide +kernel) (by decide +kernel) (kC_new hZ.2.2.2.2.1 c64) (kS_new hZ.2.2.2.2.1 c64 (by decide)) d_q_init_196 (fun H hsn hWn => ?_)
  have hle := hZ.2.2.2.2.1
  replace hZ := wz_new hZ hsn hWn
  replace h := bs h
  obtain ⟨w65, hw65, h⟩ := h
  rw [Option.some.inj hw65] at hZ
  have hW := hZ.1
  refine W.widen (k := (((((((((((((((((((((z0 + 1) + 1) + 1) + 1) + 1) + 1) + 1) + 1) + 1) + 1) + 1) + 1) + 1) + 1) + 1) + 1) + 1) + 1) + 1) + 1) + 1) - z0) (n := kS ((((((((((((((((((((((z0 + 1) + 1) + 1) + 1) + 1) + 1) + 1) + 1) + 1) + 1) + 1) + 1) + 1) + 1) + 1) + 1) + 1) + 1) + 1) + 1) + 1) - z0)) (kC_step hle) (kS_step hle (by decide)) ?_
  replace h := bs h
  obtain ⟨w66, hw66, h⟩ := h
  refine pf_q_81 hx hb hts hown hK hG hW hnm rfl rfl (pbi hw66 rfl) d_q_init_198 (fun H locs hW => ?_)
  refine wz_back hZ (fun q g => pv_dom hw66 g) hW (fun hZ => ?_)
  have hW := hZ.1
  refine lv_aload_n hx hb d_q_init_201 rfl (lv_at hl 0 rfl) ?_
  refine lv_bipush (v := (8 : Int32)) hx hb d_q_init_202 (by decide) ?_
  replace h := its h
  obtain ⟨c67, h⟩ := h
  refine wo_newaS (t := 0) (ty := .int) (atype := .int) (N' := 8) (a0 := (8, .inl (fun _ => 0))) hx hb (hts (.arrayClass .int) (gt_of (i := 78) (by decide +kernel) (by decide +kernel))) rfl hK hW hZ.2.1 rfl rfl (na_0 _) (by decide +kernel) (by decide +kernel) (by decide +kernel) (kC_new hZ.2.2.2.2.1 c67) (kS_new hZ.2.2.2.2.1 c67 (by decide)) d_q_init_204 (fun H hsn hWn => ?_)
  have hle := hZ.2.2.2.2.1
  replace hZ := wz_new hZ hsn hWn
  replace h := bs h
  obtain ⟨w68, hw68, h⟩ := h
  rw [Option.some.inj hw68] at hZ
  have hW := hZ.1
  refine W.widen (k := ((((((((((((((((((((((z0 + 1) + 1) + 1) + 1) + 1) + 1) + 1) + 1) + 1) + 1) + 1) + 1) + 1) + 1) + 1) + 1) + 1) + 1) + 1) + 1) + 1) + 1) - z0) (n := kS (((((((((((((((((((((((z0 + 1) + 1) + 1) + 1) + 1) + 1) + 1) + 1) + 1) + 1) + 1) + 1) + 1) + 1) + 1) + 1) + 1) + 1) + 1) + 1) + 1) + 1) - z0)) (kC_step hle) (kS_step hle (by decide)) ?_
  replace h := bs h
  obtain ⟨w69, hw69, h⟩ := h
  refine pf_q_84 hx hb hts hown hK hG hW hnm rfl rfl (pbi hw69 rfl) d_q_init_206 (fun H locs hW => ?_)
  refine wz_back hZ (fun q g => pv_dom hw69 g) hW (fun hZ => ?_)
  have hW := hZ.1
  refine lv_aload_n hx hb d_q_init_209 rfl (lv_at hl 0 rfl) ?_
  refine lv_bipush (v := (8 : Int32)) hx hb d_q_init_210 (by decide) ?_
  replace h := its h
  obtain ⟨c70, h⟩ := h
  refine wo_newaS (t := 0) (ty := .int) (atype := .int) (N' := 8) (a0 := (8, .inl (fun _ => 0))) hx hb (hts (.arrayClass .int) (gt_of (i := 78) (by decide +kernel) (by decide +kernel))) rfl hK hW hZ.2.1 rfl rfl (na_0 _) (by decide +kernel) (by decide +kernel) (by decide +kernel) (kC_new hZ.2.2.2.2.1 c70) (kS_new hZ.2.2.2.2.1 c70 (by decide)) d_q_init_212 (fun H hsn hWn => ?_)
  have hle := hZ.2.2.2.2.1
  replace hZ := wz_new hZ hsn hWn
  replace h := bs h
  obtain ⟨w71, hw71, h⟩ := h
  rw [Option.some.inj hw71] at hZ
  have hW := hZ.1
  refine W.widen (k := (((((((((((((((((((((((z0 + 1) + 1) + 1) + 1) + 1) + 1) + 1) + 1) + 1) + 1) + 1) + 1) + 1) + 1) + 1) + 1) + 1) + 1) + 1) + 1) + 1) + 1) + 1) - z0) (n := kS ((((((((((((((((((((((((z0 + 1) + 1) + 1) + 1) + 1) + 1) + 1) + 1) + 1) + 1) + 1) + 1) + 1) + 1) + 1) + 1) + 1) + 1) + 1) + 1) + 1) + 1) + 1) - z0)) (kC_step hle) (kS_step hle (by decide)) ?_
  replace h := bs h
  obtain ⟨w72, hw72, h⟩ := h
  refine pf_q_87 hx hb hts hown hK hG hW hnm rfl rfl (pbi hw72 rfl) d_q_init_214 (fun H locs hW => ?_)
  refine wz_back hZ (fun q g => pv_dom hw72 g) hW (fun hZ => ?_)
  have hW := hZ.1
  refine lv_aload_n hx hb d_q_init_217 rfl (lv_at hl 0 rfl) ?_
  refine lv_sipush (v := (300 : Int32)) hx hb d_q_init_218 (by decide) ?_
  replace h := its h
  obtain ⟨c73, h⟩ := h
  refine wo_newaS (t := 0) (ty := .int) (atype := .int) (N' := 300) (a0 := (300, .inl (fun _ => 0))) hx hb (hts (.arrayClass .int) (gt_of (i := 78) (by decide +kernel) (by decide +kernel))) rfl hK hW hZ.2.1 rfl rfl (na_0 _) (by decide +kernel) (by decide +kernel) (by decide +kernel) (kC_new hZ.2.2.2.2.1 c73) (kS_new hZ.2.2.2.2.1 c73 (by decide)) d_q_init_221 (fun H hsn hWn => ?_)
  have hle := hZ.2.2.2.2.1
  replace hZ := wz_new hZ hsn hWn
  replace h := bs h
  obtain ⟨w74, hw74, h⟩ := h
  rw [Option.some.inj hw74] at hZ
  have hW := hZ.1
  refine W.widen (k := ((((((((((((((((((((((((z0 + 1) + 1) + 1) + 1) + 1) + 1) + 1) + 1) + 1) + 1) + 1) + 1) + 1) + 1) + 1) + 1) + 1) + 1) + 1) + 1) + 1) + 1) + 1) + 1) - z0) (n := kS (((((((((((((((((((((((((z0 + 1) + 1) + 1) + 1) + 1) + 1) + 1) + 1) + 1) + 1) + 1) + 1) + 1) + 1) + 1) + 1) + 1) + 1) + 1) + 1) + 1) + 1) + 1) + 1) - z0)) (kC_step hle) (kS_step hle (by decide)) ?_
  replace h := bs h
  obtain ⟨w75, hw75, h⟩ := h
  refine pf_q_90 hx hb hts hown hK hG hW hnm rfl rfl (pbi hw75 rfl) d_q_init_223 (fun H locs hW => ?_)
  refine wz_back hZ (fun q g => pv_dom hw75 g) hW (fun hZ => ?_)
  have hW := hZ.1
  refine lv_aload_n hx hb d_q_init_226 rfl (lv_at hl 0 rfl) ?_
  refine lv_sipush (v := (300 : Int32)) hx hb d_q_init_227 (by decide) ?_
  replace h := its h
  obtain ⟨c76, h⟩ := h
  refine wo_newaS (t := 0) (ty := .int) (atype := .int) (N' := 300) (a0 := (300, .inl (fun _ => 0))) hx hb (hts (.arrayClass .int) (gt_of (i := 78) (by decide +kernel) (by decide +kernel))) rfl hK hW hZ.2.1 rfl rfl (na_0 _) (by decide +kernel) (by decide +kernel) (by decide +kernel) (kC_new hZ.2.2.2.2.1 c76) (kS_new hZ.2.2.2.2.1 c76 (by decide)) d_q_init_230 (fun H hsn hWn => ?_)
  have hle := hZ.2.2.2.2.1
  replace hZ := wz_new hZ hsn hWn
  replace h := bs h
  obtain ⟨w77, hw77, h⟩ := h
  rw [Option.some.inj hw77] at hZ
  have hW := hZ.1
  refine W.widen (k := (((((((((((((((((((((((((z0 + 1) + 1) + 1) + 1) + 1) + 1) + 1) + 1) + 1) + 1) + 1) + 1) + 1) + 1) + 1) + 1) + 1) + 1) + 1) + 1) + 1) + 1) + 1) + 1) + 1) - z0) (n := kS ((((((((((((((((((((((((((z0 + 1) + 1) + 1) + 1) + 1) + 1) + 1) + 1) + 1) + 1) + 1) + 1) + 1) + 1) + 1) + 1) + 1) + 1) + 1) + 1) + 1) + 1) + 1) + 1) + 1) - z0)) (kC_step hle) (kS_step hle (by decide)) ?_
  replace h := bs h
  obtain ⟨w78, hw78, h⟩ := h
  refine pf_q_93 hx hb hts hown hK hG hW hnm rfl rfl (pbi hw78 rfl) d_q_init_232 (fun H locs hW => ?_)
  refine wz_back hZ (fun q g => pv_dom hw78 g) hW (fun hZ => ?_)
  have hW := hZ.1
  refine lv_aload_n hx hb d_q_init_235 rfl (lv_at hl 0 rfl) ?_
  refine lv_sipush (v := (300 : Int32)) hx hb d_q_init_236 (by decide) ?_
  replace h := its h
  obtain ⟨c79, h⟩ := h
  refine wo_newaS (t := 0) (ty := .int) (atype := .int) (N' := 300) (a0 := (300, .inl (fun _ => 0))) hx hb (hts (.arrayClass .int) (gt_of (i := 78) (by decide +kernel) (by decide +kernel))) rfl hK hW hZ.2.1 rfl rfl (na_0 _) (by decide +kernel) (by decide +kernel) (by decide +kernel) (kC_new hZ.2.2.2.2.1 c79) (kS_new hZ.2.2.2.2.1 c79 (by decide)) d_q_init_239 (fun H hsn hWn => ?_)
  have hle := hZ.2.2.2.2.1
  replace hZ := wz_new hZ hsn hWn
  replace h := bs h
  obtain ⟨w80, hw80, h⟩ := h
  rw [Option.some.inj hw80] at hZ
  have hW := hZ.1
  refine W.widen (k := ((((((((((((((((((((((((((z0 + 1) + 1) + 1) + 1) + 1) + 1) + 1) + 1) + 1) + 1) + 1) + 1) + 1) + 1) + 1) + 1) + 1) + 1) + 1) + 1) + 1) + 1) + 1) + 1) + 1) + 1) - z0) (n := kS (((((((((((((((((((((((((((z0 + 1) + 1) + 1) + 1) + 1) + 1) + 1) + 1) + 1) + 1) + 1) + 1) + 1) + 1) + 1) + 1) + 1) + 1) + 1) + 1) + 1) + 1) + 1) + 1) + 1) + 1) - z0)) (kC_step hle) (kS_step hle (by decide)) ?_
  replace h := bs h
  obtain ⟨w81, hw81, h⟩ := h
  refine pf_q_96 hx hb hts hown hK hG hW hnm rfl rfl (pbi hw81 rfl) d_q_init_241 (fun H locs hW => ?_)
  refine wz_back hZ (fun q g => pv_dom hw81 g) hW (fun hZ => ?_)
  have hW := hZ.1
  refine lv_aload_n hx hb d_q_init_244 rfl (lv_at hl 0 rfl) ?_
  refine lv_sipush (v := (300 : Int32)) hx hb d_q_init_245 (by decide) ?_
  replace h := its h
  obtain ⟨c82, h⟩ := h
  refine wo_newaS (t := 0) (ty := .int) (atype := .int) (N' := 300) (a0 := (300, .inl (fun _ => 0))) hx hb (hts (.arrayClass .int) (gt_of (i := 78) (by decide +kernel) (by decide +kernel))) rfl hK hW hZ.2.1 rfl rfl (na_0 _) (by decide +kernel) (by decide +kernel) (by decide +kernel) (kC_new hZ.2.2.2.2.1 c82) (kS_new hZ.2.2.2.2.1 c82 (by decide)) d_q_init_248 (fun H hsn hWn => ?_)
  have hle := hZ.2.2.2.2.1
  replace hZ := wz_new hZ hsn hWn
  replace h := bs h
  obtain ⟨w83, hw83, h⟩ := h
  rw [Option.some.inj hw83] at hZ
  have hW := hZ.1
  refine W.widen (k := (((((((((((((((((((((((((((z0 + 1) + 1) + 1) + 1) + 1) + 1) + 1) + 1) + 1) + 1) + 1) + 1) + 1) + 1) + 1) + 1) + 1) + 1) + 1) + 1) + 1) + 1) + 1) + 1) + 1) + 1) + 1) - z0) (n := kS ((((((((((((((((((((((((((((z0 + 1) + 1) + 1) + 1) + 1) + 1) + 1) + 1) + 1) + 1) + 1) + 1) + 1) + 1) + 1) + 1) + 1) + 1) + 1) + 1) + 1) + 1) + 1) + 1) + 1) + 1) + 1) - z0)) (kC_step hle) (kS_step hle (by decide)) ?_
  replace h := bs h
  obtain ⟨w84, hw84, h⟩ := h
  refine pf_q_99 hx hb hts hown hK hG hW hnm rfl rfl (pbi hw84 rfl) d_q_init_250 (fun H locs hW => ?_)
  refine wz_back hZ (fun q g => pv_dom hw84 g) hW (fun hZ => ?_)
  have hW := hZ.1
  refine lv_aload_n hx hb d_q_init_253 rfl (lv_at hl 0 rfl) ?_
  refine lv_bipush (v := (6 : Int32)) hx hb d_q_init_254 (by decide) ?_
  replace h := its h
  obtain ⟨c85, h⟩ := h
  refine wo_newaS (t := 0) (ty := .int) (atype := .int) (N' := 6) (a0 := (6, .inl (fun _ => 0))) hx hb (hts (.arrayClass .int) (gt_of (i := 78) (by decide +kernel) (by decide +kernel))) rfl hK hW hZ.2.1 rfl rfl (na_0 _) (by decide +kernel) (by decide +kernel) (by decide +kernel) (kC_new hZ.2.2.2.2.1 c85) (kS_new hZ.2.2.2.2.1 c85 (by decide)) d_q_init_256 (fun H hsn hWn => ?_)
  have hle := hZ.2.2.2.2.1
  replace hZ := wz_new hZ hsn hWn
  replace h := bs h
  obtain ⟨w86, hw86, h⟩ := h
  rw [Option.some.inj hw86] at hZ
  have hW := hZ.1
  refine W.widen (k := ((((((((((((((((((((((((((((z0 + 1) + 1) + 1) + 1) + 1) + 1) + 1) + 1) + 1) + 1) + 1) + 1) + 1) + 1) + 1) + 1) + 1) + 1) + 1) + 1) + 1) + 1) + 1) + 1) + 1) + 1) + 1) + 1) - z0) (n := kS (((((((((((((((((((((((((((((z0 + 1) + 1) + 1) + 1) + 1) + 1) + 1) + 1) + 1) + 1) + 1) + 1) + 1) + 1) + 1) + 1) + 1) + 1) + 1) + 1) + 1) + 1) + 1) + 1) + 1) + 1) + 1) + 1) - z0)) (kC_step hle) (kS_step hle (by decide)) ?_
  replace h := bs h
  obtain ⟨w87, hw87, h⟩ := h
  refine pf_q_102 hx hb hts hown hK hG hW hnm rfl rfl (pbi hw87 rfl) d_q_init_258 (fun H locs hW => ?_)
  refine wz_back hZ (fun q g => pv_dom hw87 g) hW (fun hZ => ?_)
  have hW := hZ.1
  refine lv_aload_n hx hb d_q_init_261 rfl (lv_at hl 0 rfl) ?_
  refine lv_bipush (v := (8 : Int32)) hx hb d_q_init_262 (by decide) ?_
  replace h := its h
  obtain ⟨c88, h⟩ := h
  refine wo_newaS (t := 0) (ty := .int) (atype := .int) (N' := 8) (a0 := (8, .inl (fun _ => 0))) hx hb (hts (.arrayClass .int) (gt_of (i := 78) (by decide +kernel) (by decide +kernel))) rfl hK hW hZ.2.1 rfl rfl (na_0 _) (by decide +kernel) (by decide +kernel) (by decide +kernel) (kC_new hZ.2.2.2.2.1 c88) (kS_new hZ.2.2.2.2.1 c88 (by decide)) d_q_init_264 (fun H hsn hWn => ?_)
  have hle := hZ.2.2.2.2.1
  replace hZ := wz_new hZ hsn hWn
  replace h := bs h
  obtain ⟨w89, hw89, h⟩ := h
  rw [Option.some.inj hw89] at hZ
  have hW := hZ.1
  refine W.widen (k := (((((((((((((((((((((((((((((z0 + 1) + 1) + 1) + 1) + 1) + 1) + 1) + 1) + 1) + 1) + 1) + 1) + 1) + 1) + 1) + 1) + 1) + 1) + 1) + 1) + 1) + 1) + 1) + 1) + 1) + 1) + 1) + 1) + 1) - z0) (n := kS ((((((((((((((((((((((((((((((z0 + 1) + 1) + 1) + 1) + 1) + 1) + 1) + 1) + 1) + 1) + 1) + 1) + 1) + 1) + 1) + 1) + 1) + 1) + 1) + 1) + 1) + 1) + 1) + 1) + 1) + 1) + 1) + 1) + 1) - z0)) (kC_step hle) (kS_step hle (by decide)) ?_
  replace h := bs h
  obtain ⟨w90, hw90, h⟩ := h
  refine pf_q_105 hx hb hts hown hK hG hW hnm rfl rfl (pbi hw90 rfl) d_q_init_266 (fun H locs hW => ?_)
  refine wz_back hZ (fun q g => pv_dom hw90 g) hW (fun hZ => ?_)
  have hW := hZ.1
  refine lv_aload_n hx hb d_q_init_269 rfl (lv_at hl 0 rfl) ?_
  refine lv_bipush (v := (120 : Int32)) hx hb d_q_init_270 (by decide) ?_
  replace h := its h
  obtain ⟨c91, h⟩ := h
  refine wo_newaS (t := 0) (ty := .int) (atype := .int) (N' := 120) (a0 := (120, .inl (fun _ => 0))) hx hb (hts (.arrayClass .int) (gt_of (i := 78) (by decide +kernel) (by decide +kernel))) rfl hK hW hZ.2.1 rfl rfl (na_0 _) (by decide +kernel) (by decide +kernel) (by decide +kernel) (kC_new hZ.2.2.2.2.1 c91) (kS_new hZ.2.2.2.2.1 c91 (by decide)) d_q_init_272 (fun H hsn hWn => ?_)
  have hle := hZ.2.2.2.2.1
  replace hZ := wz_new hZ hsn hWn
  replace h := bs h
  obtain ⟨w92, hw92, h⟩ := h
  rw [Option.some.inj hw92] at hZ
  have hW := hZ.1
  refine W.widen (k := ((((((((((((((((((((((((((((((z0 + 1) + 1) + 1) + 1) + 1) + 1) + 1) + 1) + 1) + 1) + 1) + 1) + 1) + 1) + 1) + 1) + 1) + 1) + 1) + 1) + 1) + 1) + 1) + 1) + 1) + 1) + 1) + 1) + 1) + 1) - z0) (n := kS (((((((((((((((((((((((((((((((z0 + 1) + 1) + 1) + 1) + 1) + 1) + 1) + 1) + 1) + 1) + 1) + 1) + 1) + 1) + 1) + 1) + 1) + 1) + 1) + 1) + 1) + 1) + 1) + 1) + 1) + 1) + 1) + 1) + 1) + 1) - z0)) (kC_step hle) (kS_step hle (by decide)) ?_
  replace h := bs h
  obtain ⟨w93, hw93, h⟩ := h
  refine pf_q_108 hx hb hts hown hK hG hW hnm rfl rfl (pbi hw93 rfl) d_q_init_274 (fun H locs hW => ?_)
  refine wz_back hZ (fun q g => pv_dom hw93 g) hW (fun hZ => ?_)
  have hW := hZ.1
  refine lv_aload_n hx hb d_q_init_277 rfl (lv_at hl 0 rfl) ?_
  refine lv_bipush (v := (8 : Int32)) hx hb d_q_init_278 (by decide) ?_
  replace h := its h
  obtain ⟨c94, h⟩ := h
  refine wo_newaS (t := 0) (ty := .int) (atype := .int) (N' := 8) (a0 := (8, .inl (fun _ => 0))) hx hb (hts (.arrayClass .int) (gt_of (i := 78) (by decide +kernel) (by decide +kernel))) rfl hK hW hZ.2.1 rfl rfl (na_0 _) (by decide +kernel) (by decide +kernel) (by decide +kernel) (kC_new hZ.2.2.2.2.1 c94) (kS_new hZ.2.2.2.2.1 c94 (by decide)) d_q_init_280 (fun H hsn hWn => ?_)
  have hle := hZ.2.2.2.2.1
  replace hZ := wz_new hZ hsn hWn
  replace h := bs h
  obtain ⟨w95, hw95, h⟩ := h
  rw [Option.some.inj hw95] at hZ
  have hW := hZ.1
  refine W.widen (k := (((((((((((((((((((((((((((((((z0 + 1) + 1) + 1) + 1) + 1) + 1) + 1) + 1) + 1) + 1) + 1) + 1) + 1) + 1) + 1) + 1) + 1) + 1) + 1) + 1) + 1) + 1) + 1) + 1) + 1) + 1) + 1) + 1) + 1) + 1) + 1) - z0) (n := kS ((((((((((((((((((((((((((((((((z0 + 1) + 1) + 1) + 1) + 1) + 1) + 1) + 1) + 1) + 1) + 1) + 1) + 1) + 1) + 1) + 1) + 1) + 1) + 1) + 1) + 1) + 1) + 1) + 1) + 1) + 1) + 1) + 1) + 1) + 1) + 1) - z0)) (kC_step hle) (kS_step hle (by decide)) ?_
  replace h := bs h
  obtain ⟨w96, hw96, h⟩ := h
  refine pf_q_111 hx hb hts hown hK hG hW hnm rfl rfl (pbi hw96 rfl) d_q_init_282 (fun H locs hW => ?_)
  refine wz_back hZ (fun q g => pv_dom hw96 g) hW (fun hZ => ?_)
  have hW := hZ.1
  refine lv_aload_n hx hb d_q_init_285 rfl (lv_at hl 0 rfl) ?_
  refine lv_bipush (v := (6 : Int32)) hx hb d_q_init_286 (by decide) ?_
  replace h := its h
  obtain ⟨c97, h⟩ := h
  refine wo_newaS (t := 2) (ty := .boolean) (atype := .boolean) (N' := 6) (a0 := (6, .inl (fun _ => 0))) hx hb (hts (.arrayClass .boolean) (gt_of (i := 241) (by decide +kernel) (by decide +kernel))) rfl hK hW hZ.2.1 rfl rfl (na_2 _) (by decide +kernel) (by decide +kernel) (by decide +kernel) (kC_new hZ.2.2.2.2.1 c97) (kS_new hZ.2.2.2.2.1 c97 (by decide)) d_q_init_288 (fun H hsn hWn => ?_)
  have hle := hZ.2.2.2.2.1
  replace hZ := wz_new hZ hsn hWn
  replace h := bs h
  obtain ⟨w98, hw98, h⟩ := h
  rw [Option.some.inj hw98] at hZ
  have hW := hZ.1
  refine W.widen (k := ((((((((((((((((((((((((((((((((z0 + 1) + 1) + 1) + 1) + 1) + 1) + 1) + 1) + 1) + 1) + 1) + 1) + 1) + 1) + 1) + 1) + 1) + 1) + 1) + 1) + 1) + 1) + 1) + 1) + 1) + 1) + 1) + 1) + 1) + 1) + 1) + 1) - z0) (n := kS (((((((((((((((((((((((((((((((((z0 + 1) + 1) + 1) + 1) + 1) + 1) + 1) + 1) + 1) + 1) + 1) + 1) + 1) + 1) + 1) + 1) + 1) + 1) + 1) + 1) + 1) + 1) + 1) + 1) + 1) + 1) + 1) + 1) + 1) + 1) + 1) + 1) - z0)) (kC_step hle) (kS_step hle (by decide)) ?_
  replace h := bs h
  obtain ⟨w99, hw99, h⟩ := h
  refine pf_q_114 hx hb hts hown hK hG hW hnm rfl rfl (pbi hw99 rfl) d_q_init_290 (fun H locs hW => ?_)
  refine wz_back hZ (fun q g => pv_dom hw99 g) hW (fun hZ => ?_)
  have hW := hZ.1
  refine lv_aload_n hx hb d_q_init_293 rfl (lv_at hl 0 rfl) ?_
  refine lv_sipush (v := (360 : Int32)) hx hb d_q_init_294 (by decide) ?_
  replace h := its h
  obtain ⟨c100, h⟩ := h
  refine wo_newaS (t := 1) (ty := .long) (atype := .long) (N' := 360) (a0 := (360, .inr (.inl (fun _ => 0)))) hx hb (hts (.arrayClass .long) (gt_of (i := 1364) (by decide +kernel) (by decide +kernel))) rfl hK hW hZ.2.1 rfl rfl (na_1 _) (by decide +kernel) (by decide +kernel) (by decide +kernel) (kC_new hZ.2.2.2.2.1 c100) (kS_new hZ.2.2.2.2.1 c100 (by decide)) d_q_init_297 (fun H hsn hWn => ?_)
  have hle := hZ.2.2.2.2.1
  replace hZ := wz_new hZ hsn hWn
  replace h := bs h
  obtain ⟨w101, hw101, h⟩ := h
  rw [Option.some.inj hw101] at hZ
  have hW := hZ.1
  refine W.widen (k := (((((((((((((((((((((((((((((((((z0 + 1) + 1) + 1) + 1) + 1) + 1) + 1) + 1) + 1) + 1) + 1) + 1) + 1) + 1) + 1) + 1) + 1) + 1) + 1) + 1) + 1) + 1) + 1) + 1) + 1) + 1) + 1) + 1) + 1) + 1) + 1) + 1) + 1) - z0) (n := kS ((((((((((((((((((((((((((((((((((z0 + 1) + 1) + 1) + 1) + 1) + 1) + 1) + 1) + 1) + 1) + 1) + 1) + 1) + 1) + 1) + 1) + 1) + 1) + 1) + 1) + 1) + 1) + 1) + 1) + 1) + 1) + 1) + 1) + 1) + 1) + 1) + 1) + 1) - z0)) (kC_step hle) (kS_step hle (by decide)) ?_
  replace h := bs h
  obtain ⟨w102, hw102, h⟩ := h
  refine pf_q_117 hx hb hts hown hK hG hW hnm rfl rfl (pbi hw102 rfl) d_q_init_299 (fun H locs hW => ?_)
  refine wz_back hZ (fun q g => pv_dom hw102 g) hW (fun hZ => ?_)
  have hW := hZ.1
  refine lv_aload_n hx hb d_q_init_302 rfl (lv_at hl 0 rfl) ?_
  refine lv_sipush (v := (360 : Int32)) hx hb d_q_init_303 (by decide) ?_
  replace h := its h
  obtain ⟨c103, h⟩ := h
  refine wo_newaS (t := 1) (ty := .long) (atype := .long) (N' := 360) (a0 := (360, .inr (.inl (fun _ => 0)))) hx hb (hts (.arrayClass .long) (gt_of (i := 1364) (by decide +kernel) (by decide +kernel))) rfl hK hW hZ.2.1 rfl rfl (na_1 _) (by decide +kernel) (by decide +kernel) (by decide +kernel) (kC_new hZ.2.2.2.2.1 c103) (kS_new hZ.2.2.2.2.1 c103 (by decide)) d_q_init_306 (fun H hsn hWn => ?_)
  have hle := hZ.2.2.2.2.1
  replace hZ := wz_new hZ hsn hWn
  replace h := bs h
  obtain ⟨w104, hw104, h⟩ := h
  rw [Option.some.inj hw104] at hZ
  have hW := hZ.1
  refine W.widen (k := ((((((((((((((((((((((((((((((((((z0 + 1) + 1) + 1) + 1) + 1) + 1) + 1) + 1) + 1) + 1) + 1) + 1) + 1) + 1) + 1) + 1) + 1) + 1) + 1) + 1) + 1) + 1) + 1) + 1) + 1) + 1) + 1) + 1) + 1) + 1) + 1) + 1) + 1) + 1) - z0) (n := kS (((((((((((((((((((((((((((((((((((z0 + 1) + 1) + 1) + 1) + 1) + 1) + 1) + 1) + 1) + 1) + 1) + 1) + 1) + 1) + 1) + 1) + 1) + 1) + 1) + 1) + 1) + 1) + 1) + 1) + 1) + 1) + 1) + 1) + 1) + 1) + 1) + 1) + 1) + 1) - z0)) (kC_step hle) (kS_step hle (by decide)) ?_
  replace h := bs h
  obtain ⟨w105, hw105, h⟩ := h
  refine pf_q_121 hx hb hts hown hK hG hW hnm rfl rfl (pbi hw105 rfl) d_q_init_308 (fun H locs hW => ?_)
  refine wz_back hZ (fun q g => pv_dom hw105 g) hW (fun hZ => ?_)
  have hW := hZ.1
  refine lv_aload_n hx hb d_q_init_311 rfl (lv_at hl 0 rfl) ?_
  refine lv_sipush (v := (360 : Int32)) hx hb d_q_init_312 (by decide) ?_
  replace h := its h
  obtain ⟨c106, h⟩ := h
  refine wo_newaS (t := 1) (ty := .long) (atype := .long) (N' := 360) (a0 := (360, .inr (.inl (fun _ => 0)))) hx hb (hts (.arrayClass .long) (gt_of (i := 1364) (by decide +kernel) (by decide +kernel))) rfl hK hW hZ.2.1 rfl rfl (na_1 _) (by decide +kernel) (by decide +kernel) (by decide +kernel) (kC_new hZ.2.2.2.2.1 c106) (kS_new hZ.2.2.2.2.1 c106 (by decide)) d_q_init_315 (fun H hsn hWn => ?_)
  have hle := hZ.2.2.2.2.1
  replace hZ := wz_new hZ hsn hWn
  replace h := bs h
  obtain ⟨w107, hw107, h⟩ := h
  rw [Option.some.inj hw107] at hZ
  have hW := hZ.1
  refine W.widen (k := (((((((((((((((((((((((((((((((((((z0 + 1) + 1) + 1) + 1) + 1) + 1) + 1) + 1) + 1) + 1) + 1) + 1) + 1) + 1) + 1) + 1) + 1) + 1) + 1) + 1) + 1) + 1) + 1) + 1) + 1) + 1) + 1) + 1) + 1) + 1) + 1) + 1) + 1) + 1) + 1) - z0) (n := kS ((((((((((((((((((((((((((((((((((((z0 + 1) + 1) + 1) + 1) + 1) + 1) + 1) + 1) + 1) + 1) + 1) + 1) + 1) + 1) + 1) + 1) + 1) + 1) + 1) + 1) + 1) + 1) + 1) + 1) + 1) + 1) + 1) + 1) + 1) + 1) + 1) + 1) + 1) + 1) + 1) - z0)) (kC_step hle) (kS_step hle (by decide)) ?_
  replace h := bs h
  obtain ⟨w108, hw108, h⟩ := h
  refine pf_q_124 hx hb hts hown hK hG hW hnm rfl rfl (pbi hw108 rfl) d_q_init_317 (fun H locs hW => ?_)
  refine wz_back hZ (fun q g => pv_dom hw108 g) hW (fun hZ => ?_)
  have hW := hZ.1
  refine lv_aload_n hx hb d_q_init_320 rfl (lv_at hl 0 rfl) ?_
  refine lv_sipush (v := (360 : Int32)) hx hb d_q_init_321 (by decide) ?_
  replace h := its h
  obtain ⟨c109, h⟩ := h
  refine wo_newaS (t := 1) (ty := .long) (atype := .long) (N' := 360) (a0 := (360, .inr (.inl (fun _ => 0)))) hx hb (hts (.arrayClass .long) (gt_of (i := 1364) (by decide +kernel) (by decide +kernel))) rfl hK hW hZ.2.1 rfl rfl (na_1 _) (by decide +kernel) (by decide +kernel) (by decide +kernel) (kC_new hZ.2.2.2.2.1 c109) (kS_new hZ.2.2.2.2.1 c109 (by decide)) d_q_init_324 (fun H hsn hWn => ?_)
  have hle := hZ.2.2.2.2.1
  replace hZ := wz_new hZ hsn hWn
  replace h := bs h
  obtain ⟨w110, hw110, h⟩ := h
  rw [Option.some.inj hw110] at hZ
  have hW := hZ.1
  refine W.widen (k := ((((((((((((((((((((((((((((((((((((z0 + 1) + 1) + 1) + 1) + 1) + 1) + 1) + 1) + 1) + 1) + 1) + 1) + 1) + 1) + 1) + 1) + 1) + 1) + 1) + 1) + 1) + 1) + 1) + 1) + 1) + 1) + 1) + 1) + 1) + 1) + 1) + 1) + 1) + 1) + 1) + 1) - z0) (n := kS (((((((((((((((((((((((((((((((((((((z0 + 1) + 1) + 1) + 1) + 1) + 1) + 1) + 1) + 1) + 1) + 1) + 1) + 1) + 1) + 1) + 1) + 1) + 1) + 1) + 1) + 1) + 1) + 1) + 1) + 1) + 1) + 1) + 1) + 1) + 1) + 1) + 1) + 1) + 1) + 1) + 1) - z0)) (kC_step hle) (kS_step hle (by decide)) ?_
  replace h := bs h
  obtain ⟨w111, hw111, h⟩ := h
  refine pf_q_127 hx hb hts hown hK hG hW hnm rfl rfl (pbi hw111 rfl) d_q_init_326 (fun H locs hW => ?_)
  refine wz_back hZ (fun q g => pv_dom hw111 g) hW (fun hZ => ?_)
  have hW := hZ.1
  refine lv_aload_n hx hb d_q_init_329 rfl (lv_at hl 0 rfl) ?_
  refine lv_bipush (v := (96 : Int32)) hx hb d_q_init_330 (by decide) ?_
  replace h := its h
  obtain ⟨c112, h⟩ := h
  refine wo_newaS (t := 2) (ty := .boolean) (atype := .boolean) (N' := 96) (a0 := (96, .inl (fun _ => 0))) hx hb (hts (.arrayClass .boolean) (gt_of (i := 241) (by decide +kernel) (by decide +kernel))) rfl hK hW hZ.2.1 rfl rfl (na_2 _) (by decide +kernel) (by decide +kernel) (by decide +kernel) (kC_new hZ.2.2.2.2.1 c112) (kS_new hZ.2.2.2.2.1 c112 (by decide)) d_q_init_332 (fun H hsn hWn => ?_)
  have hle := hZ.2.2.2.2.1
  replace hZ := wz_new hZ hsn hWn
  replace h := bs h
  obtain ⟨w113, hw113, h⟩ := h
  rw [Option.some.inj hw113] at hZ
  have hW := hZ.1
  refine W.widen (k := (((((((((((((((((((((((((((((((((((((z0 + 1) + 1) + 1) + 1) + 1) + 1) + 1) + 1) + 1) + 1) + 1) + 1) + 1) + 1) + 1) + 1) + 1) + 1) + 1) + 1) + 1) + 1) + 1) + 1) + 1) + 1) + 1) + 1) + 1) + 1) + 1) + 1) + 1) + 1) + 1) + 1) + 1) - z0) (n := kS ((((((((((((((((((((((((((((((((((((((z0 + 1) + 1) + 1) + 1) + 1) + 1) + 1) + 1) + 1) + 1) + 1) + 1) + 1) + 1) + 1) + 1) + 1) + 1) + 1) + 1) + 1) + 1) + 1) + 1) + 1) + 1) + 1) + 1) + 1) + 1) + 1) + 1) + 1) + 1) + 1) + 1) + 1) - z0)) (kC_step hle) (kS_step hle (by decide)) ?_
  replace h := bs h
  obtain ⟨w114, hw114, h⟩ := h
  refine pf_q_130 hx hb hts hown hK hG hW hnm rfl rfl (pbi hw114 rfl) d_q_init_334 (fun H locs hW => ?_)
  refine wz_back hZ (fun q g => pv_dom hw114 g) hW (fun hZ => ?_)
  have hW := hZ.1
  refine lv_aload_n hx hb d_q_init_337 rfl (lv_at hl 0 rfl) ?_
  refine lv_bipush (v := (16 : Int32)) hx hb d_q_init_338 (by decide) ?_
  replace h := its h
  obtain ⟨c115, h⟩ := h
  refine wo_newaS (t := 2) (ty := .boolean) (atype := .boolean) (N' := 16) (a0 := (16, .inl (fun _ => 0))) hx hb (hts (.arrayClass .boolean) (gt_of (i := 241) (by decide +kernel) (by decide +kernel))) rfl hK hW hZ.2.1 rfl rfl (na_2 _) (by decide +kernel) (by decide +kernel) (by decide +kernel) (kC_new hZ.2.2.2.2.1 c115) (kS_new hZ.2.2.2.2.1 c115 (by decide)) d_q_init_340 (fun H hsn hWn => ?_)
  have hle := hZ.2.2.2.2.1
  replace hZ := wz_new hZ hsn hWn
  replace h := bs h
  obtain ⟨w116, hw116, h⟩ := h
  rw [Option.some.inj hw116] at hZ
  have hW := hZ.1
  refine W.widen (k := ((((((((((((((((((((((((((((((((((((((z0 + 1) + 1) + 1) + 1) + 1) + 1) + 1) + 1) + 1) + 1) + 1) + 1) + 1) + 1) + 1) + 1) + 1) + 1) + 1) + 1) + 1) + 1) + 1) + 1) + 1) + 1) + 1) + 1) + 1) + 1) + 1) + 1) + 1) + 1) + 1) + 1) + 1) + 1) - z0) (n := kS (((((((((((((((((((((((((((((((((((((((z0 + 1) + 1) + 1) + 1) + 1) + 1) + 1) + 1) + 1) + 1) + 1) + 1) + 1) + 1) + 1) + 1) + 1) + 1) + 1) + 1) + 1) + 1) + 1) + 1) + 1) + 1) + 1) + 1) + 1) + 1) + 1) + 1) + 1) + 1) + 1) + 1) + 1) + 1) - z0)) (kC_step hle) (kS_step hle (by decide)) ?_
  replace h := bs h
  obtain ⟨w117, hw117, h⟩ := h
  refine pf_q_133 hx hb hts hown hK hG hW hnm rfl rfl (pbi hw117 rfl) d_q_init_342 (fun H locs hW => ?_)
  refine wz_back hZ (fun q g => pv_dom hw117 g) hW (fun hZ => ?_)
  have hW := hZ.1
  refine lv_aload_n hx hb d_q_init_345 rfl (lv_at hl 0 rfl) ?_
  refine lv_sipush (v := (1200 : Int32)) hx hb d_q_init_346 (by decide) ?_
  replace h := its h
  obtain ⟨c118, h⟩ := h
  refine wo_newaS (t := 2) (ty := .boolean) (atype := .boolean) (N' := 1200) (a0 := (1200, .inl (fun _ => 0))) hx hb (hts (.arrayClass .boolean) (gt_of (i := 241) (by decide +kernel) (by decide +kernel))) rfl hK hW hZ.2.1 rfl rfl (na_2 _) (by decide +kernel) (by decide +kernel) (by decide +kernel) (kC_new hZ.2.2.2.2.1 c118) (kS_new hZ.2.2.2.2.1 c118 (by decide)) d_q_init_349 (fun H hsn hWn => ?_)
  have hle := hZ.2.2.2.2.1
  replace hZ := wz_new hZ hsn hWn
  replace h := bs h
  obtain ⟨w119, hw119, h⟩ := h
  rw [Option.some.inj hw119] at hZ
  have hW := hZ.1
  refine W.widen (k := (((((((((((((((((((((((((((((((((((((((z0 + 1) + 1) + 1) + 1) + 1) + 1) + 1) + 1) + 1) + 1) + 1) + 1) + 1) + 1) + 1) + 1) + 1) + 1) + 1) + 1) + 1) + 1) + 1) + 1) + 1) + 1) + 1) + 1) + 1) + 1) + 1) + 1) + 1) + 1) + 1) + 1) + 1) + 1) + 1) - z0) (n := kS ((((((((((((((((((((((((((((((((((((((((z0 + 1) + 1) + 1) + 1) + 1) + 1) + 1) + 1) + 1) + 1) + 1) + 1) + 1) + 1) + 1) + 1) + 1) + 1) + 1) + 1) + 1) + 1) + 1) + 1) + 1) + 1) + 1) + 1) + 1) + 1) + 1) + 1) + 1) + 1) + 1) + 1) + 1) + 1) + 1) - z0)) (kC_step hle) (kS_step hle (by decide)) ?_
  replace h := bs h
  obtain ⟨w120, hw120, h⟩ := h
  refine pf_q_136 hx hb hts hown hK hG hW hnm rfl rfl (pbi hw120 rfl) d_q_init_351 (fun H locs hW => ?_)
  refine wz_back hZ (fun q g => pv_dom hw120 g) hW (fun hZ => ?_)
  have hW := hZ.1
  refine lv_aload_n hx hb d_q_init_354 rfl (lv_at hl 0 rfl) ?_
  refine lv_bipush (v := (8 : Int32)) hx hb d_q_init_355 (by decide) ?_
  replace h := its h
  obtain ⟨c121, h⟩ := h
  refine wo_newaS (t := 0) (ty := .int) (atype := .int) (N' := 8) (a0 := (8, .inl (fun _ => 0))) hx hb (hts (.arrayClass .int) (gt_of (i := 78) (by decide +kernel) (by decide +kernel))) rfl hK hW hZ.2.1 rfl rfl (na_0 _) (by decide +kernel) (by decide +kernel) (by decide +kernel) (kC_new hZ.2.2.2.2.1 c121) (kS_new hZ.2.2.2.2.1 c121 (by decide)) d_q_init_357 (fun H hsn hWn => ?_)
  have hle := hZ.2.2.2.2.1
  replace hZ := wz_new hZ hsn hWn
  replace h := bs h
  obtain ⟨w122, hw122, h⟩ := h
  rw [Option.some.inj hw122] at hZ
  have hW := hZ.1
  refine W.widen (k := ((((((((((((((((((((((((((((((((((((((((z0 + 1) + 1) + 1) + 1) + 1) + 1) + 1) + 1) + 1) + 1) + 1) + 1) + 1) + 1) + 1) + 1) + 1) + 1) + 1) + 1) + 1) + 1) + 1) + 1) + 1) + 1) + 1) + 1) + 1) + 1) + 1) + 1) + 1) + 1) + 1) + 1) + 1) + 1) + 1) + 1) - z0) (n := kS (((((((((((((((((((((((((((((((((((((((((z0 + 1) + 1) + 1) + 1) + 1) + 1) + 1) + 1) + 1) + 1) + 1) + 1) + 1) + 1) + 1) + 1) + 1) + 1) + 1) + 1) + 1) + 1) + 1) + 1) + 1) + 1) + 1) + 1) + 1) + 1) + 1) + 1) + 1) + 1) + 1) + 1) + 1) + 1) + 1) + 1) - z0)) (kC_step hle) (kS_step hle (by decide)) ?_
  replace h := bs h
  obtain ⟨w123, hw123, h⟩ := h
  refine pf_q_139 hx hb hts hown hK hG hW hnm rfl rfl (pbi hw123 rfl) d_q_init_359 (fun H locs hW => ?_)
  refine wz_back hZ (fun q g => pv_dom hw123 g) hW (fun hZ => ?_)
  have hW := hZ.1
  refine lv_aload_n hx hb d_q_init_362 rfl (lv_at hl 0 rfl) ?_
  refine lv_bipush (v := (8 : Int32)) hx hb d_q_init_363 (by decide) ?_
  replace h := its h
  obtain ⟨c124, h⟩ := h
  refine wo_newaS (t := 0) (ty := .int) (atype := .int) (N' := 8) (a0 := (8, .inl (fun _ => 0))) hx hb (hts (.arrayClass .int) (gt_of (i := 78) (by decide +kernel) (by decide +kernel))) rfl hK hW hZ.2.1 rfl rfl (na_0 _) (by decide +kernel) (by decide +kernel) (by decide +kernel) (kC_new hZ.2.2.2.2.1 c124) (kS_new hZ.2.2.2.2.1 c124 (by decide)) d_q_init_365 (fun H hsn hWn => ?_)
  have hle := hZ.2.2.2.2.1
  replace hZ := wz_new hZ hsn hWn
  replace h := bs h
  obtain ⟨w125, hw125, h⟩ := h
  rw [Option.some.inj hw125] at hZ
  have hW := hZ.1
  refine W.widen (k := (((((((((((((((((((((((((((((((((((((((((z0 + 1) + 1) + 1) + 1) + 1) + 1) + 1) + 1) + 1) + 1) + 1) + 1) + 1) + 1) + 1) + 1) + 1) + 1) + 1) + 1) + 1) + 1) + 1) + 1) + 1) + 1) + 1) + 1) + 1) + 1) + 1) + 1) + 1) + 1) + 1) + 1) + 1) + 1) + 1) + 1) + 1) - z0) (n := kS ((((((((((((((((((((((((((((((((((((((((((z0 + 1) + 1) + 1) + 1) + 1) + 1) + 1) + 1) + 1) + 1) + 1) + 1) + 1) + 1) + 1) + 1) + 1) + 1) + 1) + 1) + 1) + 1) + 1) + 1) + 1) + 1) + 1) + 1) + 1) + 1) + 1) + 1) + 1) + 1) + 1) + 1) + 1) + 1) + 1) + 1) + 1) - z0)) (kC_step hle) (kS_step hle (by decide)) ?_
  replace h := bs h
  obtain ⟨w126, hw126, h⟩ := h
  refine pf_q_142 hx hb hts hown hK hG hW hnm rfl rfl (pbi hw126 rfl) d_q_init_367 (fun H locs hW => ?_)
  refine wz_back hZ (fun q g => pv_dom hw126 g) hW (fun hZ => ?_)
  have hW := hZ.1
  refine lv_aload_n hx hb d_q_init_370 rfl (lv_at hl 0 rfl) ?_
  refine lv_bipush (v := (8 : Int32)) hx hb d_q_init_371 (by decide) ?_
  replace h := its h
  obtain ⟨c127, h⟩ := h
  refine wo_newaS (t := 0) (ty := .int) (atype := .int) (N' := 8) (a0 := (8, .inl (fun _ => 0))) hx hb (hts (.arrayClass .int) (gt_of (i := 78) (by decide +kernel) (by decide +kernel))) rfl hK hW hZ.2.1 rfl rfl (na_0 _) (by decide +kernel) (by decide +kernel) (by decide +kernel) (kC_new hZ.2.2.2.2.1 c127) (kS_new hZ.2.2.2.2.1 c127 (by decide)) d_q_init_373 (fun H hsn hWn => ?_)
  have hle := hZ.2.2.2.2.1
  replace hZ := wz_new hZ hsn hWn
  replace h := bs h
  obtain ⟨w128, hw128, h⟩ := h
  rw [Option.some.inj hw128] at hZ
  have hW := hZ.1
  refine W.widen (k := ((((((((((((((((((((((((((((((((((((((((((z0 + 1) + 1) + 1) + 1) + 1) + 1) + 1) + 1) + 1) + 1) + 1) + 1) + 1) + 1) + 1) + 1) + 1) + 1) + 1) + 1) + 1) + 1) + 1) + 1) + 1) + 1) + 1) + 1) + 1) + 1) + 1) + 1) + 1) + 1) + 1) + 1) + 1) + 1) + 1) + 1) + 1) + 1) - z0) (n := kS (((((((((((((((((((((((((((((((((((((((((((z0 + 1) + 1) + 1) + 1) + 1) + 1) + 1) + 1) + 1) + 1) + 1) + 1) + 1) + 1) + 1) + 1) + 1) + 1) + 1) + 1) + 1) + 1) + 1) + 1) + 1) + 1) + 1) + 1) + 1) + 1) + 1) + 1) + 1) + 1) + 1) + 1) + 1) + 1) + 1) + 1) + 1) + 1) - z0)) (kC_step hle) (kS_step hle (by decide)) ?_
  replace h := bs h
  obtain ⟨w129, hw129, h⟩ := h
  refine pf_q_145 hx hb hts hown hK hG hW hnm rfl rfl (pbi hw129 rfl) d_q_init_375 (fun H locs hW => ?_)
  refine wz_back hZ (fun q g => pv_dom hw129 g) hW (fun hZ => ?_)
  have hW := hZ.1
  refine lv_aload_n hx hb d_q_init_378 rfl (lv_at hl 0 rfl) ?_
  replace h := bs h
  obtain ⟨x130, hx130, h⟩ := h
  refine gf_q_63 hx hb hts hown hK hG hW (gN_s hx130) d_q_init_379 ?_
  refine lv_iconst (v := (0 : Int32)) hx hb d_q_init_382 (by decide) ?_
  refine lv_iconst (v := (-1 : Int32)) hx hb d_q_init_383 (by decide) ?_
  replace h := bs h
  obtain ⟨w131, hw131, h⟩ := h
  refine wo_iast hx hb hK hW (t := 0) rfl hw131 d_q_init_384 (fun H locs hW => ?_)
  refine wz_back hZ (fun q g => sI_dom hw131 g) hW (fun hZ => ?_)
  have hW := hZ.1
  refine lv_iconst (v := (0 : Int32)) hx hb d_q_init_385 (by decide) ?_
  refine lv_istore_n (lv' := [(1, .int (0 : Int32)), (0, .ref (base + a0))]) hx hb d_q_init_386 rfl hl (by decide) rfl (fun ls hl => ?_)
  exact j_q_init_387 C KK a0 (0 : Int32) ((((((((((((((((((((((((((((((((((((((((((z0 + 1) + 1) + 1) + 1) + 1) + 1) + 1) + 1) + 1) + 1) + 1) + 1) + 1) + 1) + 1) + 1) + 1) + 1) + 1) + 1) + 1) + 1) + 1) + 1) + 1) + 1) + 1) + 1) + 1) + 1) + 1) + 1) + 1) + 1) + 1) + 1) + 1) + 1) + 1) + 1) + 1) + 1) w131 h _ _ _ hZ (lv_sub hl [1, 0] rfl)
