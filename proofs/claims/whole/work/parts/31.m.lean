/-! Methods as functions, and their contracts (by wip/gen/run.py). -/
theorem cv_rd_35 {p : Program} {l : Launch} {e : Env} {R : Room} {s : State} {m : MethodId} {args : Array Value} {below : List Frame} {meth : Method} {c : Code} {H : Heap} {locs : List Loc} {cells slots : Nat} {Q : State → Prop} {D : va_G} {cA : Nat → ClassId} {base : Nat} {w w' : WW} {cc : ByteArray} {pc nL : Nat} {ls : Array Slot} {rest st0 As : List Value} {ov : Option Value} {b : Nat} (hx : p.tables.exec = Jvm.exec) (hb : c.code = cc) (hml : c.maxLocals = nL) (hown : s.vm.findClass Rc_rd = some m.cls) (hts : ∀ w ∈ gt, w.before args s = true) (hK : va_K D cls (wo_tys cA) s) (hG : wo_G base s) (hW : wo_S D cls cA base s w H locs) (hM : mt l D cls (wo_tys cA) cA base y_rd_readToken (Cond.code y_rd_readToken b_rd_readToken 1 (none) :: gt) rm_rd_readToken (.ref b :: As) w ov w' rm_rd_readToken.cells rm_rd_readToken.slots) (hkb : kb w b 1 = true) (hR : rm_rd_readToken.frames + 1 ≤ R.frames ∧ 8 + (1 + 11) + rm_rd_readToken.locals ≤ R.locals) (hf : cells + rm_rd_readToken.cells ≤ R.cells ∧ slots + rm_rd_readToken.slots ≤ R.slots) (hn : As.length = 0) (hsz : ls.size = nL) (hst : st0 = As.reverse ++ .ref b :: rest) (hcat : (rest.map fun v => v.category).sum ≤ 8) (hdg : decode cc pc = .ok (.invokevirtual 35, 3)) (kk : ∀ (H1 : Heap) (locs1 : List Loc), wo_S D cls cA base s w' H1 locs1 → W p l e R s m args below meth c H1 locs1 (cells + rm_rd_readToken.cells) (slots + rm_rd_readToken.slots) Q (F0 m (pc + 3) ls (ov.toList ++ rest))) : W p l e R s m args below meth c H locs cells slots Q (F0 m pc ls st0) :=
  wo_callV (C := Rc_rd) hx hb hml hown hts hK hG hW hM hkb rfl (gt_of (i := 498) (by decide +kernel) (by decide +kernel)) (gt_of (i := 500) (by decide +kernel) (by decide +kernel)) (gt_sel (i := 1) (by decide +kernel) (by decide +kernel)) (gt_of (i := 3) (by decide +kernel) (by decide +kernel)) (gt_of (i := 501) (by decide +kernel) (by decide +kernel)) (by decide +kernel) hR hf hn hsz hst hcat hdg kk
abbrev b_rd_readAll : ByteArray := prog_5_method_3_code
def y_rd_readAll : MethodName := ⟨"AlarmForge$Reader", "readAll", "()V"⟩
def rm_rd_readAll : Room := { frames := 3, cells := 0, slots := 0, locals := 60 }
theorem d_rd_readAll_0 : decode b_rd_readAll 0 = .ok (.aload_n 0, 1) := by decide +kernel
theorem d_rd_readAll_1 : decode b_rd_readAll 1 = .ok (.iconst 0, 1) := by decide +kernel
theorem d_rd_readAll_2 : decode b_rd_readAll 2 = .ok (.putfield 29, 3) := by decide +kernel
theorem d_rd_readAll_5 : decode b_rd_readAll 5 = .ok (.aload_n 0, 1) := by decide +kernel
theorem d_rd_readAll_6 : decode b_rd_readAll 6 = .ok (.iconst 1, 1) := by decide +kernel
theorem d_rd_readAll_7 : decode b_rd_readAll 7 = .ok (.putfield 32, 3) := by decide +kernel
theorem d_rd_readAll_10 : decode b_rd_readAll 10 = .ok (.iconst 0, 1) := by decide +kernel
theorem d_rd_readAll_11 : decode b_rd_readAll 11 = .ok (.istore_n 1, 1) := by decide +kernel
theorem d_rd_readAll_12 : decode b_rd_readAll 12 = .ok (.iload_n 1, 1) := by decide +kernel
theorem d_rd_readAll_13 : decode b_rd_readAll 13 = .ok (.sipush (200), 3) := by decide +kernel
theorem d_rd_readAll_16 : decode b_rd_readAll 16 = .ok (.if_icmp .gt (58), 3) := by decide +kernel
theorem d_rd_readAll_19 : decode b_rd_readAll 19 = .ok (.aload_n 0, 1) := by decide +kernel
theorem d_rd_readAll_20 : decode b_rd_readAll 20 = .ok (.getfield 32, 3) := by decide +kernel
theorem d_rd_readAll_23 : decode b_rd_readAll 23 = .ok (.ifCond .eq (51), 3) := by decide +kernel
theorem d_rd_readAll_26 : decode b_rd_readAll 26 = .ok (.aload_n 0, 1) := by decide +kernel
theorem d_rd_readAll_27 : decode b_rd_readAll 27 = .ok (.getfield 32, 3) := by decide +kernel
theorem d_rd_readAll_30 : decode b_rd_readAll 30 = .ok (.iconst (-1), 1) := by decide +kernel
theorem d_rd_readAll_31 : decode b_rd_readAll 31 = .ok (.if_icmp .eq (43), 3) := by decide +kernel
theorem d_rd_readAll_34 : decode b_rd_readAll 34 = .ok (.aload_n 0, 1) := by decide +kernel
theorem d_rd_readAll_35 : decode b_rd_readAll 35 = .ok (.invokevirtual 35, 3) := by decide +kernel
theorem d_rd_readAll_38 : decode b_rd_readAll 38 = .ok (.aload_n 0, 1) := by decide +kernel
theorem d_rd_readAll_39 : decode b_rd_readAll 39 = .ok (.getfield 15, 3) := by decide +kernel
theorem d_rd_readAll_42 : decode b_rd_readAll 42 = .ok (.iload_n 1, 1) := by decide +kernel
theorem d_rd_readAll_43 : decode b_rd_readAll 43 = .ok (.aload_n 0, 1) := by decide +kernel
theorem d_rd_readAll_44 : decode b_rd_readAll 44 = .ok (.getfield 32, 3) := by decide +kernel
theorem d_rd_readAll_47 : decode b_rd_readAll 47 = .ok (.iastore, 1) := by decide +kernel
theorem d_rd_readAll_48 : decode b_rd_readAll 48 = .ok (.aload_n 0, 1) := by decide +kernel
theorem d_rd_readAll_49 : decode b_rd_readAll 49 = .ok (.getfield 19, 3) := by decide +kernel
theorem d_rd_readAll_52 : decode b_rd_readAll 52 = .ok (.iload_n 1, 1) := by decide +kernel
theorem d_rd_readAll_53 : decode b_rd_readAll 53 = .ok (.aload_n 0, 1) := by decide +kernel
theorem d_rd_readAll_54 : decode b_rd_readAll 54 = .ok (.getfield 38, 3) := by decide +kernel
theorem d_rd_readAll_57 : decode b_rd_readAll 57 = .ok (.iastore, 1) := by decide +kernel
theorem d_rd_readAll_58 : decode b_rd_readAll 58 = .ok (.aload_n 0, 1) := by decide +kernel
theorem d_rd_readAll_59 : decode b_rd_readAll 59 = .ok (.getfield 22, 3) := by decide +kernel
theorem d_rd_readAll_62 : decode b_rd_readAll 62 = .ok (.iload_n 1, 1) := by decide +kernel
theorem d_rd_readAll_63 : decode b_rd_readAll 63 = .ok (.aload_n 0, 1) := by decide +kernel
theorem d_rd_readAll_64 : decode b_rd_readAll 64 = .ok (.getfield 41, 3) := by decide +kernel
theorem d_rd_readAll_67 : decode b_rd_readAll 67 = .ok (.iastore, 1) := by decide +kernel
theorem d_rd_readAll_68 : decode b_rd_readAll 68 = .ok (.iinc 1 (1), 3) := by decide +kernel
theorem d_rd_readAll_71 : decode b_rd_readAll 71 = .ok (.goto (-59), 3) := by decide +kernel
theorem d_rd_readAll_74 : decode b_rd_readAll 74 = .ok (.return_, 1) := by decide +kernel
def f_rd_readAll_74   (w : WW) : Option WW :=
  some w
def f_rd_readAll_12  : Nat → Nat → Int32 → WW → Option WW
  | 0, _, _, _ => none
  | n + 1, y0, y1, w =>
    if (200 : Int32) < y1 then
      f_rd_readAll_74 w
    else
      (gI w y0 1 6).bind fun x4 =>
      if x4 = 0 then
        f_rd_readAll_74 w
      else
        (gI w y0 1 6).bind fun x6 =>
        if x6 = (-1 : Int32) then
          f_rd_readAll_74 w
        else
          (f_rd_readToken y0 w).bind fun w8 =>
          (gN w8 y0 1 1).bind fun x9 =>
          (gI w8 y0 1 6).bind fun x10 =>
          (sI w8 x9 0 y1 x10).bind fun w11 =>
          (gN w11 y0 1 2).bind fun x12 =>
          (gI w11 y0 1 7).bind fun x13 =>
          (sI w11 x12 0 y1 x13).bind fun w14 =>
          (gN w14 y0 1 3).bind fun x15 =>
          (gI w14 y0 1 8).bind fun x16 =>
          (sI w14 x15 0 y1 x16).bind fun w17 =>
          f_rd_readAll_12 n y0 (y1 + (1 : Int32)) w17
def f_rd_readAll (a0 : Nat) (w : WW) : Option WW :=
  if kb w a0 1 = true then
    (pv w a0 1 5 (.int (0 : Int32))).bind fun w1 =>
    (pv w1 a0 1 6 (.int (1 : Int32))).bind fun w2 =>
    f_rd_readAll_12 KK a0 (0 : Int32) w2
  else none
theorem kb_rd_readAll {a0 : Nat}  {w : WW} {r : WW} (h : f_rd_readAll a0 w = some r) : kb w a0 1 = true := (its h).1
set_option maxHeartbeats 4000000 in
set_option maxRecDepth 100000 in
theorem j_rd_readAll_74 {p : Program} {l : Launch} {e : Env} {s : State} {m : MethodId} {args : Array Value} {below : List Frame} {meth : Method} {c : Code} {D : va_G} {cA : Nat → ClassId} {base : Nat} {w' : WW} (C : cx b_rd_readAll (none) 2 y_rd_readAll.cls "readAll" p s m args meth c D cA base)   : ∀  (w : WW), f_rd_readAll_74  w = some w' → ∀ (H : Heap) (locs : List Loc) (ls : Array Slot), wo_S D cls cA base s w H locs → lv_has ls 2 [] → W p l e rm_rd_readAll s m args below meth c H locs 0 0 (MQ below (wo_Q D cls cA base none w') args s rm_rd_readAll.cells rm_rd_readAll.slots (wo_B base)) (F0 m 74 ls []) := by
  obtain ⟨hx, hb, hr, hml, hown, hts, hlk, hnm, hK, hG⟩ := id C
  intro  w h H locs ls hW hl
  unfold f_rd_readAll_74 at h
  cases h
  exact wo_vret hx hb hr hlk hW d_rd_readAll_74
set_option maxHeartbeats 4000000 in
set_option maxRecDepth 100000 in
theorem j_rd_readAll_12 {p : Program} {l : Launch} {e : Env} {s : State} {m : MethodId} {args : Array Value} {below : List Frame} {meth : Method} {c : Code} {D : va_G} {cA : Nat → ClassId} {base : Nat} {w' : WW} (C : cx b_rd_readAll (none) 2 y_rd_readAll.cls "readAll" p s m args meth c D cA base)   : ∀ n : Nat, ∀ (y0 : Nat) (y1 : Int32) (w : WW), f_rd_readAll_12 n y0 y1 w = some w' → ∀ (H : Heap) (locs : List Loc) (ls : Array Slot), wo_S D cls cA base s w H locs → lv_has ls 2 [(0, .ref y0), (1, .int y1)] → W p l e rm_rd_readAll s m args below meth c H locs 0 0 (MQ below (wo_Q D cls cA base none w') args s rm_rd_readAll.cells rm_rd_readAll.slots (wo_B base)) (F0 m 12 ls []) := by
  obtain ⟨hx, hb, hr, hml, hown, hts, hlk, hnm, hK, hG⟩ := id C
  intro n
  induction n with
  | zero => intro y0 y1 w h; cases h
  | succ n ih =>
    intro y0 y1 w h H locs ls hW hl
    rw [f_rd_readAll_12] at h
    refine lv_iload_n hx hb d_rd_readAll_12 rfl (lv_at hl 1 rfl) ?_
    refine lv_sipush (v := (200 : Int32)) hx hb d_rd_readAll_13 (by decide) ?_
    refine lv_icmp_gt (tgt := 74) hx hb d_rd_readAll_16 (by decide) (fun c3 => ?_) (fun c3 => ?_)
    · rw [if_pos c3] at h
      exact j_rd_readAll_74 C w h _ _ _ hW (lv_sub hl [] rfl)
    · rw [if_neg c3] at h
      refine lv_aload_n hx hb d_rd_readAll_19 rfl (lv_at hl 0 rfl) ?_
      replace h := bs h
      obtain ⟨x4, hx4, h⟩ := h
      refine gf_rd_32 hx hb hts hown hK hG hW (gI_s hx4) d_rd_readAll_20 ?_
      refine lv_if_eq (tgt := 74) hx hb d_rd_readAll_23 (by decide) (fun c5 => ?_) (fun c5 => ?_)
      · rw [if_pos c5] at h
        exact j_rd_readAll_74 C w h _ _ _ hW (lv_sub hl [] rfl)
      · rw [if_neg c5] at h
        refine lv_aload_n hx hb d_rd_readAll_26 rfl (lv_at hl 0 rfl) ?_
        replace h := bs h
        obtain ⟨x6, hx6, h⟩ := h
        refine gf_rd_32 hx hb hts hown hK hG hW (gI_s hx6) d_rd_readAll_27 ?_
        refine lv_iconst (v := (-1 : Int32)) hx hb d_rd_readAll_30 (by decide) ?_
        refine lv_icmp_eq (tgt := 74) hx hb d_rd_readAll_31 (by decide) (fun c7 => ?_) (fun c7 => ?_)
        · rw [if_pos c7] at h
          exact j_rd_readAll_74 C w h _ _ _ hW (lv_sub hl [] rfl)
        · rw [if_neg c7] at h
          refine lv_aload_n hx hb d_rd_readAll_34 rfl (lv_at hl 0 rfl) ?_
          replace h := bs h
          obtain ⟨w8, hw8, h⟩ := h
          refine cv_rd_35 (As := []) (rest := []) hx hb hml hown hts hK hG hW (c_rd_readToken l D cA base hw8) (kb_rd_readToken hw8) ⟨Nat.le_of_ble_eq_true rfl, Nat.le_of_ble_eq_true rfl⟩ ⟨Nat.le_of_ble_eq_true rfl, Nat.le_of_ble_eq_true rfl⟩ rfl hl.1 rfl (Nat.le_of_ble_eq_true rfl) d_rd_readAll_35 (fun H locs hW => ?_)
          refine lv_aload_n hx hb d_rd_readAll_38 rfl (lv_at hl 0 rfl) ?_
          replace h := bs h
          obtain ⟨x9, hx9, h⟩ := h
          refine gf_rd_15 hx hb hts hown hK hG hW (gN_s hx9) d_rd_readAll_39 ?_
          refine lv_iload_n hx hb d_rd_readAll_42 rfl (lv_at hl 1 rfl) ?_
          refine lv_aload_n hx hb d_rd_readAll_43 rfl (lv_at hl 0 rfl) ?_
          replace h := bs h
          obtain ⟨x10, hx10, h⟩ := h
          refine gf_rd_32 hx hb hts hown hK hG hW (gI_s hx10) d_rd_readAll_44 ?_
          replace h := bs h
          obtain ⟨w11, hw11, h⟩ := h
          refine wo_iast hx hb hK hW (t := 0) rfl hw11 d_rd_readAll_47 (fun H locs hW => ?_)
          refine lv_aload_n hx hb d_rd_readAll_48 rfl (lv_at hl 0 rfl) ?_
          replace h := bs h
          obtain ⟨x12, hx12, h⟩ := h
          refine gf_rd_19 hx hb hts hown hK hG hW (gN_s hx12) d_rd_readAll_49 ?_
          refine lv_iload_n hx hb d_rd_readAll_52 rfl (lv_at hl 1 rfl) ?_
          refine lv_aload_n hx hb d_rd_readAll_53 rfl (lv_at hl 0 rfl) ?_
          replace h := bs h
          obtain ⟨x13, hx13, h⟩ := h
          refine gf_rd_38 hx hb hts hown hK hG hW (gI_s hx13) d_rd_readAll_54 ?_
          replace h := bs h
          obtain ⟨w14, hw14, h⟩ := h
          refine wo_iast hx hb hK hW (t := 0) rfl hw14 d_rd_readAll_57 (fun H locs hW => ?_)
          refine lv_aload_n hx hb d_rd_readAll_58 rfl (lv_at hl 0 rfl) ?_
          replace h := bs h
          obtain ⟨x15, hx15, h⟩ := h
          refine gf_rd_22 hx hb hts hown hK hG hW (gN_s hx15) d_rd_readAll_59 ?_
          refine lv_iload_n hx hb d_rd_readAll_62 rfl (lv_at hl 1 rfl) ?_
          refine lv_aload_n hx hb d_rd_readAll_63 rfl (lv_at hl 0 rfl) ?_
          replace h := bs h
          obtain ⟨x16, hx16, h⟩ := h
          refine gf_rd_41 hx hb hts hown hK hG hW (gI_s hx16) d_rd_readAll_64 ?_
          replace h := bs h
          obtain ⟨w17, hw17, h⟩ := h
          refine wo_iast hx hb hK hW (t := 0) rfl hw17 d_rd_readAll_67 (fun H locs hW => ?_)
          refine lv_iinc (v := (y1 + (1 : Int32))) (lv' := [(1, .int (y1 + (1 : Int32))), (0, .ref y0)]) hx hb d_rd_readAll_68 hl (k := 1) rfl rfl (by decide) rfl (fun ls hl => ?_)
          refine lv_goto (tgt := 12) hx hb d_rd_readAll_71 (by decide) ?_
          exact ih y0 (y1 + (1 : Int32)) w17 h _ _ _ hW (lv_sub hl [1, 0] rfl)
set_option maxHeartbeats 4000000 in
set_option maxRecDepth 100000 in
theorem c_rd_readAll (l : Launch) (D : va_G) (cA : Nat → ClassId) (base : Nat) {a0 : Nat} {w w' : WW} (h : f_rd_readAll a0 w = some w') : mt l D cls (wo_tys cA) cA base y_rd_readAll (Cond.code y_rd_readAll b_rd_readAll 2 (none) :: gt) rm_rd_readAll [.ref a0] w none w' rm_rd_readAll.cells rm_rd_readAll.slots := by
  refine mt_start (by decide) (Nat.le_of_ble_eq_true rfl) ?_
  intro p e s m below meth c ls hx hb hr hml hown hts hlk hnm hK hG hW hl
  have C : cx b_rd_readAll (none) 2 y_rd_readAll.cls "readAll" p s m [.ref a0].toArray meth c D cA base := ⟨hx, hb, hr, hml, hown, hts, hlk, hnm, hK, hG⟩
  have hl : lv_has ls 2 [(0, .ref a0)] := hl
  unfold f_rd_readAll at h
  replace h := its h
  obtain ⟨-, h⟩ := h
  refine lv_aload_n hx hb d_rd_readAll_0 rfl (lv_at hl 0 rfl) ?_
  refine lv_iconst (v := (0 : Int32)) hx hb d_rd_readAll_1 (by decide) ?_
  replace h := bs h
  obtain ⟨w1, hw1, h⟩ := h
  refine pf_rd_29 hx hb hts hown hK hG hW rfl rfl hw1 d_rd_readAll_2 (fun H locs hW => ?_)
  refine lv_aload_n hx hb d_rd_readAll_5 rfl (lv_at hl 0 rfl) ?_
  refine lv_iconst (v := (1 : Int32)) hx hb d_rd_readAll_6 (by decide) ?_
  replace h := bs h
  obtain ⟨w2, hw2, h⟩ := h
  refine pf_rd_32 hx hb hts hown hK hG hW rfl rfl hw2 d_rd_readAll_7 (fun H locs hW => ?_)
  refine lv_iconst (v := (0 : Int32)) hx hb d_rd_readAll_10 (by decide) ?_
  refine lv_istore_n (lv' := [(1, .int (0 : Int32)), (0, .ref a0)]) hx hb d_rd_readAll_11 rfl hl (by decide) rfl (fun ls hl => ?_)
  exact j_rd_readAll_12 C KK a0 (0 : Int32) w2 h _ _ _ hW (lv_sub hl [1, 0] rfl)
abbrev b_pa_kindHere : ByteArray := prog_3_method_3_code
def y_pa_kindHere : MethodName := ⟨"AlarmForge$Parser", "kindHere", "()I"⟩
def rm_pa_kindHere : Room := { frames := 0, cells := 0, slots := 0, locals := 0 }
theorem d_pa_kindHere_0 : decode b_pa_kindHere 0 = .ok (.aload_n 0, 1) := by decide +kernel
theorem d_pa_kindHere_1 : decode b_pa_kindHere 1 = .ok (.getfield 12, 3) := by decide +kernel
theorem d_pa_kindHere_4 : decode b_pa_kindHere 4 = .ok (.getfield 45, 3) := by decide +kernel
theorem d_pa_kindHere_7 : decode b_pa_kindHere 7 = .ok (.aload_n 0, 1) := by decide +kernel
theorem d_pa_kindHere_8 : decode b_pa_kindHere 8 = .ok (.getfield 34, 3) := by decide +kernel
theorem d_pa_kindHere_11 : decode b_pa_kindHere 11 = .ok (.iaload, 1) := by decide +kernel
theorem d_pa_kindHere_12 : decode b_pa_kindHere 12 = .ok (.ireturn, 1) := by decide +kernel
def f_pa_kindHere (a0 : Nat) (w : WW) : Option (Int32 × WW) :=
  if kb w a0 2 = true then
    (gN w a0 2 0).bind fun x1 =>
    (gN w x1 1 1).bind fun x2 =>
    (gI w a0 2 1).bind fun x3 =>
    (rI w x2 0 x3).bind fun x4 =>
    some (x4, w)
  else none
theorem kb_pa_kindHere {a0 : Nat}  {w : WW} {r : (Int32 × WW)} (h : f_pa_kindHere a0 w = some r) : kb w a0 2 = true := (its h).1
set_option maxHeartbeats 4000000 in
set_option maxRecDepth 100000 in
theorem c_pa_kindHere (l : Launch) (D : va_G) (cA : Nat → ClassId) (base : Nat) {a0 : Nat} {w w' : WW} {r : Int32} (h : f_pa_kindHere a0 w = some (r, w')) : mt l D cls (wo_tys cA) cA base y_pa_kindHere (Cond.code y_pa_kindHere b_pa_kindHere 1 (some .int) :: gt) rm_pa_kindHere [.ref a0] w (some (.int r)) w' rm_pa_kindHere.cells rm_pa_kindHere.slots := by
  refine mt_start (by decide) (Nat.le_of_ble_eq_true rfl) ?_
  intro p e s m below meth c ls hx hb hr hml hown hts hlk hnm hK hG hW hl
  have C : cx b_pa_kindHere (some .int) 1 y_pa_kindHere.cls "kindHere" p s m [.ref a0].toArray meth c D cA base := ⟨hx, hb, hr, hml, hown, hts, hlk, hnm, hK, hG⟩
  have hl : lv_has ls 1 [(0, .ref a0)] := hl
  unfold f_pa_kindHere at h
  replace h := its h
  obtain ⟨-, h⟩ := h
  refine lv_aload_n hx hb d_pa_kindHere_0 rfl (lv_at hl 0 rfl) ?_
  replace h := bs h
  obtain ⟨x1, hx1, h⟩ := h
  refine gf_pa_12 hx hb hts hown hK hG hW (gN_s hx1) d_pa_kindHere_1 ?_
  replace h := bs h
  obtain ⟨x2, hx2, h⟩ := h
  refine gf_pa_45 hx hb hts hown hK hG hW (gN_s hx2) d_pa_kindHere_4 ?_
  refine lv_aload_n hx hb d_pa_kindHere_7 rfl (lv_at hl 0 rfl) ?_
  replace h := bs h
  obtain ⟨x3, hx3, h⟩ := h
  refine gf_pa_34 hx hb hts hown hK hG hW (gI_s hx3) d_pa_kindHere_8 ?_
  replace h := bs h
  obtain ⟨x4, hx4, h⟩ := h
  refine wo_iald hx hb hK hW (t := 0) rfl hx4 d_pa_kindHere_11 ?_
  cases h
  exact wo_iret hx hb hr hlk hW d_pa_kindHere_12
abbrev b_pa_readStatement : ByteArray := prog_3_method_8_code
def y_pa_readStatement : MethodName := ⟨"AlarmForge$Parser", "readStatement", "(I)LAlarmForge$Statement;"⟩
def rm_pa_readStatement : Room := { frames := 0, cells := 0, slots := 0, locals := 0 }
def rx_pa_readStatement : Room := { frames := 0, cells := 1, slots := 6, locals := 0 }
def f_pa_readStatement (a0 : Nat) (a1 : Int32) (w : WW) : Option ((Option Nat ⊕ String) × WW) := none
theorem kb_pa_readStatement {a0 : Nat} {a1 : Int32} {w : WW} {r : ((Option Nat ⊕ String) × WW)} (h : f_pa_readStatement a0 a1 w = some r) : kb w a0 2 = true := by cases h
theorem c_pa_readStatement (l : Launch) (D : va_G) (cA : Nat → ClassId) (base : Nat) {a0 : Nat} {a1 : Int32} {w w' : WW} {r : Option Nat} (h : f_pa_readStatement a0 a1 w = some (.inl r, w')) : mt l D cls (wo_tys cA) cA base y_pa_readStatement (Cond.code y_pa_readStatement b_pa_readStatement 4 (some (.object "AlarmForge$Statement")) :: gt) rm_pa_readStatement [.ref a0, .int a1] w (some (va_rf r)) w' rm_pa_readStatement.cells rm_pa_readStatement.slots := by
  cases h
theorem x_pa_readStatement (l : Launch) (hst : l.stackTraces = false) (D : va_G) (cA : Nat → ClassId) (base : Nat) {a0 : Nat} {a1 : Int32} {w w' : WW} {E : String} (h : f_pa_readStatement a0 a1 w = some (.inr E, w')) : xt l D cls (wo_tys cA) cA base y_pa_readStatement (Cond.code y_pa_readStatement b_pa_readStatement 4 (some (.object "AlarmForge$Statement")) :: gt) rx_pa_readStatement [.ref a0, .int a1] w E w' rx_pa_readStatement.cells rx_pa_readStatement.slots := by
  cases h
theorem cv_pa_55 {p : Program} {l : Launch} {e : Env} {R : Room} {s : State} {m : MethodId} {args : Array Value} {below : List Frame} {meth : Method} {c : Code} {H : Heap} {locs : List Loc} {cells slots : Nat} {Q : State → Prop} {D : va_G} {cA : Nat → ClassId} {base : Nat} {w w' : WW} {cc : ByteArray} {pc nL : Nat} {ls : Array Slot} {rest st0 As : List Value} {ov : Option Value} {b : Nat} (hx : p.tables.exec = Jvm.exec) (hb : c.code = cc) (hml : c.maxLocals = nL) (hown : s.vm.findClass Rc_pa = some m.cls) (hts : ∀ w ∈ gt, w.before args s = true) (hK : va_K D cls (wo_tys cA) s) (hG : wo_G base s) (hW : wo_S D cls cA base s w H locs) (hM : mt l D cls (wo_tys cA) cA base y_pa_kindHere (Cond.code y_pa_kindHere b_pa_kindHere 1 (some .int) :: gt) rm_pa_kindHere (.ref b :: As) w ov w' rm_pa_kindHere.cells rm_pa_kindHere.slots) (hkb : kb w b 2 = true) (hR : rm_pa_kindHere.frames + 1 ≤ R.frames ∧ 8 + (1 + 11) + rm_pa_kindHere.locals ≤ R.locals) (hf : cells + rm_pa_kindHere.cells ≤ R.cells ∧ slots + rm_pa_kindHere.slots ≤ R.slots) (hn : As.length = 0) (hsz : ls.size = nL) (hst : st0 = As.reverse ++ .ref b :: rest) (hcat : (rest.map fun v => v.category).sum ≤ 8) (hdg : decode cc pc = .ok (.invokevirtual 55, 3)) (kk : ∀ (H1 : Heap) (locs1 : List Loc), wo_S D cls cA base s w' H1 locs1 → W p l e R s m args below meth c H1 locs1 (cells + rm_pa_kindHere.cells) (slots + rm_pa_kindHere.slots) Q (F0 m (pc + 3) ls (ov.toList ++ rest))) : W p l e R s m args below meth c H locs cells slots Q (F0 m pc ls st0) :=
  wo_callV (C := Rc_pa) hx hb hml hown hts hK hG hW hM hkb rfl (gt_of (i := 645) (by decide +kernel) (by decide +kernel)) (gt_of (i := 647) (by decide +kernel) (by decide +kernel)) (gt_sel (i := 8) (by decide +kernel) (by decide +kernel)) (gt_of (i := 2) (by decide +kernel) (by decide +kernel)) (gt_of (i := 648) (by decide +kernel) (by decide +kernel)) (by decide +kernel) hR hf hn hsz hst hcat hdg kk
theorem xv_pa_66 {p : Program} {l : Launch} {e : Env} {R : Room} {s : State} {m : MethodId} {args : Array Value} {below : List Frame} {meth : Method} {c : Code} {H : Heap} {locs : List Loc} {cells slots : Nat} {Q : State → Prop} {D : va_G} {cA : Nat → ClassId} {base : Nat} {w w' : WW} {cc : ByteArray} {pc nL : Nat} {ls : Array Slot} {rest st0 As : List Value} {E : String} {b : Nat} (hx : p.tables.exec = Jvm.exec) (hb : c.code = cc) (hml : c.maxLocals = nL) (hown : s.vm.findClass Rc_pa = some m.cls) (hts : ∀ w ∈ gt, w.before args s = true) (hK : va_K D cls (wo_tys cA) s) (hG : wo_G base s) (hW : wo_S D cls cA base s w H locs) (hM : xt l D cls (wo_tys cA) cA base y_pa_readStatement (Cond.code y_pa_readStatement b_pa_readStatement 4 (some (.object "AlarmForge$Statement")) :: gt) rx_pa_readStatement (.ref b :: As) w E w' rx_pa_readStatement.cells rx_pa_readStatement.slots) (hkb : kb w b 2 = true) (hR : rx_pa_readStatement.frames + 1 ≤ R.frames ∧ 8 + (4 + 11) + rx_pa_readStatement.locals ≤ R.locals) (hf : cells + rx_pa_readStatement.cells ≤ R.cells ∧ slots + rx_pa_readStatement.slots ≤ R.slots) (hn : As.length = 1) (hsz : ls.size = nL) (hst : st0 = As.reverse ++ .ref b :: rest) (hcat : (rest.map fun v => v.category).sum ≤ 8) (hdg : decode cc pc = .ok (.invokevirtual 66, 3)) (kk : ∀ (H1 : Heap) (locs1 : List Loc) (q : Addr) (ce : Cell), wo_S D cls cA base s w' H1 locs1 → H1[q]? = some ce → ce.vm = .none → s.vm.findClass E = some ce.cls → XW p l e R s m args below meth c H1 locs1 (cells + rx_pa_readStatement.cells) (slots + rx_pa_readStatement.slots) Q (F0 m pc ls rest) q) : W p l e R s m args below meth c H locs cells slots Q (F0 m pc ls st0) :=
  wo_xcallV (C := Rc_pa) hx hb hml hown hts hK hG hW hM hkb rfl (gt_of (i := 649) (by decide +kernel) (by decide +kernel)) (gt_of (i := 651) (by decide +kernel) (by decide +kernel)) (gt_sel (i := 9) (by decide +kernel) (by decide +kernel)) (gt_of (i := 2) (by decide +kernel) (by decide +kernel)) (gt_of (i := 652) (by decide +kernel) (by decide +kernel)) (by decide +kernel) hR hf hn hsz hst hcat hdg kk
theorem cv_pa_66 {p : Program} {l : Launch} {e : Env} {R : Room} {s : State} {m : MethodId} {args : Array Value} {below : List Frame} {meth : Method} {c : Code} {H : Heap} {locs : List Loc} {cells slots : Nat} {Q : State → Prop} {D : va_G} {cA : Nat → ClassId} {base : Nat} {w w' : WW} {cc : ByteArray} {pc nL : Nat} {ls : Array Slot} {rest st0 As : List Value} {ov : Option Value} {b : Nat} (hx : p.tables.exec = Jvm.exec) (hb : c.code = cc) (hml : c.maxLocals = nL) (hown : s.vm.findClass Rc_pa = some m.cls) (hts : ∀ w ∈ gt, w.before args s = true) (hK : va_K D cls (wo_tys cA) s) (hG : wo_G base s) (hW : wo_S D cls cA base s w H locs) (hM : mt l D cls (wo_tys cA) cA base y_pa_readStatement (Cond.code y_pa_readStatement b_pa_readStatement 4 (some (.object "AlarmForge$Statement")) :: gt) rm_pa_readStatement (.ref b :: As) w ov w' rm_pa_readStatement.cells rm_pa_readStatement.slots) (hkb : kb w b 2 = true) (hR : rm_pa_readStatement.frames + 1 ≤ R.frames ∧ 8 + (4 + 11) + rm_pa_readStatement.locals ≤ R.locals) (hf : cells + rm_pa_readStatement.cells ≤ R.cells ∧ slots + rm_pa_readStatement.slots ≤ R.slots) (hn : As.length = 1) (hsz : ls.size = nL) (hst : st0 = As.reverse ++ .ref b :: rest) (hcat : (rest.map fun v => v.category).sum ≤ 8) (hdg : decode cc pc = .ok (.invokevirtual 66, 3)) (kk : ∀ (H1 : Heap) (locs1 : List Loc), wo_S D cls cA base s w' H1 locs1 → W p l e R s m args below meth c H1 locs1 (cells + rm_pa_readStatement.cells) (slots + rm_pa_readStatement.slots) Q (F0 m (pc + 3) ls (ov.toList ++ rest))) : W p l e R s m args below meth c H locs cells slots Q (F0 m pc ls st0) :=
  wo_callV (C := Rc_pa) hx hb hml hown hts hK hG hW hM hkb rfl (gt_of (i := 649) (by decide +kernel) (by decide +kernel)) (gt_of (i := 651) (by decide +kernel) (by decide +kernel)) (gt_sel (i := 9) (by decide +kernel) (by decide +kernel)) (gt_of (i := 2) (by decide +kernel) (by decide +kernel)) (gt_of (i := 652) (by decide +kernel) (by decide +kernel)) (by decide +kernel) hR hf hn hsz hst hcat hdg kk
abbrev b_pa_readStatements : ByteArray := prog_3_method_7_code
def y_pa_readStatements : MethodName := ⟨"AlarmForge$Parser", "readStatements", "(II)LAlarmForge$Statement;"⟩
def rm_pa_readStatements : Room := { frames := 6, cells := 0, slots := 0, locals := 100 }
def rx_pa_readStatements : Room := { frames := 6, cells := 1, slots := 6, locals := 100 }
theorem d_pa_readStatements_0 : decode b_pa_readStatements 0 = .ok (.aconst_null, 1) := by decide +kernel
theorem d_pa_readStatements_1 : decode b_pa_readStatements 1 = .ok (.astore_n 3, 1) := by decide +kernel
theorem d_pa_readStatements_2 : decode b_pa_readStatements 2 = .ok (.aconst_null, 1) := by decide +kernel
theorem d_pa_readStatements_3 : decode b_pa_readStatements 3 = .ok (.astore 4, 2) := by decide +kernel
theorem d_pa_readStatements_5 : decode b_pa_readStatements 5 = .ok (.iconst 0, 1) := by decide +kernel
theorem d_pa_readStatements_6 : decode b_pa_readStatements 6 = .ok (.istore 5, 2) := by decide +kernel
theorem d_pa_readStatements_8 : decode b_pa_readStatements 8 = .ok (.iload 5, 2) := by decide +kernel
theorem d_pa_readStatements_10 : decode b_pa_readStatements 10 = .ok (.bipush (50), 2) := by decide +kernel
theorem d_pa_readStatements_12 : decode b_pa_readStatements 12 = .ok (.if_icmp .gt (46), 3) := by decide +kernel
theorem d_pa_readStatements_15 : decode b_pa_readStatements 15 = .ok (.aload_n 0, 1) := by decide +kernel
theorem d_pa_readStatements_16 : decode b_pa_readStatements 16 = .ok (.invokevirtual 55, 3) := by decide +kernel
theorem d_pa_readStatements_19 : decode b_pa_readStatements 19 = .ok (.iload_n 1, 1) := by decide +kernel
theorem d_pa_readStatements_20 : decode b_pa_readStatements 20 = .ok (.if_icmp .eq (38), 3) := by decide +kernel
theorem d_pa_readStatements_23 : decode b_pa_readStatements 23 = .ok (.aload_n 0, 1) := by decide +kernel
theorem d_pa_readStatements_24 : decode b_pa_readStatements 24 = .ok (.iload_n 2, 1) := by decide +kernel
theorem d_pa_readStatements_25 : decode b_pa_readStatements 25 = .ok (.invokevirtual 66, 3) := by decide +kernel
theorem d_pa_readStatements_28 : decode b_pa_readStatements 28 = .ok (.astore 6, 2) := by decide +kernel
theorem d_pa_readStatements_30 : decode b_pa_readStatements 30 = .ok (.aload 4, 2) := by decide +kernel
theorem d_pa_readStatements_32 : decode b_pa_readStatements 32 = .ok (.ifnonnull (9), 3) := by decide +kernel
theorem d_pa_readStatements_35 : decode b_pa_readStatements 35 = .ok (.aload 6, 2) := by decide +kernel
theorem d_pa_readStatements_37 : decode b_pa_readStatements 37 = .ok (.astore_n 3, 1) := by decide +kernel
theorem d_pa_readStatements_38 : decode b_pa_readStatements 38 = .ok (.goto (10), 3) := by decide +kernel
theorem d_pa_readStatements_41 : decode b_pa_readStatements 41 = .ok (.aload 4, 2) := by decide +kernel
theorem d_pa_readStatements_43 : decode b_pa_readStatements 43 = .ok (.aload 6, 2) := by decide +kernel
theorem d_pa_readStatements_45 : decode b_pa_readStatements 45 = .ok (.putfield 70, 3) := by decide +kernel
theorem d_pa_readStatements_48 : decode b_pa_readStatements 48 = .ok (.aload 6, 2) := by decide +kernel
theorem d_pa_readStatements_50 : decode b_pa_readStatements 50 = .ok (.astore 4, 2) := by decide +kernel
theorem d_pa_readStatements_52 : decode b_pa_readStatements 52 = .ok (.iinc 5 (1), 3) := by decide +kernel
theorem d_pa_readStatements_55 : decode b_pa_readStatements 55 = .ok (.goto (-47), 3) := by decide +kernel
theorem d_pa_readStatements_58 : decode b_pa_readStatements 58 = .ok (.aload_n 3, 1) := by decide +kernel
theorem d_pa_readStatements_59 : decode b_pa_readStatements 59 = .ok (.areturn, 1) := by decide +kernel
def f_pa_readStatements_58  (y3 : Option Nat) (w : WW) : Option ((Option Nat ⊕ String) × WW) :=
  some (.inl y3, w)
def f_pa_readStatements_48 (k_8 : Nat → Int32 → Int32 → Option Nat → Option Nat → Int32 → WW → Option ((Option Nat ⊕ String) × WW)) (y0 : Nat) (y1 : Int32) (y2 : Int32) (y3 : Option Nat) (y5 : Int32) (y6 : Option Nat) (w : WW) : Option ((Option Nat ⊕ String) × WW) :=
  k_8 y0 y1 y2 y3 y6 (y5 + (1 : Int32)) w
def f_pa_readStatements_8  : Nat → Nat → Int32 → Int32 → Option Nat → Option Nat → Int32 → WW → Option ((Option Nat ⊕ String) × WW)
  | 0, _, _, _, _, _, _, _ => none
  | n + 1, y0, y1, y2, y3, y4, y5, w =>
    if (50 : Int32) < y5 then
      f_pa_readStatements_58 y3 w
    else
      bd2 (f_pa_kindHere y0 w) fun x3 w2 =>
      if x3 = y1 then
        f_pa_readStatements_58 y3 w2
      else
        bdx (f_pa_readStatement y0 y2 w2) fun x6 w5 =>
        nl y4
          (f_pa_readStatements_48 (f_pa_readStatements_8 n) y0 y1 y2 x6 y5 x6 w5)
          fun x7 =>
            (pv w5 x7 4 9 (va_rf x6)).bind fun w8 =>
            f_pa_readStatements_48 (f_pa_readStatements_8 n) y0 y1 y2 y3 y5 x6 w8
def f_pa_readStatements (a0 : Nat) (a1 : Int32) (a2 : Int32) (w : WW) : Option ((Option Nat ⊕ String) × WW) :=
  if kb w a0 2 = true then
    f_pa_readStatements_8 KK a0 a1 a2 none none (0 : Int32) w
  else none
theorem kb_pa_readStatements {a0 : Nat} {a1 : Int32} {a2 : Int32} {w : WW} {r : ((Option Nat ⊕ String) × WW)} (h : f_pa_readStatements a0 a1 a2 w = some r) : kb w a0 2 = true := (its h).1
set_option maxHeartbeats 4000000 in
set_option maxRecDepth 100000 in
theorem j_pa_readStatements_58 {p : Program} {l : Launch} {e : Env} {s : State} {m : MethodId} {args : Array Value} {below : List Frame} {meth : Method} {c : Code} {D : va_G} {cA : Nat → ClassId} {base : Nat} {r : Option Nat} {w' : WW} (C : cx b_pa_readStatements (some (.object "AlarmForge$Statement")) 7 y_pa_readStatements.cls "readStatements" p s m args meth c D cA base)   : ∀ (y3 : Option Nat) (w : WW), f_pa_readStatements_58 y3 w = some (.inl r, w') → ∀ (H : Heap) (locs : List Loc) (ls : Array Slot), wo_S D cls cA base s w H locs → lv_has ls 7 [(3, va_rf y3)] → W p l e rm_pa_readStatements s m args below meth c H locs 0 0 (MQ below (wo_Q D cls cA base (some (va_rf r)) w') args s rm_pa_readStatements.cells rm_pa_readStatements.slots (wo_B base)) (F0 m 58 ls []) := by
  obtain ⟨hx, hb, hr, hml, hown, hts, hlk, hnm, hK, hG⟩ := id C
  intro y3 w h H locs ls hW hl
  unfold f_pa_readStatements_58 at h
  refine wo_aload_n hx hb d_pa_readStatements_58 rfl (lv_at hl 0 rfl) ?_
  cases h
  exact wo_aret hx hb hr hlk hW d_pa_readStatements_59
set_option maxHeartbeats 4000000 in
set_option maxRecDepth 100000 in
theorem j_pa_readStatements_48 {p : Program} {l : Launch} {e : Env} {s : State} {m : MethodId} {args : Array Value} {below : List Frame} {meth : Method} {c : Code} {D : va_G} {cA : Nat → ClassId} {base : Nat} {r : Option Nat} {w' : WW} (C : cx b_pa_readStatements (some (.object "AlarmForge$Statement")) 7 y_pa_readStatements.cls "readStatements" p s m args meth c D cA base) {k_8 : Nat → Int32 → Int32 → Option Nat → Option Nat → Int32 → WW → Option ((Option Nat ⊕ String) × WW)} (hk_8 : ∀ (y0 : Nat) (y1 : Int32) (y2 : Int32) (y3 : Option Nat) (y4 : Option Nat) (y5 : Int32) (w : WW), k_8 y0 y1 y2 y3 y4 y5 w = some (.inl r, w') → ∀ (H : Heap) (locs : List Loc) (ls : Array Slot), wo_S D cls cA base s w H locs → lv_has ls 7 [(0, .ref y0), (1, .int y1), (2, .int y2), (3, va_rf y3), (4, va_rf y4), (5, .int y5)] → W p l e rm_pa_readStatements s m args below meth c H locs 0 0 (MQ below (wo_Q D cls cA base (some (va_rf r)) w') args s rm_pa_readStatements.cells rm_pa_readStatements.slots (wo_B base)) (F0 m 8 ls [])) : ∀ (y0 : Nat) (y1 : Int32) (y2 : Int32) (y3 : Option Nat) (y5 : Int32) (y6 : Option Nat) (w : WW), f_pa_readStatements_48 k_8 y0 y1 y2 y3 y5 y6 w = some (.inl r, w') → ∀ (H : Heap) (locs : List Loc) (ls : Array Slot), wo_S D cls cA base s w H locs → lv_has ls 7 [(0, .ref y0), (1, .int y1), (2, .int y2), (3, va_rf y3), (5, .int y5), (6, va_rf y6)] → W p l e rm_pa_readStatements s m args below meth c H locs 0 0 (MQ below (wo_Q D cls cA base (some (va_rf r)) w') args s rm_pa_readStatements.cells rm_pa_readStatements.slots (wo_B base)) (F0 m 48 ls []) := by
  obtain ⟨hx, hb, hr, hml, hown, hts, hlk, hnm, hK, hG⟩ := id C
  intro y0 y1 y2 y3 y5 y6 w h H locs ls hW hl
  unfold f_pa_readStatements_48 at h
  refine wo_aload hx hb d_pa_readStatements_48 (lv_at hl 5 rfl) ?_
  refine wo_astore (lv' := [(4, va_rf y6), (0, .ref y0), (1, .int y1), (2, .int y2), (3, va_rf y3), (5, .int y5), (6, va_rf y6)]) hx hb d_pa_readStatements_50 hl (by decide) (by simp [rf_cat]) (fun ls hl => ?_)
  refine lv_iinc (v := (y5 + (1 : Int32))) (lv' := [(5, .int (y5 + (1 : Int32))), (4, va_rf y6), (0, .ref y0), (1, .int y1), (2, .int y2), (3, va_rf y3), (6, va_rf y6)]) hx hb d_pa_readStatements_52 hl (k := 5) rfl rfl (by decide) (by simp [rf_cat]) (fun ls hl => ?_)
  refine lv_goto (tgt := 8) hx hb d_pa_readStatements_55 (by decide) ?_
  exact hk_8 y0 y1 y2 y3 y6 (y5 + (1 : Int32)) w h _ _ _ hW (lv_sub hl [2, 3, 4, 5, 1, 0] rfl)
set_option maxHeartbeats 4000000 in
set_option maxRecDepth 100000 in
theorem j_pa_readStatements_8 {p : Program} {l : Launch} {e : Env} {s : State} {m : MethodId} {args : Array Value} {below : List Frame} {meth : Method} {c : Code} {D : va_G} {cA : Nat → ClassId} {base : Nat} {r : Option Nat} {w' : WW} (C : cx b_pa_readStatements (some (.object "AlarmForge$Statement")) 7 y_pa_readStatements.cls "readStatements" p s m args meth c D cA base)   : ∀ n : Nat, ∀ (y0 : Nat) (y1 : Int32) (y2 : Int32) (y3 : Option Nat) (y4 : Option Nat) (y5 : Int32) (w : WW), f_pa_readStatements_8 n y0 y1 y2 y3 y4 y5 w = some (.inl r, w') → ∀ (H : Heap) (locs : List Loc) (ls : Array Slot), wo_S D cls cA base s w H locs → lv_has ls 7 [(0, .ref y0), (1, .int y1), (2, .int y2), (3, va_rf y3), (4, va_rf y4), (5, .int y5)] → W p l e rm_pa_readStatements s m args below meth c H locs 0 0 (MQ below (wo_Q D cls cA base (some (va_rf r)) w') args s rm_pa_readStatements.cells rm_pa_readStatements.slots (wo_B base)) (F0 m 8 ls []) := by
  obtain ⟨hx, hb, hr, hml, hown, hts, hlk, hnm, hK, hG⟩ := id C
  intro n
  induction n with
  | zero => intro y0 y1 y2 y3 y4 y5 w h; cases h
  | succ n ih =>
    intro y0 y1 y2 y3 y4 y5 w h H locs ls hW hl
    rw [f_pa_readStatements_8] at h
    refine lv_iload hx hb d_pa_readStatements_8 (lv_at hl 5 rfl) ?_
    refine lv_bipush (v := (50 : Int32)) hx hb d_pa_readStatements_10 (by decide) ?_
    refine lv_icmp_gt (tgt := 58) hx hb d_pa_readStatements_12 (by decide) (fun c1 => ?_) (fun c1 => ?_)
    · rw [if_pos c1] at h
      exact j_pa_readStatements_58 C y3 w h _ _ _ hW (lv_sub hl [3] rfl)
    · rw [if_neg c1] at h
      refine lv_aload_n hx hb d_pa_readStatements_15 rfl (lv_at hl 0 rfl) ?_
      replace h := bs2 h
      obtain ⟨x3, w2, hw2, h⟩ := h
      refine cv_pa_55 (As := []) (rest := []) hx hb hml hown hts hK hG hW (c_pa_kindHere l D cA base hw2) (kb_pa_kindHere hw2) ⟨Nat.le_of_ble_eq_true rfl, Nat.le_of_ble_eq_true rfl⟩ ⟨Nat.le_of_ble_eq_true rfl, Nat.le_of_ble_eq_true rfl⟩ rfl hl.1 rfl (Nat.le_of_ble_eq_true rfl) d_pa_readStatements_16 (fun H locs hW => ?_)
      refine lv_iload_n hx hb d_pa_readStatements_19 rfl (lv_at hl 1 rfl) ?_
      refine lv_icmp_eq (tgt := 58) hx hb d_pa_readStatements_20 (by decide) (fun c4 => ?_) (fun c4 => ?_)
      · rw [if_pos c4] at h
        exact j_pa_readStatements_58 C y3 w2 h _ _ _ hW (lv_sub hl [3] rfl)
      · rw [if_neg c4] at h
        refine lv_aload_n hx hb d_pa_readStatements_23 rfl (lv_at hl 0 rfl) ?_
        refine lv_iload_n hx hb d_pa_readStatements_24 rfl (lv_at hl 2 rfl) ?_
        replace h := bsx h
        obtain ⟨x6, w5, hw5, h⟩ := h
        refine cv_pa_66 (As := [.int y2]) (rest := []) hx hb hml hown hts hK hG hW (c_pa_readStatement l D cA base hw5) (kb_pa_readStatement hw5) ⟨Nat.le_of_ble_eq_true rfl, Nat.le_of_ble_eq_true rfl⟩ ⟨Nat.le_of_ble_eq_true rfl, Nat.le_of_ble_eq_true rfl⟩ rfl hl.1 rfl (Nat.le_of_ble_eq_true rfl) d_pa_readStatements_25 (fun H locs hW => ?_)
        refine wo_astore (lv' := [(6, va_rf x6), (0, .ref y0), (1, .int y1), (2, .int y2), (3, va_rf y3), (4, va_rf y4), (5, .int y5)]) hx hb d_pa_readStatements_28 hl (by decide) rfl (fun ls hl => ?_)
        refine wo_aload hx hb d_pa_readStatements_30 (lv_at hl 5 rfl) ?_
        refine wo_ifnonnull (tgt := 41) hx hb d_pa_readStatements_32 (by decide) (fun x7 ex7 => ?_) (fun ex7 => ?_)
        · subst ex7
          dsimp only [nl] at h
          have hl : lv_has ls 7 [(6, va_rf x6), (0, .ref y0), (1, .int y1), (2, .int y2), (3, va_rf y3), (4, .ref x7), (5, .int y5)] := hl
          refine lv_aload hx hb d_pa_readStatements_41 (lv_at hl 5 rfl) ?_
          refine wo_aload hx hb d_pa_readStatements_43 (lv_at hl 0 rfl) ?_
          replace h := bs h
          obtain ⟨w8, hw8, h⟩ := h
          refine pf_pa_70 hx hb hts hown hK hG hW (rf_n _ _) (rf_f _ _) hw8 d_pa_readStatements_45 (fun H locs hW => ?_)
          exact j_pa_readStatements_48 C ih y0 y1 y2 y3 y5 x6 w8 h _ _ _ hW (lv_sub hl [1, 2, 3, 4, 6, 0] rfl)
        · subst ex7
          dsimp only [nl] at h
          have hl : lv_has ls 7 [(6, va_rf x6), (0, .ref y0), (1, .int y1), (2, .int y2), (3, va_rf y3), (4, va_rf none), (5, .int y5)] := hl
          refine wo_aload hx hb d_pa_readStatements_35 (lv_at hl 0 rfl) ?_
          refine wo_astore_n (lv' := [(3, va_rf x6), (6, va_rf x6), (0, .ref y0), (1, .int y1), (2, .int y2), (4, va_rf none), (5, .int y5)]) hx hb d_pa_readStatements_37 rfl hl (by decide) rfl (fun ls hl => ?_)
          refine lv_goto (tgt := 48) hx hb d_pa_readStatements_38 (by decide) ?_
          exact j_pa_readStatements_48 C ih y0 y1 y2 x6 y5 x6 w5 h _ _ _ hW (lv_sub hl [2, 3, 4, 0, 6, 1] rfl)
set_option maxHeartbeats 4000000 in
set_option maxRecDepth 100000 in
theorem c_pa_readStatements (l : Launch) (D : va_G) (cA : Nat → ClassId) (base : Nat) {a0 : Nat} {a1 : Int32} {a2 : Int32} {w w' : WW} {r : Option Nat} (h : f_pa_readStatements a0 a1 a2 w = some (.inl r, w')) : mt l D cls (wo_tys cA) cA base y_pa_readStatements (Cond.code y_pa_readStatements b_pa_readStatements 7 (some (.object "AlarmForge$Statement")) :: gt) rm_pa_readStatements [.ref a0, .int a1, .int a2] w (some (va_rf r)) w' rm_pa_readStatements.cells rm_pa_readStatements.slots := by
  refine mt_start (by decide) (Nat.le_of_ble_eq_true rfl) ?_
  intro p e s m below meth c ls hx hb hr hml hown hts hlk hnm hK hG hW hl
  have C : cx b_pa_readStatements (some (.object "AlarmForge$Statement")) 7 y_pa_readStatements.cls "readStatements" p s m [.ref a0, .int a1, .int a2].toArray meth c D cA base := ⟨hx, hb, hr, hml, hown, hts, hlk, hnm, hK, hG⟩
  have hl : lv_has ls 7 [(0, .ref a0), (1, .int a1), (2, .int a2)] := hl
  unfold f_pa_readStatements at h
  replace h := its h
  obtain ⟨-, h⟩ := h
  refine wo_null hx hb d_pa_readStatements_0 ?_
  refine wo_astore_n (lv' := [(3, va_rf none), (0, .ref a0), (1, .int a1), (2, .int a2)]) hx hb d_pa_readStatements_1 rfl hl (by decide) rfl (fun ls hl => ?_)
  refine wo_null hx hb d_pa_readStatements_2 ?_
  refine wo_astore (lv' := [(4, va_rf none), (3, va_rf none), (0, .ref a0), (1, .int a1), (2, .int a2)]) hx hb d_pa_readStatements_3 hl (by decide) (by simp [rf_cat]) (fun ls hl => ?_)
  refine lv_iconst (v := (0 : Int32)) hx hb d_pa_readStatements_5 (by decide) ?_
  refine lv_istore (lv' := [(5, .int (0 : Int32)), (4, va_rf none), (3, va_rf none), (0, .ref a0), (1, .int a1), (2, .int a2)]) hx hb d_pa_readStatements_6 hl (by decide) (by simp [rf_cat]) (fun ls hl => ?_)
  exact j_pa_readStatements_8 C KK a0 a1 a2 none none (0 : Int32) w h _ _ _ hW (lv_sub hl [3, 4, 5, 2, 1, 0] rfl)
set_option maxHeartbeats 4000000 in
set_option maxRecDepth 100000 in
theorem jx_pa_readStatements_58 {p : Program} {l : Launch} {e : Env} {s : State} {m : MethodId} {args : Array Value} {below : List Frame} {meth : Method} {c : Code} {D : va_G} {cA : Nat → ClassId} {base : Nat} {E : String} {w' : WW} (C : cx b_pa_readStatements (some (.object "AlarmForge$Statement")) 7 y_pa_readStatements.cls "readStatements" p s m args meth c D cA base ∧ (∀ x ∈ c.exceptionTable.toList, ∀ k : Nat, covers x k = false) ∧ l.stackTraces = false)   : ∀ (y3 : Option Nat) (w : WW), f_pa_readStatements_58 y3 w = some (.inr E, w') → ∀ (H : Heap) (locs : List Loc) (ls : Array Slot), wo_S D cls cA base s w H locs → lv_has ls 7 [(3, va_rf y3)] → W p l e rx_pa_readStatements s m args below meth c H locs 0 0 (XQ below (wo_X D cls cA base E w' rx_pa_readStatements.cells rx_pa_readStatements.slots) args s) (F0 m 58 ls []) := by
  obtain ⟨hx, hb, hr, hml, hown, hts, hlk, hnm, hK, hG⟩ := id C.1
  have hnt := C.2.1
  have hst := C.2.2
  intro y3 w h H locs ls hW hl
  unfold f_pa_readStatements_58 at h
  refine wo_aload_n hx hb d_pa_readStatements_58 rfl (lv_at hl 0 rfl) ?_
  cases h
set_option maxHeartbeats 4000000 in
set_option maxRecDepth 100000 in
theorem jx_pa_readStatements_48 {p : Program} {l : Launch} {e : Env} {s : State} {m : MethodId} {args : Array Value} {below : List Frame} {meth : Method} {c : Code} {D : va_G} {cA : Nat → ClassId} {base : Nat} {E : String} {w' : WW} (C : cx b_pa_readStatements (some (.object "AlarmForge$Statement")) 7 y_pa_readStatements.cls "readStatements" p s m args meth c D cA base ∧ (∀ x ∈ c.exceptionTable.toList, ∀ k : Nat, covers x k = false) ∧ l.stackTraces = false) {k_8 : Nat → Int32 → Int32 → Option Nat → Option Nat → Int32 → WW → Option ((Option Nat ⊕ String) × WW)} (hk_8 : ∀ (y0 : Nat) (y1 : Int32) (y2 : Int32) (y3 : Option Nat) (y4 : Option Nat) (y5 : Int32) (w : WW), k_8 y0 y1 y2 y3 y4 y5 w = some (.inr E, w') → ∀ (H : Heap) (locs : List Loc) (ls : Array Slot), wo_S D cls cA base s w H locs → lv_has ls 7 [(0, .ref y0), (1, .int y1), (2, .int y2), (3, va_rf y3), (4, va_rf y4), (5, .int y5)] → W p l e rx_pa_readStatements s m args below meth c H locs 0 0 (XQ below (wo_X D cls cA base E w' rx_pa_readStatements.cells rx_pa_readStatements.slots) args s) (F0 m 8 ls [])) : ∀ (y0 : Nat) (y1 : Int32) (y2 : Int32) (y3 : Option Nat) (y5 : Int32) (y6 : Option Nat) (w : WW), f_pa_readStatements_48 k_8 y0 y1 y2 y3 y5 y6 w = some (.inr E, w') → ∀ (H : Heap) (locs : List Loc) (ls : Array Slot), wo_S D cls cA base s w H locs → lv_has ls 7 [(0, .ref y0), (1, .int y1), (2, .int y2), (3, va_rf y3), (5, .int y5), (6, va_rf y6)] → W p l e rx_pa_readStatements s m args below meth c H locs 0 0 (XQ below (wo_X D cls cA base E w' rx_pa_readStatements.cells rx_pa_readStatements.slots) args s) (F0 m 48 ls []) := by
  obtain ⟨hx, hb, hr, hml, hown, hts, hlk, hnm, hK, hG⟩ := id C.1
  have hnt := C.2.1
  have hst := C.2.2
  intro y0 y1 y2 y3 y5 y6 w h H locs ls hW hl
  unfold f_pa_readStatements_48 at h
  refine wo_aload hx hb d_pa_readStatements_48 (lv_at hl 5 rfl) ?_
  refine wo_astore (lv' := [(4, va_rf y6), (0, .ref y0), (1, .int y1), (2, .int y2), (3, va_rf y3), (5, .int y5), (6, va_rf y6)]) hx hb d_pa_readStatements_50 hl (by decide) (by simp [rf_cat]) (fun ls hl => ?_)
  refine lv_iinc (v := (y5 + (1 : Int32))) (lv' := [(5, .int (y5 + (1 : Int32))), (4, va_rf y6), (0, .ref y0), (1, .int y1), (2, .int y2), (3, va_rf y3), (6, va_rf y6)]) hx hb d_pa_readStatements_52 hl (k := 5) rfl rfl (by decide) (by simp [rf_cat]) (fun ls hl => ?_)
  refine lv_goto (tgt := 8) hx hb d_pa_readStatements_55 (by decide) ?_
  exact hk_8 y0 y1 y2 y3 y6 (y5 + (1 : Int32)) w h _ _ _ hW (lv_sub hl [2, 3, 4, 5, 1, 0] rfl)
set_option maxHeartbeats 4000000 in
set_option maxRecDepth 100000 in
theorem jx_pa_readStatements_8 {p : Program} {l : Launch} {e : Env} {s : State} {m : MethodId} {args : Array Value} {below : List Frame} {meth : Method} {c : Code} {D : va_G} {cA : Nat → ClassId} {base : Nat} {E : String} {w' : WW} (C : cx b_pa_readStatements (some (.object "AlarmForge$Statement")) 7 y_pa_readStatements.cls "readStatements" p s m args meth c D cA base ∧ (∀ x ∈ c.exceptionTable.toList, ∀ k : Nat, covers x k = false) ∧ l.stackTraces = false)   : ∀ n : Nat, ∀ (y0 : Nat) (y1 : Int32) (y2 : Int32) (y3 : Option Nat) (y4 : Option Nat) (y5 : Int32) (w : WW), f_pa_readStatements_8 n y0 y1 y2 y3 y4 y5 w = some (.inr E, w') → ∀ (H : Heap) (locs : List Loc) (ls : Array Slot), wo_S D cls cA base s w H locs → lv_has ls 7 [(0, .ref y0), (1, .int y1), (2, .int y2), (3, va_rf y3), (4, va_rf y4), (5, .int y5)] → W p l e rx_pa_readStatements s m args below meth c H locs 0 0 (XQ below (wo_X D cls cA base E w' rx_pa_readStatements.cells rx_pa_readStatements.slots) args s) (F0 m 8 ls []) := by
  obtain ⟨hx, hb, hr, hml, hown, hts, hlk, hnm, hK, hG⟩ := id C.1
  have hnt := C.2.1
  have hst := C.2.2
  intro n
  induction n with
  | zero => intro y0 y1 y2 y3 y4 y5 w h; cases h
  | succ n ih =>
    intro y0 y1 y2 y3 y4 y5 w h H locs ls hW hl
    rw [f_pa_readStatements_8] at h
    refine lv_iload hx hb d_pa_readStatements_8 (lv_at hl 5 rfl) ?_
    refine lv_bipush (v := (50 : Int32)) hx hb d_pa_readStatements_10 (by decide) ?_
    refine lv_icmp_gt (tgt := 58) hx hb d_pa_readStatements_12 (by decide) (fun c1 => ?_) (fun c1 => ?_)
    · rw [if_pos c1] at h
      exact jx_pa_readStatements_58 C y3 w h _ _ _ hW (lv_sub hl [3] rfl)
    · rw [if_neg c1] at h
      refine lv_aload_n hx hb d_pa_readStatements_15 rfl (lv_at hl 0 rfl) ?_
      replace h := bs2 h
      obtain ⟨x3, w2, hw2, h⟩ := h
      refine cv_pa_55 (As := []) (rest := []) hx hb hml hown hts hK hG hW (c_pa_kindHere l D cA base hw2) (kb_pa_kindHere hw2) ⟨Nat.le_of_ble_eq_true rfl, Nat.le_of_ble_eq_true rfl⟩ ⟨Nat.le_of_ble_eq_true rfl, Nat.le_of_ble_eq_true rfl⟩ rfl hl.1 rfl (Nat.le_of_ble_eq_true rfl) d_pa_readStatements_16 (fun H locs hW => ?_)
      refine lv_iload_n hx hb d_pa_readStatements_19 rfl (lv_at hl 1 rfl) ?_
      refine lv_icmp_eq (tgt := 58) hx hb d_pa_readStatements_20 (by decide) (fun c4 => ?_) (fun c4 => ?_)
      · rw [if_pos c4] at h
        exact jx_pa_readStatements_58 C y3 w2 h _ _ _ hW (lv_sub hl [3] rfl)
      · rw [if_neg c4] at h
        refine lv_aload_n hx hb d_pa_readStatements_23 rfl (lv_at hl 0 rfl) ?_
        refine lv_iload_n hx hb d_pa_readStatements_24 rfl (lv_at hl 2 rfl) ?_
        rcases bsy h with hw5 | ⟨x6, w5, hw5, hnw5⟩
        · exact xv_pa_66 (As := [.int y2]) (rest := []) hx hb hml hown hts hK hG hW (x_pa_readStatement l hst D cA base hw5) (kb_pa_readStatement hw5) ⟨Nat.le_of_ble_eq_true rfl, Nat.le_of_ble_eq_true rfl⟩ ⟨Nat.le_of_ble_eq_true rfl, Nat.le_of_ble_eq_true rfl⟩ rfl hl.1 rfl (Nat.le_of_ble_eq_true rfl) d_pa_readStatements_25 (fun H locs q ce hW h1 h2 h3 => wo_xout hnt hlk hW h1 h2 h3 (Nat.le_of_ble_eq_true rfl) (Nat.le_of_ble_eq_true rfl))
        clear h
        have h := hnw5
        clear hnw5
        refine cv_pa_66 (As := [.int y2]) (rest := []) hx hb hml hown hts hK hG hW (c_pa_readStatement l D cA base hw5) (kb_pa_readStatement hw5) ⟨Nat.le_of_ble_eq_true rfl, Nat.le_of_ble_eq_true rfl⟩ ⟨Nat.le_of_ble_eq_true rfl, Nat.le_of_ble_eq_true rfl⟩ rfl hl.1 rfl (Nat.le_of_ble_eq_true rfl) d_pa_readStatements_25 (fun H locs hW => ?_)
        refine wo_astore (lv' := [(6, va_rf x6), (0, .ref y0), (1, .int y1), (2, .int y2), (3, va_rf y3), (4, va_rf y4), (5, .int y5)]) hx hb d_pa_readStatements_28 hl (by decide) rfl (fun ls hl => ?_)
        refine wo_aload hx hb d_pa_readStatements_30 (lv_at hl 5 rfl) ?_
        refine wo_ifnonnull (tgt := 41) hx hb d_pa_readStatements_32 (by decide) (fun x7 ex7 => ?_) (fun ex7 => ?_)
        · subst ex7
          dsimp only [nl] at h
          have hl : lv_has ls 7 [(6, va_rf x6), (0, .ref y0), (1, .int y1), (2, .int y2), (3, va_rf y3), (4, .ref x7), (5, .int y5)] := hl
          refine lv_aload hx hb d_pa_readStatements_41 (lv_at hl 5 rfl) ?_
          refine wo_aload hx hb d_pa_readStatements_43 (lv_at hl 0 rfl) ?_
          replace h := bs h
          obtain ⟨w8, hw8, h⟩ := h
          refine pf_pa_70 hx hb hts hown hK hG hW (rf_n _ _) (rf_f _ _) hw8 d_pa_readStatements_45 (fun H locs hW => ?_)
          exact jx_pa_readStatements_48 C ih y0 y1 y2 y3 y5 x6 w8 h _ _ _ hW (lv_sub hl [1, 2, 3, 4, 6, 0] rfl)
        · subst ex7
          dsimp only [nl] at h
          have hl : lv_has ls 7 [(6, va_rf x6), (0, .ref y0), (1, .int y1), (2, .int y2), (3, va_rf y3), (4, va_rf none), (5, .int y5)] := hl
          refine wo_aload hx hb d_pa_readStatements_35 (lv_at hl 0 rfl) ?_
          refine wo_astore_n (lv' := [(3, va_rf x6), (6, va_rf x6), (0, .ref y0), (1, .int y1), (2, .int y2), (4, va_rf none), (5, .int y5)]) hx hb d_pa_readStatements_37 rfl hl (by decide) rfl (fun ls hl => ?_)
          refine lv_goto (tgt := 48) hx hb d_pa_readStatements_38 (by decide) ?_
          exact jx_pa_readStatements_48 C ih y0 y1 y2 x6 y5 x6 w5 h _ _ _ hW (lv_sub hl [2, 3, 4, 0, 6, 1] rfl)
set_option maxHeartbeats 4000000 in
set_option maxRecDepth 100000 in
theorem x_pa_readStatements (l : Launch) (hst : l.stackTraces = false) (D : va_G) (cA : Nat → ClassId) (base : Nat) {a0 : Nat} {a1 : Int32} {a2 : Int32} {w w' : WW} {E : String} (h : f_pa_readStatements a0 a1 a2 w = some (.inr E, w')) : xt l D cls (wo_tys cA) cA base y_pa_readStatements (Cond.code y_pa_readStatements b_pa_readStatements 7 (some (.object "AlarmForge$Statement")) :: gt) rx_pa_readStatements [.ref a0, .int a1, .int a2] w E w' rx_pa_readStatements.cells rx_pa_readStatements.slots := by
  refine xt_start (by decide) (Nat.le_of_ble_eq_true rfl) ?_
  intro p e s m below meth c ls hx hb hr hml hown hts hlk hnm hK hG hW hl hnt
  have C : cx b_pa_readStatements (some (.object "AlarmForge$Statement")) 7 y_pa_readStatements.cls "readStatements" p s m [.ref a0, .int a1, .int a2].toArray meth c D cA base ∧ (∀ x ∈ c.exceptionTable.toList, ∀ k : Nat, covers x k = false) ∧ l.stackTraces = false := ⟨⟨hx, hb, hr, hml, hown, hts, hlk, hnm, hK, hG⟩, hnt, hst⟩
  have hl : lv_has ls 7 [(0, .ref a0), (1, .int a1), (2, .int a2)] := hl
  unfold f_pa_readStatements at h
  replace h := its h
  obtain ⟨-, h⟩ := h
  refine wo_null hx hb d_pa_readStatements_0 ?_
  refine wo_astore_n (lv' := [(3, va_rf none), (0, .ref a0), (1, .int a1), (2, .int a2)]) hx hb d_pa_readStatements_1 rfl hl (by decide) rfl (fun ls hl => ?_)
  refine wo_null hx hb d_pa_readStatements_2 ?_
  refine wo_astore (lv' := [(4, va_rf none), (3, va_rf none), (0, .ref a0), (1, .int a1), (2, .int a2)]) hx hb d_pa_readStatements_3 hl (by decide) (by simp [rf_cat]) (fun ls hl => ?_)
  refine lv_iconst (v := (0 : Int32)) hx hb d_pa_readStatements_5 (by decide) ?_
  refine lv_istore (lv' := [(5, .int (0 : Int32)), (4, va_rf none), (3, va_rf none), (0, .ref a0), (1, .int a1), (2, .int a2)]) hx hb d_pa_readStatements_6 hl (by decide) (by simp [rf_cat]) (fun ls hl => ?_)
  exact jx_pa_readStatements_8 C KK a0 a1 a2 none none (0 : Int32) w h _ _ _ hW (lv_sub hl [3, 4, 5, 2, 1, 0] rfl)
theorem cv_pa_26 {p : Program} {l : Launch} {e : Env} {R : Room} {s : State} {m : MethodId} {args : Array Value} {below : List Frame} {meth : Method} {c : Code} {H : Heap} {locs : List Loc} {cells slots : Nat} {Q : State → Prop} {D : va_G} {cA : Nat → ClassId} {base : Nat} {w w' : WW} {cc : ByteArray} {pc nL : Nat} {ls : Array Slot} {rest st0 As : List Value} {ov : Option Value} {b : Nat} (hx : p.tables.exec = Jvm.exec) (hb : c.code = cc) (hml : c.maxLocals = nL) (hown : s.vm.findClass Rc_pa = some m.cls) (hts : ∀ w ∈ gt, w.before args s = true) (hK : va_K D cls (wo_tys cA) s) (hG : wo_G base s) (hW : wo_S D cls cA base s w H locs) (hM : mt l D cls (wo_tys cA) cA base y_pg_empty (Cond.code y_pg_empty b_pg_empty 1 (none) :: gt) rm_pg_empty (.ref b :: As) w ov w' rm_pg_empty.cells rm_pg_empty.slots) (hkb : kb w b 3 = true) (hR : rm_pg_empty.frames + 1 ≤ R.frames ∧ 8 + (1 + 11) + rm_pg_empty.locals ≤ R.locals) (hf : cells + rm_pg_empty.cells ≤ R.cells ∧ slots + rm_pg_empty.slots ≤ R.slots) (hn : As.length = 0) (hsz : ls.size = nL) (hst : st0 = As.reverse ++ .ref b :: rest) (hcat : (rest.map fun v => v.category).sum ≤ 8) (hdg : decode cc pc = .ok (.invokevirtual 26, 3)) (kk : ∀ (H1 : Heap) (locs1 : List Loc), wo_S D cls cA base s w' H1 locs1 → W p l e R s m args below meth c H1 locs1 (cells + rm_pg_empty.cells) (slots + rm_pg_empty.slots) Q (F0 m (pc + 3) ls (ov.toList ++ rest))) : W p l e R s m args below meth c H locs cells slots Q (F0 m pc ls st0) :=
  wo_callV (C := Rc_pg) hx hb hml hown hts hK hG hW hM hkb rfl (gt_of (i := 490) (by decide +kernel) (by decide +kernel)) (gt_of (i := 491) (by decide +kernel) (by decide +kernel)) (gt_of (i := 492) (by decide +kernel) (by decide +kernel)) (gt_of (i := 4) (by decide +kernel) (by decide +kernel)) (gt_of (i := 493) (by decide +kernel) (by decide +kernel)) (by decide +kernel) hR hf hn hsz hst hcat hdg kk
theorem cv_pa_31 {p : Program} {l : Launch} {e : Env} {R : Room} {s : State} {m : MethodId} {args : Array Value} {below : List Frame} {meth : Method} {c : Code} {H : Heap} {locs : List Loc} {cells slots : Nat} {Q : State → Prop} {D : va_G} {cA : Nat → ClassId} {base : Nat} {w w' : WW} {cc : ByteArray} {pc nL : Nat} {ls : Array Slot} {rest st0 As : List Value} {ov : Option Value} {b : Nat} (hx : p.tables.exec = Jvm.exec) (hb : c.code = cc) (hml : c.maxLocals = nL) (hown : s.vm.findClass Rc_pa = some m.cls) (hts : ∀ w ∈ gt, w.before args s = true) (hK : va_K D cls (wo_tys cA) s) (hG : wo_G base s) (hW : wo_S D cls cA base s w H locs) (hM : mt l D cls (wo_tys cA) cA base y_rd_readAll (Cond.code y_rd_readAll b_rd_readAll 2 (none) :: gt) rm_rd_readAll (.ref b :: As) w ov w' rm_rd_readAll.cells rm_rd_readAll.slots) (hkb : kb w b 1 = true) (hR : rm_rd_readAll.frames + 1 ≤ R.frames ∧ 8 + (2 + 11) + rm_rd_readAll.locals ≤ R.locals) (hf : cells + rm_rd_readAll.cells ≤ R.cells ∧ slots + rm_rd_readAll.slots ≤ R.slots) (hn : As.length = 0) (hsz : ls.size = nL) (hst : st0 = As.reverse ++ .ref b :: rest) (hcat : (rest.map fun v => v.category).sum ≤ 8) (hdg : decode cc pc = .ok (.invokevirtual 31, 3)) (kk : ∀ (H1 : Heap) (locs1 : List Loc), wo_S D cls cA base s w' H1 locs1 → W p l e R s m args below meth c H1 locs1 (cells + rm_rd_readAll.cells) (slots + rm_rd_readAll.slots) Q (F0 m (pc + 3) ls (ov.toList ++ rest))) : W p l e R s m args below meth c H locs cells slots Q (F0 m pc ls st0) :=
  wo_callV (C := Rc_rd) hx hb hml hown hts hK hG hW hM hkb rfl (gt_of (i := 494) (by decide +kernel) (by decide +kernel)) (gt_of (i := 495) (by decide +kernel) (by decide +kernel)) (gt_of (i := 496) (by decide +kernel) (by decide +kernel)) (gt_of (i := 3) (by decide +kernel) (by decide +kernel)) (gt_of (i := 497) (by decide +kernel) (by decide +kernel)) (by decide +kernel) hR hf hn hsz hst hcat hdg kk
theorem xv_pa_37 {p : Program} {l : Launch} {e : Env} {R : Room} {s : State} {m : MethodId} {args : Array Value} {below : List Frame} {meth : Method} {c : Code} {H : Heap} {locs : List Loc} {cells slots : Nat} {Q : State → Prop} {D : va_G} {cA : Nat → ClassId} {base : Nat} {w w' : WW} {cc : ByteArray} {pc nL : Nat} {ls : Array Slot} {rest st0 As : List Value} {E : String} {b : Nat} (hx : p.tables.exec = Jvm.exec) (hb : c.code = cc) (hml : c.maxLocals = nL) (hown : s.vm.findClass Rc_pa = some m.cls) (hts : ∀ w ∈ gt, w.before args s = true) (hK : va_K D cls (wo_tys cA) s) (hG : wo_G base s) (hW : wo_S D cls cA base s w H locs) (hM : xt l D cls (wo_tys cA) cA base y_pa_readStatements (Cond.code y_pa_readStatements b_pa_readStatements 7 (some (.object "AlarmForge$Statement")) :: gt) rx_pa_readStatements (.ref b :: As) w E w' rx_pa_readStatements.cells rx_pa_readStatements.slots) (hkb : kb w b 2 = true) (hR : rx_pa_readStatements.frames + 1 ≤ R.frames ∧ 8 + (7 + 11) + rx_pa_readStatements.locals ≤ R.locals) (hf : cells + rx_pa_readStatements.cells ≤ R.cells ∧ slots + rx_pa_readStatements.slots ≤ R.slots) (hn : As.length = 2) (hsz : ls.size = nL) (hst : st0 = As.reverse ++ .ref b :: rest) (hcat : (rest.map fun v => v.category).sum ≤ 8) (hdg : decode cc pc = .ok (.invokevirtual 37, 3)) (kk : ∀ (H1 : Heap) (locs1 : List Loc) (q : Addr) (ce : Cell), wo_S D cls cA base s w' H1 locs1 → H1[q]? = some ce → ce.vm = .none → s.vm.findClass E = some ce.cls → XW p l e R s m args below meth c H1 locs1 (cells + rx_pa_readStatements.cells) (slots + rx_pa_readStatements.slots) Q (F0 m pc ls rest) q) : W p l e R s m args below meth c H locs cells slots Q (F0 m pc ls st0) :=
  wo_xcallV (C := Rc_pa) hx hb hml hown hts hK hG hW hM hkb rfl (gt_of (i := 641) (by decide +kernel) (by decide +kernel)) (gt_of (i := 643) (by decide +kernel) (by decide +kernel)) (gt_sel (i := 7) (by decide +kernel) (by decide +kernel)) (gt_of (i := 2) (by decide +kernel) (by decide +kernel)) (gt_of (i := 644) (by decide +kernel) (by decide +kernel)) (by decide +kernel) hR hf hn hsz hst hcat hdg kk
theorem cv_pa_37 {p : Program} {l : Launch} {e : Env} {R : Room} {s : State} {m : MethodId} {args : Array Value} {below : List Frame} {meth : Method} {c : Code} {H : Heap} {locs : List Loc} {cells slots : Nat} {Q : State → Prop} {D : va_G} {cA : Nat → ClassId} {base : Nat} {w w' : WW} {cc : ByteArray} {pc nL : Nat} {ls : Array Slot} {rest st0 As : List Value} {ov : Option Value} {b : Nat} (hx : p.tables.exec = Jvm.exec) (hb : c.code = cc) (hml : c.maxLocals = nL) (hown : s.vm.findClass Rc_pa = some m.cls) (hts : ∀ w ∈ gt, w.before args s = true) (hK : va_K D cls (wo_tys cA) s) (hG : wo_G base s) (hW : wo_S D cls cA base s w H locs) (hM : mt l D cls (wo_tys cA) cA base y_pa_readStatements (Cond.code y_pa_readStatements b_pa_readStatements 7 (some (.object "AlarmForge$Statement")) :: gt) rm_pa_readStatements (.ref b :: As) w ov w' rm_pa_readStatements.cells rm_pa_readStatements.slots) (hkb : kb w b 2 = true) (hR : rm_pa_readStatements.frames + 1 ≤ R.frames ∧ 8 + (7 + 11) + rm_pa_readStatements.locals ≤ R.locals) (hf : cells + rm_pa_readStatements.cells ≤ R.cells ∧ slots + rm_pa_readStatements.slots ≤ R.slots) (hn : As.length = 2) (hsz : ls.size = nL) (hst : st0 = As.reverse ++ .ref b :: rest) (hcat : (rest.map fun v => v.category).sum ≤ 8) (hdg : decode cc pc = .ok (.invokevirtual 37, 3)) (kk : ∀ (H1 : Heap) (locs1 : List Loc), wo_S D cls cA base s w' H1 locs1 → W p l e R s m args below meth c H1 locs1 (cells + rm_pa_readStatements.cells) (slots + rm_pa_readStatements.slots) Q (F0 m (pc + 3) ls (ov.toList ++ rest))) : W p l e R s m args below meth c H locs cells slots Q (F0 m pc ls st0) :=
  wo_callV (C := Rc_pa) hx hb hml hown hts hK hG hW hM hkb rfl (gt_of (i := 641) (by decide +kernel) (by decide +kernel)) (gt_of (i := 643) (by decide +kernel) (by decide +kernel)) (gt_sel (i := 7) (by decide +kernel) (by decide +kernel)) (gt_of (i := 2) (by decide +kernel) (by decide +kernel)) (gt_of (i := 644) (by decide +kernel) (by decide +kernel)) (by decide +kernel) hR hf hn hsz hst hcat hdg kk
abbrev b_pa_readProgram : ByteArray := prog_3_method_2_code
def y_pa_readProgram : MethodName := ⟨"AlarmForge$Parser", "readProgram", "(LAlarmForge$Program;)V"⟩
def rm_pa_readProgram : Room := { frames := 7, cells := 0, slots := 0, locals := 126 }
def rx_pa_readProgram : Room := { frames := 7, cells := 1, slots := 6, locals := 126 }
theorem d_pa_readProgram_0 : decode b_pa_readProgram 0 = .ok (.aload_n 0, 1) := by decide +kernel
theorem d_pa_readProgram_1 : decode b_pa_readProgram 1 = .ok (.aload_n 1, 1) := by decide +kernel
theorem d_pa_readProgram_2 : decode b_pa_readProgram 2 = .ok (.putfield 22, 3) := by decide +kernel
theorem d_pa_readProgram_5 : decode b_pa_readProgram 5 = .ok (.aload_n 0, 1) := by decide +kernel
theorem d_pa_readProgram_6 : decode b_pa_readProgram 6 = .ok (.getfield 22, 3) := by decide +kernel
theorem d_pa_readProgram_9 : decode b_pa_readProgram 9 = .ok (.invokevirtual 26, 3) := by decide +kernel
theorem d_pa_readProgram_12 : decode b_pa_readProgram 12 = .ok (.aload_n 0, 1) := by decide +kernel
theorem d_pa_readProgram_13 : decode b_pa_readProgram 13 = .ok (.bipush (-2), 2) := by decide +kernel
theorem d_pa_readProgram_15 : decode b_pa_readProgram 15 = .ok (.putfield 18, 3) := by decide +kernel
theorem d_pa_readProgram_18 : decode b_pa_readProgram 18 = .ok (.aload_n 0, 1) := by decide +kernel
theorem d_pa_readProgram_19 : decode b_pa_readProgram 19 = .ok (.getfield 12, 3) := by decide +kernel
theorem d_pa_readProgram_22 : decode b_pa_readProgram 22 = .ok (.invokevirtual 31, 3) := by decide +kernel
theorem d_pa_readProgram_25 : decode b_pa_readProgram 25 = .ok (.aload_n 0, 1) := by decide +kernel
theorem d_pa_readProgram_26 : decode b_pa_readProgram 26 = .ok (.iconst 0, 1) := by decide +kernel
theorem d_pa_readProgram_27 : decode b_pa_readProgram 27 = .ok (.putfield 34, 3) := by decide +kernel
theorem d_pa_readProgram_30 : decode b_pa_readProgram 30 = .ok (.aload_n 0, 1) := by decide +kernel
theorem d_pa_readProgram_31 : decode b_pa_readProgram 31 = .ok (.getfield 22, 3) := by decide +kernel
theorem d_pa_readProgram_34 : decode b_pa_readProgram 34 = .ok (.aload_n 0, 1) := by decide +kernel
theorem d_pa_readProgram_35 : decode b_pa_readProgram 35 = .ok (.iconst 0, 1) := by decide +kernel
theorem d_pa_readProgram_36 : decode b_pa_readProgram 36 = .ok (.iconst 0, 1) := by decide +kernel
theorem d_pa_readProgram_37 : decode b_pa_readProgram 37 = .ok (.invokevirtual 37, 3) := by decide +kernel
theorem d_pa_readProgram_40 : decode b_pa_readProgram 40 = .ok (.putfield 41, 3) := by decide +kernel
theorem d_pa_readProgram_43 : decode b_pa_readProgram 43 = .ok (.return_, 1) := by decide +kernel
def f_pa_readProgram (a0 : Nat) (a1 : Nat) (w : WW) : Option ((Unit ⊕ String) × WW) :=
  if kb w a0 2 = true then
    (pv w a0 2 2 (.ref a1)).bind fun w1 =>
    (gR w1 a0 2 2).bind fun x2 =>
    x2.bind fun x3 =>
    (f_pg_empty x3 w1).bind fun w4 =>
    (pv w4 a0 2 3 (.int (-2 : Int32))).bind fun w5 =>
    (gN w5 a0 2 0).bind fun x6 =>
    (f_rd_readAll x6 w5).bind fun w7 =>
    (pv w7 a0 2 1 (.int (0 : Int32))).bind fun w8 =>
    (gR w8 a0 2 2).bind fun x9 =>
    bdx (f_pa_readStatements a0 (0 : Int32) (0 : Int32) w8) fun x11 w10 =>
    x9.bind fun x12 =>
    (pv w10 x12 3 6 (va_rf x11)).bind fun w13 =>
    some (.inl (), w13)
  else none
theorem kb_pa_readProgram {a0 a1 : Nat}  {w : WW} {r : ((Unit ⊕ String) × WW)} (h : f_pa_readProgram a0 a1 w = some r) : kb w a0 2 = true := (its h).1
set_option maxHeartbeats 4000000 in
set_option maxRecDepth 100000 in
theorem c_pa_readProgram (l : Launch) (D : va_G) (cA : Nat → ClassId) (base : Nat) {a0 : Nat} {a1 : Nat} {w w' : WW} (h : f_pa_readProgram a0 a1 w = some (.inl (), w')) : mt l D cls (wo_tys cA) cA base y_pa_readProgram (Cond.code y_pa_readProgram b_pa_readProgram 2 (none) :: gt) rm_pa_readProgram [.ref a0, .ref a1] w none w' rm_pa_readProgram.cells rm_pa_readProgram.slots := by
  refine mt_start (by decide) (Nat.le_of_ble_eq_true rfl) ?_
  intro p e s m below meth c ls hx hb hr hml hown hts hlk hnm hK hG hW hl
  have C : cx b_pa_readProgram (none) 2 y_pa_readProgram.cls "readProgram" p s m [.ref a0, .ref a1].toArray meth c D cA base := ⟨hx, hb, hr, hml, hown, hts, hlk, hnm, hK, hG⟩
  have hl : lv_has ls 2 [(0, .ref a0), (1, .ref a1)] := hl
  unfold f_pa_readProgram at h
  replace h := its h
  obtain ⟨-, h⟩ := h
  refine lv_aload_n hx hb d_pa_readProgram_0 rfl (lv_at hl 0 rfl) ?_
  refine lv_aload_n hx hb d_pa_readProgram_1 rfl (lv_at hl 1 rfl) ?_
  replace h := bs h
  obtain ⟨w1, hw1, h⟩ := h
  refine pf_pa_22 hx hb hts hown hK hG hW rfl rfl hw1 d_pa_readProgram_2 (fun H locs hW => ?_)
  refine lv_aload_n hx hb d_pa_readProgram_5 rfl (lv_at hl 0 rfl) ?_
  replace h := bs h
  obtain ⟨x2, hx2, h⟩ := h
  refine gf_pa_22 hx hb hts hown hK hG hW (gR_s hx2) d_pa_readProgram_6 ?_
  replace h := bs h
  obtain ⟨x3, ex3, h⟩ := h
  subst ex3
  replace h := bs h
  obtain ⟨w4, hw4, h⟩ := h
  refine cv_pa_26 (As := []) (rest := []) hx hb hml hown hts hK hG hW (c_pg_empty l D cA base hw4) (kb_pg_empty hw4) ⟨Nat.le_of_ble_eq_true rfl, Nat.le_of_ble_eq_true rfl⟩ ⟨Nat.le_of_ble_eq_true rfl, Nat.le_of_ble_eq_true rfl⟩ rfl hl.1 rfl (Nat.le_of_ble_eq_true rfl) d_pa_readProgram_9 (fun H locs hW => ?_)
  refine lv_aload_n hx hb d_pa_readProgram_12 rfl (lv_at hl 0 rfl) ?_
  refine lv_bipush (v := (-2 : Int32)) hx hb d_pa_readProgram_13 (by decide) ?_
  replace h := bs h
  obtain ⟨w5, hw5, h⟩ := h
  refine pf_pa_18 hx hb hts hown hK hG hW rfl rfl hw5 d_pa_readProgram_15 (fun H locs hW => ?_)
  refine lv_aload_n hx hb d_pa_readProgram_18 rfl (lv_at hl 0 rfl) ?_
  replace h := bs h
  obtain ⟨x6, hx6, h⟩ := h
  refine gf_pa_12 hx hb hts hown hK hG hW (gN_s hx6) d_pa_readProgram_19 ?_
  replace h := bs h
  obtain ⟨w7, hw7, h⟩ := h
  refine cv_pa_31 (As := []) (rest := []) hx hb hml hown hts hK hG hW (c_rd_readAll l D cA base hw7) (kb_rd_readAll hw7) ⟨Nat.le_of_ble_eq_true rfl, Nat.le_of_ble_eq_true rfl⟩ ⟨Nat.le_of_ble_eq_true rfl, Nat.le_of_ble_eq_true rfl⟩ rfl hl.1 rfl (Nat.le_of_ble_eq_true rfl) d_pa_readProgram_22 (fun H locs hW => ?_)
  refine lv_aload_n hx hb d_pa_readProgram_25 rfl (lv_at hl 0 rfl) ?_
  refine lv_iconst (v := (0 : Int32)) hx hb d_pa_readProgram_26 (by decide) ?_
  replace h := bs h
  obtain ⟨w8, hw8, h⟩ := h
  refine pf_pa_34 hx hb hts hown hK hG hW rfl rfl hw8 d_pa_readProgram_27 (fun H locs hW => ?_)
  refine lv_aload_n hx hb d_pa_readProgram_30 rfl (lv_at hl 0 rfl) ?_
  replace h := bs h
  obtain ⟨x9, hx9, h⟩ := h
  refine gf_pa_22 hx hb hts hown hK hG hW (gR_s hx9) d_pa_readProgram_31 ?_
  refine lv_aload_n hx hb d_pa_readProgram_34 rfl (lv_at hl 0 rfl) ?_
  refine lv_iconst (v := (0 : Int32)) hx hb d_pa_readProgram_35 (by decide) ?_
  refine lv_iconst (v := (0 : Int32)) hx hb d_pa_readProgram_36 (by decide) ?_
  replace h := bsx h
  obtain ⟨x11, w10, hw10, h⟩ := h
  refine cv_pa_37 (As := [.int (0 : Int32), .int (0 : Int32)]) (rest := [va_rf x9]) hx hb hml hown hts hK hG hW (c_pa_readStatements l D cA base hw10) (kb_pa_readStatements hw10) ⟨Nat.le_of_ble_eq_true rfl, Nat.le_of_ble_eq_true rfl⟩ ⟨Nat.le_of_ble_eq_true rfl, Nat.le_of_ble_eq_true rfl⟩ rfl hl.1 rfl (by simp only [List.map_cons, List.map_nil, rf_cat]; exact Nat.le_of_ble_eq_true rfl) d_pa_readProgram_37 (fun H locs hW => ?_)
  replace h := bs h
  obtain ⟨x12, ex12, h⟩ := h
  subst ex12
  replace h := bs h
  obtain ⟨w13, hw13, h⟩ := h
  refine pf_pa_41 hx hb hts hown hK hG hW (rf_n _ _) (rf_f _ _) hw13 d_pa_readProgram_40 (fun H locs hW => ?_)
  cases h
  exact wo_vret hx hb hr hlk hW d_pa_readProgram_43
set_option maxHeartbeats 4000000 in
set_option maxRecDepth 100000 in
theorem x_pa_readProgram (l : Launch) (hst : l.stackTraces = false) (D : va_G) (cA : Nat → ClassId) (base : Nat) {a0 : Nat} {a1 : Nat} {w w' : WW} {E : String} (h : f_pa_readProgram a0 a1 w = some (.inr E, w')) : xt l D cls (wo_tys cA) cA base y_pa_readProgram (Cond.code y_pa_readProgram b_pa_readProgram 2 (none) :: gt) rx_pa_readProgram [.ref a0, .ref a1] w E w' rx_pa_readProgram.cells rx_pa_readProgram.slots := by
  refine xt_start (by decide) (Nat.le_of_ble_eq_true rfl) ?_
  intro p e s m below meth c ls hx hb hr hml hown hts hlk hnm hK hG hW hl hnt
  have C : cx b_pa_readProgram (none) 2 y_pa_readProgram.cls "readProgram" p s m [.ref a0, .ref a1].toArray meth c D cA base ∧ (∀ x ∈ c.exceptionTable.toList, ∀ k : Nat, covers x k = false) ∧ l.stackTraces = false := ⟨⟨hx, hb, hr, hml, hown, hts, hlk, hnm, hK, hG⟩, hnt, hst⟩
  have hl : lv_has ls 2 [(0, .ref a0), (1, .ref a1)] := hl
  unfold f_pa_readProgram at h
  replace h := its h
  obtain ⟨-, h⟩ := h
  refine lv_aload_n hx hb d_pa_readProgram_0 rfl (lv_at hl 0 rfl) ?_
  refine lv_aload_n hx hb d_pa_readProgram_1 rfl (lv_at hl 1 rfl) ?_
  replace h := bs h
  obtain ⟨w1, hw1, h⟩ := h
  refine pf_pa_22 hx hb hts hown hK hG hW rfl rfl hw1 d_pa_readProgram_2 (fun H locs hW => ?_)
  refine lv_aload_n hx hb d_pa_readProgram_5 rfl (lv_at hl 0 rfl) ?_
  replace h := bs h
  obtain ⟨x2, hx2, h⟩ := h
  refine gf_pa_22 hx hb hts hown hK hG hW (gR_s hx2) d_pa_readProgram_6 ?_
  replace h := bs h
  obtain ⟨x3, ex3, h⟩ := h
  subst ex3
  replace h := bs h
  obtain ⟨w4, hw4, h⟩ := h
  refine cv_pa_26 (As := []) (rest := []) hx hb hml hown hts hK hG hW (c_pg_empty l D cA base hw4) (kb_pg_empty hw4) ⟨Nat.le_of_ble_eq_true rfl, Nat.le_of_ble_eq_true rfl⟩ ⟨Nat.le_of_ble_eq_true rfl, Nat.le_of_ble_eq_true rfl⟩ rfl hl.1 rfl (Nat.le_of_ble_eq_true rfl) d_pa_readProgram_9 (fun H locs hW => ?_)
  refine lv_aload_n hx hb d_pa_readProgram_12 rfl (lv_at hl 0 rfl) ?_
  refine lv_bipush (v := (-2 : Int32)) hx hb d_pa_readProgram_13 (by decide) ?_
  replace h := bs h
  obtain ⟨w5, hw5, h⟩ := h
  refine pf_pa_18 hx hb hts hown hK hG hW rfl rfl hw5 d_pa_readProgram_15 (fun H locs hW => ?_)
  refine lv_aload_n hx hb d_pa_readProgram_18 rfl (lv_at hl 0 rfl) ?_
  replace h := bs h
  obtain ⟨x6, hx6, h⟩ := h
  refine gf_pa_12 hx hb hts hown hK hG hW (gN_s hx6) d_pa_readProgram_19 ?_
  replace h := bs h
  obtain ⟨w7, hw7, h⟩ := h
  refine cv_pa_31 (As := []) (rest := []) hx hb hml hown hts hK hG hW (c_rd_readAll l D cA base hw7) (kb_rd_readAll hw7) ⟨Nat.le_of_ble_eq_true rfl, Nat.le_of_ble_eq_true rfl⟩ ⟨Nat.le_of_ble_eq_true rfl, Nat.le_of_ble_eq_true rfl⟩ rfl hl.1 rfl (Nat.le_of_ble_eq_true rfl) d_pa_readProgram_22 (fun H locs hW => ?_)
  refine lv_aload_n hx hb d_pa_readProgram_25 rfl (lv_at hl 0 rfl) ?_
  refine lv_iconst (v := (0 : Int32)) hx hb d_pa_readProgram_26 (by decide) ?_
  replace h := bs h
  obtain ⟨w8, hw8, h⟩ := h
  refine pf_pa_34 hx hb hts hown hK hG hW rfl rfl hw8 d_pa_readProgram_27 (fun H locs hW => ?_)
  refine lv_aload_n hx hb d_pa_readProgram_30 rfl (lv_at hl 0 rfl) ?_
  replace h := bs h
  obtain ⟨x9, hx9, h⟩ := h
  refine gf_pa_22 hx hb hts hown hK hG hW (gR_s hx9) d_pa_readProgram_31 ?_
  refine lv_aload_n hx hb d_pa_readProgram_34 rfl (lv_at hl 0 rfl) ?_
  refine lv_iconst (v := (0 : Int32)) hx hb d_pa_readProgram_35 (by decide) ?_
  refine lv_iconst (v := (0 : Int32)) hx hb d_pa_readProgram_36 (by decide) ?_
  rcases bsy h with hw10 | ⟨x11, w10, hw10, hnw10⟩
  · exact xv_pa_37 (As := [.int (0 : Int32), .int (0 : Int32)]) (rest := [va_rf x9]) hx hb hml hown hts hK hG hW (x_pa_readStatements l hst D cA base hw10) (kb_pa_readStatements hw10) ⟨Nat.le_of_ble_eq_true rfl, Nat.le_of_ble_eq_true rfl⟩ ⟨Nat.le_of_ble_eq_true rfl, Nat.le_of_ble_eq_true rfl⟩ rfl hl.1 rfl (by simp only [List.map_cons, List.map_nil, rf_cat]; exact Nat.le_of_ble_eq_true rfl) d_pa_readProgram_37 (fun H locs q ce hW h1 h2 h3 => wo_xout hnt hlk hW h1 h2 h3 (Nat.le_of_ble_eq_true rfl) (Nat.le_of_ble_eq_true rfl))
  clear h
  have h := hnw10
  clear hnw10
  refine cv_pa_37 (As := [.int (0 : Int32), .int (0 : Int32)]) (rest := [va_rf x9]) hx hb hml hown hts hK hG hW (c_pa_readStatements l D cA base hw10) (kb_pa_readStatements hw10) ⟨Nat.le_of_ble_eq_true rfl, Nat.le_of_ble_eq_true rfl⟩ ⟨Nat.le_of_ble_eq_true rfl, Nat.le_of_ble_eq_true rfl⟩ rfl hl.1 rfl (by simp only [List.map_cons, List.map_nil, rf_cat]; exact Nat.le_of_ble_eq_true rfl) d_pa_readProgram_37 (fun H locs hW => ?_)
  replace h := bs h
  obtain ⟨x12, ex12, h⟩ := h
  subst ex12
  replace h := bs h
  obtain ⟨w13, hw13, h⟩ := h
  refine pf_pa_41 hx hb hts hown hK hG hW (rf_n _ _) (rf_f _ _) hw13 d_pa_readProgram_40 (fun H locs hW => ?_)
  cases h
theorem xv_a_77 {p : Program} {l : Launch} {e : Env} {R : Room} {s : State} {m : MethodId} {args : Array Value} {below : List Frame} {meth : Method} {c : Code} {H : Heap} {locs : List Loc} {cells slots : Nat} {Q : State → Prop} {D : va_G} {cA : Nat → ClassId} {base : Nat} {w w' : WW} {cc : ByteArray} {pc nL : Nat} {ls : Array Slot} {rest st0 As : List Value} {E : String} {b : Nat} (hx : p.tables.exec = Jvm.exec) (hb : c.code = cc) (hml : c.maxLocals = nL) (hown : s.vm.findClass Rc_a = some m.cls) (hts : ∀ w ∈ gt, w.before args s = true) (hK : va_K D cls (wo_tys cA) s) (hG : wo_G base s) (hW : wo_S D cls cA base s w H locs) (hM : xt l D cls (wo_tys cA) cA base y_pa_readProgram (Cond.code y_pa_readProgram b_pa_readProgram 2 (none) :: gt) rx_pa_readProgram (.ref b :: As) w E w' rx_pa_readProgram.cells rx_pa_readProgram.slots) (hkb : kb w b 2 = true) (hR : rx_pa_readProgram.frames + 1 ≤ R.frames ∧ 8 + (2 + 11) + rx_pa_readProgram.locals ≤ R.locals) (hf : cells + rx_pa_readProgram.cells ≤ R.cells ∧ slots + rx_pa_readProgram.slots ≤ R.slots) (hn : As.length = 1) (hsz : ls.size = nL) (hst : st0 = As.reverse ++ .ref b :: rest) (hcat : (rest.map fun v => v.category).sum ≤ 8) (hdg : decode cc pc = .ok (.invokevirtual 77, 3)) (kk : ∀ (H1 : Heap) (locs1 : List Loc) (q : Addr) (ce : Cell), wo_S D cls cA base s w' H1 locs1 → H1[q]? = some ce → ce.vm = .none → s.vm.findClass E = some ce.cls → XW p l e R s m args below meth c H1 locs1 (cells + rx_pa_readProgram.cells) (slots + rx_pa_readProgram.slots) Q (F0 m pc ls rest) q) : W p l e R s m args below meth c H locs cells slots Q (F0 m pc ls st0) :=
  wo_xcallV (C := Rc_pa) hx hb hml hown hts hK hG hW hM hkb rfl (gt_of (i := 486) (by decide +kernel) (by decide +kernel)) (gt_of (i := 487) (by decide +kernel) (by decide +kernel)) (gt_of (i := 488) (by decide +kernel) (by decide +kernel)) (gt_of (i := 2) (by decide +kernel) (by decide +kernel)) (gt_of (i := 489) (by decide +kernel) (by decide +kernel)) (by decide +kernel) hR hf hn hsz hst hcat hdg kk
theorem cv_a_77 {p : Program} {l : Launch} {e : Env} {R : Room} {s : State} {m : MethodId} {args : Array Value} {below : List Frame} {meth : Method} {c : Code} {H : Heap} {locs : List Loc} {cells slots : Nat} {Q : State → Prop} {D : va_G} {cA : Nat → ClassId} {base : Nat} {w w' : WW} {cc : ByteArray} {pc nL : Nat} {ls : Array Slot} {rest st0 As : List Value} {ov : Option Value} {b : Nat} (hx : p.tables.exec = Jvm.exec) (hb : c.code = cc) (hml : c.maxLocals = nL) (hown : s.vm.findClass Rc_a = some m.cls) (hts : ∀ w ∈ gt, w.before args s = true) (hK : va_K D cls (wo_tys cA) s) (hG : wo_G base s) (hW : wo_S D cls cA base s w H locs) (hM : mt l D cls (wo_tys cA) cA base y_pa_readProgram (Cond.code y_pa_readProgram b_pa_readProgram 2 (none) :: gt) rm_pa_readProgram (.ref b :: As) w ov w' rm_pa_readProgram.cells rm_pa_readProgram.slots) (hkb : kb w b 2 = true) (hR : rm_pa_readProgram.frames + 1 ≤ R.frames ∧ 8 + (2 + 11) + rm_pa_readProgram.locals ≤ R.locals) (hf : cells + rm_pa_readProgram.cells ≤ R.cells ∧ slots + rm_pa_readProgram.slots ≤ R.slots) (hn : As.length = 1) (hsz : ls.size = nL) (hst : st0 = As.reverse ++ .ref b :: rest) (hcat : (rest.map fun v => v.category).sum ≤ 8) (hdg : decode cc pc = .ok (.invokevirtual 77, 3)) (kk : ∀ (H1 : Heap) (locs1 : List Loc), wo_S D cls cA base s w' H1 locs1 → W p l e R s m args below meth c H1 locs1 (cells + rm_pa_readProgram.cells) (slots + rm_pa_readProgram.slots) Q (F0 m (pc + 3) ls (ov.toList ++ rest))) : W p l e R s m args below meth c H locs cells slots Q (F0 m pc ls st0) :=
  wo_callV (C := Rc_pa) hx hb hml hown hts hK hG hW hM hkb rfl (gt_of (i := 486) (by decide +kernel) (by decide +kernel)) (gt_of (i := 487) (by decide +kernel) (by decide +kernel)) (gt_of (i := 488) (by decide +kernel) (by decide +kernel)) (gt_of (i := 2) (by decide +kernel) (by decide +kernel)) (gt_of (i := 489) (by decide +kernel) (by decide +kernel)) (by decide +kernel) hR hf hn hsz hst hcat hdg kk
abbrev b_a_parse : ByteArray := prog_1_method_6_code
def y_a_parse : MethodName := ⟨"AlarmForge", "parse", "()I"⟩
def rm_a_parse : Room := { frames := 8, cells := 0, slots := 0, locals := 147 }
def rx_a_parse : Room := { frames := 8, cells := 1, slots := 6, locals := 147 }
theorem d_a_parse_0 : decode b_a_parse 0 = .ok (.aload_n 0, 1) := by decide +kernel
theorem d_a_parse_1 : decode b_a_parse 1 = .ok (.getfield 21, 3) := by decide +kernel
theorem d_a_parse_4 : decode b_a_parse 4 = .ok (.aload_n 0, 1) := by decide +kernel
theorem d_a_parse_5 : decode b_a_parse 5 = .ok (.getfield 37, 3) := by decide +kernel
theorem d_a_parse_8 : decode b_a_parse 8 = .ok (.invokevirtual 77, 3) := by decide +kernel
theorem d_a_parse_11 : decode b_a_parse 11 = .ok (.aload_n 0, 1) := by decide +kernel
theorem d_a_parse_12 : decode b_a_parse 12 = .ok (.getfield 33, 3) := by decide +kernel
theorem d_a_parse_15 : decode b_a_parse 15 = .ok (.astore_n 1, 1) := by decide +kernel
theorem d_a_parse_16 : decode b_a_parse 16 = .ok (.aload_n 0, 1) := by decide +kernel
theorem d_a_parse_17 : decode b_a_parse 17 = .ok (.aload_n 0, 1) := by decide +kernel
theorem d_a_parse_18 : decode b_a_parse 18 = .ok (.getfield 37, 3) := by decide +kernel
theorem d_a_parse_21 : decode b_a_parse 21 = .ok (.putfield 33, 3) := by decide +kernel
theorem d_a_parse_24 : decode b_a_parse 24 = .ok (.aload_n 0, 1) := by decide +kernel
theorem d_a_parse_25 : decode b_a_parse 25 = .ok (.aload_n 1, 1) := by decide +kernel
theorem d_a_parse_26 : decode b_a_parse 26 = .ok (.putfield 37, 3) := by decide +kernel
theorem d_a_parse_29 : decode b_a_parse 29 = .ok (.aload_n 0, 1) := by decide +kernel
theorem d_a_parse_30 : decode b_a_parse 30 = .ok (.iconst 1, 1) := by decide +kernel
theorem d_a_parse_31 : decode b_a_parse 31 = .ok (.putfield 81, 3) := by decide +kernel
theorem d_a_parse_34 : decode b_a_parse 34 = .ok (.aload_n 0, 1) := by decide +kernel
theorem d_a_parse_35 : decode b_a_parse 35 = .ok (.getfield 33, 3) := by decide +kernel
theorem d_a_parse_38 : decode b_a_parse 38 = .ok (.getfield 85, 3) := by decide +kernel
theorem d_a_parse_41 : decode b_a_parse 41 = .ok (.ireturn, 1) := by decide +kernel
def f_a_parse (a0 : Nat) (w : WW) : Option ((Int32 ⊕ String) × WW) :=
  if kb w a0 0 = true then
    (gN w a0 0 2).bind fun x1 =>
    (gN w a0 0 5).bind fun x2 =>
    bdx (f_pa_readProgram x1 x2 w) fun x4 w3 =>
    (gN w3 a0 0 4).bind fun x5 =>
    (gN w3 a0 0 5).bind fun x6 =>
    (pv w3 a0 0 4 (.ref x6)).bind fun w7 =>
    (pv w7 a0 0 5 (.ref x5)).bind fun w8 =>
    if (1 : Int32) = 0 ∨ (1 : Int32) = 1 then
      (pv w8 a0 0 6 (.int (1 : Int32))).bind fun w9 =>
      (gN w9 a0 0 4).bind fun x11 =>
      (gI w9 x11 3 1).bind fun x12 =>
      some (.inl x12, w9)
    else none
  else none
theorem kb_a_parse {a0 : Nat}  {w : WW} {r : ((Int32 ⊕ String) × WW)} (h : f_a_parse a0 w = some r) : kb w a0 0 = true := (its h).1
set_option maxHeartbeats 4000000 in
set_option maxRecDepth 100000 in
theorem c_a_parse (l : Launch) (D : va_G) (cA : Nat → ClassId) (base : Nat) {a0 : Nat} {w w' : WW} {r : Int32} (h : f_a_parse a0 w = some (.inl r, w')) : mt l D cls (wo_tys cA) cA base y_a_parse (Cond.code y_a_parse b_a_parse 2 (some .int) :: gt) rm_a_parse [.ref a0] w (some (.int r)) w' rm_a_parse.cells rm_a_parse.slots := by
  refine mt_start (by decide) (Nat.le_of_ble_eq_true rfl) ?_
  intro p e s m below meth c ls hx hb hr hml hown hts hlk hnm hK hG hW hl
  have C : cx b_a_parse (some .int) 2 y_a_parse.cls "parse" p s m [.ref a0].toArray meth c D cA base := ⟨hx, hb, hr, hml, hown, hts, hlk, hnm, hK, hG⟩
  have hl : lv_has ls 2 [(0, .ref a0)] := hl
  unfold f_a_parse at h
  replace h := its h
  obtain ⟨-, h⟩ := h
  refine lv_aload_n hx hb d_a_parse_0 rfl (lv_at hl 0 rfl) ?_
  replace h := bs h
  obtain ⟨x1, hx1, h⟩ := h
  refine gf_a_21 hx hb hts hown hK hG hW (gN_s hx1) d_a_parse_1 ?_
  refine lv_aload_n hx hb d_a_parse_4 rfl (lv_at hl 0 rfl) ?_
  replace h := bs h
  obtain ⟨x2, hx2, h⟩ := h
  refine gf_a_37 hx hb hts hown hK hG hW (gN_s hx2) d_a_parse_5 ?_
  replace h := bsx h
  obtain ⟨x4, w3, hw3, h⟩ := h
  refine cv_a_77 (As := [.ref x2]) (rest := []) hx hb hml hown hts hK hG hW (c_pa_readProgram l D cA base hw3) (kb_pa_readProgram hw3) ⟨Nat.le_of_ble_eq_true rfl, Nat.le_of_ble_eq_true rfl⟩ ⟨Nat.le_of_ble_eq_true rfl, Nat.le_of_ble_eq_true rfl⟩ rfl hl.1 rfl (Nat.le_of_ble_eq_true rfl) d_a_parse_8 (fun H locs hW => ?_)
  refine lv_aload_n hx hb d_a_parse_11 rfl (lv_at hl 0 rfl) ?_
  replace h := bs h
  obtain ⟨x5, hx5, h⟩ := h
  refine gf_a_33 hx hb hts hown hK hG hW (gN_s hx5) d_a_parse_12 ?_
  refine lv_astore_n (lv' := [(1, .ref x5), (0, .ref a0)]) hx hb d_a_parse_15 rfl hl (by decide) rfl (fun ls hl => ?_)
  refine lv_aload_n hx hb d_a_parse_16 rfl (lv_at hl 1 rfl) ?_
  refine lv_aload_n hx hb d_a_parse_17 rfl (lv_at hl 1 rfl) ?_
  replace h := bs h
  obtain ⟨x6, hx6, h⟩ := h
  refine gf_a_37 hx hb hts hown hK hG hW (gN_s hx6) d_a_parse_18 ?_
  replace h := bs h
  obtain ⟨w7, hw7, h⟩ := h
  refine pf_a_33 hx hb hts hown hK hG hW rfl rfl hw7 d_a_parse_21 (fun H locs hW => ?_)
  refine lv_aload_n hx hb d_a_parse_24 rfl (lv_at hl 1 rfl) ?_
  refine lv_aload_n hx hb d_a_parse_25 rfl (lv_at hl 0 rfl) ?_
  replace h := bs h
  obtain ⟨w8, hw8, h⟩ := h
  refine pf_a_37 hx hb hts hown hK hG hW rfl rfl hw8 d_a_parse_26 (fun H locs hW => ?_)
  refine lv_aload_n hx hb d_a_parse_29 rfl (lv_at hl 1 rfl) ?_
  refine lv_iconst (v := (1 : Int32)) hx hb d_a_parse_30 (by decide) ?_
  replace h := its h
  obtain ⟨c10, h⟩ := h
  replace h := bs h
  obtain ⟨w9, hw9, h⟩ := h
  refine pf_a_81 hx hb hts hown hK hG hW (z_n c10) (z_f c10) hw9 d_a_parse_31 (fun H locs hW => ?_)
  refine lv_aload_n hx hb d_a_parse_34 rfl (lv_at hl 1 rfl) ?_
  replace h := bs h
  obtain ⟨x11, hx11, h⟩ := h
  refine gf_a_33 hx hb hts hown hK hG hW (gN_s hx11) d_a_parse_35 ?_
  replace h := bs h
  obtain ⟨x12, hx12, h⟩ := h
  refine gf_a_85 hx hb hts hown hK hG hW (gI_s hx12) d_a_parse_38 ?_
  cases h
  exact wo_iret hx hb hr hlk hW d_a_parse_41
set_option maxHeartbeats 4000000 in
set_option maxRecDepth 100000 in
theorem x_a_parse (l : Launch) (hst : l.stackTraces = false) (D : va_G) (cA : Nat → ClassId) (base : Nat) {a0 : Nat} {w w' : WW} {E : String} (h : f_a_parse a0 w = some (.inr E, w')) : xt l D cls (wo_tys cA) cA base y_a_parse (Cond.code y_a_parse b_a_parse 2 (some .int) :: gt) rx_a_parse [.ref a0] w E w' rx_a_parse.cells rx_a_parse.slots := by
  refine xt_start (by decide) (Nat.le_of_ble_eq_true rfl) ?_
  intro p e s m below meth c ls hx hb hr hml hown hts hlk hnm hK hG hW hl hnt
  have C : cx b_a_parse (some .int) 2 y_a_parse.cls "parse" p s m [.ref a0].toArray meth c D cA base ∧ (∀ x ∈ c.exceptionTable.toList, ∀ k : Nat, covers x k = false) ∧ l.stackTraces = false := ⟨⟨hx, hb, hr, hml, hown, hts, hlk, hnm, hK, hG⟩, hnt, hst⟩
  have hl : lv_has ls 2 [(0, .ref a0)] := hl
  unfold f_a_parse at h
  replace h := its h
  obtain ⟨-, h⟩ := h
  refine lv_aload_n hx hb d_a_parse_0 rfl (lv_at hl 0 rfl) ?_
  replace h := bs h
  obtain ⟨x1, hx1, h⟩ := h
  refine gf_a_21 hx hb hts hown hK hG hW (gN_s hx1) d_a_parse_1 ?_
  refine lv_aload_n hx hb d_a_parse_4 rfl (lv_at hl 0 rfl) ?_
  replace h := bs h
  obtain ⟨x2, hx2, h⟩ := h
  refine gf_a_37 hx hb hts hown hK hG hW (gN_s hx2) d_a_parse_5 ?_
  rcases bsy h with hw3 | ⟨x4, w3, hw3, hnw3⟩
  · exact xv_a_77 (As := [.ref x2]) (rest := []) hx hb hml hown hts hK hG hW (x_pa_readProgram l hst D cA base hw3) (kb_pa_readProgram hw3) ⟨Nat.le_of_ble_eq_true rfl, Nat.le_of_ble_eq_true rfl⟩ ⟨Nat.le_of_ble_eq_true rfl, Nat.le_of_ble_eq_true rfl⟩ rfl hl.1 rfl (Nat.le_of_ble_eq_true rfl) d_a_parse_8 (fun H locs q ce hW h1 h2 h3 => wo_xout hnt hlk hW h1 h2 h3 (Nat.le_of_ble_eq_true rfl) (Nat.le_of_ble_eq_true rfl))
  clear h
  have h := hnw3
  clear hnw3
  refine cv_a_77 (As := [.ref x2]) (rest := []) hx hb hml hown hts hK hG hW (c_pa_readProgram l D cA base hw3) (kb_pa_readProgram hw3) ⟨Nat.le_of_ble_eq_true rfl, Nat.le_of_ble_eq_true rfl⟩ ⟨Nat.le_of_ble_eq_true rfl, Nat.le_of_ble_eq_true rfl⟩ rfl hl.1 rfl (Nat.le_of_ble_eq_true rfl) d_a_parse_8 (fun H locs hW => ?_)
  refine lv_aload_n hx hb d_a_parse_11 rfl (lv_at hl 0 rfl) ?_
  replace h := bs h
  obtain ⟨x5, hx5, h⟩ := h
  refine gf_a_33 hx hb hts hown hK hG hW (gN_s hx5) d_a_parse_12 ?_
  refine lv_astore_n (lv' := [(1, .ref x5), (0, .ref a0)]) hx hb d_a_parse_15 rfl hl (by decide) rfl (fun ls hl => ?_)
  refine lv_aload_n hx hb d_a_parse_16 rfl (lv_at hl 1 rfl) ?_
  refine lv_aload_n hx hb d_a_parse_17 rfl (lv_at hl 1 rfl) ?_
  replace h := bs h
  obtain ⟨x6, hx6, h⟩ := h
  refine gf_a_37 hx hb hts hown hK hG hW (gN_s hx6) d_a_parse_18 ?_
  replace h := bs h
  obtain ⟨w7, hw7, h⟩ := h
  refine pf_a_33 hx hb hts hown hK hG hW rfl rfl hw7 d_a_parse_21 (fun H locs hW => ?_)
  refine lv_aload_n hx hb d_a_parse_24 rfl (lv_at hl 1 rfl) ?_
  refine lv_aload_n hx hb d_a_parse_25 rfl (lv_at hl 0 rfl) ?_
  replace h := bs h
  obtain ⟨w8, hw8, h⟩ := h
  refine pf_a_37 hx hb hts hown hK hG hW rfl rfl hw8 d_a_parse_26 (fun H locs hW => ?_)
  refine lv_aload_n hx hb d_a_parse_29 rfl (lv_at hl 1 rfl) ?_
  refine lv_iconst (v := (1 : Int32)) hx hb d_a_parse_30 (by decide) ?_
  replace h := its h
  obtain ⟨c10, h⟩ := h
  replace h := bs h
  obtain ⟨w9, hw9, h⟩ := h
  refine pf_a_81 hx hb hts hown hK hG hW (z_n c10) (z_f c10) hw9 d_a_parse_31 (fun H locs hW => ?_)
  refine lv_aload_n hx hb d_a_parse_34 rfl (lv_at hl 1 rfl) ?_
  replace h := bs h
  obtain ⟨x11, hx11, h⟩ := h
  refine gf_a_33 hx hb hts hown hK hG hW (gN_s hx11) d_a_parse_35 ?_
  replace h := bs h
  obtain ⟨x12, hx12, h⟩ := h
  refine gf_a_85 hx hb hts hown hK hG hW (gI_s hx12) d_a_parse_38 ?_
  cases h
abbrev b_pa_beginsStatement : ByteArray := prog_3_method_9_code
def y_pa_beginsStatement : MethodName := ⟨"AlarmForge$Parser", "beginsStatement", "(I)Z"⟩
def rm_pa_beginsStatement : Room := { frames := 0, cells := 0, slots := 0, locals := 0 }
theorem d_pa_beginsStatement_0 : decode b_pa_beginsStatement 0 = .ok (.iload_n 0, 1) := by decide +kernel
theorem d_pa_beginsStatement_1 : decode b_pa_beginsStatement 1 = .ok (.iconst 2, 1) := by decide +kernel
theorem d_pa_beginsStatement_2 : decode b_pa_beginsStatement 2 = .ok (.if_icmp .eq (25), 3) := by decide +kernel
theorem d_pa_beginsStatement_5 : decode b_pa_beginsStatement 5 = .ok (.iload_n 0, 1) := by decide +kernel
theorem d_pa_beginsStatement_6 : decode b_pa_beginsStatement 6 = .ok (.iconst 3, 1) := by decide +kernel
theorem d_pa_beginsStatement_7 : decode b_pa_beginsStatement 7 = .ok (.if_icmp .eq (20), 3) := by decide +kernel
theorem d_pa_beginsStatement_10 : decode b_pa_beginsStatement 10 = .ok (.iload_n 0, 1) := by decide +kernel
theorem d_pa_beginsStatement_11 : decode b_pa_beginsStatement 11 = .ok (.iconst 4, 1) := by decide +kernel
theorem d_pa_beginsStatement_12 : decode b_pa_beginsStatement 12 = .ok (.if_icmp .eq (15), 3) := by decide +kernel
theorem d_pa_beginsStatement_15 : decode b_pa_beginsStatement 15 = .ok (.iload_n 0, 1) := by decide +kernel
theorem d_pa_beginsStatement_16 : decode b_pa_beginsStatement 16 = .ok (.bipush (6), 2) := by decide +kernel
theorem d_pa_beginsStatement_18 : decode b_pa_beginsStatement 18 = .ok (.if_icmp .eq (9), 3) := by decide +kernel
theorem d_pa_beginsStatement_21 : decode b_pa_beginsStatement 21 = .ok (.iload_n 0, 1) := by decide +kernel
theorem d_pa_beginsStatement_22 : decode b_pa_beginsStatement 22 = .ok (.bipush (7), 2) := by decide +kernel
theorem d_pa_beginsStatement_24 : decode b_pa_beginsStatement 24 = .ok (.if_icmp .ne (7), 3) := by decide +kernel
theorem d_pa_beginsStatement_27 : decode b_pa_beginsStatement 27 = .ok (.iconst 1, 1) := by decide +kernel
theorem d_pa_beginsStatement_28 : decode b_pa_beginsStatement 28 = .ok (.goto (4), 3) := by decide +kernel
theorem d_pa_beginsStatement_31 : decode b_pa_beginsStatement 31 = .ok (.iconst 0, 1) := by decide +kernel
theorem d_pa_beginsStatement_32 : decode b_pa_beginsStatement 32 = .ok (.ireturn, 1) := by decide +kernel
def f_pa_beginsStatement_32  (z0 : Int32) (w : WW) : Option (Int32 × WW) :=
  if z0 = 0 ∨ z0 = 1 then some (z0, w) else none
def f_pa_beginsStatement_27   (w : WW) : Option (Int32 × WW) :=
  f_pa_beginsStatement_32 (1 : Int32) w
def f_pa_beginsStatement (a0 : Int32) (w : WW) : Option (Int32 × WW) :=
  if a0 = (2 : Int32) then
    f_pa_beginsStatement_27 w
  else
    if a0 = (3 : Int32) then
      f_pa_beginsStatement_27 w
    else
      if a0 = (4 : Int32) then
        f_pa_beginsStatement_27 w
      else
        if a0 = (6 : Int32) then
          f_pa_beginsStatement_27 w
        else
          if a0 = (7 : Int32) then
            f_pa_beginsStatement_27 w
          else
            f_pa_beginsStatement_32 (0 : Int32) w
set_option maxHeartbeats 4000000 in
set_option maxRecDepth 100000 in
theorem j_pa_beginsStatement_32 {p : Program} {l : Launch} {e : Env} {s : State} {m : MethodId} {args : Array Value} {below : List Frame} {meth : Method} {c : Code} {D : va_G} {cA : Nat → ClassId} {base : Nat} {r : Int32} {w' : WW} (C : cx b_pa_beginsStatement (some .boolean) 1 y_pa_beginsStatement.cls "beginsStatement" p s m args meth c D cA base)   : ∀ (z0 : Int32) (w : WW), f_pa_beginsStatement_32 z0 w = some (r, w') → ∀ (H : Heap) (locs : List Loc) (ls : Array Slot), wo_S D cls cA base s w H locs → lv_has ls 1 [] → W p l e rm_pa_beginsStatement s m args below meth c H locs 0 0 (MQ below (wo_Q D cls cA base (some (.int r)) w') args s rm_pa_beginsStatement.cells rm_pa_beginsStatement.slots (wo_B base)) (F0 m 32 ls [.int z0]) := by
  obtain ⟨hx, hb, hr, hml, hown, hts, hlk, hnm, hK, hG⟩ := id C
  intro z0 w h H locs ls hW hl
  unfold f_pa_beginsStatement_32 at h
  replace h := its h
  obtain ⟨c2, h⟩ := h
  cases h
  exact wo_zret hx hb hr hlk hW c2 d_pa_beginsStatement_32
set_option maxHeartbeats 4000000 in
set_option maxRecDepth 100000 in
theorem j_pa_beginsStatement_27 {p : Program} {l : Launch} {e : Env} {s : State} {m : MethodId} {args : Array Value} {below : List Frame} {meth : Method} {c : Code} {D : va_G} {cA : Nat → ClassId} {base : Nat} {r : Int32} {w' : WW} (C : cx b_pa_beginsStatement (some .boolean) 1 y_pa_beginsStatement.cls "beginsStatement" p s m args meth c D cA base)   : ∀  (w : WW), f_pa_beginsStatement_27  w = some (r, w') → ∀ (H : Heap) (locs : List Loc) (ls : Array Slot), wo_S D cls cA base s w H locs → lv_has ls 1 [] → W p l e rm_pa_beginsStatement s m args below meth c H locs 0 0 (MQ below (wo_Q D cls cA base (some (.int r)) w') args s rm_pa_beginsStatement.cells rm_pa_beginsStatement.slots (wo_B base)) (F0 m 27 ls []) := by
  obtain ⟨hx, hb, hr, hml, hown, hts, hlk, hnm, hK, hG⟩ := id C
  intro  w h H locs ls hW hl
  unfold f_pa_beginsStatement_27 at h
  refine lv_iconst (v := (1 : Int32)) hx hb d_pa_beginsStatement_27 (by decide) ?_
  refine lv_goto (tgt := 32) hx hb d_pa_beginsStatement_28 (by decide) ?_
  exact j_pa_beginsStatement_32 C (1 : Int32) w h _ _ _ hW (lv_sub hl [] rfl)
set_option maxHeartbeats 4000000 in
set_option maxRecDepth 100000 in
theorem c_pa_beginsStatement (l : Launch) (D : va_G) (cA : Nat → ClassId) (base : Nat) {a0 : Int32} {w w' : WW} {r : Int32} (h : f_pa_beginsStatement a0 w = some (r, w')) : mt l D cls (wo_tys cA) cA base y_pa_beginsStatement (Cond.code y_pa_beginsStatement b_pa_beginsStatement 1 (some .boolean) :: gt) rm_pa_beginsStatement [.int a0] w (some (.int r)) w' rm_pa_beginsStatement.cells rm_pa_beginsStatement.slots := by
  refine mt_start (by decide) (Nat.le_of_ble_eq_true rfl) ?_
  intro p e s m below meth c ls hx hb hr hml hown hts hlk hnm hK hG hW hl
  have C : cx b_pa_beginsStatement (some .boolean) 1 y_pa_beginsStatement.cls "beginsStatement" p s m [.int a0].toArray meth c D cA base := ⟨hx, hb, hr, hml, hown, hts, hlk, hnm, hK, hG⟩
  have hl : lv_has ls 1 [(0, .int a0)] := hl
  unfold f_pa_beginsStatement at h
  refine lv_iload_n hx hb d_pa_beginsStatement_0 rfl (lv_at hl 0 rfl) ?_
  refine lv_iconst (v := (2 : Int32)) hx hb d_pa_beginsStatement_1 (by decide) ?_
  refine lv_icmp_eq (tgt := 27) hx hb d_pa_beginsStatement_2 (by decide) (fun c1 => ?_) (fun c1 => ?_)
  · rw [if_pos c1] at h
    exact j_pa_beginsStatement_27 C w h _ _ _ hW (lv_sub hl [] rfl)
  · rw [if_neg c1] at h
    refine lv_iload_n hx hb d_pa_beginsStatement_5 rfl (lv_at hl 0 rfl) ?_
    refine lv_iconst (v := (3 : Int32)) hx hb d_pa_beginsStatement_6 (by decide) ?_
    refine lv_icmp_eq (tgt := 27) hx hb d_pa_beginsStatement_7 (by decide) (fun c3 => ?_) (fun c3 => ?_)
    · rw [if_pos c3] at h
      exact j_pa_beginsStatement_27 C w h _ _ _ hW (lv_sub hl [] rfl)
    · rw [if_neg c3] at h
      refine lv_iload_n hx hb d_pa_beginsStatement_10 rfl (lv_at hl 0 rfl) ?_
      refine lv_iconst (v := (4 : Int32)) hx hb d_pa_beginsStatement_11 (by decide) ?_
      refine lv_icmp_eq (tgt := 27) hx hb d_pa_beginsStatement_12 (by decide) (fun c4 => ?_) (fun c4 => ?_)
      · rw [if_pos c4] at h
        exact j_pa_beginsStatement_27 C w h _ _ _ hW (lv_sub hl [] rfl)
      · rw [if_neg c4] at h
        refine lv_iload_n hx hb d_pa_beginsStatement_15 rfl (lv_at hl 0 rfl) ?_
        refine lv_bipush (v := (6 : Int32)) hx hb d_pa_beginsStatement_16 (by decide) ?_
        refine lv_icmp_eq (tgt := 27) hx hb d_pa_beginsStatement_18 (by decide) (fun c5 => ?_) (fun c5 => ?_)
        · rw [if_pos c5] at h
          exact j_pa_beginsStatement_27 C w h _ _ _ hW (lv_sub hl [] rfl)
        · rw [if_neg c5] at h
          refine lv_iload_n hx hb d_pa_beginsStatement_21 rfl (lv_at hl 0 rfl) ?_
          refine lv_bipush (v := (7 : Int32)) hx hb d_pa_beginsStatement_22 (by decide) ?_
          refine lv_icmp_ne (tgt := 31) hx hb d_pa_beginsStatement_24 (by decide) (fun c6 => ?_) (fun c6 => ?_)
          · rw [if_neg c6] at h
            refine lv_iconst (v := (0 : Int32)) hx hb d_pa_beginsStatement_31 (by decide) ?_
            exact j_pa_beginsStatement_32 C (0 : Int32) w h _ _ _ hW (lv_sub hl [] rfl)
          · rw [if_pos c6] at h
            exact j_pa_beginsStatement_27 C w h _ _ _ hW (lv_sub hl [] rfl)
abbrev b_pg_isFull : ByteArray := prog_4_method_3_code
def y_pg_isFull : MethodName := ⟨"AlarmForge$Program", "isFull", "()Z"⟩
def rm_pg_isFull : Room := { frames := 0, cells := 0, slots := 0, locals := 0 }
theorem d_pg_isFull_0 : decode b_pg_isFull 0 = .ok (.aload_n 0, 1) := by decide +kernel
theorem d_pg_isFull_1 : decode b_pg_isFull 1 = .ok (.getfield 28, 3) := by decide +kernel
theorem d_pg_isFull_4 : decode b_pg_isFull 4 = .ok (.bipush (50), 2) := by decide +kernel
theorem d_pg_isFull_6 : decode b_pg_isFull 6 = .ok (.if_icmp .lt (7), 3) := by decide +kernel
theorem d_pg_isFull_9 : decode b_pg_isFull 9 = .ok (.iconst 1, 1) := by decide +kernel
theorem d_pg_isFull_10 : decode b_pg_isFull 10 = .ok (.goto (4), 3) := by decide +kernel
theorem d_pg_isFull_13 : decode b_pg_isFull 13 = .ok (.iconst 0, 1) := by decide +kernel
theorem d_pg_isFull_14 : decode b_pg_isFull 14 = .ok (.ireturn, 1) := by decide +kernel
def f_pg_isFull_14  (z0 : Int32) (w : WW) : Option (Int32 × WW) :=
  if z0 = 0 ∨ z0 = 1 then some (z0, w) else none
def f_pg_isFull (a0 : Nat) (w : WW) : Option (Int32 × WW) :=
  if kb w a0 3 = true then
    (gI w a0 3 1).bind fun x1 =>
    if x1 < (50 : Int32) then
      f_pg_isFull_14 (0 : Int32) w
    else
      f_pg_isFull_14 (1 : Int32) w
  else none
theorem kb_pg_isFull {a0 : Nat}  {w : WW} {r : (Int32 × WW)} (h : f_pg_isFull a0 w = some r) : kb w a0 3 = true := (its h).1
set_option maxHeartbeats 4000000 in
set_option maxRecDepth 100000 in
theorem j_pg_isFull_14 {p : Program} {l : Launch} {e : Env} {s : State} {m : MethodId} {args : Array Value} {below : List Frame} {meth : Method} {c : Code} {D : va_G} {cA : Nat → ClassId} {base : Nat} {r : Int32} {w' : WW} (C : cx b_pg_isFull (some .boolean) 1 y_pg_isFull.cls "isFull" p s m args meth c D cA base)   : ∀ (z0 : Int32) (w : WW), f_pg_isFull_14 z0 w = some (r, w') → ∀ (H : Heap) (locs : List Loc) (ls : Array Slot), wo_S D cls cA base s w H locs → lv_has ls 1 [] → W p l e rm_pg_isFull s m args below meth c H locs 0 0 (MQ below (wo_Q D cls cA base (some (.int r)) w') args s rm_pg_isFull.cells rm_pg_isFull.slots (wo_B base)) (F0 m 14 ls [.int z0]) := by
  obtain ⟨hx, hb, hr, hml, hown, hts, hlk, hnm, hK, hG⟩ := id C
  intro z0 w h H locs ls hW hl
  unfold f_pg_isFull_14 at h
  replace h := its h
  obtain ⟨c3, h⟩ := h
  cases h
  exact wo_zret hx hb hr hlk hW c3 d_pg_isFull_14
set_option maxHeartbeats 4000000 in
set_option maxRecDepth 100000 in
theorem c_pg_isFull (l : Launch) (D : va_G) (cA : Nat → ClassId) (base : Nat) {a0 : Nat} {w w' : WW} {r : Int32} (h : f_pg_isFull a0 w = some (r, w')) : mt l D cls (wo_tys cA) cA base y_pg_isFull (Cond.code y_pg_isFull b_pg_isFull 1 (some .boolean) :: gt) rm_pg_isFull [.ref a0] w (some (.int r)) w' rm_pg_isFull.cells rm_pg_isFull.slots := by
  refine mt_start (by decide) (Nat.le_of_ble_eq_true rfl) ?_
  intro p e s m below meth c ls hx hb hr hml hown hts hlk hnm hK hG hW hl
  have C : cx b_pg_isFull (some .boolean) 1 y_pg_isFull.cls "isFull" p s m [.ref a0].toArray meth c D cA base := ⟨hx, hb, hr, hml, hown, hts, hlk, hnm, hK, hG⟩
  have hl : lv_has ls 1 [(0, .ref a0)] := hl
  unfold f_pg_isFull at h
  replace h := its h
  obtain ⟨-, h⟩ := h
  refine lv_aload_n hx hb d_pg_isFull_0 rfl (lv_at hl 0 rfl) ?_
  replace h := bs h
  obtain ⟨x1, hx1, h⟩ := h
  refine gf_pg_28 hx hb hts hown hK hG hW (gI_s hx1) d_pg_isFull_1 ?_
  refine lv_bipush (v := (50 : Int32)) hx hb d_pg_isFull_4 (by decide) ?_
  refine lv_icmp_lt (tgt := 13) hx hb d_pg_isFull_6 (by decide) (fun c2 => ?_) (fun c2 => ?_)
  · rw [if_pos c2] at h
    refine lv_iconst (v := (0 : Int32)) hx hb d_pg_isFull_13 (by decide) ?_
    exact j_pg_isFull_14 C (0 : Int32) w h _ _ _ hW (lv_sub hl [] rfl)
  · rw [if_neg c2] at h
    refine lv_iconst (v := (1 : Int32)) hx hb d_pg_isFull_9 (by decide) ?_
    refine lv_goto (tgt := 14) hx hb d_pg_isFull_10 (by decide) ?_
    exact j_pg_isFull_14 C (1 : Int32) w h _ _ _ hW (lv_sub hl [] rfl)
abbrev b_pa_need : ByteArray := prog_3_method_4_code
def y_pa_need : MethodName := ⟨"AlarmForge$Parser", "need", "(Z)V"⟩
def rm_pa_need : Room := { frames := 6, cells := 0, slots := 0, locals := 100 }
def rx_pa_need : Room := { frames := 6, cells := 1, slots := 6, locals := 100 }
theorem ow_pa_54 : (Bundle.ownAtoms0 "AlarmForge$Parser" 54 "java/lang/IllegalArgumentException" ["java/lang/RuntimeException", "java/lang/Exception"]).all ow_ok = true := by decide +kernel
theorem d_pa_need_0 : decode b_pa_need 0 = .ok (.iload_n 1, 1) := by decide +kernel
theorem d_pa_need_1 : decode b_pa_need 1 = .ok (.ifCond .ne (27), 3) := by decide +kernel
theorem d_pa_need_4 : decode b_pa_need 4 = .ok (.aload_n 0, 1) := by decide +kernel
theorem d_pa_need_5 : decode b_pa_need 5 = .ok (.aload_n 0, 1) := by decide +kernel
theorem d_pa_need_6 : decode b_pa_need 6 = .ok (.getfield 12, 3) := by decide +kernel
theorem d_pa_need_9 : decode b_pa_need 9 = .ok (.getfield 49, 3) := by decide +kernel
theorem d_pa_need_12 : decode b_pa_need 12 = .ok (.aload_n 0, 1) := by decide +kernel
theorem d_pa_need_13 : decode b_pa_need 13 = .ok (.getfield 34, 3) := by decide +kernel
theorem d_pa_need_16 : decode b_pa_need 16 = .ok (.iaload, 1) := by decide +kernel
theorem d_pa_need_17 : decode b_pa_need 17 = .ok (.putfield 18, 3) := by decide +kernel
theorem d_pa_need_20 : decode b_pa_need 20 = .ok (.new 52, 3) := by decide +kernel
theorem d_pa_need_23 : decode b_pa_need 23 = .ok (.dup, 1) := by decide +kernel
theorem d_pa_need_24 : decode b_pa_need 24 = .ok (.invokespecial 54, 3) := by decide +kernel
theorem d_pa_need_27 : decode b_pa_need 27 = .ok (.athrow, 1) := by decide +kernel
theorem d_pa_need_28 : decode b_pa_need 28 = .ok (.return_, 1) := by decide +kernel
def f_pa_need (a0 : Nat) (a1 : Int32) (w : WW) : Option ((Unit ⊕ String) × WW) :=
  if kb w a0 2 = true then
    if a1 = 0 then
      (gN w a0 2 0).bind fun x2 =>
      (gN w x2 1 2).bind fun x3 =>
      (gI w a0 2 1).bind fun x4 =>
      (rI w x3 0 x4).bind fun x5 =>
      (pv w a0 2 3 (.int x5)).bind fun w6 =>
      some (.inr "java/lang/IllegalArgumentException", w6)
    else
      some (.inl (), w)
  else none
theorem kb_pa_need {a0 : Nat} {a1 : Int32} {w : WW} {r : ((Unit ⊕ String) × WW)} (h : f_pa_need a0 a1 w = some r) : kb w a0 2 = true := (its h).1
set_option maxHeartbeats 4000000 in
set_option maxRecDepth 100000 in
theorem c_pa_need (l : Launch) (D : va_G) (cA : Nat → ClassId) (base : Nat) {a0 : Nat} {a1 : Int32} {w w' : WW} (h : f_pa_need a0 a1 w = some (.inl (), w')) : mt l D cls (wo_tys cA) cA base y_pa_need (Cond.code y_pa_need b_pa_need 2 (none) :: gt) rm_pa_need [.ref a0, .int a1] w none w' rm_pa_need.cells rm_pa_need.slots := by
  refine mt_start (by decide) (Nat.le_of_ble_eq_true rfl) ?_
  intro p e s m below meth c ls hx hb hr hml hown hts hlk hnm hK hG hW hl
  have C : cx b_pa_need (none) 2 y_pa_need.cls "need" p s m [.ref a0, .int a1].toArray meth c D cA base := ⟨hx, hb, hr, hml, hown, hts, hlk, hnm, hK, hG⟩
  have hl : lv_has ls 2 [(0, .ref a0), (1, .int a1)] := hl
  unfold f_pa_need at h
  replace h := its h
  obtain ⟨-, h⟩ := h
  refine lv_iload_n hx hb d_pa_need_0 rfl (lv_at hl 1 rfl) ?_
  refine lv_if_ne (tgt := 28) hx hb d_pa_need_1 (by decide) (fun c1 => ?_) (fun c1 => ?_)
  · rw [if_neg c1] at h
    cases h
    exact wo_vret hx hb hr hlk hW d_pa_need_28
  · rw [if_pos c1] at h
    refine lv_aload_n hx hb d_pa_need_4 rfl (lv_at hl 0 rfl) ?_
    refine lv_aload_n hx hb d_pa_need_5 rfl (lv_at hl 0 rfl) ?_
    replace h := bs h
    obtain ⟨x2, hx2, h⟩ := h
    refine gf_pa_12 hx hb hts hown hK hG hW (gN_s hx2) d_pa_need_6 ?_
    replace h := bs h
    obtain ⟨x3, hx3, h⟩ := h
    refine gf_pa_49 hx hb hts hown hK hG hW (gN_s hx3) d_pa_need_9 ?_
    refine lv_aload_n hx hb d_pa_need_12 rfl (lv_at hl 0 rfl) ?_
    replace h := bs h
    obtain ⟨x4, hx4, h⟩ := h
    refine gf_pa_34 hx hb hts hown hK hG hW (gI_s hx4) d_pa_need_13 ?_
    replace h := bs h
    obtain ⟨x5, hx5, h⟩ := h
    refine wo_iald hx hb hK hW (t := 0) rfl hx5 d_pa_need_16 ?_
    replace h := bs h
    obtain ⟨w6, hw6, h⟩ := h
    refine pf_pa_18 hx hb hts hown hK hG hW rfl rfl hw6 d_pa_need_17 (fun H locs hW => ?_)
    cases h
set_option maxHeartbeats 4000000 in
set_option maxRecDepth 100000 in
theorem x_pa_need (l : Launch) (hst : l.stackTraces = false) (D : va_G) (cA : Nat → ClassId) (base : Nat) {a0 : Nat} {a1 : Int32} {w w' : WW} {E : String} (h : f_pa_need a0 a1 w = some (.inr E, w')) : xt l D cls (wo_tys cA) cA base y_pa_need (Cond.code y_pa_need b_pa_need 2 (none) :: gt) rx_pa_need [.ref a0, .int a1] w E w' rx_pa_need.cells rx_pa_need.slots := by
  refine xt_start (by decide) (Nat.le_of_ble_eq_true rfl) ?_
  intro p e s m below meth c ls hx hb hr hml hown hts hlk hnm hK hG hW hl hnt
  have C : cx b_pa_need (none) 2 y_pa_need.cls "need" p s m [.ref a0, .int a1].toArray meth c D cA base ∧ (∀ x ∈ c.exceptionTable.toList, ∀ k : Nat, covers x k = false) ∧ l.stackTraces = false := ⟨⟨hx, hb, hr, hml, hown, hts, hlk, hnm, hK, hG⟩, hnt, hst⟩
  have hl : lv_has ls 2 [(0, .ref a0), (1, .int a1)] := hl
  unfold f_pa_need at h
  replace h := its h
  obtain ⟨-, h⟩ := h
  refine lv_iload_n hx hb d_pa_need_0 rfl (lv_at hl 1 rfl) ?_
  refine lv_if_ne (tgt := 28) hx hb d_pa_need_1 (by decide) (fun c1 => ?_) (fun c1 => ?_)
  · rw [if_neg c1] at h
    cases h
  · rw [if_pos c1] at h
    refine lv_aload_n hx hb d_pa_need_4 rfl (lv_at hl 0 rfl) ?_
    refine lv_aload_n hx hb d_pa_need_5 rfl (lv_at hl 0 rfl) ?_
    replace h := bs h
    obtain ⟨x2, hx2, h⟩ := h
    refine gf_pa_12 hx hb hts hown hK hG hW (gN_s hx2) d_pa_need_6 ?_
    replace h := bs h
    obtain ⟨x3, hx3, h⟩ := h
    refine gf_pa_49 hx hb hts hown hK hG hW (gN_s hx3) d_pa_need_9 ?_
    refine lv_aload_n hx hb d_pa_need_12 rfl (lv_at hl 0 rfl) ?_
    replace h := bs h
    obtain ⟨x4, hx4, h⟩ := h
    refine gf_pa_34 hx hb hts hown hK hG hW (gI_s hx4) d_pa_need_13 ?_
    replace h := bs h
    obtain ⟨x5, hx5, h⟩ := h
    refine wo_iald hx hb hK hW (t := 0) rfl hx5 d_pa_need_16 ?_
    replace h := bs h
    obtain ⟨w6, hw6, h⟩ := h
    refine pf_pa_18 hx hb hts hown hK hG hW rfl rfl hw6 d_pa_need_17 (fun H locs hW => ?_)
    cases h
    exact wo_throw (names := ["java/lang/RuntimeException", "java/lang/Exception"]) hx hb hst hown hts hG hW hnt hlk (by decide) (by decide) (gt_of (i := 664) (by decide +kernel) (by decide +kernel)) (gt_of (i := 14) (by decide +kernel) (by decide +kernel)) ow_pa_54 (hl.1.trans hml.symm) d_pa_need_20 d_pa_need_23 d_pa_need_24 d_pa_need_27 (Nat.le_of_ble_eq_true rfl) (Nat.le_of_ble_eq_true rfl) (Nat.le_of_ble_eq_true rfl) (Nat.le_of_ble_eq_true rfl) (Nat.le_of_ble_eq_true rfl) (Nat.le_of_ble_eq_true rfl)
abbrev b_pg_newStatement : ByteArray := prog_4_method_4_code
def y_pg_newStatement : MethodName := ⟨"AlarmForge$Program", "newStatement", "()LAlarmForge$Statement;"⟩
def rm_pg_newStatement : Room := { frames := 0, cells := 0, slots := 0, locals := 0 }
theorem d_pg_newStatement_0 : decode b_pg_newStatement 0 = .ok (.aload_n 0, 1) := by decide +kernel
theorem d_pg_newStatement_1 : decode b_pg_newStatement 1 = .ok (.getfield 11, 3) := by decide +kernel
theorem d_pg_newStatement_4 : decode b_pg_newStatement 4 = .ok (.aload_n 0, 1) := by decide +kernel
theorem d_pg_newStatement_5 : decode b_pg_newStatement 5 = .ok (.getfield 28, 3) := by decide +kernel
theorem d_pg_newStatement_8 : decode b_pg_newStatement 8 = .ok (.aaload, 1) := by decide +kernel
theorem d_pg_newStatement_9 : decode b_pg_newStatement 9 = .ok (.astore_n 1, 1) := by decide +kernel
theorem d_pg_newStatement_10 : decode b_pg_newStatement 10 = .ok (.aload_n 0, 1) := by decide +kernel
theorem d_pg_newStatement_11 : decode b_pg_newStatement 11 = .ok (.dup, 1) := by decide +kernel
theorem d_pg_newStatement_12 : decode b_pg_newStatement 12 = .ok (.getfield 28, 3) := by decide +kernel
theorem d_pg_newStatement_15 : decode b_pg_newStatement 15 = .ok (.iconst 1, 1) := by decide +kernel
theorem d_pg_newStatement_16 : decode b_pg_newStatement 16 = .ok (.iadd, 1) := by decide +kernel
theorem d_pg_newStatement_17 : decode b_pg_newStatement 17 = .ok (.putfield 28, 3) := by decide +kernel
theorem d_pg_newStatement_20 : decode b_pg_newStatement 20 = .ok (.aload_n 1, 1) := by decide +kernel
theorem d_pg_newStatement_21 : decode b_pg_newStatement 21 = .ok (.areturn, 1) := by decide +kernel
def f_pg_newStatement (a0 : Nat) (w : WW) : Option (Option Nat × WW) :=
  if kb w a0 3 = true then
    (gN w a0 3 0).bind fun x1 =>
    (gI w a0 3 1).bind fun x2 =>
    (rN w x1 6 x2).bind fun x3 =>
    (gI w a0 3 1).bind fun x4 =>
    (pv w a0 3 1 (.int (x4 + (1 : Int32)))).bind fun w5 =>
    some ((some x3), w5)
  else none
theorem kb_pg_newStatement {a0 : Nat}  {w : WW} {r : (Option Nat × WW)} (h : f_pg_newStatement a0 w = some r) : kb w a0 3 = true := (its h).1
set_option maxHeartbeats 4000000 in
set_option maxRecDepth 100000 in
theorem c_pg_newStatement (l : Launch) (D : va_G) (cA : Nat → ClassId) (base : Nat) {a0 : Nat} {w w' : WW} {r : Option Nat} (h : f_pg_newStatement a0 w = some (r, w')) : mt l D cls (wo_tys cA) cA base y_pg_newStatement (Cond.code y_pg_newStatement b_pg_newStatement 2 (some (.object "AlarmForge$Statement")) :: gt) rm_pg_newStatement [.ref a0] w (some (va_rf r)) w' rm_pg_newStatement.cells rm_pg_newStatement.slots := by
  refine mt_start (by decide) (Nat.le_of_ble_eq_true rfl) ?_
  intro p e s m below meth c ls hx hb hr hml hown hts hlk hnm hK hG hW hl
  have C : cx b_pg_newStatement (some (.object "AlarmForge$Statement")) 2 y_pg_newStatement.cls "newStatement" p s m [.ref a0].toArray meth c D cA base := ⟨hx, hb, hr, hml, hown, hts, hlk, hnm, hK, hG⟩
  have hl : lv_has ls 2 [(0, .ref a0)] := hl
  unfold f_pg_newStatement at h
  replace h := its h
  obtain ⟨-, h⟩ := h
  refine lv_aload_n hx hb d_pg_newStatement_0 rfl (lv_at hl 0 rfl) ?_
  replace h := bs h
  obtain ⟨x1, hx1, h⟩ := h
  refine gf_pg_11 hx hb hts hown hK hG hW (gN_s hx1) d_pg_newStatement_1 ?_
  refine lv_aload_n hx hb d_pg_newStatement_4 rfl (lv_at hl 0 rfl) ?_
  replace h := bs h
  obtain ⟨x2, hx2, h⟩ := h
  refine gf_pg_28 hx hb hts hown hK hG hW (gI_s hx2) d_pg_newStatement_5 ?_
  replace h := bs h
  obtain ⟨x3, hx3, h⟩ := h
  refine wo_aald hx hb hK hW (t := 6) rfl (rN_s hx3) d_pg_newStatement_8 ?_
  refine lv_astore_n (lv' := [(1, .ref x3), (0, .ref a0)]) hx hb d_pg_newStatement_9 rfl hl (by decide) rfl (fun ls hl => ?_)
  refine lv_aload_n hx hb d_pg_newStatement_10 rfl (lv_at hl 1 rfl) ?_
  refine lv_dup hx hb d_pg_newStatement_11 rfl ?_
  replace h := bs h
  obtain ⟨x4, hx4, h⟩ := h
  refine gf_pg_28 hx hb hts hown hK hG hW (gI_s hx4) d_pg_newStatement_12 ?_
  refine lv_iconst (v := (1 : Int32)) hx hb d_pg_newStatement_15 (by decide) ?_
  refine lv_iadd hx hb d_pg_newStatement_16 ?_
  replace h := bs h
  obtain ⟨w5, hw5, h⟩ := h
  refine pf_pg_28 hx hb hts hown hK hG hW rfl rfl hw5 d_pg_newStatement_17 (fun H locs hW => ?_)
  refine lv_aload_n hx hb d_pg_newStatement_20 rfl (lv_at hl 0 rfl) ?_
  cases h
  exact wo_aret hx hb hr hlk hW d_pg_newStatement_21
abbrev b_st_begin : ByteArray := prog_8_method_2_code
def y_st_begin : MethodName := ⟨"AlarmForge$Statement", "begin", "(III)V"⟩
def rm_st_begin : Room := { frames := 0, cells := 0, slots := 0, locals := 0 }
theorem d_st_begin_0 : decode b_st_begin 0 = .ok (.aload_n 0, 1) := by decide +kernel
theorem d_st_begin_1 : decode b_st_begin 1 = .ok (.iload_n 1, 1) := by decide +kernel
theorem d_st_begin_2 : decode b_st_begin 2 = .ok (.putfield 7, 3) := by decide +kernel
theorem d_st_begin_5 : decode b_st_begin 5 = .ok (.aload_n 0, 1) := by decide +kernel
theorem d_st_begin_6 : decode b_st_begin 6 = .ok (.iload_n 2, 1) := by decide +kernel
theorem d_st_begin_7 : decode b_st_begin 7 = .ok (.putfield 13, 3) := by decide +kernel
theorem d_st_begin_10 : decode b_st_begin 10 = .ok (.aload_n 0, 1) := by decide +kernel
theorem d_st_begin_11 : decode b_st_begin 11 = .ok (.iload_n 3, 1) := by decide +kernel
theorem d_st_begin_12 : decode b_st_begin 12 = .ok (.putfield 16, 3) := by decide +kernel
theorem d_st_begin_15 : decode b_st_begin 15 = .ok (.aload_n 0, 1) := by decide +kernel
theorem d_st_begin_16 : decode b_st_begin 16 = .ok (.aconst_null, 1) := by decide +kernel
theorem d_st_begin_17 : decode b_st_begin 17 = .ok (.putfield 19, 3) := by decide +kernel
theorem d_st_begin_20 : decode b_st_begin 20 = .ok (.aload_n 0, 1) := by decide +kernel
theorem d_st_begin_21 : decode b_st_begin 21 = .ok (.aconst_null, 1) := by decide +kernel
theorem d_st_begin_22 : decode b_st_begin 22 = .ok (.putfield 23, 3) := by decide +kernel
theorem d_st_begin_25 : decode b_st_begin 25 = .ok (.aload_n 0, 1) := by decide +kernel
theorem d_st_begin_26 : decode b_st_begin 26 = .ok (.aconst_null, 1) := by decide +kernel
theorem d_st_begin_27 : decode b_st_begin 27 = .ok (.putfield 26, 3) := by decide +kernel
theorem d_st_begin_30 : decode b_st_begin 30 = .ok (.return_, 1) := by decide +kernel
def f_st_begin (a0 : Nat) (a1 : Int32) (a2 : Int32) (a3 : Int32) (w : WW) : Option WW :=
  if kb w a0 4 = true then
    (pv w a0 4 0 (.int a1)).bind fun w1 =>
    (pv w1 a0 4 1 (.int a2)).bind fun w2 =>
    (pv w2 a0 4 2 (.int a3)).bind fun w3 =>
    (pv w3 a0 4 7 (va_rf none)).bind fun w4 =>
    (pv w4 a0 4 8 (va_rf none)).bind fun w5 =>
    (pv w5 a0 4 9 (va_rf none)).bind fun w6 =>
    some w6
  else none
theorem kb_st_begin {a0 : Nat} {a1 : Int32} {a2 : Int32} {a3 : Int32} {w : WW} {r : WW} (h : f_st_begin a0 a1 a2 a3 w = some r) : kb w a0 4 = true := (its h).1
set_option maxHeartbeats 4000000 in
set_option maxRecDepth 100000 in
theorem c_st_begin (l : Launch) (D : va_G) (cA : Nat → ClassId) (base : Nat) {a0 : Nat} {a1 : Int32} {a2 : Int32} {a3 : Int32} {w w' : WW} (h : f_st_begin a0 a1 a2 a3 w = some w') : mt l D cls (wo_tys cA) cA base y_st_begin (Cond.code y_st_begin b_st_begin 4 (none) :: gt) rm_st_begin [.ref a0, .int a1, .int a2, .int a3] w none w' rm_st_begin.cells rm_st_begin.slots := by
  refine mt_start (by decide) (Nat.le_of_ble_eq_true rfl) ?_
  intro p e s m below meth c ls hx hb hr hml hown hts hlk hnm hK hG hW hl
  have C : cx b_st_begin (none) 4 y_st_begin.cls "begin" p s m [.ref a0, .int a1, .int a2, .int a3].toArray meth c D cA base := ⟨hx, hb, hr, hml, hown, hts, hlk, hnm, hK, hG⟩
  have hl : lv_has ls 4 [(0, .ref a0), (1, .int a1), (2, .int a2), (3, .int a3)] := hl
  unfold f_st_begin at h
  replace h := its h
  obtain ⟨-, h⟩ := h
  refine lv_aload_n hx hb d_st_begin_0 rfl (lv_at hl 0 rfl) ?_
  refine lv_iload_n hx hb d_st_begin_1 rfl (lv_at hl 1 rfl) ?_
  replace h := bs h
  obtain ⟨w1, hw1, h⟩ := h
  refine pf_st_7 hx hb hts hown hK hG hW rfl rfl hw1 d_st_begin_2 (fun H locs hW => ?_)
  refine lv_aload_n hx hb d_st_begin_5 rfl (lv_at hl 0 rfl) ?_
  refine lv_iload_n hx hb d_st_begin_6 rfl (lv_at hl 2 rfl) ?_
  replace h := bs h
  obtain ⟨w2, hw2, h⟩ := h
  refine pf_st_13 hx hb hts hown hK hG hW rfl rfl hw2 d_st_begin_7 (fun H locs hW => ?_)
  refine lv_aload_n hx hb d_st_begin_10 rfl (lv_at hl 0 rfl) ?_
  refine lv_iload_n hx hb d_st_begin_11 rfl (lv_at hl 3 rfl) ?_
  replace h := bs h
  obtain ⟨w3, hw3, h⟩ := h
  refine pf_st_16 hx hb hts hown hK hG hW rfl rfl hw3 d_st_begin_12 (fun H locs hW => ?_)
  refine lv_aload_n hx hb d_st_begin_15 rfl (lv_at hl 0 rfl) ?_
  refine wo_null hx hb d_st_begin_16 ?_
  replace h := bs h
  obtain ⟨w4, hw4, h⟩ := h
  refine pf_st_19 hx hb hts hown hK hG hW (rf_n _ _) (rf_f _ _) hw4 d_st_begin_17 (fun H locs hW => ?_)
  refine lv_aload_n hx hb d_st_begin_20 rfl (lv_at hl 0 rfl) ?_
  refine wo_null hx hb d_st_begin_21 ?_
  replace h := bs h
  obtain ⟨w5, hw5, h⟩ := h
  refine pf_st_23 hx hb hts hown hK hG hW (rf_n _ _) (rf_f _ _) hw5 d_st_begin_22 (fun H locs hW => ?_)
  refine lv_aload_n hx hb d_st_begin_25 rfl (lv_at hl 0 rfl) ?_
  refine wo_null hx hb d_st_begin_26 ?_
  replace h := bs h
  obtain ⟨w6, hw6, h⟩ := h
  refine pf_st_26 hx hb hts hown hK hG hW (rf_n _ _) (rf_f _ _) hw6 d_st_begin_27 (fun H locs hW => ?_)
  cases h
  exact wo_vret hx hb hr hlk hW d_st_begin_30
abbrev b_pa_advance : ByteArray := prog_3_method_5_code
def y_pa_advance : MethodName := ⟨"AlarmForge$Parser", "advance", "()V"⟩
def rm_pa_advance : Room := { frames := 0, cells := 0, slots := 0, locals := 0 }
theorem d_pa_advance_0 : decode b_pa_advance 0 = .ok (.aload_n 0, 1) := by decide +kernel
theorem d_pa_advance_1 : decode b_pa_advance 1 = .ok (.getfield 34, 3) := by decide +kernel
theorem d_pa_advance_4 : decode b_pa_advance 4 = .ok (.sipush (200), 3) := by decide +kernel
theorem d_pa_advance_7 : decode b_pa_advance 7 = .ok (.if_icmp .ge (13), 3) := by decide +kernel
theorem d_pa_advance_10 : decode b_pa_advance 10 = .ok (.aload_n 0, 1) := by decide +kernel
theorem d_pa_advance_11 : decode b_pa_advance 11 = .ok (.dup, 1) := by decide +kernel
theorem d_pa_advance_12 : decode b_pa_advance 12 = .ok (.getfield 34, 3) := by decide +kernel
theorem d_pa_advance_15 : decode b_pa_advance 15 = .ok (.iconst 1, 1) := by decide +kernel
theorem d_pa_advance_16 : decode b_pa_advance 16 = .ok (.iadd, 1) := by decide +kernel
theorem d_pa_advance_17 : decode b_pa_advance 17 = .ok (.putfield 34, 3) := by decide +kernel
theorem d_pa_advance_20 : decode b_pa_advance 20 = .ok (.return_, 1) := by decide +kernel
def f_pa_advance_20   (w : WW) : Option WW :=
  some w
def f_pa_advance (a0 : Nat) (w : WW) : Option WW :=
  if kb w a0 2 = true then
    (gI w a0 2 1).bind fun x1 =>
    if (200 : Int32) ≤ x1 then
      f_pa_advance_20 w
    else
      (gI w a0 2 1).bind fun x3 =>
      (pv w a0 2 1 (.int (x3 + (1 : Int32)))).bind fun w4 =>
      f_pa_advance_20 w4
  else none
theorem kb_pa_advance {a0 : Nat}  {w : WW} {r : WW} (h : f_pa_advance a0 w = some r) : kb w a0 2 = true := (its h).1
set_option maxHeartbeats 4000000 in
set_option maxRecDepth 100000 in
theorem j_pa_advance_20 {p : Program} {l : Launch} {e : Env} {s : State} {m : MethodId} {args : Array Value} {below : List Frame} {meth : Method} {c : Code} {D : va_G} {cA : Nat → ClassId} {base : Nat} {w' : WW} (C : cx b_pa_advance (none) 1 y_pa_advance.cls "advance" p s m args meth c D cA base)   : ∀  (w : WW), f_pa_advance_20  w = some w' → ∀ (H : Heap) (locs : List Loc) (ls : Array Slot), wo_S D cls cA base s w H locs → lv_has ls 1 [] → W p l e rm_pa_advance s m args below meth c H locs 0 0 (MQ below (wo_Q D cls cA base none w') args s rm_pa_advance.cells rm_pa_advance.slots (wo_B base)) (F0 m 20 ls []) := by
  obtain ⟨hx, hb, hr, hml, hown, hts, hlk, hnm, hK, hG⟩ := id C
  intro  w h H locs ls hW hl
  unfold f_pa_advance_20 at h
  cases h
  exact wo_vret hx hb hr hlk hW d_pa_advance_20
set_option maxHeartbeats 4000000 in
set_option maxRecDepth 100000 in
theorem c_pa_advance (l : Launch) (D : va_G) (cA : Nat → ClassId) (base : Nat) {a0 : Nat} {w w' : WW} (h : f_pa_advance a0 w = some w') : mt l D cls (wo_tys cA) cA base y_pa_advance (Cond.code y_pa_advance b_pa_advance 1 (none) :: gt) rm_pa_advance [.ref a0] w none w' rm_pa_advance.cells rm_pa_advance.slots := by
  refine mt_start (by decide) (Nat.le_of_ble_eq_true rfl) ?_
  intro p e s m below meth c ls hx hb hr hml hown hts hlk hnm hK hG hW hl
  have C : cx b_pa_advance (none) 1 y_pa_advance.cls "advance" p s m [.ref a0].toArray meth c D cA base := ⟨hx, hb, hr, hml, hown, hts, hlk, hnm, hK, hG⟩
  have hl : lv_has ls 1 [(0, .ref a0)] := hl
  unfold f_pa_advance at h
  replace h := its h
  obtain ⟨-, h⟩ := h
  refine lv_aload_n hx hb d_pa_advance_0 rfl (lv_at hl 0 rfl) ?_
  replace h := bs h
  obtain ⟨x1, hx1, h⟩ := h
  refine gf_pa_34 hx hb hts hown hK hG hW (gI_s hx1) d_pa_advance_1 ?_
  refine lv_sipush (v := (200 : Int32)) hx hb d_pa_advance_4 (by decide) ?_
  refine lv_icmp_ge (tgt := 20) hx hb d_pa_advance_7 (by decide) (fun c2 => ?_) (fun c2 => ?_)
  · rw [if_pos c2] at h
    exact j_pa_advance_20 C w h _ _ _ hW (lv_sub hl [] rfl)
  · rw [if_neg c2] at h
    refine lv_aload_n hx hb d_pa_advance_10 rfl (lv_at hl 0 rfl) ?_
    refine lv_dup hx hb d_pa_advance_11 rfl ?_
    replace h := bs h
    obtain ⟨x3, hx3, h⟩ := h
    refine gf_pa_34 hx hb hts hown hK hG hW (gI_s hx3) d_pa_advance_12 ?_
    refine lv_iconst (v := (1 : Int32)) hx hb d_pa_advance_15 (by decide) ?_
    refine lv_iadd hx hb d_pa_advance_16 ?_
    replace h := bs h
    obtain ⟨w4, hw4, h⟩ := h
    refine pf_pa_34 hx hb hts hown hK hG hW rfl rfl hw4 d_pa_advance_17 (fun H locs hW => ?_)
    exact j_pa_advance_20 C w4 h _ _ _ hW (lv_sub hl [] rfl)
theorem xv_pa_59 {p : Program} {l : Launch} {e : Env} {R : Room} {s : State} {m : MethodId} {args : Array Value} {below : List Frame} {meth : Method} {c : Code} {H : Heap} {locs : List Loc} {cells slots : Nat} {Q : State → Prop} {D : va_G} {cA : Nat → ClassId} {base : Nat} {w w' : WW} {cc : ByteArray} {pc nL : Nat} {ls : Array Slot} {rest st0 As : List Value} {E : String} {b : Nat} (hx : p.tables.exec = Jvm.exec) (hb : c.code = cc) (hml : c.maxLocals = nL) (hown : s.vm.findClass Rc_pa = some m.cls) (hts : ∀ w ∈ gt, w.before args s = true) (hK : va_K D cls (wo_tys cA) s) (hG : wo_G base s) (hW : wo_S D cls cA base s w H locs) (hM : xt l D cls (wo_tys cA) cA base y_pa_need (Cond.code y_pa_need b_pa_need 2 (none) :: gt) rx_pa_need (.ref b :: As) w E w' rx_pa_need.cells rx_pa_need.slots) (hkb : kb w b 2 = true) (hR : rx_pa_need.frames + 1 ≤ R.frames ∧ 8 + (2 + 11) + rx_pa_need.locals ≤ R.locals) (hf : cells + rx_pa_need.cells ≤ R.cells ∧ slots + rx_pa_need.slots ≤ R.slots) (hn : As.length = 1) (hsz : ls.size = nL) (hst : st0 = As.reverse ++ .ref b :: rest) (hcat : (rest.map fun v => v.category).sum ≤ 8) (hdg : decode cc pc = .ok (.invokevirtual 59, 3)) (kk : ∀ (H1 : Heap) (locs1 : List Loc) (q : Addr) (ce : Cell), wo_S D cls cA base s w' H1 locs1 → H1[q]? = some ce → ce.vm = .none → s.vm.findClass E = some ce.cls → XW p l e R s m args below meth c H1 locs1 (cells + rx_pa_need.cells) (slots + rx_pa_need.slots) Q (F0 m pc ls rest) q) : W p l e R s m args below meth c H locs cells slots Q (F0 m pc ls st0) :=
  wo_xcallV (C := Rc_pa) hx hb hml hown hts hK hG hW hM hkb rfl (gt_of (i := 660) (by decide +kernel) (by decide +kernel)) (gt_of (i := 662) (by decide +kernel) (by decide +kernel)) (gt_sel (i := 10) (by decide +kernel) (by decide +kernel)) (gt_of (i := 2) (by decide +kernel) (by decide +kernel)) (gt_of (i := 663) (by decide +kernel) (by decide +kernel)) (by decide +kernel) hR hf hn hsz hst hcat hdg kk
theorem cv_pa_59 {p : Program} {l : Launch} {e : Env} {R : Room} {s : State} {m : MethodId} {args : Array Value} {below : List Frame} {meth : Method} {c : Code} {H : Heap} {locs : List Loc} {cells slots : Nat} {Q : State → Prop} {D : va_G} {cA : Nat → ClassId} {base : Nat} {w w' : WW} {cc : ByteArray} {pc nL : Nat} {ls : Array Slot} {rest st0 As : List Value} {ov : Option Value} {b : Nat} (hx : p.tables.exec = Jvm.exec) (hb : c.code = cc) (hml : c.maxLocals = nL) (hown : s.vm.findClass Rc_pa = some m.cls) (hts : ∀ w ∈ gt, w.before args s = true) (hK : va_K D cls (wo_tys cA) s) (hG : wo_G base s) (hW : wo_S D cls cA base s w H locs) (hM : mt l D cls (wo_tys cA) cA base y_pa_need (Cond.code y_pa_need b_pa_need 2 (none) :: gt) rm_pa_need (.ref b :: As) w ov w' rm_pa_need.cells rm_pa_need.slots) (hkb : kb w b 2 = true) (hR : rm_pa_need.frames + 1 ≤ R.frames ∧ 8 + (2 + 11) + rm_pa_need.locals ≤ R.locals) (hf : cells + rm_pa_need.cells ≤ R.cells ∧ slots + rm_pa_need.slots ≤ R.slots) (hn : As.length = 1) (hsz : ls.size = nL) (hst : st0 = As.reverse ++ .ref b :: rest) (hcat : (rest.map fun v => v.category).sum ≤ 8) (hdg : decode cc pc = .ok (.invokevirtual 59, 3)) (kk : ∀ (H1 : Heap) (locs1 : List Loc), wo_S D cls cA base s w' H1 locs1 → W p l e R s m args below meth c H1 locs1 (cells + rm_pa_need.cells) (slots + rm_pa_need.slots) Q (F0 m (pc + 3) ls (ov.toList ++ rest))) : W p l e R s m args below meth c H locs cells slots Q (F0 m pc ls st0) :=
  wo_callV (C := Rc_pa) hx hb hml hown hts hK hG hW hM hkb rfl (gt_of (i := 660) (by decide +kernel) (by decide +kernel)) (gt_of (i := 662) (by decide +kernel) (by decide +kernel)) (gt_sel (i := 10) (by decide +kernel) (by decide +kernel)) (gt_of (i := 2) (by decide +kernel) (by decide +kernel)) (gt_of (i := 663) (by decide +kernel) (by decide +kernel)) (by decide +kernel) hR hf hn hsz hst hcat hdg kk
theorem cv_pa_63 {p : Program} {l : Launch} {e : Env} {R : Room} {s : State} {m : MethodId} {args : Array Value} {below : List Frame} {meth : Method} {c : Code} {H : Heap} {locs : List Loc} {cells slots : Nat} {Q : State → Prop} {D : va_G} {cA : Nat → ClassId} {base : Nat} {w w' : WW} {cc : ByteArray} {pc nL : Nat} {ls : Array Slot} {rest st0 As : List Value} {ov : Option Value} {b : Nat} (hx : p.tables.exec = Jvm.exec) (hb : c.code = cc) (hml : c.maxLocals = nL) (hown : s.vm.findClass Rc_pa = some m.cls) (hts : ∀ w ∈ gt, w.before args s = true) (hK : va_K D cls (wo_tys cA) s) (hG : wo_G base s) (hW : wo_S D cls cA base s w H locs) (hM : mt l D cls (wo_tys cA) cA base y_pa_advance (Cond.code y_pa_advance b_pa_advance 1 (none) :: gt) rm_pa_advance (.ref b :: As) w ov w' rm_pa_advance.cells rm_pa_advance.slots) (hkb : kb w b 2 = true) (hR : rm_pa_advance.frames + 1 ≤ R.frames ∧ 8 + (1 + 11) + rm_pa_advance.locals ≤ R.locals) (hf : cells + rm_pa_advance.cells ≤ R.cells ∧ slots + rm_pa_advance.slots ≤ R.slots) (hn : As.length = 0) (hsz : ls.size = nL) (hst : st0 = As.reverse ++ .ref b :: rest) (hcat : (rest.map fun v => v.category).sum ≤ 8) (hdg : decode cc pc = .ok (.invokevirtual 63, 3)) (kk : ∀ (H1 : Heap) (locs1 : List Loc), wo_S D cls cA base s w' H1 locs1 → W p l e R s m args below meth c H1 locs1 (cells + rm_pa_advance.cells) (slots + rm_pa_advance.slots) Q (F0 m (pc + 3) ls (ov.toList ++ rest))) : W p l e R s m args below meth c H locs cells slots Q (F0 m pc ls st0) :=
  wo_callV (C := Rc_pa) hx hb hml hown hts hK hG hW hM hkb rfl (gt_of (i := 674) (by decide +kernel) (by decide +kernel)) (gt_of (i := 676) (by decide +kernel) (by decide +kernel)) (gt_sel (i := 11) (by decide +kernel) (by decide +kernel)) (gt_of (i := 2) (by decide +kernel) (by decide +kernel)) (gt_of (i := 677) (by decide +kernel) (by decide +kernel)) (by decide +kernel) hR hf hn hsz hst hcat hdg kk
abbrev b_pa_take : ByteArray := prog_3_method_6_code
def y_pa_take : MethodName := ⟨"AlarmForge$Parser", "take", "(I)V"⟩
def rm_pa_take : Room := { frames := 7, cells := 0, slots := 0, locals := 121 }
def rx_pa_take : Room := { frames := 7, cells := 1, slots := 6, locals := 121 }
theorem d_pa_take_0 : decode b_pa_take 0 = .ok (.aload_n 0, 1) := by decide +kernel
theorem d_pa_take_1 : decode b_pa_take 1 = .ok (.aload_n 0, 1) := by decide +kernel
theorem d_pa_take_2 : decode b_pa_take 2 = .ok (.invokevirtual 55, 3) := by decide +kernel
theorem d_pa_take_5 : decode b_pa_take 5 = .ok (.iload_n 1, 1) := by decide +kernel
theorem d_pa_take_6 : decode b_pa_take 6 = .ok (.if_icmp .ne (7), 3) := by decide +kernel
theorem d_pa_take_9 : decode b_pa_take 9 = .ok (.iconst 1, 1) := by decide +kernel
theorem d_pa_take_10 : decode b_pa_take 10 = .ok (.goto (4), 3) := by decide +kernel
theorem d_pa_take_13 : decode b_pa_take 13 = .ok (.iconst 0, 1) := by decide +kernel
theorem d_pa_take_14 : decode b_pa_take 14 = .ok (.invokevirtual 59, 3) := by decide +kernel
theorem d_pa_take_17 : decode b_pa_take 17 = .ok (.aload_n 0, 1) := by decide +kernel
theorem d_pa_take_18 : decode b_pa_take 18 = .ok (.invokevirtual 63, 3) := by decide +kernel
theorem d_pa_take_21 : decode b_pa_take 21 = .ok (.return_, 1) := by decide +kernel
def f_pa_take_14  (y0 : Nat) (z0 : Nat) (z1 : Int32) (w : WW) : Option ((Unit ⊕ String) × WW) :=
  bdx (f_pa_need z0 z1 w) fun x5 w4 =>
  (f_pa_advance y0 w4).bind fun w6 =>
  some (.inl (), w6)
def f_pa_take (a0 : Nat) (a1 : Int32) (w : WW) : Option ((Unit ⊕ String) × WW) :=
  if kb w a0 2 = true then
    bd2 (f_pa_kindHere a0 w) fun x2 w1 =>
    if x2 = a1 then
      f_pa_take_14 a0 a0 (1 : Int32) w1
    else
      f_pa_take_14 a0 a0 (0 : Int32) w1
  else none
theorem kb_pa_take {a0 : Nat} {a1 : Int32} {w : WW} {r : ((Unit ⊕ String) × WW)} (h : f_pa_take a0 a1 w = some r) : kb w a0 2 = true := (its h).1
set_option maxHeartbeats 4000000 in
set_option maxRecDepth 100000 in
theorem j_pa_take_14 {p : Program} {l : Launch} {e : Env} {s : State} {m : MethodId} {args : Array Value} {below : List Frame} {meth : Method} {c : Code} {D : va_G} {cA : Nat → ClassId} {base : Nat} {w' : WW} (C : cx b_pa_take (none) 2 y_pa_take.cls "take" p s m args meth c D cA base)   : ∀ (y0 : Nat) (z0 : Nat) (z1 : Int32) (w : WW), f_pa_take_14 y0 z0 z1 w = some (.inl (), w') → ∀ (H : Heap) (locs : List Loc) (ls : Array Slot), wo_S D cls cA base s w H locs → lv_has ls 2 [(0, .ref y0)] → W p l e rm_pa_take s m args below meth c H locs 0 0 (MQ below (wo_Q D cls cA base none w') args s rm_pa_take.cells rm_pa_take.slots (wo_B base)) (F0 m 14 ls [.int z1, .ref z0]) := by
  obtain ⟨hx, hb, hr, hml, hown, hts, hlk, hnm, hK, hG⟩ := id C
  intro y0 z0 z1 w h H locs ls hW hl
  unfold f_pa_take_14 at h
  replace h := bsx h
  obtain ⟨x5, w4, hw4, h⟩ := h
  refine cv_pa_59 (As := [.int z1]) (rest := []) hx hb hml hown hts hK hG hW (c_pa_need l D cA base hw4) (kb_pa_need hw4) ⟨Nat.le_of_ble_eq_true rfl, Nat.le_of_ble_eq_true rfl⟩ ⟨Nat.le_of_ble_eq_true rfl, Nat.le_of_ble_eq_true rfl⟩ rfl hl.1 rfl (Nat.le_of_ble_eq_true rfl) d_pa_take_14 (fun H locs hW => ?_)
  refine lv_aload_n hx hb d_pa_take_17 rfl (lv_at hl 0 rfl) ?_
  replace h := bs h
  obtain ⟨w6, hw6, h⟩ := h
  refine cv_pa_63 (As := []) (rest := []) hx hb hml hown hts hK hG hW (c_pa_advance l D cA base hw6) (kb_pa_advance hw6) ⟨Nat.le_of_ble_eq_true rfl, Nat.le_of_ble_eq_true rfl⟩ ⟨Nat.le_of_ble_eq_true rfl, Nat.le_of_ble_eq_true rfl⟩ rfl hl.1 rfl (Nat.le_of_ble_eq_true rfl) d_pa_take_18 (fun H locs hW => ?_)
  cases h
  exact wo_vret hx hb hr hlk hW d_pa_take_21
set_option maxHeartbeats 4000000 in
set_option maxRecDepth 100000 in
theorem c_pa_take (l : Launch) (D : va_G) (cA : Nat → ClassId) (base : Nat) {a0 : Nat} {a1 : Int32} {w w' : WW} (h : f_pa_take a0 a1 w = some (.inl (), w')) : mt l D cls (wo_tys cA) cA base y_pa_take (Cond.code y_pa_take b_pa_take 2 (none) :: gt) rm_pa_take [.ref a0, .int a1] w none w' rm_pa_take.cells rm_pa_take.slots := by
  refine mt_start (by decide) (Nat.le_of_ble_eq_true rfl) ?_
  intro p e s m below meth c ls hx hb hr hml hown hts hlk hnm hK hG hW hl
  have C : cx b_pa_take (none) 2 y_pa_take.cls "take" p s m [.ref a0, .int a1].toArray meth c D cA base := ⟨hx, hb, hr, hml, hown, hts, hlk, hnm, hK, hG⟩
  have hl : lv_has ls 2 [(0, .ref a0), (1, .int a1)] := hl
  unfold f_pa_take at h
  replace h := its h
  obtain ⟨-, h⟩ := h
  refine lv_aload_n hx hb d_pa_take_0 rfl (lv_at hl 0 rfl) ?_
  refine lv_aload_n hx hb d_pa_take_1 rfl (lv_at hl 0 rfl) ?_
  replace h := bs2 h
  obtain ⟨x2, w1, hw1, h⟩ := h
  refine cv_pa_55 (As := []) (rest := [.ref a0]) hx hb hml hown hts hK hG hW (c_pa_kindHere l D cA base hw1) (kb_pa_kindHere hw1) ⟨Nat.le_of_ble_eq_true rfl, Nat.le_of_ble_eq_true rfl⟩ ⟨Nat.le_of_ble_eq_true rfl, Nat.le_of_ble_eq_true rfl⟩ rfl hl.1 rfl (Nat.le_of_ble_eq_true rfl) d_pa_take_2 (fun H locs hW => ?_)
  refine lv_iload_n hx hb d_pa_take_5 rfl (lv_at hl 1 rfl) ?_
  refine lv_icmp_ne (tgt := 13) hx hb d_pa_take_6 (by decide) (fun c3 => ?_) (fun c3 => ?_)
  · rw [if_neg c3] at h
    refine lv_iconst (v := (0 : Int32)) hx hb d_pa_take_13 (by decide) ?_
    exact j_pa_take_14 C a0 a0 (0 : Int32) w1 h _ _ _ hW (lv_sub hl [0] rfl)
  · rw [if_pos c3] at h
    refine lv_iconst (v := (1 : Int32)) hx hb d_pa_take_9 (by decide) ?_
    refine lv_goto (tgt := 14) hx hb d_pa_take_10 (by decide) ?_
    exact j_pa_take_14 C a0 a0 (1 : Int32) w1 h _ _ _ hW (lv_sub hl [0] rfl)
set_option maxHeartbeats 4000000 in
set_option maxRecDepth 100000 in
theorem jx_pa_take_14 {p : Program} {l : Launch} {e : Env} {s : State} {m : MethodId} {args : Array Value} {below : List Frame} {meth : Method} {c : Code} {D : va_G} {cA : Nat → ClassId} {base : Nat} {E : String} {w' : WW} (C : cx b_pa_take (none) 2 y_pa_take.cls "take" p s m args meth c D cA base ∧ (∀ x ∈ c.exceptionTable.toList, ∀ k : Nat, covers x k = false) ∧ l.stackTraces = false)   : ∀ (y0 : Nat) (z0 : Nat) (z1 : Int32) (w : WW), f_pa_take_14 y0 z0 z1 w = some (.inr E, w') → ∀ (H : Heap) (locs : List Loc) (ls : Array Slot), wo_S D cls cA base s w H locs → lv_has ls 2 [(0, .ref y0)] → W p l e rx_pa_take s m args below meth c H locs 0 0 (XQ below (wo_X D cls cA base E w' rx_pa_take.cells rx_pa_take.slots) args s) (F0 m 14 ls [.int z1, .ref z0]) := by
  obtain ⟨hx, hb, hr, hml, hown, hts, hlk, hnm, hK, hG⟩ := id C.1
  have hnt := C.2.1
  have hst := C.2.2
  intro y0 z0 z1 w h H locs ls hW hl
  unfold f_pa_take_14 at h
  rcases bsy h with hw4 | ⟨x5, w4, hw4, hnw4⟩
  · exact xv_pa_59 (As := [.int z1]) (rest := []) hx hb hml hown hts hK hG hW (x_pa_need l hst D cA base hw4) (kb_pa_need hw4) ⟨Nat.le_of_ble_eq_true rfl, Nat.le_of_ble_eq_true rfl⟩ ⟨Nat.le_of_ble_eq_true rfl, Nat.le_of_ble_eq_true rfl⟩ rfl hl.1 rfl (Nat.le_of_ble_eq_true rfl) d_pa_take_14 (fun H locs q ce hW h1 h2 h3 => wo_xout hnt hlk hW h1 h2 h3 (Nat.le_of_ble_eq_true rfl) (Nat.le_of_ble_eq_true rfl))
  clear h
  have h := hnw4
  clear hnw4
  refine cv_pa_59 (As := [.int z1]) (rest := []) hx hb hml hown hts hK hG hW (c_pa_need l D cA base hw4) (kb_pa_need hw4) ⟨Nat.le_of_ble_eq_true rfl, Nat.le_of_ble_eq_true rfl⟩ ⟨Nat.le_of_ble_eq_true rfl, Nat.le_of_ble_eq_true rfl⟩ rfl hl.1 rfl (Nat.le_of_ble_eq_true rfl) d_pa_take_14 (fun H locs hW => ?_)
  refine lv_aload_n hx hb d_pa_take_17 rfl (lv_at hl 0 rfl) ?_
  replace h := bs h
  obtain ⟨w6, hw6, h⟩ := h
  refine cv_pa_63 (As := []) (rest := []) hx hb hml hown hts hK hG hW (c_pa_advance l D cA base hw6) (kb_pa_advance hw6) ⟨Nat.le_of_ble_eq_true rfl, Nat.le_of_ble_eq_true rfl⟩ ⟨Nat.le_of_ble_eq_true rfl, Nat.le_of_ble_eq_true rfl⟩ rfl hl.1 rfl (Nat.le_of_ble_eq_true rfl) d_pa_take_18 (fun H locs hW => ?_)
  cases h
set_option maxHeartbeats 4000000 in
set_option maxRecDepth 100000 in
theorem x_pa_take (l : Launch) (hst : l.stackTraces = false) (D : va_G) (cA : Nat → ClassId) (base : Nat) {a0 : Nat} {a1 : Int32} {w w' : WW} {E : String} (h : f_pa_take a0 a1 w = some (.inr E, w')) : xt l D cls (wo_tys cA) cA base y_pa_take (Cond.code y_pa_take b_pa_take 2 (none) :: gt) rx_pa_take [.ref a0, .int a1] w E w' rx_pa_take.cells rx_pa_take.slots := by
  refine xt_start (by decide) (Nat.le_of_ble_eq_true rfl) ?_
  intro p e s m below meth c ls hx hb hr hml hown hts hlk hnm hK hG hW hl hnt
  have C : cx b_pa_take (none) 2 y_pa_take.cls "take" p s m [.ref a0, .int a1].toArray meth c D cA base ∧ (∀ x ∈ c.exceptionTable.toList, ∀ k : Nat, covers x k = false) ∧ l.stackTraces = false := ⟨⟨hx, hb, hr, hml, hown, hts, hlk, hnm, hK, hG⟩, hnt, hst⟩
  have hl : lv_has ls 2 [(0, .ref a0), (1, .int a1)] := hl
  unfold f_pa_take at h
  replace h := its h
  obtain ⟨-, h⟩ := h
  refine lv_aload_n hx hb d_pa_take_0 rfl (lv_at hl 0 rfl) ?_
  refine lv_aload_n hx hb d_pa_take_1 rfl (lv_at hl 0 rfl) ?_
  replace h := bs2 h
  obtain ⟨x2, w1, hw1, h⟩ := h
  refine cv_pa_55 (As := []) (rest := [.ref a0]) hx hb hml hown hts hK hG hW (c_pa_kindHere l D cA base hw1) (kb_pa_kindHere hw1) ⟨Nat.le_of_ble_eq_true rfl, Nat.le_of_ble_eq_true rfl⟩ ⟨Nat.le_of_ble_eq_true rfl, Nat.le_of_ble_eq_true rfl⟩ rfl hl.1 rfl (Nat.le_of_ble_eq_true rfl) d_pa_take_2 (fun H locs hW => ?_)
  refine lv_iload_n hx hb d_pa_take_5 rfl (lv_at hl 1 rfl) ?_
  refine lv_icmp_ne (tgt := 13) hx hb d_pa_take_6 (by decide) (fun c3 => ?_) (fun c3 => ?_)
  · rw [if_neg c3] at h
    refine lv_iconst (v := (0 : Int32)) hx hb d_pa_take_13 (by decide) ?_
    exact jx_pa_take_14 C a0 a0 (0 : Int32) w1 h _ _ _ hW (lv_sub hl [0] rfl)
  · rw [if_pos c3] at h
    refine lv_iconst (v := (1 : Int32)) hx hb d_pa_take_9 (by decide) ?_
    refine lv_goto (tgt := 14) hx hb d_pa_take_10 (by decide) ?_
    exact jx_pa_take_14 C a0 a0 (1 : Int32) w1 h _ _ _ hW (lv_sub hl [0] rfl)
