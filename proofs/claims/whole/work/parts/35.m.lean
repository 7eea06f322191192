/-! Methods as functions, and their contracts (by wip/gen/run.py). -/
theorem cv_sa_37 {p : Program} {l : Launch} {e : Env} {R : Room} {s : State} {m : MethodId} {args : Array Value} {below : List Frame} {meth : Method} {c : Code} {H : Heap} {locs : List Loc} {cells slots : Nat} {Q : State → Prop} {D : va_G} {cA : Nat → ClassId} {base : Nat} {w w' : WW} {cc : ByteArray} {pc nL : Nat} {ls : Array Slot} {rest st0 As : List Value} {ov : Option Value} {b : Nat} (hx : p.tables.exec = Jvm.exec) (hb : c.code = cc) (hml : c.maxLocals = nL) (hown : s.vm.findClass Rc_sa = some m.cls) (hts : ∀ w ∈ gt, w.before args s = true) (hK : va_K D cls (wo_tys cA) s) (hG : wo_G base s) (hW : wo_S D cls cA base s w H locs) (hM : mt l D cls (wo_tys cA) cA base y_va_sameAs (Cond.code y_va_sameAs b_va_sameAs 2 (some .boolean) :: gt) rm_va_sameAs (.ref b :: As) w ov w' rm_va_sameAs.cells rm_va_sameAs.slots) (hkb : kb w b 8 = true) (hR : rm_va_sameAs.frames + 1 ≤ R.frames ∧ 8 + (2 + 11) + rm_va_sameAs.locals ≤ R.locals) (hf : cells + rm_va_sameAs.cells ≤ R.cells ∧ slots + rm_va_sameAs.slots ≤ R.slots) (hn : As.length = 1) (hsz : ls.size = nL) (hst : st0 = As.reverse ++ .ref b :: rest) (hcat : (rest.map fun v => v.category).sum ≤ 8) (hdg : decode cc pc = .ok (.invokevirtual 37, 3)) (kk : ∀ (H1 : Heap) (locs1 : List Loc), wo_S D cls cA base s w' H1 locs1 → W p l e R s m args below meth c H1 locs1 (cells + rm_va_sameAs.cells) (slots + rm_va_sameAs.slots) Q (F0 m (pc + 3) ls (ov.toList ++ rest))) : W p l e R s m args below meth c H locs cells slots Q (F0 m pc ls st0) :=
  wo_callV (C := Rc_va) hx hb hml hown hts hK hG hW hM hkb rfl (gt_of (i := 1103) (by decide +kernel) (by decide +kernel)) (gt_of (i := 1104) (by decide +kernel) (by decide +kernel)) (gt_of (i := 1105) (by decide +kernel) (by decide +kernel)) (gt_of (i := 9) (by decide +kernel) (by decide +kernel)) (gt_of (i := 1106) (by decide +kernel) (by decide +kernel)) (by decide +kernel) hR hf hn hsz hst hcat hdg kk
abbrev b_sa_sameAs : ByteArray := prog_7_method_4_code
def y_sa_sameAs : MethodName := ⟨"AlarmForge$State", "sameAs", "(LAlarmForge$State;)Z"⟩
def rm_sa_sameAs : Room := { frames := 1, cells := 0, slots := 0, locals := 21 }
theorem d_sa_sameAs_0 : decode b_sa_sameAs 0 = .ok (.aload_n 0, 1) := by decide +kernel
theorem d_sa_sameAs_1 : decode b_sa_sameAs 1 = .ok (.getfield 22, 3) := by decide +kernel
theorem d_sa_sameAs_4 : decode b_sa_sameAs 4 = .ok (.ifCond .ne (10), 3) := by decide +kernel
theorem d_sa_sameAs_7 : decode b_sa_sameAs 7 = .ok (.aload_n 1, 1) := by decide +kernel
theorem d_sa_sameAs_8 : decode b_sa_sameAs 8 = .ok (.getfield 22, 3) := by decide +kernel
theorem d_sa_sameAs_11 : decode b_sa_sameAs 11 = .ok (.ifCond .eq (20), 3) := by decide +kernel
theorem d_sa_sameAs_14 : decode b_sa_sameAs 14 = .ok (.aload_n 0, 1) := by decide +kernel
theorem d_sa_sameAs_15 : decode b_sa_sameAs 15 = .ok (.getfield 22, 3) := by decide +kernel
theorem d_sa_sameAs_18 : decode b_sa_sameAs 18 = .ok (.aload_n 1, 1) := by decide +kernel
theorem d_sa_sameAs_19 : decode b_sa_sameAs 19 = .ok (.getfield 22, 3) := by decide +kernel
theorem d_sa_sameAs_22 : decode b_sa_sameAs 22 = .ok (.if_icmp .ne (7), 3) := by decide +kernel
theorem d_sa_sameAs_25 : decode b_sa_sameAs 25 = .ok (.iconst 1, 1) := by decide +kernel
theorem d_sa_sameAs_26 : decode b_sa_sameAs 26 = .ok (.goto (4), 3) := by decide +kernel
theorem d_sa_sameAs_29 : decode b_sa_sameAs 29 = .ok (.iconst 0, 1) := by decide +kernel
theorem d_sa_sameAs_30 : decode b_sa_sameAs 30 = .ok (.ireturn, 1) := by decide +kernel
theorem d_sa_sameAs_31 : decode b_sa_sameAs 31 = .ok (.iconst 0, 1) := by decide +kernel
theorem d_sa_sameAs_32 : decode b_sa_sameAs 32 = .ok (.istore_n 2, 1) := by decide +kernel
theorem d_sa_sameAs_33 : decode b_sa_sameAs 33 = .ok (.iload_n 2, 1) := by decide +kernel
theorem d_sa_sameAs_34 : decode b_sa_sameAs 34 = .ok (.bipush (14), 2) := by decide +kernel
theorem d_sa_sameAs_36 : decode b_sa_sameAs 36 = .ok (.if_icmp .ge (29), 3) := by decide +kernel
theorem d_sa_sameAs_39 : decode b_sa_sameAs 39 = .ok (.aload_n 0, 1) := by decide +kernel
theorem d_sa_sameAs_40 : decode b_sa_sameAs 40 = .ok (.getfield 11, 3) := by decide +kernel
theorem d_sa_sameAs_43 : decode b_sa_sameAs 43 = .ok (.iload_n 2, 1) := by decide +kernel
theorem d_sa_sameAs_44 : decode b_sa_sameAs 44 = .ok (.aaload, 1) := by decide +kernel
theorem d_sa_sameAs_45 : decode b_sa_sameAs 45 = .ok (.aload_n 1, 1) := by decide +kernel
theorem d_sa_sameAs_46 : decode b_sa_sameAs 46 = .ok (.getfield 11, 3) := by decide +kernel
theorem d_sa_sameAs_49 : decode b_sa_sameAs 49 = .ok (.iload_n 2, 1) := by decide +kernel
theorem d_sa_sameAs_50 : decode b_sa_sameAs 50 = .ok (.aaload, 1) := by decide +kernel
theorem d_sa_sameAs_51 : decode b_sa_sameAs 51 = .ok (.invokevirtual 37, 3) := by decide +kernel
theorem d_sa_sameAs_54 : decode b_sa_sameAs 54 = .ok (.ifCond .ne (5), 3) := by decide +kernel
theorem d_sa_sameAs_57 : decode b_sa_sameAs 57 = .ok (.iconst 0, 1) := by decide +kernel
theorem d_sa_sameAs_58 : decode b_sa_sameAs 58 = .ok (.ireturn, 1) := by decide +kernel
theorem d_sa_sameAs_59 : decode b_sa_sameAs 59 = .ok (.iinc 2 (1), 3) := by decide +kernel
theorem d_sa_sameAs_62 : decode b_sa_sameAs 62 = .ok (.goto (-29), 3) := by decide +kernel
theorem d_sa_sameAs_65 : decode b_sa_sameAs 65 = .ok (.iconst 0, 1) := by decide +kernel
theorem d_sa_sameAs_66 : decode b_sa_sameAs 66 = .ok (.istore_n 2, 1) := by decide +kernel
theorem d_sa_sameAs_67 : decode b_sa_sameAs 67 = .ok (.iload_n 2, 1) := by decide +kernel
theorem d_sa_sameAs_68 : decode b_sa_sameAs 68 = .ok (.bipush (6), 2) := by decide +kernel
theorem d_sa_sameAs_70 : decode b_sa_sameAs 70 = .ok (.if_icmp .ge (26), 3) := by decide +kernel
theorem d_sa_sameAs_73 : decode b_sa_sameAs 73 = .ok (.aload_n 0, 1) := by decide +kernel
theorem d_sa_sameAs_74 : decode b_sa_sameAs 74 = .ok (.getfield 18, 3) := by decide +kernel
theorem d_sa_sameAs_77 : decode b_sa_sameAs 77 = .ok (.iload_n 2, 1) := by decide +kernel
theorem d_sa_sameAs_78 : decode b_sa_sameAs 78 = .ok (.baload, 1) := by decide +kernel
theorem d_sa_sameAs_79 : decode b_sa_sameAs 79 = .ok (.aload_n 1, 1) := by decide +kernel
theorem d_sa_sameAs_80 : decode b_sa_sameAs 80 = .ok (.getfield 18, 3) := by decide +kernel
theorem d_sa_sameAs_83 : decode b_sa_sameAs 83 = .ok (.iload_n 2, 1) := by decide +kernel
theorem d_sa_sameAs_84 : decode b_sa_sameAs 84 = .ok (.baload, 1) := by decide +kernel
theorem d_sa_sameAs_85 : decode b_sa_sameAs 85 = .ok (.if_icmp .eq (5), 3) := by decide +kernel
theorem d_sa_sameAs_88 : decode b_sa_sameAs 88 = .ok (.iconst 0, 1) := by decide +kernel
theorem d_sa_sameAs_89 : decode b_sa_sameAs 89 = .ok (.ireturn, 1) := by decide +kernel
theorem d_sa_sameAs_90 : decode b_sa_sameAs 90 = .ok (.iinc 2 (1), 3) := by decide +kernel
theorem d_sa_sameAs_93 : decode b_sa_sameAs 93 = .ok (.goto (-26), 3) := by decide +kernel
theorem d_sa_sameAs_96 : decode b_sa_sameAs 96 = .ok (.iconst 1, 1) := by decide +kernel
theorem d_sa_sameAs_97 : decode b_sa_sameAs 97 = .ok (.ireturn, 1) := by decide +kernel
def f_sa_sameAs_30  (z0 : Int32) (w : WW) : Option (Int32 × WW) :=
  if z0 = 0 ∨ z0 = 1 then some (z0, w) else none
def f_sa_sameAs_14  (y0 : Nat) (y1 : Nat) (w : WW) : Option (Int32 × WW) :=
  (gI w y0 7 0).bind fun x3 =>
  (gI w y1 7 0).bind fun x4 =>
  if x3 = x4 then
    f_sa_sameAs_30 (1 : Int32) w
  else
    f_sa_sameAs_30 (0 : Int32) w
def f_sa_sameAs_67  : Nat → Nat → Nat → Int32 → WW → Option (Int32 × WW)
  | 0, _, _, _, _ => none
  | n + 1, y0, y1, y2, w =>
    if (6 : Int32) ≤ y2 then
      if (1 : Int32) = 0 ∨ (1 : Int32) = 1 then some ((1 : Int32), w) else none
    else
      (gN w y0 7 2).bind fun x12 =>
      (rI w x12 2 y2).bind fun x13 =>
      (gN w y1 7 2).bind fun x14 =>
      (rI w x14 2 y2).bind fun x15 =>
      if x13 = x15 then
        f_sa_sameAs_67 n y0 y1 (y2 + (1 : Int32)) w
      else
        if (0 : Int32) = 0 ∨ (0 : Int32) = 1 then some ((0 : Int32), w) else none
def f_sa_sameAs_33  : Nat → Nat → Nat → Int32 → WW → Option (Int32 × WW)
  | 0, _, _, _, _ => none
  | n + 1, y0, y1, y2, w =>
    if (14 : Int32) ≤ y2 then
      f_sa_sameAs_67 KK y0 y1 (0 : Int32) w
    else
      (gN w y0 7 1).bind fun x18 =>
      (rN w x18 4 y2).bind fun x19 =>
      (gN w y1 7 1).bind fun x20 =>
      (rN w x20 4 y2).bind fun x21 =>
      bd2 (f_va_sameAs x19 x21 w) fun x23 w22 =>
      if x23 = 0 then
        if (0 : Int32) = 0 ∨ (0 : Int32) = 1 then some ((0 : Int32), w22) else none
      else
        f_sa_sameAs_33 n y0 y1 (y2 + (1 : Int32)) w22
def f_sa_sameAs (a0 : Nat) (a1 : Nat) (w : WW) : Option (Int32 × WW) :=
  if kb w a0 7 = true then
    (gI w a0 7 0).bind fun x1 =>
    if x1 = 0 then
      (gI w a1 7 0).bind fun x7 =>
      if x7 = 0 then
        f_sa_sameAs_33 KK a0 a1 (0 : Int32) w
      else
        f_sa_sameAs_14 a0 a1 w
    else
      f_sa_sameAs_14 a0 a1 w
  else none
theorem kb_sa_sameAs {a0 a1 : Nat}  {w : WW} {r : (Int32 × WW)} (h : f_sa_sameAs a0 a1 w = some r) : kb w a0 7 = true := (its h).1
set_option maxHeartbeats 4000000 in
set_option maxRecDepth 100000 in
theorem j_sa_sameAs_30 {p : Program} {l : Launch} {e : Env} {s : State} {m : MethodId} {args : Array Value} {below : List Frame} {meth : Method} {c : Code} {D : va_G} {cA : Nat → ClassId} {base : Nat} {r : Int32} {w' : WW} (C : cx b_sa_sameAs (some .boolean) 3 y_sa_sameAs.cls "sameAs" p s m args meth c D cA base)   : ∀ (z0 : Int32) (w : WW), f_sa_sameAs_30 z0 w = some (r, w') → ∀ (H : Heap) (locs : List Loc) (ls : Array Slot), wo_S D cls cA base s w H locs → lv_has ls 3 [] → W p l e rm_sa_sameAs s m args below meth c H locs 0 0 (MQ below (wo_Q D cls cA base (some (.int r)) w') args s rm_sa_sameAs.cells rm_sa_sameAs.slots (wo_B base)) (F0 m 30 ls [.int z0]) := by
  obtain ⟨hx, hb, hr, hml, hown, hts, hlk, hnm, hK, hG⟩ := id C
  intro z0 w h H locs ls hW hl
  unfold f_sa_sameAs_30 at h
  replace h := its h
  obtain ⟨c6, h⟩ := h
  cases h
  exact wo_zret hx hb hr hlk hW c6 d_sa_sameAs_30
set_option maxHeartbeats 4000000 in
set_option maxRecDepth 100000 in
theorem j_sa_sameAs_14 {p : Program} {l : Launch} {e : Env} {s : State} {m : MethodId} {args : Array Value} {below : List Frame} {meth : Method} {c : Code} {D : va_G} {cA : Nat → ClassId} {base : Nat} {r : Int32} {w' : WW} (C : cx b_sa_sameAs (some .boolean) 3 y_sa_sameAs.cls "sameAs" p s m args meth c D cA base)   : ∀ (y0 : Nat) (y1 : Nat) (w : WW), f_sa_sameAs_14 y0 y1 w = some (r, w') → ∀ (H : Heap) (locs : List Loc) (ls : Array Slot), wo_S D cls cA base s w H locs → lv_has ls 3 [(0, .ref y0), (1, .ref y1)] → W p l e rm_sa_sameAs s m args below meth c H locs 0 0 (MQ below (wo_Q D cls cA base (some (.int r)) w') args s rm_sa_sameAs.cells rm_sa_sameAs.slots (wo_B base)) (F0 m 14 ls []) := by
  obtain ⟨hx, hb, hr, hml, hown, hts, hlk, hnm, hK, hG⟩ := id C
  intro y0 y1 w h H locs ls hW hl
  unfold f_sa_sameAs_14 at h
  refine lv_aload_n hx hb d_sa_sameAs_14 rfl (lv_at hl 0 rfl) ?_
  replace h := bs h
  obtain ⟨x3, hx3, h⟩ := h
  refine gf_sa_22 hx hb hts hown hK hG hW (gI_s hx3) d_sa_sameAs_15 ?_
  refine lv_aload_n hx hb d_sa_sameAs_18 rfl (lv_at hl 1 rfl) ?_
  replace h := bs h
  obtain ⟨x4, hx4, h⟩ := h
  refine gf_sa_22 hx hb hts hown hK hG hW (gI_s hx4) d_sa_sameAs_19 ?_
  refine lv_icmp_ne (tgt := 29) hx hb d_sa_sameAs_22 (by decide) (fun c5 => ?_) (fun c5 => ?_)
  · rw [if_neg c5] at h
    refine lv_iconst (v := (0 : Int32)) hx hb d_sa_sameAs_29 (by decide) ?_
    exact j_sa_sameAs_30 C (0 : Int32) w h _ _ _ hW (lv_sub hl [] rfl)
  · rw [if_pos c5] at h
    refine lv_iconst (v := (1 : Int32)) hx hb d_sa_sameAs_25 (by decide) ?_
    refine lv_goto (tgt := 30) hx hb d_sa_sameAs_26 (by decide) ?_
    exact j_sa_sameAs_30 C (1 : Int32) w h _ _ _ hW (lv_sub hl [] rfl)
set_option maxHeartbeats 4000000 in
set_option maxRecDepth 100000 in
theorem j_sa_sameAs_67 {p : Program} {l : Launch} {e : Env} {s : State} {m : MethodId} {args : Array Value} {below : List Frame} {meth : Method} {c : Code} {D : va_G} {cA : Nat → ClassId} {base : Nat} {r : Int32} {w' : WW} (C : cx b_sa_sameAs (some .boolean) 3 y_sa_sameAs.cls "sameAs" p s m args meth c D cA base)   : ∀ n : Nat, ∀ (y0 : Nat) (y1 : Nat) (y2 : Int32) (w : WW), f_sa_sameAs_67 n y0 y1 y2 w = some (r, w') → ∀ (H : Heap) (locs : List Loc) (ls : Array Slot), wo_S D cls cA base s w H locs → lv_has ls 3 [(0, .ref y0), (1, .ref y1), (2, .int y2)] → W p l e rm_sa_sameAs s m args below meth c H locs 0 0 (MQ below (wo_Q D cls cA base (some (.int r)) w') args s rm_sa_sameAs.cells rm_sa_sameAs.slots (wo_B base)) (F0 m 67 ls []) := by
  obtain ⟨hx, hb, hr, hml, hown, hts, hlk, hnm, hK, hG⟩ := id C
  intro n
  induction n with
  | zero => intro y0 y1 y2 w h; cases h
  | succ n ih =>
    intro y0 y1 y2 w h H locs ls hW hl
    rw [f_sa_sameAs_67] at h
    refine lv_iload_n hx hb d_sa_sameAs_67 rfl (lv_at hl 2 rfl) ?_
    refine lv_bipush (v := (6 : Int32)) hx hb d_sa_sameAs_68 (by decide) ?_
    refine lv_icmp_ge (tgt := 96) hx hb d_sa_sameAs_70 (by decide) (fun c10 => ?_) (fun c10 => ?_)
    · rw [if_pos c10] at h
      refine lv_iconst (v := (1 : Int32)) hx hb d_sa_sameAs_96 (by decide) ?_
      replace h := its h
      obtain ⟨c11, h⟩ := h
      cases h
      exact wo_zret hx hb hr hlk hW c11 d_sa_sameAs_97
    · rw [if_neg c10] at h
      refine lv_aload_n hx hb d_sa_sameAs_73 rfl (lv_at hl 0 rfl) ?_
      replace h := bs h
      obtain ⟨x12, hx12, h⟩ := h
      refine gf_sa_18 hx hb hts hown hK hG hW (gN_s hx12) d_sa_sameAs_74 ?_
      refine lv_iload_n hx hb d_sa_sameAs_77 rfl (lv_at hl 2 rfl) ?_
      replace h := bs h
      obtain ⟨x13, hx13, h⟩ := h
      refine wo_zald hx hb hK hW (t := 2) rfl hx13 d_sa_sameAs_78 ?_
      refine lv_aload_n hx hb d_sa_sameAs_79 rfl (lv_at hl 1 rfl) ?_
      replace h := bs h
      obtain ⟨x14, hx14, h⟩ := h
      refine gf_sa_18 hx hb hts hown hK hG hW (gN_s hx14) d_sa_sameAs_80 ?_
      refine lv_iload_n hx hb d_sa_sameAs_83 rfl (lv_at hl 2 rfl) ?_
      replace h := bs h
      obtain ⟨x15, hx15, h⟩ := h
      refine wo_zald hx hb hK hW (t := 2) rfl hx15 d_sa_sameAs_84 ?_
      refine lv_icmp_eq (tgt := 90) hx hb d_sa_sameAs_85 (by decide) (fun c16 => ?_) (fun c16 => ?_)
      · rw [if_pos c16] at h
        refine lv_iinc (v := (y2 + (1 : Int32))) (lv' := [(2, .int (y2 + (1 : Int32))), (0, .ref y0), (1, .ref y1)]) hx hb d_sa_sameAs_90 hl (k := 2) rfl rfl (by decide) rfl (fun ls hl => ?_)
        refine lv_goto (tgt := 67) hx hb d_sa_sameAs_93 (by decide) ?_
        exact ih y0 y1 (y2 + (1 : Int32)) w h _ _ _ hW (lv_sub hl [1, 2, 0] rfl)
      · rw [if_neg c16] at h
        refine lv_iconst (v := (0 : Int32)) hx hb d_sa_sameAs_88 (by decide) ?_
        replace h := its h
        obtain ⟨c17, h⟩ := h
        cases h
        exact wo_zret hx hb hr hlk hW c17 d_sa_sameAs_89
set_option maxHeartbeats 4000000 in
set_option maxRecDepth 100000 in
theorem j_sa_sameAs_33 {p : Program} {l : Launch} {e : Env} {s : State} {m : MethodId} {args : Array Value} {below : List Frame} {meth : Method} {c : Code} {D : va_G} {cA : Nat → ClassId} {base : Nat} {r : Int32} {w' : WW} (C : cx b_sa_sameAs (some .boolean) 3 y_sa_sameAs.cls "sameAs" p s m args meth c D cA base)   : ∀ n : Nat, ∀ (y0 : Nat) (y1 : Nat) (y2 : Int32) (w : WW), f_sa_sameAs_33 n y0 y1 y2 w = some (r, w') → ∀ (H : Heap) (locs : List Loc) (ls : Array Slot), wo_S D cls cA base s w H locs → lv_has ls 3 [(0, .ref y0), (1, .ref y1), (2, .int y2)] → W p l e rm_sa_sameAs s m args below meth c H locs 0 0 (MQ below (wo_Q D cls cA base (some (.int r)) w') args s rm_sa_sameAs.cells rm_sa_sameAs.slots (wo_B base)) (F0 m 33 ls []) := by
  obtain ⟨hx, hb, hr, hml, hown, hts, hlk, hnm, hK, hG⟩ := id C
  intro n
  induction n with
  | zero => intro y0 y1 y2 w h; cases h
  | succ n ih =>
    intro y0 y1 y2 w h H locs ls hW hl
    rw [f_sa_sameAs_33] at h
    refine lv_iload_n hx hb d_sa_sameAs_33 rfl (lv_at hl 2 rfl) ?_
    refine lv_bipush (v := (14 : Int32)) hx hb d_sa_sameAs_34 (by decide) ?_
    refine lv_icmp_ge (tgt := 65) hx hb d_sa_sameAs_36 (by decide) (fun c9 => ?_) (fun c9 => ?_)
    · rw [if_pos c9] at h
      refine lv_iconst (v := (0 : Int32)) hx hb d_sa_sameAs_65 (by decide) ?_
      refine lv_istore_n (lv' := [(2, .int (0 : Int32)), (0, .ref y0), (1, .ref y1)]) hx hb d_sa_sameAs_66 rfl hl (by decide) rfl (fun ls hl => ?_)
      exact j_sa_sameAs_67 C KK y0 y1 (0 : Int32) w h _ _ _ hW (lv_sub hl [1, 2, 0] rfl)
    · rw [if_neg c9] at h
      refine lv_aload_n hx hb d_sa_sameAs_39 rfl (lv_at hl 0 rfl) ?_
      replace h := bs h
      obtain ⟨x18, hx18, h⟩ := h
      refine gf_sa_11 hx hb hts hown hK hG hW (gN_s hx18) d_sa_sameAs_40 ?_
      refine lv_iload_n hx hb d_sa_sameAs_43 rfl (lv_at hl 2 rfl) ?_
      replace h := bs h
      obtain ⟨x19, hx19, h⟩ := h
      refine wo_aald hx hb hK hW (t := 4) rfl (rN_s hx19) d_sa_sameAs_44 ?_
      refine lv_aload_n hx hb d_sa_sameAs_45 rfl (lv_at hl 1 rfl) ?_
      replace h := bs h
      obtain ⟨x20, hx20, h⟩ := h
      refine gf_sa_11 hx hb hts hown hK hG hW (gN_s hx20) d_sa_sameAs_46 ?_
      refine lv_iload_n hx hb d_sa_sameAs_49 rfl (lv_at hl 2 rfl) ?_
      replace h := bs h
      obtain ⟨x21, hx21, h⟩ := h
      refine wo_aald hx hb hK hW (t := 4) rfl (rN_s hx21) d_sa_sameAs_50 ?_
      replace h := bs2 h
      obtain ⟨x23, w22, hw22, h⟩ := h
      refine cv_sa_37 (As := [.ref x21]) (rest := []) hx hb hml hown hts hK hG hW (c_va_sameAs l D cA base hw22) (kb_va_sameAs hw22) ⟨Nat.le_of_ble_eq_true rfl, Nat.le_of_ble_eq_true rfl⟩ ⟨Nat.le_of_ble_eq_true rfl, Nat.le_of_ble_eq_true rfl⟩ rfl hl.1 rfl (Nat.le_of_ble_eq_true rfl) d_sa_sameAs_51 (fun H locs hW => ?_)
      refine lv_if_ne (tgt := 59) hx hb d_sa_sameAs_54 (by decide) (fun c24 => ?_) (fun c24 => ?_)
      · rw [if_neg c24] at h
        refine lv_iinc (v := (y2 + (1 : Int32))) (lv' := [(2, .int (y2 + (1 : Int32))), (0, .ref y0), (1, .ref y1)]) hx hb d_sa_sameAs_59 hl (k := 2) rfl rfl (by decide) rfl (fun ls hl => ?_)
        refine lv_goto (tgt := 33) hx hb d_sa_sameAs_62 (by decide) ?_
        exact ih y0 y1 (y2 + (1 : Int32)) w22 h _ _ _ hW (lv_sub hl [1, 2, 0] rfl)
      · rw [if_pos c24] at h
        refine lv_iconst (v := (0 : Int32)) hx hb d_sa_sameAs_57 (by decide) ?_
        replace h := its h
        obtain ⟨c25, h⟩ := h
        cases h
        exact wo_zret hx hb hr hlk hW c25 d_sa_sameAs_58
set_option maxHeartbeats 4000000 in
set_option maxRecDepth 100000 in
theorem c_sa_sameAs (l : Launch) (D : va_G) (cA : Nat → ClassId) (base : Nat) {a0 : Nat} {a1 : Nat} {w w' : WW} {r : Int32} (h : f_sa_sameAs a0 a1 w = some (r, w')) : mt l D cls (wo_tys cA) cA base y_sa_sameAs (Cond.code y_sa_sameAs b_sa_sameAs 3 (some .boolean) :: gt) rm_sa_sameAs [.ref a0, .ref a1] w (some (.int r)) w' rm_sa_sameAs.cells rm_sa_sameAs.slots := by
  refine mt_start (by decide) (Nat.le_of_ble_eq_true rfl) ?_
  intro p e s m below meth c ls hx hb hr hml hown hts hlk hnm hK hG hW hl
  have C : cx b_sa_sameAs (some .boolean) 3 y_sa_sameAs.cls "sameAs" p s m [.ref a0, .ref a1].toArray meth c D cA base := ⟨hx, hb, hr, hml, hown, hts, hlk, hnm, hK, hG⟩
  have hl : lv_has ls 3 [(0, .ref a0), (1, .ref a1)] := hl
  unfold f_sa_sameAs at h
  replace h := its h
  obtain ⟨-, h⟩ := h
  refine lv_aload_n hx hb d_sa_sameAs_0 rfl (lv_at hl 0 rfl) ?_
  replace h := bs h
  obtain ⟨x1, hx1, h⟩ := h
  refine gf_sa_22 hx hb hts hown hK hG hW (gI_s hx1) d_sa_sameAs_1 ?_
  refine lv_if_ne (tgt := 14) hx hb d_sa_sameAs_4 (by decide) (fun c2 => ?_) (fun c2 => ?_)
  · rw [if_neg c2] at h
    exact j_sa_sameAs_14 C a0 a1 w h _ _ _ hW (lv_sub hl [0, 1] rfl)
  · rw [if_pos c2] at h
    refine lv_aload_n hx hb d_sa_sameAs_7 rfl (lv_at hl 1 rfl) ?_
    replace h := bs h
    obtain ⟨x7, hx7, h⟩ := h
    refine gf_sa_22 hx hb hts hown hK hG hW (gI_s hx7) d_sa_sameAs_8 ?_
    refine lv_if_eq (tgt := 31) hx hb d_sa_sameAs_11 (by decide) (fun c8 => ?_) (fun c8 => ?_)
    · rw [if_pos c8] at h
      refine lv_iconst (v := (0 : Int32)) hx hb d_sa_sameAs_31 (by decide) ?_
      refine lv_istore_n (lv' := [(2, .int (0 : Int32)), (0, .ref a0), (1, .ref a1)]) hx hb d_sa_sameAs_32 rfl hl (by decide) rfl (fun ls hl => ?_)
      exact j_sa_sameAs_33 C KK a0 a1 (0 : Int32) w h _ _ _ hW (lv_sub hl [1, 2, 0] rfl)
    · rw [if_neg c8] at h
      exact j_sa_sameAs_14 C a0 a1 w h _ _ _ hW (lv_sub hl [0, 1] rfl)
theorem cv_sa_54 {p : Program} {l : Launch} {e : Env} {R : Room} {s : State} {m : MethodId} {args : Array Value} {below : List Frame} {meth : Method} {c : Code} {H : Heap} {locs : List Loc} {cells slots : Nat} {Q : State → Prop} {D : va_G} {cA : Nat → ClassId} {base : Nat} {w w' : WW} {cc : ByteArray} {pc nL : Nat} {ls : Array Slot} {rest st0 As : List Value} {ov : Option Value} {b : Nat} (hx : p.tables.exec = Jvm.exec) (hb : c.code = cc) (hml : c.maxLocals = nL) (hown : s.vm.findClass Rc_sa = some m.cls) (hts : ∀ w ∈ gt, w.before args s = true) (hK : va_K D cls (wo_tys cA) s) (hG : wo_G base s) (hW : wo_S D cls cA base s w H locs) (hM : mt l D cls (wo_tys cA) cA base y_va_setAll (Cond.code y_va_setAll b_va_setAll 1 (none) :: gt) rm_va_setAll (.ref b :: As) w ov w' rm_va_setAll.cells rm_va_setAll.slots) (hkb : kb w b 8 = true) (hR : rm_va_setAll.frames + 1 ≤ R.frames ∧ 8 + (1 + 11) + rm_va_setAll.locals ≤ R.locals) (hf : cells + rm_va_setAll.cells ≤ R.cells ∧ slots + rm_va_setAll.slots ≤ R.slots) (hn : As.length = 0) (hsz : ls.size = nL) (hst : st0 = As.reverse ++ .ref b :: rest) (hcat : (rest.map fun v => v.category).sum ≤ 8) (hdg : decode cc pc = .ok (.invokevirtual 54, 3)) (kk : ∀ (H1 : Heap) (locs1 : List Loc), wo_S D cls cA base s w' H1 locs1 → W p l e R s m args below meth c H1 locs1 (cells + rm_va_setAll.cells) (slots + rm_va_setAll.slots) Q (F0 m (pc + 3) ls (ov.toList ++ rest))) : W p l e R s m args below meth c H locs cells slots Q (F0 m pc ls st0) :=
  wo_callV (C := Rc_va) hx hb hml hown hts hK hG hW hM hkb rfl (gt_of (i := 1115) (by decide +kernel) (by decide +kernel)) (gt_of (i := 1005) (by decide +kernel) (by decide +kernel)) (gt_of (i := 1006) (by decide +kernel) (by decide +kernel)) (gt_of (i := 9) (by decide +kernel) (by decide +kernel)) (gt_of (i := 1007) (by decide +kernel) (by decide +kernel)) (by decide +kernel) hR hf hn hsz hst hcat hdg kk
abbrev b_sa_setAllInts : ByteArray := prog_7_method_8_code
def y_sa_setAllInts : MethodName := ⟨"AlarmForge$State", "setAllInts", "()V"⟩
def rm_sa_setAllInts : Room := { frames := 1, cells := 0, slots := 0, locals := 20 }
theorem d_sa_setAllInts_0 : decode b_sa_setAllInts 0 = .ok (.iconst 0, 1) := by decide +kernel
theorem d_sa_setAllInts_1 : decode b_sa_setAllInts 1 = .ok (.istore_n 1, 1) := by decide +kernel
theorem d_sa_setAllInts_2 : decode b_sa_setAllInts 2 = .ok (.iload_n 1, 1) := by decide +kernel
theorem d_sa_setAllInts_3 : decode b_sa_setAllInts 3 = .ok (.bipush (14), 2) := by decide +kernel
theorem d_sa_setAllInts_5 : decode b_sa_setAllInts 5 = .ok (.if_icmp .ge (18), 3) := by decide +kernel
theorem d_sa_setAllInts_8 : decode b_sa_setAllInts 8 = .ok (.aload_n 0, 1) := by decide +kernel
theorem d_sa_setAllInts_9 : decode b_sa_setAllInts 9 = .ok (.getfield 11, 3) := by decide +kernel
theorem d_sa_setAllInts_12 : decode b_sa_setAllInts 12 = .ok (.iload_n 1, 1) := by decide +kernel
theorem d_sa_setAllInts_13 : decode b_sa_setAllInts 13 = .ok (.aaload, 1) := by decide +kernel
theorem d_sa_setAllInts_14 : decode b_sa_setAllInts 14 = .ok (.invokevirtual 54, 3) := by decide +kernel
theorem d_sa_setAllInts_17 : decode b_sa_setAllInts 17 = .ok (.iinc 1 (1), 3) := by decide +kernel
theorem d_sa_setAllInts_20 : decode b_sa_setAllInts 20 = .ok (.goto (-18), 3) := by decide +kernel
theorem d_sa_setAllInts_23 : decode b_sa_setAllInts 23 = .ok (.return_, 1) := by decide +kernel
def f_sa_setAllInts_2  : Nat → Nat → Int32 → WW → Option WW
  | 0, _, _, _ => none
  | n + 1, y0, y1, w =>
    if (14 : Int32) ≤ y1 then
      some w
    else
      (gN w y0 7 1).bind fun x2 =>
      (rN w x2 4 y1).bind fun x3 =>
      (f_va_setAll x3 w).bind fun w4 =>
      f_sa_setAllInts_2 n y0 (y1 + (1 : Int32)) w4
def f_sa_setAllInts (a0 : Nat) (w : WW) : Option WW :=
  if kb w a0 7 = true then
    f_sa_setAllInts_2 KK a0 (0 : Int32) w
  else none
theorem kb_sa_setAllInts {a0 : Nat}  {w : WW} {r : WW} (h : f_sa_setAllInts a0 w = some r) : kb w a0 7 = true := (its h).1
set_option maxHeartbeats 4000000 in
set_option maxRecDepth 100000 in
theorem j_sa_setAllInts_2 {p : Program} {l : Launch} {e : Env} {s : State} {m : MethodId} {args : Array Value} {below : List Frame} {meth : Method} {c : Code} {D : va_G} {cA : Nat → ClassId} {base : Nat} {w' : WW} (C : cx b_sa_setAllInts (none) 2 y_sa_setAllInts.cls "setAllInts" p s m args meth c D cA base)   : ∀ n : Nat, ∀ (y0 : Nat) (y1 : Int32) (w : WW), f_sa_setAllInts_2 n y0 y1 w = some w' → ∀ (H : Heap) (locs : List Loc) (ls : Array Slot), wo_S D cls cA base s w H locs → lv_has ls 2 [(0, .ref y0), (1, .int y1)] → W p l e rm_sa_setAllInts s m args below meth c H locs 0 0 (MQ below (wo_Q D cls cA base none w') args s rm_sa_setAllInts.cells rm_sa_setAllInts.slots (wo_B base)) (F0 m 2 ls []) := by
  obtain ⟨hx, hb, hr, hml, hown, hts, hlk, hnm, hK, hG⟩ := id C
  intro n
  induction n with
  | zero => intro y0 y1 w h; cases h
  | succ n ih =>
    intro y0 y1 w h H locs ls hW hl
    rw [f_sa_setAllInts_2] at h
    refine lv_iload_n hx hb d_sa_setAllInts_2 rfl (lv_at hl 1 rfl) ?_
    refine lv_bipush (v := (14 : Int32)) hx hb d_sa_setAllInts_3 (by decide) ?_
    refine lv_icmp_ge (tgt := 23) hx hb d_sa_setAllInts_5 (by decide) (fun c1 => ?_) (fun c1 => ?_)
    · rw [if_pos c1] at h
      cases h
      exact wo_vret hx hb hr hlk hW d_sa_setAllInts_23
    · rw [if_neg c1] at h
      refine lv_aload_n hx hb d_sa_setAllInts_8 rfl (lv_at hl 0 rfl) ?_
      replace h := bs h
      obtain ⟨x2, hx2, h⟩ := h
      refine gf_sa_11 hx hb hts hown hK hG hW (gN_s hx2) d_sa_setAllInts_9 ?_
      refine lv_iload_n hx hb d_sa_setAllInts_12 rfl (lv_at hl 1 rfl) ?_
      replace h := bs h
      obtain ⟨x3, hx3, h⟩ := h
      refine wo_aald hx hb hK hW (t := 4) rfl (rN_s hx3) d_sa_setAllInts_13 ?_
      replace h := bs h
      obtain ⟨w4, hw4, h⟩ := h
      refine cv_sa_54 (As := []) (rest := []) hx hb hml hown hts hK hG hW (c_va_setAll l D cA base hw4) (kb_va_setAll hw4) ⟨Nat.le_of_ble_eq_true rfl, Nat.le_of_ble_eq_true rfl⟩ ⟨Nat.le_of_ble_eq_true rfl, Nat.le_of_ble_eq_true rfl⟩ rfl hl.1 rfl (Nat.le_of_ble_eq_true rfl) d_sa_setAllInts_14 (fun H locs hW => ?_)
      refine lv_iinc (v := (y1 + (1 : Int32))) (lv' := [(1, .int (y1 + (1 : Int32))), (0, .ref y0)]) hx hb d_sa_setAllInts_17 hl (k := 1) rfl rfl (by decide) rfl (fun ls hl => ?_)
      refine lv_goto (tgt := 2) hx hb d_sa_setAllInts_20 (by decide) ?_
      exact ih y0 (y1 + (1 : Int32)) w4 h _ _ _ hW (lv_sub hl [1, 0] rfl)
set_option maxHeartbeats 4000000 in
set_option maxRecDepth 100000 in
theorem c_sa_setAllInts (l : Launch) (D : va_G) (cA : Nat → ClassId) (base : Nat) {a0 : Nat} {w w' : WW} (h : f_sa_setAllInts a0 w = some w') : mt l D cls (wo_tys cA) cA base y_sa_setAllInts (Cond.code y_sa_setAllInts b_sa_setAllInts 2 (none) :: gt) rm_sa_setAllInts [.ref a0] w none w' rm_sa_setAllInts.cells rm_sa_setAllInts.slots := by
  refine mt_start (by decide) (Nat.le_of_ble_eq_true rfl) ?_
  intro p e s m below meth c ls hx hb hr hml hown hts hlk hnm hK hG hW hl
  have C : cx b_sa_setAllInts (none) 2 y_sa_setAllInts.cls "setAllInts" p s m [.ref a0].toArray meth c D cA base := ⟨hx, hb, hr, hml, hown, hts, hlk, hnm, hK, hG⟩
  have hl : lv_has ls 2 [(0, .ref a0)] := hl
  unfold f_sa_setAllInts at h
  replace h := its h
  obtain ⟨-, h⟩ := h
  refine lv_iconst (v := (0 : Int32)) hx hb d_sa_setAllInts_0 (by decide) ?_
  refine lv_istore_n (lv' := [(1, .int (0 : Int32)), (0, .ref a0)]) hx hb d_sa_setAllInts_1 rfl hl (by decide) rfl (fun ls hl => ?_)
  exact j_sa_setAllInts_2 C KK a0 (0 : Int32) w h _ _ _ hW (lv_sub hl [1, 0] rfl)
abbrev b_an_warningOf : ByteArray := prog_2_method_4_code
def y_an_warningOf : MethodName := ⟨"AlarmForge$Analyser", "warningOf", "(I)I"⟩
def rm_an_warningOf : Room := { frames := 0, cells := 0, slots := 0, locals := 0 }
theorem d_an_warningOf_0 : decode b_an_warningOf 0 = .ok (.iconst 0, 1) := by decide +kernel
theorem d_an_warningOf_1 : decode b_an_warningOf 1 = .ok (.istore_n 2, 1) := by decide +kernel
theorem d_an_warningOf_2 : decode b_an_warningOf 2 = .ok (.iconst 0, 1) := by decide +kernel
theorem d_an_warningOf_3 : decode b_an_warningOf 3 = .ok (.istore_n 3, 1) := by decide +kernel
theorem d_an_warningOf_4 : decode b_an_warningOf 4 = .ok (.iload_n 3, 1) := by decide +kernel
theorem d_an_warningOf_5 : decode b_an_warningOf 5 = .ok (.sipush (200), 3) := by decide +kernel
theorem d_an_warningOf_8 : decode b_an_warningOf 8 = .ok (.if_icmp .ge (55), 3) := by decide +kernel
theorem d_an_warningOf_11 : decode b_an_warningOf 11 = .ok (.iconst 1, 1) := by decide +kernel
theorem d_an_warningOf_12 : decode b_an_warningOf 12 = .ok (.istore 4, 2) := by decide +kernel
theorem d_an_warningOf_14 : decode b_an_warningOf 14 = .ok (.iload 4, 2) := by decide +kernel
theorem d_an_warningOf_16 : decode b_an_warningOf 16 = .ok (.iconst 5, 1) := by decide +kernel
theorem d_an_warningOf_17 : decode b_an_warningOf 17 = .ok (.if_icmp .gt (40), 3) := by decide +kernel
theorem d_an_warningOf_20 : decode b_an_warningOf 20 = .ok (.aload_n 0, 1) := by decide +kernel
theorem d_an_warningOf_21 : decode b_an_warningOf 21 = .ok (.getfield 29, 3) := by decide +kernel
theorem d_an_warningOf_24 : decode b_an_warningOf 24 = .ok (.iload_n 3, 1) := by decide +kernel
theorem d_an_warningOf_25 : decode b_an_warningOf 25 = .ok (.iaload, 1) := by decide +kernel
theorem d_an_warningOf_26 : decode b_an_warningOf 26 = .ok (.iload 4, 2) := by decide +kernel
theorem d_an_warningOf_28 : decode b_an_warningOf 28 = .ok (.ishr, 1) := by decide +kernel
theorem d_an_warningOf_29 : decode b_an_warningOf 29 = .ok (.iconst 1, 1) := by decide +kernel
theorem d_an_warningOf_30 : decode b_an_warningOf 30 = .ok (.iand, 1) := by decide +kernel
theorem d_an_warningOf_31 : decode b_an_warningOf 31 = .ok (.ifCond .eq (20), 3) := by decide +kernel
theorem d_an_warningOf_34 : decode b_an_warningOf 34 = .ok (.iload_n 2, 1) := by decide +kernel
theorem d_an_warningOf_35 : decode b_an_warningOf 35 = .ok (.iload_n 1, 1) := by decide +kernel
theorem d_an_warningOf_36 : decode b_an_warningOf 36 = .ok (.if_icmp .ne (12), 3) := by decide +kernel
theorem d_an_warningOf_39 : decode b_an_warningOf 39 = .ok (.sipush (1024), 3) := by decide +kernel
theorem d_an_warningOf_42 : decode b_an_warningOf 42 = .ok (.iload 4, 2) := by decide +kernel
theorem d_an_warningOf_44 : decode b_an_warningOf 44 = .ok (.imul, 1) := by decide +kernel
theorem d_an_warningOf_45 : decode b_an_warningOf 45 = .ok (.iload_n 3, 1) := by decide +kernel
theorem d_an_warningOf_46 : decode b_an_warningOf 46 = .ok (.iadd, 1) := by decide +kernel
theorem d_an_warningOf_47 : decode b_an_warningOf 47 = .ok (.ireturn, 1) := by decide +kernel
theorem d_an_warningOf_48 : decode b_an_warningOf 48 = .ok (.iinc 2 (1), 3) := by decide +kernel
theorem d_an_warningOf_51 : decode b_an_warningOf 51 = .ok (.iinc 4 (1), 3) := by decide +kernel
theorem d_an_warningOf_54 : decode b_an_warningOf 54 = .ok (.goto (-40), 3) := by decide +kernel
theorem d_an_warningOf_57 : decode b_an_warningOf 57 = .ok (.iinc 3 (1), 3) := by decide +kernel
theorem d_an_warningOf_60 : decode b_an_warningOf 60 = .ok (.goto (-56), 3) := by decide +kernel
theorem d_an_warningOf_63 : decode b_an_warningOf 63 = .ok (.iconst 0, 1) := by decide +kernel
theorem d_an_warningOf_64 : decode b_an_warningOf 64 = .ok (.ireturn, 1) := by decide +kernel
def f_an_warningOf_51 (k_14 : Nat → Int32 → Int32 → Int32 → Int32 → WW → Option (Int32 × WW)) (y0 : Nat) (y1 : Int32) (y2 : Int32) (y3 : Int32) (y4 : Int32) (w : WW) : Option (Int32 × WW) :=
  k_14 y0 y1 y2 y3 (y4 + (1 : Int32)) w
def f_an_warningOf_14 (k_4 : Nat → Int32 → Int32 → Int32 → WW → Option (Int32 × WW)) : Nat → Nat → Int32 → Int32 → Int32 → Int32 → WW → Option (Int32 × WW)
  | 0, _, _, _, _, _, _ => none
  | n + 1, y0, y1, y2, y3, y4, w =>
    if (5 : Int32) < y4 then
      k_4 y0 y1 y2 (y3 + (1 : Int32)) w
    else
      (gN w y0 6 3).bind fun x3 =>
      (rI w x3 0 y3).bind fun x4 =>
      if ((x4 >>> (y4 &&& 31)) &&& (1 : Int32)) = 0 then
        f_an_warningOf_51 (f_an_warningOf_14 k_4 n) y0 y1 y2 y3 y4 w
      else
        if y2 = y1 then
          some ((((1024 : Int32) * y4) + y3), w)
        else
          f_an_warningOf_51 (f_an_warningOf_14 k_4 n) y0 y1 (y2 + (1 : Int32)) y3 y4 w
def f_an_warningOf_4  : Nat → Nat → Int32 → Int32 → Int32 → WW → Option (Int32 × WW)
  | 0, _, _, _, _, _ => none
  | n + 1, y0, y1, y2, y3, w =>
    if (200 : Int32) ≤ y3 then
      some ((0 : Int32), w)
    else
      f_an_warningOf_14 (f_an_warningOf_4 n) KK y0 y1 y2 y3 (1 : Int32) w
def f_an_warningOf (a0 : Nat) (a1 : Int32) (w : WW) : Option (Int32 × WW) :=
  if kb w a0 6 = true then
    f_an_warningOf_4 KK a0 a1 (0 : Int32) (0 : Int32) w
  else none
theorem kb_an_warningOf {a0 : Nat} {a1 : Int32} {w : WW} {r : (Int32 × WW)} (h : f_an_warningOf a0 a1 w = some r) : kb w a0 6 = true := (its h).1
set_option maxHeartbeats 4000000 in
set_option maxRecDepth 100000 in
theorem j_an_warningOf_51 {p : Program} {l : Launch} {e : Env} {s : State} {m : MethodId} {args : Array Value} {below : List Frame} {meth : Method} {c : Code} {D : va_G} {cA : Nat → ClassId} {base : Nat} {r : Int32} {w' : WW} (C : cx b_an_warningOf (some .int) 5 y_an_warningOf.cls "warningOf" p s m args meth c D cA base) {k_14 : Nat → Int32 → Int32 → Int32 → Int32 → WW → Option (Int32 × WW)} (hk_14 : ∀ (y0 : Nat) (y1 : Int32) (y2 : Int32) (y3 : Int32) (y4 : Int32) (w : WW), k_14 y0 y1 y2 y3 y4 w = some (r, w') → ∀ (H : Heap) (locs : List Loc) (ls : Array Slot), wo_S D cls cA base s w H locs → lv_has ls 5 [(0, .ref y0), (1, .int y1), (2, .int y2), (3, .int y3), (4, .int y4)] → W p l e rm_an_warningOf s m args below meth c H locs 0 0 (MQ below (wo_Q D cls cA base (some (.int r)) w') args s rm_an_warningOf.cells rm_an_warningOf.slots (wo_B base)) (F0 m 14 ls [])) : ∀ (y0 : Nat) (y1 : Int32) (y2 : Int32) (y3 : Int32) (y4 : Int32) (w : WW), f_an_warningOf_51 k_14 y0 y1 y2 y3 y4 w = some (r, w') → ∀ (H : Heap) (locs : List Loc) (ls : Array Slot), wo_S D cls cA base s w H locs → lv_has ls 5 [(0, .ref y0), (1, .int y1), (2, .int y2), (3, .int y3), (4, .int y4)] → W p l e rm_an_warningOf s m args below meth c H locs 0 0 (MQ below (wo_Q D cls cA base (some (.int r)) w') args s rm_an_warningOf.cells rm_an_warningOf.slots (wo_B base)) (F0 m 51 ls []) := by
  obtain ⟨hx, hb, hr, hml, hown, hts, hlk, hnm, hK, hG⟩ := id C
  intro y0 y1 y2 y3 y4 w h H locs ls hW hl
  unfold f_an_warningOf_51 at h
  refine lv_iinc (v := (y4 + (1 : Int32))) (lv' := [(4, .int (y4 + (1 : Int32))), (0, .ref y0), (1, .int y1), (2, .int y2), (3, .int y3)]) hx hb d_an_warningOf_51 hl (k := 4) rfl rfl (by decide) rfl (fun ls hl => ?_)
  refine lv_goto (tgt := 14) hx hb d_an_warningOf_54 (by decide) ?_
  exact hk_14 y0 y1 y2 y3 (y4 + (1 : Int32)) w h _ _ _ hW (lv_sub hl [1, 2, 3, 4, 0] rfl)
set_option maxHeartbeats 4000000 in
set_option maxRecDepth 100000 in
theorem j_an_warningOf_14 {p : Program} {l : Launch} {e : Env} {s : State} {m : MethodId} {args : Array Value} {below : List Frame} {meth : Method} {c : Code} {D : va_G} {cA : Nat → ClassId} {base : Nat} {r : Int32} {w' : WW} (C : cx b_an_warningOf (some .int) 5 y_an_warningOf.cls "warningOf" p s m args meth c D cA base) {k_4 : Nat → Int32 → Int32 → Int32 → WW → Option (Int32 × WW)} (hk_4 : ∀ (y0 : Nat) (y1 : Int32) (y2 : Int32) (y3 : Int32) (w : WW), k_4 y0 y1 y2 y3 w = some (r, w') → ∀ (H : Heap) (locs : List Loc) (ls : Array Slot), wo_S D cls cA base s w H locs → lv_has ls 5 [(0, .ref y0), (1, .int y1), (2, .int y2), (3, .int y3)] → W p l e rm_an_warningOf s m args below meth c H locs 0 0 (MQ below (wo_Q D cls cA base (some (.int r)) w') args s rm_an_warningOf.cells rm_an_warningOf.slots (wo_B base)) (F0 m 4 ls [])) : ∀ n : Nat, ∀ (y0 : Nat) (y1 : Int32) (y2 : Int32) (y3 : Int32) (y4 : Int32) (w : WW), f_an_warningOf_14 k_4 n y0 y1 y2 y3 y4 w = some (r, w') → ∀ (H : Heap) (locs : List Loc) (ls : Array Slot), wo_S D cls cA base s w H locs → lv_has ls 5 [(0, .ref y0), (1, .int y1), (2, .int y2), (3, .int y3), (4, .int y4)] → W p l e rm_an_warningOf s m args below meth c H locs 0 0 (MQ below (wo_Q D cls cA base (some (.int r)) w') args s rm_an_warningOf.cells rm_an_warningOf.slots (wo_B base)) (F0 m 14 ls []) := by
  obtain ⟨hx, hb, hr, hml, hown, hts, hlk, hnm, hK, hG⟩ := id C
  intro n
  induction n with
  | zero => intro y0 y1 y2 y3 y4 w h; cases h
  | succ n ih =>
    intro y0 y1 y2 y3 y4 w h H locs ls hW hl
    rw [f_an_warningOf_14] at h
    refine lv_iload hx hb d_an_warningOf_14 (lv_at hl 4 rfl) ?_
    refine lv_iconst (v := (5 : Int32)) hx hb d_an_warningOf_16 (by decide) ?_
    refine lv_icmp_gt (tgt := 57) hx hb d_an_warningOf_17 (by decide) (fun c2 => ?_) (fun c2 => ?_)
    · rw [if_pos c2] at h
      refine lv_iinc (v := (y3 + (1 : Int32))) (lv' := [(3, .int (y3 + (1 : Int32))), (0, .ref y0), (1, .int y1), (2, .int y2), (4, .int y4)]) hx hb d_an_warningOf_57 hl (k := 3) rfl rfl (by decide) rfl (fun ls hl => ?_)
      refine lv_goto (tgt := 4) hx hb d_an_warningOf_60 (by decide) ?_
      exact hk_4 y0 y1 y2 (y3 + (1 : Int32)) w h _ _ _ hW (lv_sub hl [1, 2, 3, 0] rfl)
    · rw [if_neg c2] at h
      refine lv_aload_n hx hb d_an_warningOf_20 rfl (lv_at hl 0 rfl) ?_
      replace h := bs h
      obtain ⟨x3, hx3, h⟩ := h
      refine gf_an_29 hx hb hts hown hK hG hW (gN_s hx3) d_an_warningOf_21 ?_
      refine lv_iload_n hx hb d_an_warningOf_24 rfl (lv_at hl 3 rfl) ?_
      replace h := bs h
      obtain ⟨x4, hx4, h⟩ := h
      refine wo_iald hx hb hK hW (t := 0) rfl hx4 d_an_warningOf_25 ?_
      refine lv_iload hx hb d_an_warningOf_26 (lv_at hl 4 rfl) ?_
      refine lv_ishr hx hb d_an_warningOf_28 ?_
      refine lv_iconst (v := (1 : Int32)) hx hb d_an_warningOf_29 (by decide) ?_
      refine lv_iand hx hb d_an_warningOf_30 ?_
      refine lv_if_eq (tgt := 51) hx hb d_an_warningOf_31 (by decide) (fun c5 => ?_) (fun c5 => ?_)
      · rw [if_pos c5] at h
        exact j_an_warningOf_51 C ih y0 y1 y2 y3 y4 w h _ _ _ hW (lv_sub hl [0, 1, 2, 3, 4] rfl)
      · rw [if_neg c5] at h
        refine lv_iload_n hx hb d_an_warningOf_34 rfl (lv_at hl 2 rfl) ?_
        refine lv_iload_n hx hb d_an_warningOf_35 rfl (lv_at hl 1 rfl) ?_
        refine lv_icmp_ne (tgt := 48) hx hb d_an_warningOf_36 (by decide) (fun c6 => ?_) (fun c6 => ?_)
        · rw [if_neg c6] at h
          refine lv_iinc (v := (y2 + (1 : Int32))) (lv' := [(2, .int (y2 + (1 : Int32))), (0, .ref y0), (1, .int y1), (3, .int y3), (4, .int y4)]) hx hb d_an_warningOf_48 hl (k := 2) rfl rfl (by decide) rfl (fun ls hl => ?_)
          exact j_an_warningOf_51 C ih y0 y1 (y2 + (1 : Int32)) y3 y4 w h _ _ _ hW (lv_sub hl [1, 2, 0, 3, 4] rfl)
        · rw [if_pos c6] at h
          refine lv_sipush (v := (1024 : Int32)) hx hb d_an_warningOf_39 (by decide) ?_
          refine lv_iload hx hb d_an_warningOf_42 (lv_at hl 4 rfl) ?_
          refine lv_imul hx hb d_an_warningOf_44 ?_
          refine lv_iload_n hx hb d_an_warningOf_45 rfl (lv_at hl 3 rfl) ?_
          refine lv_iadd hx hb d_an_warningOf_46 ?_
          cases h
          exact wo_iret hx hb hr hlk hW d_an_warningOf_47
set_option maxHeartbeats 4000000 in
set_option maxRecDepth 100000 in
theorem j_an_warningOf_4 {p : Program} {l : Launch} {e : Env} {s : State} {m : MethodId} {args : Array Value} {below : List Frame} {meth : Method} {c : Code} {D : va_G} {cA : Nat → ClassId} {base : Nat} {r : Int32} {w' : WW} (C : cx b_an_warningOf (some .int) 5 y_an_warningOf.cls "warningOf" p s m args meth c D cA base)   : ∀ n : Nat, ∀ (y0 : Nat) (y1 : Int32) (y2 : Int32) (y3 : Int32) (w : WW), f_an_warningOf_4 n y0 y1 y2 y3 w = some (r, w') → ∀ (H : Heap) (locs : List Loc) (ls : Array Slot), wo_S D cls cA base s w H locs → lv_has ls 5 [(0, .ref y0), (1, .int y1), (2, .int y2), (3, .int y3)] → W p l e rm_an_warningOf s m args below meth c H locs 0 0 (MQ below (wo_Q D cls cA base (some (.int r)) w') args s rm_an_warningOf.cells rm_an_warningOf.slots (wo_B base)) (F0 m 4 ls []) := by
  obtain ⟨hx, hb, hr, hml, hown, hts, hlk, hnm, hK, hG⟩ := id C
  intro n
  induction n with
  | zero => intro y0 y1 y2 y3 w h; cases h
  | succ n ih =>
    intro y0 y1 y2 y3 w h H locs ls hW hl
    rw [f_an_warningOf_4] at h
    refine lv_iload_n hx hb d_an_warningOf_4 rfl (lv_at hl 3 rfl) ?_
    refine lv_sipush (v := (200 : Int32)) hx hb d_an_warningOf_5 (by decide) ?_
    refine lv_icmp_ge (tgt := 63) hx hb d_an_warningOf_8 (by decide) (fun c1 => ?_) (fun c1 => ?_)
    · rw [if_pos c1] at h
      refine lv_iconst (v := (0 : Int32)) hx hb d_an_warningOf_63 (by decide) ?_
      cases h
      exact wo_iret hx hb hr hlk hW d_an_warningOf_64
    · rw [if_neg c1] at h
      refine lv_iconst (v := (1 : Int32)) hx hb d_an_warningOf_11 (by decide) ?_
      refine lv_istore (lv' := [(4, .int (1 : Int32)), (0, .ref y0), (1, .int y1), (2, .int y2), (3, .int y3)]) hx hb d_an_warningOf_12 hl (by decide) rfl (fun ls hl => ?_)
      exact j_an_warningOf_14 C ih KK y0 y1 y2 y3 (1 : Int32) w h _ _ _ hW (lv_sub hl [1, 2, 3, 4, 0] rfl)
set_option maxHeartbeats 4000000 in
set_option maxRecDepth 100000 in
theorem c_an_warningOf (l : Launch) (D : va_G) (cA : Nat → ClassId) (base : Nat) {a0 : Nat} {a1 : Int32} {w w' : WW} {r : Int32} (h : f_an_warningOf a0 a1 w = some (r, w')) : mt l D cls (wo_tys cA) cA base y_an_warningOf (Cond.code y_an_warningOf b_an_warningOf 5 (some .int) :: gt) rm_an_warningOf [.ref a0, .int a1] w (some (.int r)) w' rm_an_warningOf.cells rm_an_warningOf.slots := by
  refine mt_start (by decide) (Nat.le_of_ble_eq_true rfl) ?_
  intro p e s m below meth c ls hx hb hr hml hown hts hlk hnm hK hG hW hl
  have C : cx b_an_warningOf (some .int) 5 y_an_warningOf.cls "warningOf" p s m [.ref a0, .int a1].toArray meth c D cA base := ⟨hx, hb, hr, hml, hown, hts, hlk, hnm, hK, hG⟩
  have hl : lv_has ls 5 [(0, .ref a0), (1, .int a1)] := hl
  unfold f_an_warningOf at h
  replace h := its h
  obtain ⟨-, h⟩ := h
  refine lv_iconst (v := (0 : Int32)) hx hb d_an_warningOf_0 (by decide) ?_
  refine lv_istore_n (lv' := [(2, .int (0 : Int32)), (0, .ref a0), (1, .int a1)]) hx hb d_an_warningOf_1 rfl hl (by decide) rfl (fun ls hl => ?_)
  refine lv_iconst (v := (0 : Int32)) hx hb d_an_warningOf_2 (by decide) ?_
  refine lv_istore_n (lv' := [(3, .int (0 : Int32)), (2, .int (0 : Int32)), (0, .ref a0), (1, .int a1)]) hx hb d_an_warningOf_3 rfl hl (by decide) rfl (fun ls hl => ?_)
  exact j_an_warningOf_4 C KK a0 a1 (0 : Int32) (0 : Int32) w h _ _ _ hW (lv_sub hl [2, 3, 1, 0] rfl)
abbrev b_va_part : ByteArray := prog_9_method_7_code
def y_va_part : MethodName := ⟨"AlarmForge$Value", "part", "(I)I"⟩
def rm_va_part : Room := { frames := 0, cells := 0, slots := 0, locals := 0 }
theorem d_va_part_0 : decode b_va_part 0 = .ok (.iload_n 1, 1) := by decide +kernel
theorem d_va_part_1 : decode b_va_part 1 = .ok (.tableswitch (45) (0) (2) #[27, 33, 39], 27) := by decide +kernel
theorem d_va_part_28 : decode b_va_part 28 = .ok (.aload_n 0, 1) := by decide +kernel
theorem d_va_part_29 : decode b_va_part 29 = .ok (.getfield 15, 3) := by decide +kernel
theorem d_va_part_32 : decode b_va_part 32 = .ok (.l2i, 1) := by decide +kernel
theorem d_va_part_33 : decode b_va_part 33 = .ok (.ireturn, 1) := by decide +kernel
theorem d_va_part_34 : decode b_va_part 34 = .ok (.aload_n 0, 1) := by decide +kernel
theorem d_va_part_35 : decode b_va_part 35 = .ok (.getfield 19, 3) := by decide +kernel
theorem d_va_part_38 : decode b_va_part 38 = .ok (.l2i, 1) := by decide +kernel
theorem d_va_part_39 : decode b_va_part 39 = .ok (.ireturn, 1) := by decide +kernel
theorem d_va_part_40 : decode b_va_part 40 = .ok (.aload_n 0, 1) := by decide +kernel
theorem d_va_part_41 : decode b_va_part 41 = .ok (.getfield 22, 3) := by decide +kernel
theorem d_va_part_44 : decode b_va_part 44 = .ok (.l2i, 1) := by decide +kernel
theorem d_va_part_45 : decode b_va_part 45 = .ok (.ireturn, 1) := by decide +kernel
theorem d_va_part_46 : decode b_va_part 46 = .ok (.aload_n 0, 1) := by decide +kernel
theorem d_va_part_47 : decode b_va_part 47 = .ok (.getfield 25, 3) := by decide +kernel
theorem d_va_part_50 : decode b_va_part 50 = .ok (.l2i, 1) := by decide +kernel
theorem d_va_part_51 : decode b_va_part 51 = .ok (.ireturn, 1) := by decide +kernel
def f_va_part (a0 : Nat) (a1 : Int32) (w : WW) : Option (Int32 × WW) :=
  if kb w a0 8 = true then
    if a1 = (0 : Int32) then
      (gL w a0 8 1).bind fun x2 =>
      some ((Int64.toInt32 x2), w)
    else
      if a1 = (1 : Int32) then
        (gL w a0 8 2).bind fun x4 =>
        some ((Int64.toInt32 x4), w)
      else
        if a1 = (2 : Int32) then
          (gL w a0 8 3).bind fun x6 =>
          some ((Int64.toInt32 x6), w)
        else
          (gL w a0 8 4).bind fun x7 =>
          some ((Int64.toInt32 x7), w)
  else none
theorem kb_va_part {a0 : Nat} {a1 : Int32} {w : WW} {r : (Int32 × WW)} (h : f_va_part a0 a1 w = some r) : kb w a0 8 = true := (its h).1
set_option maxHeartbeats 4000000 in
set_option maxRecDepth 100000 in
theorem c_va_part (l : Launch) (D : va_G) (cA : Nat → ClassId) (base : Nat) {a0 : Nat} {a1 : Int32} {w w' : WW} {r : Int32} (h : f_va_part a0 a1 w = some (r, w')) : mt l D cls (wo_tys cA) cA base y_va_part (Cond.code y_va_part b_va_part 2 (some .int) :: gt) rm_va_part [.ref a0, .int a1] w (some (.int r)) w' rm_va_part.cells rm_va_part.slots := by
  refine mt_start (by decide) (Nat.le_of_ble_eq_true rfl) ?_
  intro p e s m below meth c ls hx hb hr hml hown hts hlk hnm hK hG hW hl
  have C : cx b_va_part (some .int) 2 y_va_part.cls "part" p s m [.ref a0, .int a1].toArray meth c D cA base := ⟨hx, hb, hr, hml, hown, hts, hlk, hnm, hK, hG⟩
  have hl : lv_has ls 2 [(0, .ref a0), (1, .int a1)] := hl
  unfold f_va_part at h
  replace h := its h
  obtain ⟨-, h⟩ := h
  refine lv_iload_n hx hb d_va_part_0 rfl (lv_at hl 1 rfl) ?_
  by_cases c1 : a1 = (0 : Int32)
  · rw [if_pos c1] at h
    refine lv_tableIn (off := 27) (tgt := 28) hx hb d_va_part_1 (by rw [c1]; decide) (by rw [c1]; decide) (by rw [c1]; rfl) (by decide) ?_
    refine lv_aload_n hx hb d_va_part_28 rfl (lv_at hl 0 rfl) ?_
    replace h := bs h
    obtain ⟨x2, hx2, h⟩ := h
    refine gf_va_15 hx hb hts hown hK hG hW (gL_s hx2) d_va_part_29 ?_
    refine lv_l2i hx hb d_va_part_32 rfl ?_
    cases h
    exact wo_iret hx hb hr hlk hW d_va_part_33
  · rw [if_neg c1] at h
    by_cases c3 : a1 = (1 : Int32)
    · rw [if_pos c3] at h
      refine lv_tableIn (off := 33) (tgt := 34) hx hb d_va_part_1 (by rw [c3]; decide) (by rw [c3]; decide) (by rw [c3]; rfl) (by decide) ?_
      refine lv_aload_n hx hb d_va_part_34 rfl (lv_at hl 0 rfl) ?_
      replace h := bs h
      obtain ⟨x4, hx4, h⟩ := h
      refine gf_va_19 hx hb hts hown hK hG hW (gL_s hx4) d_va_part_35 ?_
      refine lv_l2i hx hb d_va_part_38 rfl ?_
      cases h
      exact wo_iret hx hb hr hlk hW d_va_part_39
    · rw [if_neg c3] at h
      by_cases c5 : a1 = (2 : Int32)
      · rw [if_pos c5] at h
        refine lv_tableIn (off := 39) (tgt := 40) hx hb d_va_part_1 (by rw [c5]; decide) (by rw [c5]; decide) (by rw [c5]; rfl) (by decide) ?_
        refine lv_aload_n hx hb d_va_part_40 rfl (lv_at hl 0 rfl) ?_
        replace h := bs h
        obtain ⟨x6, hx6, h⟩ := h
        refine gf_va_22 hx hb hts hown hK hG hW (gL_s hx6) d_va_part_41 ?_
        refine lv_l2i hx hb d_va_part_44 rfl ?_
        cases h
        exact wo_iret hx hb hr hlk hW d_va_part_45
      · rw [if_neg c5] at h
        refine lv_tableOut (tgt := 46) hx hb d_va_part_1 (by have n0 := lv_neT c1 (show (0 : Int32).toInt = 0 from rfl); have n1 := lv_neT c3 (show (1 : Int32).toInt = 1 from rfl); have n2 := lv_neT c5 (show (2 : Int32).toInt = 2 from rfl); omega) (by decide) ?_
        refine lv_aload_n hx hb d_va_part_46 rfl (lv_at hl 0 rfl) ?_
        replace h := bs h
        obtain ⟨x7, hx7, h⟩ := h
        refine gf_va_25 hx hb hts hown hK hG hW (gL_s hx7) d_va_part_47 ?_
        refine lv_l2i hx hb d_va_part_50 rfl ?_
        cases h
        exact wo_iret hx hb hr hlk hW d_va_part_51
