/-! Methods as functions, and their contracts (by wip/gen/run.py). -/
theorem cv_rd_48 {p : Program} {l : Launch} {e : Env} {R : Room} {s : State} {m : MethodId} {args : Array Value} {below : List Frame} {meth : Method} {c : Code} {H : Heap} {locs : List Loc} {cells slots : Nat} {Q : State → Prop} {D : va_G} {cA : Nat → ClassId} {base : Nat} {w w' : WW} {cc : ByteArray} {pc nL : Nat} {ls : Array Slot} {rest st0 As : List Value} {ov : Option Value} {b : Nat} (hx : p.tables.exec = Jvm.exec) (hb : c.code = cc) (hml : c.maxLocals = nL) (hown : s.vm.findClass Rc_rd = some m.cls) (hts : ∀ w ∈ gt, w.before args s = true) (hK : va_K D cls (wo_tys cA) s) (hG : wo_G cA base s) (hW : wo_S D cls cA base s w H locs) (hM : mt l D cls (wo_tys cA) cA base y_rd_readNumeral (Cond.code y_rd_readNumeral b_rd_readNumeral 1 (none) :: gt) rm_rd_readNumeral (.ref (base + b) :: As) w ov w' rm_rd_readNumeral.cells rm_rd_readNumeral.slots) (hkb : kb w b 1 = true) (hR : rm_rd_readNumeral.frames + 1 ≤ R.frames ∧ 8 + (1 + 11) + rm_rd_readNumeral.locals ≤ R.locals) (hf : cells + rm_rd_readNumeral.cells ≤ R.cells ∧ slots + rm_rd_readNumeral.slots ≤ R.slots) (hn : As.length = 0) (hsz : ls.size = nL) (hst : st0 = As.reverse ++ .ref (base + b) :: rest) (hcat : (rest.map fun v => v.category).sum ≤ 8) (hdg : decode cc pc = .ok (.invokevirtual 48, 3)) (kk : ∀ (H1 : Heap) (locs1 : List Loc), wo_S D cls cA base s w' H1 locs1 → W p l e R s m args below meth c H1 locs1 (cells + rm_rd_readNumeral.cells) (slots + rm_rd_readNumeral.slots) Q (F0 m (pc + 3) ls (ov.toList ++ rest))) : W p l e R s m args below meth c H locs cells slots Q (F0 m pc ls st0) :=
  wo_callV (C := Rc_rd) hx hb hml hown hts hK hG hW hM hkb rfl (gt_of (i := 505) (by decide +kernel) (by decide +kernel)) (gt_of (i := 507) (by decide +kernel) (by decide +kernel)) (gt_sel (i := 2) (by decide +kernel) (by decide +kernel)) (gt_of (i := 3) (by decide +kernel) (by decide +kernel)) (gt_of (i := 508) (by decide +kernel) (by decide +kernel)) (by decide +kernel) hR hf hn hsz hst hcat hdg kk
theorem cv_rd_54 {p : Program} {l : Launch} {e : Env} {R : Room} {s : State} {m : MethodId} {args : Array Value} {below : List Frame} {meth : Method} {c : Code} {H : Heap} {locs : List Loc} {cells slots : Nat} {Q : State → Prop} {D : va_G} {cA : Nat → ClassId} {base : Nat} {w w' : WW} {cc : ByteArray} {pc nL : Nat} {ls : Array Slot} {rest st0 As : List Value} {ov : Option Value} {b : Nat} (hx : p.tables.exec = Jvm.exec) (hb : c.code = cc) (hml : c.maxLocals = nL) (hown : s.vm.findClass Rc_rd = some m.cls) (hts : ∀ w ∈ gt, w.before args s = true) (hK : va_K D cls (wo_tys cA) s) (hG : wo_G cA base s) (hW : wo_S D cls cA base s w H locs) (hM : mt l D cls (wo_tys cA) cA base y_rd_readWord (Cond.code y_rd_readWord b_rd_readWord 2 (none) :: gt) rm_rd_readWord (.ref (base + b) :: As) w ov w' rm_rd_readWord.cells rm_rd_readWord.slots) (hkb : kb w b 1 = true) (hR : rm_rd_readWord.frames + 1 ≤ R.frames ∧ 8 + (2 + 11) + rm_rd_readWord.locals ≤ R.locals) (hf : cells + rm_rd_readWord.cells ≤ R.cells ∧ slots + rm_rd_readWord.slots ≤ R.slots) (hn : As.length = 0) (hsz : ls.size = nL) (hst : st0 = As.reverse ++ .ref (base + b) :: rest) (hcat : (rest.map fun v => v.category).sum ≤ 8) (hdg : decode cc pc = .ok (.invokevirtual 54, 3)) (kk : ∀ (H1 : Heap) (locs1 : List Loc), wo_S D cls cA base s w' H1 locs1 → W p l e R s m args below meth c H1 locs1 (cells + rm_rd_readWord.cells) (slots + rm_rd_readWord.slots) Q (F0 m (pc + 3) ls (ov.toList ++ rest))) : W p l e R s m args below meth c H locs cells slots Q (F0 m pc ls st0) :=
  wo_callV (C := Rc_rd) hx hb hml hown hts hK hG hW hM hkb rfl (gt_of (i := 512) (by decide +kernel) (by decide +kernel)) (gt_of (i := 514) (by decide +kernel) (by decide +kernel)) (gt_sel (i := 3) (by decide +kernel) (by decide +kernel)) (gt_of (i := 3) (by decide +kernel) (by decide +kernel)) (gt_of (i := 515) (by decide +kernel) (by decide +kernel)) (by decide +kernel) hR hf hn hsz hst hcat hdg kk
theorem cv_rd_57 {p : Program} {l : Launch} {e : Env} {R : Room} {s : State} {m : MethodId} {args : Array Value} {below : List Frame} {meth : Method} {c : Code} {H : Heap} {locs : List Loc} {cells slots : Nat} {Q : State → Prop} {D : va_G} {cA : Nat → ClassId} {base : Nat} {w w' : WW} {cc : ByteArray} {pc nL : Nat} {ls : Array Slot} {rest st0 As : List Value} {ov : Option Value} {b : Nat} (hx : p.tables.exec = Jvm.exec) (hb : c.code = cc) (hml : c.maxLocals = nL) (hown : s.vm.findClass Rc_rd = some m.cls) (hts : ∀ w ∈ gt, w.before args s = true) (hK : va_K D cls (wo_tys cA) s) (hG : wo_G cA base s) (hW : wo_S D cls cA base s w H locs) (hM : mt l D cls (wo_tys cA) cA base y_rd_readSign (Cond.code y_rd_readSign b_rd_readSign 3 (none) :: gt) rm_rd_readSign (.ref (base + b) :: As) w ov w' rm_rd_readSign.cells rm_rd_readSign.slots) (hkb : kb w b 1 = true) (hR : rm_rd_readSign.frames + 1 ≤ R.frames ∧ 8 + (3 + 11) + rm_rd_readSign.locals ≤ R.locals) (hf : cells + rm_rd_readSign.cells ≤ R.cells ∧ slots + rm_rd_readSign.slots ≤ R.slots) (hn : As.length = 0) (hsz : ls.size = nL) (hst : st0 = As.reverse ++ .ref (base + b) :: rest) (hcat : (rest.map fun v => v.category).sum ≤ 8) (hdg : decode cc pc = .ok (.invokevirtual 57, 3)) (kk : ∀ (H1 : Heap) (locs1 : List Loc), wo_S D cls cA base s w' H1 locs1 → W p l e R s m args below meth c H1 locs1 (cells + rm_rd_readSign.cells) (slots + rm_rd_readSign.slots) Q (F0 m (pc + 3) ls (ov.toList ++ rest))) : W p l e R s m args below meth c H locs cells slots Q (F0 m pc ls st0) :=
  wo_callV (C := Rc_rd) hx hb hml hown hts hK hG hW hM hkb rfl (gt_of (i := 577) (by decide +kernel) (by decide +kernel)) (gt_of (i := 579) (by decide +kernel) (by decide +kernel)) (gt_sel (i := 6) (by decide +kernel) (by decide +kernel)) (gt_of (i := 3) (by decide +kernel) (by decide +kernel)) (gt_of (i := 580) (by decide +kernel) (by decide +kernel)) (by decide +kernel) hR hf hn hsz hst hcat hdg kk
abbrev b_rd_readToken : ByteArray := prog_5_method_4_code
def y_rd_readToken : MethodName := ⟨"AlarmForge$Reader", "readToken", "()V"⟩
def rm_rd_readToken : Room := { frames := 7, cells := 0, slots := 0, locals := 148 }
theorem d_rd_readToken_0 : decode b_rd_readToken 0 = .ok (.aload_n 0, 1) := by decide +kernel
theorem d_rd_readToken_1 : decode b_rd_readToken 1 = .ok (.getfield 29, 3) := by decide +kernel
theorem d_rd_readToken_4 : decode b_rd_readToken 4 = .ok (.aload_n 0, 1) := by decide +kernel
theorem d_rd_readToken_5 : decode b_rd_readToken 5 = .ok (.getfield 25, 3) := by decide +kernel
theorem d_rd_readToken_8 : decode b_rd_readToken 8 = .ok (.if_icmp .ge (44), 3) := by decide +kernel
theorem d_rd_readToken_11 : decode b_rd_readToken 11 = .ok (.aload_n 0, 1) := by decide +kernel
theorem d_rd_readToken_12 : decode b_rd_readToken 12 = .ok (.getfield 9, 3) := by decide +kernel
theorem d_rd_readToken_15 : decode b_rd_readToken 15 = .ok (.aload_n 0, 1) := by decide +kernel
theorem d_rd_readToken_16 : decode b_rd_readToken 16 = .ok (.getfield 29, 3) := by decide +kernel
theorem d_rd_readToken_19 : decode b_rd_readToken 19 = .ok (.caload, 1) := by decide +kernel
theorem d_rd_readToken_20 : decode b_rd_readToken 20 = .ok (.bipush (32), 2) := by decide +kernel
theorem d_rd_readToken_22 : decode b_rd_readToken 22 = .ok (.if_icmp .eq (17), 3) := by decide +kernel
theorem d_rd_readToken_25 : decode b_rd_readToken 25 = .ok (.aload_n 0, 1) := by decide +kernel
theorem d_rd_readToken_26 : decode b_rd_readToken 26 = .ok (.getfield 9, 3) := by decide +kernel
theorem d_rd_readToken_29 : decode b_rd_readToken 29 = .ok (.aload_n 0, 1) := by decide +kernel
theorem d_rd_readToken_30 : decode b_rd_readToken 30 = .ok (.getfield 29, 3) := by decide +kernel
theorem d_rd_readToken_33 : decode b_rd_readToken 33 = .ok (.caload, 1) := by decide +kernel
theorem d_rd_readToken_34 : decode b_rd_readToken 34 = .ok (.bipush (10), 2) := by decide +kernel
theorem d_rd_readToken_36 : decode b_rd_readToken 36 = .ok (.if_icmp .ne (16), 3) := by decide +kernel
theorem d_rd_readToken_39 : decode b_rd_readToken 39 = .ok (.aload_n 0, 1) := by decide +kernel
theorem d_rd_readToken_40 : decode b_rd_readToken 40 = .ok (.dup, 1) := by decide +kernel
theorem d_rd_readToken_41 : decode b_rd_readToken 41 = .ok (.getfield 29, 3) := by decide +kernel
theorem d_rd_readToken_44 : decode b_rd_readToken 44 = .ok (.iconst 1, 1) := by decide +kernel
theorem d_rd_readToken_45 : decode b_rd_readToken 45 = .ok (.iadd, 1) := by decide +kernel
theorem d_rd_readToken_46 : decode b_rd_readToken 46 = .ok (.putfield 29, 3) := by decide +kernel
theorem d_rd_readToken_49 : decode b_rd_readToken 49 = .ok (.goto (-49), 3) := by decide +kernel
theorem d_rd_readToken_52 : decode b_rd_readToken 52 = .ok (.aload_n 0, 1) := by decide +kernel
theorem d_rd_readToken_53 : decode b_rd_readToken 53 = .ok (.aload_n 0, 1) := by decide +kernel
theorem d_rd_readToken_54 : decode b_rd_readToken 54 = .ok (.getfield 29, 3) := by decide +kernel
theorem d_rd_readToken_57 : decode b_rd_readToken 57 = .ok (.putfield 38, 3) := by decide +kernel
theorem d_rd_readToken_60 : decode b_rd_readToken 60 = .ok (.aload_n 0, 1) := by decide +kernel
theorem d_rd_readToken_61 : decode b_rd_readToken 61 = .ok (.iconst 0, 1) := by decide +kernel
theorem d_rd_readToken_62 : decode b_rd_readToken 62 = .ok (.putfield 41, 3) := by decide +kernel
theorem d_rd_readToken_65 : decode b_rd_readToken 65 = .ok (.aload_n 0, 1) := by decide +kernel
theorem d_rd_readToken_66 : decode b_rd_readToken 66 = .ok (.getfield 29, 3) := by decide +kernel
theorem d_rd_readToken_69 : decode b_rd_readToken 69 = .ok (.aload_n 0, 1) := by decide +kernel
theorem d_rd_readToken_70 : decode b_rd_readToken 70 = .ok (.getfield 25, 3) := by decide +kernel
theorem d_rd_readToken_73 : decode b_rd_readToken 73 = .ok (.if_icmp .lt (11), 3) := by decide +kernel
theorem d_rd_readToken_76 : decode b_rd_readToken 76 = .ok (.aload_n 0, 1) := by decide +kernel
theorem d_rd_readToken_77 : decode b_rd_readToken 77 = .ok (.iconst 0, 1) := by decide +kernel
theorem d_rd_readToken_78 : decode b_rd_readToken 78 = .ok (.putfield 32, 3) := by decide +kernel
theorem d_rd_readToken_81 : decode b_rd_readToken 81 = .ok (.goto (51), 3) := by decide +kernel
theorem d_rd_readToken_84 : decode b_rd_readToken 84 = .ok (.aload_n 0, 1) := by decide +kernel
theorem d_rd_readToken_85 : decode b_rd_readToken 85 = .ok (.getfield 9, 3) := by decide +kernel
theorem d_rd_readToken_88 : decode b_rd_readToken 88 = .ok (.aload_n 0, 1) := by decide +kernel
theorem d_rd_readToken_89 : decode b_rd_readToken 89 = .ok (.getfield 29, 3) := by decide +kernel
theorem d_rd_readToken_92 : decode b_rd_readToken 92 = .ok (.caload, 1) := by decide +kernel
theorem d_rd_readToken_93 : decode b_rd_readToken 93 = .ok (.invokestatic 44, 3) := by decide +kernel
theorem d_rd_readToken_96 : decode b_rd_readToken 96 = .ok (.ifCond .eq (10), 3) := by decide +kernel
theorem d_rd_readToken_99 : decode b_rd_readToken 99 = .ok (.aload_n 0, 1) := by decide +kernel
theorem d_rd_readToken_100 : decode b_rd_readToken 100 = .ok (.invokevirtual 48, 3) := by decide +kernel
theorem d_rd_readToken_103 : decode b_rd_readToken 103 = .ok (.goto (29), 3) := by decide +kernel
theorem d_rd_readToken_106 : decode b_rd_readToken 106 = .ok (.aload_n 0, 1) := by decide +kernel
theorem d_rd_readToken_107 : decode b_rd_readToken 107 = .ok (.getfield 9, 3) := by decide +kernel
theorem d_rd_readToken_110 : decode b_rd_readToken 110 = .ok (.aload_n 0, 1) := by decide +kernel
theorem d_rd_readToken_111 : decode b_rd_readToken 111 = .ok (.getfield 29, 3) := by decide +kernel
theorem d_rd_readToken_114 : decode b_rd_readToken 114 = .ok (.caload, 1) := by decide +kernel
theorem d_rd_readToken_115 : decode b_rd_readToken 115 = .ok (.invokestatic 51, 3) := by decide +kernel
theorem d_rd_readToken_118 : decode b_rd_readToken 118 = .ok (.ifCond .eq (10), 3) := by decide +kernel
theorem d_rd_readToken_121 : decode b_rd_readToken 121 = .ok (.aload_n 0, 1) := by decide +kernel
theorem d_rd_readToken_122 : decode b_rd_readToken 122 = .ok (.invokevirtual 54, 3) := by decide +kernel
theorem d_rd_readToken_125 : decode b_rd_readToken 125 = .ok (.goto (7), 3) := by decide +kernel
theorem d_rd_readToken_128 : decode b_rd_readToken 128 = .ok (.aload_n 0, 1) := by decide +kernel
theorem d_rd_readToken_129 : decode b_rd_readToken 129 = .ok (.invokevirtual 57, 3) := by decide +kernel
theorem d_rd_readToken_132 : decode b_rd_readToken 132 = .ok (.return_, 1) := by decide +kernel
theorem kb_rd_readToken {a0 : Nat}  {w : WW} {r : WW} (h : f_rd_readToken a0 w = some r) : kb w a0 1 = true := (its h).1
set_option maxHeartbeats 4000000 in
set_option maxRecDepth 100000 in
theorem j_rd_readToken_132 {p : Program} {l : Launch} {e : Env} {s : State} {m : MethodId} {args : Array Value} {below : List Frame} {meth : Method} {c : Code} {D : va_G} {cA : Nat → ClassId} {base : Nat} {w' : WW} (C : cx b_rd_readToken (none) 1 y_rd_readToken.cls "readToken" p s m args meth c D cA base)   : ∀  (w : WW), f_rd_readToken_132  w = some w' → ∀ (H : Heap) (locs : List Loc) (ls : Array Slot), wo_S D cls cA base s w H locs → lv_has ls 1 [] → W p l e rm_rd_readToken s m args below meth c H locs 0 0 (MQ below (wo_Q D cls cA base none w') args s rm_rd_readToken.cells rm_rd_readToken.slots (wo_B base)) (F0 m 132 ls []) := by
  obtain ⟨hx, hb, hr, hml, hown, hts, hlk, hnm, hK, hG⟩ := id C
  intro  w h H locs ls hW hl
  unfold f_rd_readToken_132 at h
  cases h
  exact wo_vret hx hb hr hlk hW d_rd_readToken_132
set_option maxHeartbeats 4000000 in
set_option maxRecDepth 100000 in
theorem j_rd_readToken_52 {p : Program} {l : Launch} {e : Env} {s : State} {m : MethodId} {args : Array Value} {below : List Frame} {meth : Method} {c : Code} {D : va_G} {cA : Nat → ClassId} {base : Nat} {w' : WW} (C : cx b_rd_readToken (none) 1 y_rd_readToken.cls "readToken" p s m args meth c D cA base)   : ∀ (y0 : Nat) (w : WW), f_rd_readToken_52 y0 w = some w' → ∀ (H : Heap) (locs : List Loc) (ls : Array Slot), wo_S D cls cA base s w H locs → lv_has ls 1 [(0, .ref (base + y0))] → W p l e rm_rd_readToken s m args below meth c H locs 0 0 (MQ below (wo_Q D cls cA base none w') args s rm_rd_readToken.cells rm_rd_readToken.slots (wo_B base)) (F0 m 52 ls []) := by
  obtain ⟨hx, hb, hr, hml, hown, hts, hlk, hnm, hK, hG⟩ := id C
  intro y0 w h H locs ls hW hl
  unfold f_rd_readToken_52 at h
  refine lv_aload_n hx hb d_rd_readToken_52 rfl (lv_at hl 0 rfl) ?_
  refine lv_aload_n hx hb d_rd_readToken_53 rfl (lv_at hl 0 rfl) ?_
  replace h := bs h
  obtain ⟨x4, hx4, h⟩ := h
  refine gf_rd_29 hx hb hts hown hK hG hW (gI_s hx4) d_rd_readToken_54 ?_
  replace h := bs h
  obtain ⟨w5, hw5, h⟩ := h
  refine pf_rd_38 hx hb hts hown hK hG hW rfl rfl (pbi hw5 rfl) d_rd_readToken_57 (fun H locs hW => ?_)
  refine lv_aload_n hx hb d_rd_readToken_60 rfl (lv_at hl 0 rfl) ?_
  refine lv_iconst (v := (0 : Int32)) hx hb d_rd_readToken_61 (by decide) ?_
  replace h := bs h
  obtain ⟨w6, hw6, h⟩ := h
  refine pf_rd_41 hx hb hts hown hK hG hW rfl rfl (pbi hw6 rfl) d_rd_readToken_62 (fun H locs hW => ?_)
  refine lv_aload_n hx hb d_rd_readToken_65 rfl (lv_at hl 0 rfl) ?_
  replace h := bs h
  obtain ⟨x7, hx7, h⟩ := h
  refine gf_rd_29 hx hb hts hown hK hG hW (gI_s hx7) d_rd_readToken_66 ?_
  refine lv_aload_n hx hb d_rd_readToken_69 rfl (lv_at hl 0 rfl) ?_
  replace h := bs h
  obtain ⟨x8, hx8, h⟩ := h
  refine gf_rd_25 hx hb hts hown hK hG hW (gI_s hx8) d_rd_readToken_70 ?_
  refine lv_icmp_lt (tgt := 84) hx hb d_rd_readToken_73 (by decide) (fun c9 => ?_) (fun c9 => ?_)
  · rw [if_pos c9] at h
    refine lv_aload_n hx hb d_rd_readToken_84 rfl (lv_at hl 0 rfl) ?_
    replace h := bs h
    obtain ⟨x10, hx10, h⟩ := h
    refine gf_rd_9 hx hb hts hown hK hG hW (gN_s hx10) d_rd_readToken_85 ?_
    refine lv_aload_n hx hb d_rd_readToken_88 rfl (lv_at hl 0 rfl) ?_
    replace h := bs h
    obtain ⟨x11, hx11, h⟩ := h
    refine gf_rd_29 hx hb hts hown hK hG hW (gI_s hx11) d_rd_readToken_89 ?_
    replace h := bs h
    obtain ⟨x12, hx12, h⟩ := h
    refine wo_cald hx hb hK hW (t := 3) rfl hx12 d_rd_readToken_92 ?_
    replace h := bs2 h
    obtain ⟨x14, w13, hw13, h⟩ := h
    refine cs_rd_44 (As := [.int x12]) (rest := []) hx hb hml hown hts hK hG hW (c_rd_isDigit l D cA base hw13) ⟨Nat.le_of_ble_eq_true rfl, Nat.le_of_ble_eq_true rfl⟩ ⟨Nat.le_of_ble_eq_true rfl, Nat.le_of_ble_eq_true rfl⟩ rfl hl.1 rfl (Nat.le_of_ble_eq_true rfl) d_rd_readToken_93 (fun H locs hW => ?_)
    refine lv_if_eq (tgt := 106) hx hb d_rd_readToken_96 (by decide) (fun c15 => ?_) (fun c15 => ?_)
    · rw [if_pos c15] at h
      refine lv_aload_n hx hb d_rd_readToken_106 rfl (lv_at hl 0 rfl) ?_
      replace h := bs h
      obtain ⟨x16, hx16, h⟩ := h
      refine gf_rd_9 hx hb hts hown hK hG hW (gN_s hx16) d_rd_readToken_107 ?_
      refine lv_aload_n hx hb d_rd_readToken_110 rfl (lv_at hl 0 rfl) ?_
      replace h := bs h
      obtain ⟨x17, hx17, h⟩ := h
      refine gf_rd_29 hx hb hts hown hK hG hW (gI_s hx17) d_rd_readToken_111 ?_
      replace h := bs h
      obtain ⟨x18, hx18, h⟩ := h
      refine wo_cald hx hb hK hW (t := 3) rfl hx18 d_rd_readToken_114 ?_
      replace h := bs2 h
      obtain ⟨x20, w19, hw19, h⟩ := h
      refine cs_rd_51 (As := [.int x18]) (rest := []) hx hb hml hown hts hK hG hW (c_rd_isLetter l D cA base hw19) ⟨Nat.le_of_ble_eq_true rfl, Nat.le_of_ble_eq_true rfl⟩ ⟨Nat.le_of_ble_eq_true rfl, Nat.le_of_ble_eq_true rfl⟩ rfl hl.1 rfl (Nat.le_of_ble_eq_true rfl) d_rd_readToken_115 (fun H locs hW => ?_)
      refine lv_if_eq (tgt := 128) hx hb d_rd_readToken_118 (by decide) (fun c21 => ?_) (fun c21 => ?_)
      · rw [if_pos c21] at h
        refine lv_aload_n hx hb d_rd_readToken_128 rfl (lv_at hl 0 rfl) ?_
        replace h := bs h
        obtain ⟨w22, hw22, h⟩ := h
        refine cv_rd_57 (As := []) (rest := []) hx hb hml hown hts hK hG hW (c_rd_readSign l D cA base hw22) (kb_rd_readSign hw22) ⟨Nat.le_of_ble_eq_true rfl, Nat.le_of_ble_eq_true rfl⟩ ⟨Nat.le_of_ble_eq_true rfl, Nat.le_of_ble_eq_true rfl⟩ rfl hl.1 rfl (Nat.le_of_ble_eq_true rfl) d_rd_readToken_129 (fun H locs hW => ?_)
        exact j_rd_readToken_132 C w22 h _ _ _ hW (lv_sub hl [] rfl)
      · rw [if_neg c21] at h
        refine lv_aload_n hx hb d_rd_readToken_121 rfl (lv_at hl 0 rfl) ?_
        replace h := bs h
        obtain ⟨w23, hw23, h⟩ := h
        refine cv_rd_54 (As := []) (rest := []) hx hb hml hown hts hK hG hW (c_rd_readWord l D cA base hw23) (kb_rd_readWord hw23) ⟨Nat.le_of_ble_eq_true rfl, Nat.le_of_ble_eq_true rfl⟩ ⟨Nat.le_of_ble_eq_true rfl, Nat.le_of_ble_eq_true rfl⟩ rfl hl.1 rfl (Nat.le_of_ble_eq_true rfl) d_rd_readToken_122 (fun H locs hW => ?_)
        refine lv_goto (tgt := 132) hx hb d_rd_readToken_125 (by decide) ?_
        exact j_rd_readToken_132 C w23 h _ _ _ hW (lv_sub hl [] rfl)
    · rw [if_neg c15] at h
      refine lv_aload_n hx hb d_rd_readToken_99 rfl (lv_at hl 0 rfl) ?_
      replace h := bs h
      obtain ⟨w24, hw24, h⟩ := h
      refine cv_rd_48 (As := []) (rest := []) hx hb hml hown hts hK hG hW (c_rd_readNumeral l D cA base hw24) (kb_rd_readNumeral hw24) ⟨Nat.le_of_ble_eq_true rfl, Nat.le_of_ble_eq_true rfl⟩ ⟨Nat.le_of_ble_eq_true rfl, Nat.le_of_ble_eq_true rfl⟩ rfl hl.1 rfl (Nat.le_of_ble_eq_true rfl) d_rd_readToken_100 (fun H locs hW => ?_)
      refine lv_goto (tgt := 132) hx hb d_rd_readToken_103 (by decide) ?_
      exact j_rd_readToken_132 C w24 h _ _ _ hW (lv_sub hl [] rfl)
  · rw [if_neg c9] at h
    refine lv_aload_n hx hb d_rd_readToken_76 rfl (lv_at hl 0 rfl) ?_
    refine lv_iconst (v := (0 : Int32)) hx hb d_rd_readToken_77 (by decide) ?_
    replace h := bs h
    obtain ⟨w25, hw25, h⟩ := h
    refine pf_rd_32 hx hb hts hown hK hG hW rfl rfl (pbi hw25 rfl) d_rd_readToken_78 (fun H locs hW => ?_)
    refine lv_goto (tgt := 132) hx hb d_rd_readToken_81 (by decide) ?_
    exact j_rd_readToken_132 C w25 h _ _ _ hW (lv_sub hl [] rfl)
set_option maxHeartbeats 4000000 in
set_option maxRecDepth 100000 in
theorem j_rd_readToken_39 {p : Program} {l : Launch} {e : Env} {s : State} {m : MethodId} {args : Array Value} {below : List Frame} {meth : Method} {c : Code} {D : va_G} {cA : Nat → ClassId} {base : Nat} {w' : WW} (C : cx b_rd_readToken (none) 1 y_rd_readToken.cls "readToken" p s m args meth c D cA base) {k_0 : Nat → WW → Option WW} (hk_0 : ∀ (y0 : Nat) (w : WW), k_0 y0 w = some w' → ∀ (H : Heap) (locs : List Loc) (ls : Array Slot), wo_S D cls cA base s w H locs → lv_has ls 1 [(0, .ref (base + y0))] → W p l e rm_rd_readToken s m args below meth c H locs 0 0 (MQ below (wo_Q D cls cA base none w') args s rm_rd_readToken.cells rm_rd_readToken.slots (wo_B base)) (F0 m 0 ls [])) : ∀ (y0 : Nat) (w : WW), f_rd_readToken_39 k_0 y0 w = some w' → ∀ (H : Heap) (locs : List Loc) (ls : Array Slot), wo_S D cls cA base s w H locs → lv_has ls 1 [(0, .ref (base + y0))] → W p l e rm_rd_readToken s m args below meth c H locs 0 0 (MQ below (wo_Q D cls cA base none w') args s rm_rd_readToken.cells rm_rd_readToken.slots (wo_B base)) (F0 m 39 ls []) := by
  obtain ⟨hx, hb, hr, hml, hown, hts, hlk, hnm, hK, hG⟩ := id C
  intro y0 w h H locs ls hW hl
  unfold f_rd_readToken_39 at h
  refine lv_aload_n hx hb d_rd_readToken_39 rfl (lv_at hl 0 rfl) ?_
  refine lv_dup hx hb d_rd_readToken_40 rfl ?_
  replace h := bs h
  obtain ⟨x30, hx30, h⟩ := h
  refine gf_rd_29 hx hb hts hown hK hG hW (gI_s hx30) d_rd_readToken_41 ?_
  refine lv_iconst (v := (1 : Int32)) hx hb d_rd_readToken_44 (by decide) ?_
  refine lv_iadd hx hb d_rd_readToken_45 ?_
  replace h := bs h
  obtain ⟨w31, hw31, h⟩ := h
  refine pf_rd_29 hx hb hts hown hK hG hW rfl rfl (pbi hw31 rfl) d_rd_readToken_46 (fun H locs hW => ?_)
  refine lv_goto (tgt := 0) hx hb d_rd_readToken_49 (by decide) ?_
  exact hk_0 y0 w31 h _ _ _ hW (lv_sub hl [0] rfl)
set_option maxHeartbeats 4000000 in
set_option maxRecDepth 100000 in
theorem j_rd_readToken_0 {p : Program} {l : Launch} {e : Env} {s : State} {m : MethodId} {args : Array Value} {below : List Frame} {meth : Method} {c : Code} {D : va_G} {cA : Nat → ClassId} {base : Nat} {w' : WW} (C : cx b_rd_readToken (none) 1 y_rd_readToken.cls "readToken" p s m args meth c D cA base)   : ∀ n : Nat, ∀ (y0 : Nat) (w : WW), f_rd_readToken_0 n y0 w = some w' → ∀ (H : Heap) (locs : List Loc) (ls : Array Slot), wo_S D cls cA base s w H locs → lv_has ls 1 [(0, .ref (base + y0))] → W p l e rm_rd_readToken s m args below meth c H locs 0 0 (MQ below (wo_Q D cls cA base none w') args s rm_rd_readToken.cells rm_rd_readToken.slots (wo_B base)) (F0 m 0 ls []) := by
  obtain ⟨hx, hb, hr, hml, hown, hts, hlk, hnm, hK, hG⟩ := id C
  intro n
  induction n with
  | zero => intro y0 w h; cases h
  | succ n ih =>
    intro y0 w h H locs ls hW hl
    rw [f_rd_readToken_0] at h
    refine lv_aload_n hx hb d_rd_readToken_0 rfl (lv_at hl 0 rfl) ?_
    replace h := bs h
    obtain ⟨x1, hx1, h⟩ := h
    refine gf_rd_29 hx hb hts hown hK hG hW (gI_s hx1) d_rd_readToken_1 ?_
    refine lv_aload_n hx hb d_rd_readToken_4 rfl (lv_at hl 0 rfl) ?_
    replace h := bs h
    obtain ⟨x2, hx2, h⟩ := h
    refine gf_rd_25 hx hb hts hown hK hG hW (gI_s hx2) d_rd_readToken_5 ?_
    refine lv_icmp_ge (tgt := 52) hx hb d_rd_readToken_8 (by decide) (fun c3 => ?_) (fun c3 => ?_)
    · rw [if_pos c3] at h
      exact j_rd_readToken_52 C y0 w h _ _ _ hW (lv_sub hl [0] rfl)
    · rw [if_neg c3] at h
      refine lv_aload_n hx hb d_rd_readToken_11 rfl (lv_at hl 0 rfl) ?_
      replace h := bs h
      obtain ⟨x26, hx26, h⟩ := h
      refine gf_rd_9 hx hb hts hown hK hG hW (gN_s hx26) d_rd_readToken_12 ?_
      refine lv_aload_n hx hb d_rd_readToken_15 rfl (lv_at hl 0 rfl) ?_
      replace h := bs h
      obtain ⟨x27, hx27, h⟩ := h
      refine gf_rd_29 hx hb hts hown hK hG hW (gI_s hx27) d_rd_readToken_16 ?_
      replace h := bs h
      obtain ⟨x28, hx28, h⟩ := h
      refine wo_cald hx hb hK hW (t := 3) rfl hx28 d_rd_readToken_19 ?_
      refine lv_bipush (v := (32 : Int32)) hx hb d_rd_readToken_20 (by decide) ?_
      refine lv_icmp_eq (tgt := 39) hx hb d_rd_readToken_22 (by decide) (fun c29 => ?_) (fun c29 => ?_)
      · rw [if_pos c29] at h
        exact j_rd_readToken_39 C ih y0 w h _ _ _ hW (lv_sub hl [0] rfl)
      · rw [if_neg c29] at h
        refine lv_aload_n hx hb d_rd_readToken_25 rfl (lv_at hl 0 rfl) ?_
        replace h := bs h
        obtain ⟨x32, hx32, h⟩ := h
        refine gf_rd_9 hx hb hts hown hK hG hW (gN_s hx32) d_rd_readToken_26 ?_
        refine lv_aload_n hx hb d_rd_readToken_29 rfl (lv_at hl 0 rfl) ?_
        replace h := bs h
        obtain ⟨x33, hx33, h⟩ := h
        refine gf_rd_29 hx hb hts hown hK hG hW (gI_s hx33) d_rd_readToken_30 ?_
        replace h := bs h
        obtain ⟨x34, hx34, h⟩ := h
        refine wo_cald hx hb hK hW (t := 3) rfl hx34 d_rd_readToken_33 ?_
        refine lv_bipush (v := (10 : Int32)) hx hb d_rd_readToken_34 (by decide) ?_
        refine lv_icmp_ne (tgt := 52) hx hb d_rd_readToken_36 (by decide) (fun c35 => ?_) (fun c35 => ?_)
        · rw [if_neg c35] at h
          exact j_rd_readToken_52 C y0 w h _ _ _ hW (lv_sub hl [0] rfl)
        · rw [if_pos c35] at h
          exact j_rd_readToken_39 C ih y0 w h _ _ _ hW (lv_sub hl [0] rfl)
set_option maxHeartbeats 4000000 in
set_option maxRecDepth 100000 in
theorem c_rd_readToken (l : Launch) (D : va_G) (cA : Nat → ClassId) (base : Nat) {a0 : Nat} {w w' : WW} (h : f_rd_readToken a0 w = some w') : mt l D cls (wo_tys cA) cA base y_rd_readToken (Cond.code y_rd_readToken b_rd_readToken 1 (none) :: gt) rm_rd_readToken [.ref (base + a0)] w none w' rm_rd_readToken.cells rm_rd_readToken.slots := by
  refine mt_start (by decide) (Nat.le_of_ble_eq_true rfl) ?_
  intro p e s m below meth c ls hx hb hr hml hown hts hlk hnm hK hG hW hl
  have C : cx b_rd_readToken (none) 1 y_rd_readToken.cls "readToken" p s m [.ref (base + a0)].toArray meth c D cA base := ⟨hx, hb, hr, hml, hown, hts, hlk, hnm, hK, hG⟩
  have hl : lv_has ls 1 [(0, .ref (base + a0))] := hl
  unfold f_rd_readToken at h
  replace h := its h
  obtain ⟨-, h⟩ := h
  exact j_rd_readToken_0 C KK a0 w h _ _ _ hW (lv_sub hl [0] rfl)
theorem cv_rd_35 {p : Program} {l : Launch} {e : Env} {R : Room} {s : State} {m : MethodId} {args : Array Value} {below : List Frame} {meth : Method} {c : Code} {H : Heap} {locs : List Loc} {cells slots : Nat} {Q : State → Prop} {D : va_G} {cA : Nat → ClassId} {base : Nat} {w w' : WW} {cc : ByteArray} {pc nL : Nat} {ls : Array Slot} {rest st0 As : List Value} {ov : Option Value} {b : Nat} (hx : p.tables.exec = Jvm.exec) (hb : c.code = cc) (hml : c.maxLocals = nL) (hown : s.vm.findClass Rc_rd = some m.cls) (hts : ∀ w ∈ gt, w.before args s = true) (hK : va_K D cls (wo_tys cA) s) (hG : wo_G cA base s) (hW : wo_S D cls cA base s w H locs) (hM : mt l D cls (wo_tys cA) cA base y_rd_readToken (Cond.code y_rd_readToken b_rd_readToken 1 (none) :: gt) rm_rd_readToken (.ref (base + b) :: As) w ov w' rm_rd_readToken.cells rm_rd_readToken.slots) (hkb : kb w b 1 = true) (hR : rm_rd_readToken.frames + 1 ≤ R.frames ∧ 8 + (1 + 11) + rm_rd_readToken.locals ≤ R.locals) (hf : cells + rm_rd_readToken.cells ≤ R.cells ∧ slots + rm_rd_readToken.slots ≤ R.slots) (hn : As.length = 0) (hsz : ls.size = nL) (hst : st0 = As.reverse ++ .ref (base + b) :: rest) (hcat : (rest.map fun v => v.category).sum ≤ 8) (hdg : decode cc pc = .ok (.invokevirtual 35, 3)) (kk : ∀ (H1 : Heap) (locs1 : List Loc), wo_S D cls cA base s w' H1 locs1 → W p l e R s m args below meth c H1 locs1 (cells + rm_rd_readToken.cells) (slots + rm_rd_readToken.slots) Q (F0 m (pc + 3) ls (ov.toList ++ rest))) : W p l e R s m args below meth c H locs cells slots Q (F0 m pc ls st0) :=
  wo_callV (C := Rc_rd) hx hb hml hown hts hK hG hW hM hkb rfl (gt_of (i := 498) (by decide +kernel) (by decide +kernel)) (gt_of (i := 500) (by decide +kernel) (by decide +kernel)) (gt_sel (i := 1) (by decide +kernel) (by decide +kernel)) (gt_of (i := 3) (by decide +kernel) (by decide +kernel)) (gt_of (i := 501) (by decide +kernel) (by decide +kernel)) (by decide +kernel) hR hf hn hsz hst hcat hdg kk
abbrev b_rd_readAll : ByteArray := prog_5_method_3_code
def y_rd_readAll : MethodName := ⟨"AlarmForge$Reader", "readAll", "()V"⟩
def rm_rd_readAll : Room := { frames := 8, cells := 0, slots := 0, locals := 168 }
theorem d_rd_readAll_0 : decode b_rd_readAll 0 = .ok (.aload_n 0, 1) := by decide +kernel
theorem d_rd_readAll_1 : decode b_rd_readAll 1 = .ok (.iconst 0, 1) := by decide +kernel
theorem d_rd_readAll_2 : decode b_rd_readAll 2 = .ok (.putfield 29, 3) := by decide +kernel
theorem d_rd_readAll_5 : decode b_rd_readAll 5 = .ok (.aload_n 0, 1) := by decide +kernel
theorem d_rd_readAll_6 : decode b_rd_readAll 6 = .ok (.iconst 1, 1) := by decide +kernel
theorem d_rd_readAll_7 : decode b_rd_readAll 7 = .ok (.putfield 32, 3) := by decide +kernel
theorem d_rd_readAll_10 : decode b_rd_readAll 10 = .ok (.iconst 0, 1) := by decide +kernel
theorem d_rd_readAll_11 : decode b_rd_readAll 11 = .ok (.istore_n 1, 1) := by decide +kernel
theorem d_rd_readAll_12 : decode b_rd_readAll 12 = .ok (.iload_n 1, 1) := by decide +kernel
theorem d_rd_readAll_13 : decode b_rd_readAll 13 = .ok (.sipush (200), 3) := by decide +kernel
theorem d_rd_readAll_16 : decode b_rd_readAll 16 = .ok (.if_icmp .gt (58), 3) := by decide +kernel
theorem d_rd_readAll_19 : decode b_rd_readAll 19 = .ok (.aload_n 0, 1) := by decide +kernel
theorem d_rd_readAll_20 : decode b_rd_readAll 20 = .ok (.getfield 32, 3) := by decide +kernel
theorem d_rd_readAll_23 : decode b_rd_readAll 23 = .ok (.ifCond .eq (51), 3) := by decide +kernel
theorem d_rd_readAll_26 : decode b_rd_readAll 26 = .ok (.aload_n 0, 1) := by decide +kernel
theorem d_rd_readAll_27 : decode b_rd_readAll 27 = .ok (.getfield 32, 3) := by decide +kernel
theorem d_rd_readAll_30 : decode b_rd_readAll 30 = .ok (.iconst (-1), 1) := by decide +kernel
theorem d_rd_readAll_31 : decode b_rd_readAll 31 = .ok (.if_icmp .eq (43), 3) := by decide +kernel
theorem d_rd_readAll_34 : decode b_rd_readAll 34 = .ok (.aload_n 0, 1) := by decide +kernel
theorem d_rd_readAll_35 : decode b_rd_readAll 35 = .ok (.invokevirtual 35, 3) := by decide +kernel
theorem d_rd_readAll_38 : decode b_rd_readAll 38 = .ok (.aload_n 0, 1) := by decide +kernel
theorem d_rd_readAll_39 : decode b_rd_readAll 39 = .ok (.getfield 15, 3) := by decide +kernel
theorem d_rd_readAll_42 : decode b_rd_readAll 42 = .ok (.iload_n 1, 1) := by decide +kernel
theorem d_rd_readAll_43 : decode b_rd_readAll 43 = .ok (.aload_n 0, 1) := by decide +kernel
theorem d_rd_readAll_44 : decode b_rd_readAll 44 = .ok (.getfield 32, 3) := by decide +kernel
theorem d_rd_readAll_47 : decode b_rd_readAll 47 = .ok (.iastore, 1) := by decide +kernel
theorem d_rd_readAll_48 : decode b_rd_readAll 48 = .ok (.aload_n 0, 1) := by decide +kernel
theorem d_rd_readAll_49 : decode b_rd_readAll 49 = .ok (.getfield 19, 3) := by decide +kernel
theorem d_rd_readAll_52 : decode b_rd_readAll 52 = .ok (.iload_n 1, 1) := by decide +kernel
theorem d_rd_readAll_53 : decode b_rd_readAll 53 = .ok (.aload_n 0, 1) := by decide +kernel
theorem d_rd_readAll_54 : decode b_rd_readAll 54 = .ok (.getfield 38, 3) := by decide +kernel
theorem d_rd_readAll_57 : decode b_rd_readAll 57 = .ok (.iastore, 1) := by decide +kernel
theorem d_rd_readAll_58 : decode b_rd_readAll 58 = .ok (.aload_n 0, 1) := by decide +kernel
theorem d_rd_readAll_59 : decode b_rd_readAll 59 = .ok (.getfield 22, 3) := by decide +kernel
theorem d_rd_readAll_62 : decode b_rd_readAll 62 = .ok (.iload_n 1, 1) := by decide +kernel
theorem d_rd_readAll_63 : decode b_rd_readAll 63 = .ok (.aload_n 0, 1) := by decide +kernel
theorem d_rd_readAll_64 : decode b_rd_readAll 64 = .ok (.getfield 41, 3) := by decide +kernel
theorem d_rd_readAll_67 : decode b_rd_readAll 67 = .ok (.iastore, 1) := by decide +kernel
theorem d_rd_readAll_68 : decode b_rd_readAll 68 = .ok (.iinc 1 (1), 3) := by decide +kernel
theorem d_rd_readAll_71 : decode b_rd_readAll 71 = .ok (.goto (-59), 3) := by decide +kernel
theorem d_rd_readAll_74 : decode b_rd_readAll 74 = .ok (.return_, 1) := by decide +kernel
theorem kb_rd_readAll {a0 : Nat}  {w : WW} {r : WW} (h : f_rd_readAll a0 w = some r) : kb w a0 1 = true := (its h).1
set_option maxHeartbeats 4000000 in
set_option maxRecDepth 100000 in
theorem j_rd_readAll_74 {p : Program} {l : Launch} {e : Env} {s : State} {m : MethodId} {args : Array Value} {below : List Frame} {meth : Method} {c : Code} {D : va_G} {cA : Nat → ClassId} {base : Nat} {w' : WW} (C : cx b_rd_readAll (none) 2 y_rd_readAll.cls "readAll" p s m args meth c D cA base)   : ∀  (w : WW), f_rd_readAll_74  w = some w' → ∀ (H : Heap) (locs : List Loc) (ls : Array Slot), wo_S D cls cA base s w H locs → lv_has ls 2 [] → W p l e rm_rd_readAll s m args below meth c H locs 0 0 (MQ below (wo_Q D cls cA base none w') args s rm_rd_readAll.cells rm_rd_readAll.slots (wo_B base)) (F0 m 74 ls []) := by
  obtain ⟨hx, hb, hr, hml, hown, hts, hlk, hnm, hK, hG⟩ := id C
  intro  w h H locs ls hW hl
  unfold f_rd_readAll_74 at h
  cases h
  exact wo_vret hx hb hr hlk hW d_rd_readAll_74
set_option maxHeartbeats 4000000 in
set_option maxRecDepth 100000 in
theorem j_rd_readAll_12 {p : Program} {l : Launch} {e : Env} {s : State} {m : MethodId} {args : Array Value} {below : List Frame} {meth : Method} {c : Code} {D : va_G} {cA : Nat → ClassId} {base : Nat} {w' : WW} (C : cx b_rd_readAll (none) 2 y_rd_readAll.cls "readAll" p s m args meth c D cA base)   : ∀ n : Nat, ∀ (y0 : Nat) (y1 : Int32) (w : WW), f_rd_readAll_12 n y0 y1 w = some w' → ∀ (H : Heap) (locs : List Loc) (ls : Array Slot), wo_S D cls cA base s w H locs → lv_has ls 2 [(0, .ref (base + y0)), (1, .int y1)] → W p l e rm_rd_readAll s m args below meth c H locs 0 0 (MQ below (wo_Q D cls cA base none w') args s rm_rd_readAll.cells rm_rd_readAll.slots (wo_B base)) (F0 m 12 ls []) := by
  obtain ⟨hx, hb, hr, hml, hown, hts, hlk, hnm, hK, hG⟩ := id C
  intro n
  induction n with
  | zero => intro y0 y1 w h; cases h
  | succ n ih =>
    intro y0 y1 w h H locs ls hW hl
    rw [f_rd_readAll_12] at h
    refine lv_iload_n hx hb d_rd_readAll_12 rfl (lv_at hl 1 rfl) ?_
    refine lv_sipush (v := (200 : Int32)) hx hb d_rd_readAll_13 (by decide) ?_
    refine lv_icmp_gt (tgt := 74) hx hb d_rd_readAll_16 (by decide) (fun c3 => ?_) (fun c3 => ?_)
    · rw [if_pos c3] at h
      exact j_rd_readAll_74 C w h _ _ _ hW (lv_sub hl [] rfl)
    · rw [if_neg c3] at h
      refine lv_aload_n hx hb d_rd_readAll_19 rfl (lv_at hl 0 rfl) ?_
      replace h := bs h
      obtain ⟨x4, hx4, h⟩ := h
      refine gf_rd_32 hx hb hts hown hK hG hW (gI_s hx4) d_rd_readAll_20 ?_
      refine lv_if_eq (tgt := 74) hx hb d_rd_readAll_23 (by decide) (fun c5 => ?_) (fun c5 => ?_)
      · rw [if_pos c5] at h
        exact j_rd_readAll_74 C w h _ _ _ hW (lv_sub hl [] rfl)
      · rw [if_neg c5] at h
        refine lv_aload_n hx hb d_rd_readAll_26 rfl (lv_at hl 0 rfl) ?_
        replace h := bs h
        obtain ⟨x6, hx6, h⟩ := h
        refine gf_rd_32 hx hb hts hown hK hG hW (gI_s hx6) d_rd_readAll_27 ?_
        refine lv_iconst (v := (-1 : Int32)) hx hb d_rd_readAll_30 (by decide) ?_
        refine lv_icmp_eq (tgt := 74) hx hb d_rd_readAll_31 (by decide) (fun c7 => ?_) (fun c7 => ?_)
        · rw [if_pos c7] at h
          exact j_rd_readAll_74 C w h _ _ _ hW (lv_sub hl [] rfl)
        · rw [if_neg c7] at h
          refine lv_aload_n hx hb d_rd_readAll_34 rfl (lv_at hl 0 rfl) ?_
          replace h := bs h
          obtain ⟨w8, hw8, h⟩ := h
          refine cv_rd_35 (As := []) (rest := []) hx hb hml hown hts hK hG hW (c_rd_readToken l D cA base hw8) (kb_rd_readToken hw8) ⟨Nat.le_of_ble_eq_true rfl, Nat.le_of_ble_eq_true rfl⟩ ⟨Nat.le_of_ble_eq_true rfl, Nat.le_of_ble_eq_true rfl⟩ rfl hl.1 rfl (Nat.le_of_ble_eq_true rfl) d_rd_readAll_35 (fun H locs hW => ?_)
          refine lv_aload_n hx hb d_rd_readAll_38 rfl (lv_at hl 0 rfl) ?_
          replace h := bs h
          obtain ⟨x9, hx9, h⟩ := h
          refine gf_rd_15 hx hb hts hown hK hG hW (gN_s hx9) d_rd_readAll_39 ?_
          refine lv_iload_n hx hb d_rd_readAll_42 rfl (lv_at hl 1 rfl) ?_
          refine lv_aload_n hx hb d_rd_readAll_43 rfl (lv_at hl 0 rfl) ?_
          replace h := bs h
          obtain ⟨x10, hx10, h⟩ := h
          refine gf_rd_32 hx hb hts hown hK hG hW (gI_s hx10) d_rd_readAll_44 ?_
          replace h := bs h
          obtain ⟨w11, hw11, h⟩ := h
          refine wo_iast hx hb hK hW (t := 0) rfl hw11 d_rd_readAll_47 (fun H locs hW => ?_)
          refine lv_aload_n hx hb d_rd_readAll_48 rfl (lv_at hl 0 rfl) ?_
          replace h := bs h
          obtain ⟨x12, hx12, h⟩ := h
          refine gf_rd_19 hx hb hts hown hK hG hW (gN_s hx12) d_rd_readAll_49 ?_
          refine lv_iload_n hx hb d_rd_readAll_52 rfl (lv_at hl 1 rfl) ?_
          refine lv_aload_n hx hb d_rd_readAll_53 rfl (lv_at hl 0 rfl) ?_
          replace h := bs h
          obtain ⟨x13, hx13, h⟩ := h
          refine gf_rd_38 hx hb hts hown hK hG hW (gI_s hx13) d_rd_readAll_54 ?_
          replace h := bs h
          obtain ⟨w14, hw14, h⟩ := h
          refine wo_iast hx hb hK hW (t := 0) rfl hw14 d_rd_readAll_57 (fun H locs hW => ?_)
          refine lv_aload_n hx hb d_rd_readAll_58 rfl (lv_at hl 0 rfl) ?_
          replace h := bs h
          obtain ⟨x15, hx15, h⟩ := h
          refine gf_rd_22 hx hb hts hown hK hG hW (gN_s hx15) d_rd_readAll_59 ?_
          refine lv_iload_n hx hb d_rd_readAll_62 rfl (lv_at hl 1 rfl) ?_
          refine lv_aload_n hx hb d_rd_readAll_63 rfl (lv_at hl 0 rfl) ?_
          replace h := bs h
          obtain ⟨x16, hx16, h⟩ := h
          refine gf_rd_41 hx hb hts hown hK hG hW (gI_s hx16) d_rd_readAll_64 ?_
          replace h := bs h
          obtain ⟨w17, hw17, h⟩ := h
          refine wo_iast hx hb hK hW (t := 0) rfl hw17 d_rd_readAll_67 (fun H locs hW => ?_)
          refine lv_iinc (v := (y1 + (1 : Int32))) (lv' := [(1, .int (y1 + (1 : Int32))), (0, .ref (base + y0))]) hx hb d_rd_readAll_68 hl (k := 1) rfl rfl (by decide) rfl (fun ls hl => ?_)
          refine lv_goto (tgt := 12) hx hb d_rd_readAll_71 (by decide) ?_
          exact ih y0 (y1 + (1 : Int32)) w17 h _ _ _ hW (lv_sub hl [1, 0] rfl)
set_option maxHeartbeats 4000000 in
set_option maxRecDepth 100000 in
theorem c_rd_readAll (l : Launch) (D : va_G) (cA : Nat → ClassId) (base : Nat) {a0 : Nat} {w w' : WW} (h : f_rd_readAll a0 w = some w') : mt l D cls (wo_tys cA) cA base y_rd_readAll (Cond.code y_rd_readAll b_rd_readAll 2 (none) :: gt) rm_rd_readAll [.ref (base + a0)] w none w' rm_rd_readAll.cells rm_rd_readAll.slots := by
  refine mt_start (by decide) (Nat.le_of_ble_eq_true rfl) ?_
  intro p e s m below meth c ls hx hb hr hml hown hts hlk hnm hK hG hW hl
  have C : cx b_rd_readAll (none) 2 y_rd_readAll.cls "readAll" p s m [.ref (base + a0)].toArray meth c D cA base := ⟨hx, hb, hr, hml, hown, hts, hlk, hnm, hK, hG⟩
  have hl : lv_has ls 2 [(0, .ref (base + a0))] := hl
  unfold f_rd_readAll at h
  replace h := its h
  obtain ⟨-, h⟩ := h
  refine lv_aload_n hx hb d_rd_readAll_0 rfl (lv_at hl 0 rfl) ?_
  refine lv_iconst (v := (0 : Int32)) hx hb d_rd_readAll_1 (by decide) ?_
  replace h := bs h
  obtain ⟨w1, hw1, h⟩ := h
  refine pf_rd_29 hx hb hts hown hK hG hW rfl rfl (pbi hw1 rfl) d_rd_readAll_2 (fun H locs hW => ?_)
  refine lv_aload_n hx hb d_rd_readAll_5 rfl (lv_at hl 0 rfl) ?_
  refine lv_iconst (v := (1 : Int32)) hx hb d_rd_readAll_6 (by decide) ?_
  replace h := bs h
  obtain ⟨w2, hw2, h⟩ := h
  refine pf_rd_32 hx hb hts hown hK hG hW rfl rfl (pbi hw2 rfl) d_rd_readAll_7 (fun H locs hW => ?_)
  refine lv_iconst (v := (0 : Int32)) hx hb d_rd_readAll_10 (by decide) ?_
  refine lv_istore_n (lv' := [(1, .int (0 : Int32)), (0, .ref (base + a0))]) hx hb d_rd_readAll_11 rfl hl (by decide) rfl (fun ls hl => ?_)
  exact j_rd_readAll_12 C KK a0 (0 : Int32) w2 h _ _ _ hW (lv_sub hl [1, 0] rfl)
abbrev b_pa_kindHere : ByteArray := prog_3_method_3_code
def y_pa_kindHere : MethodName := ⟨"AlarmForge$Parser", "kindHere", "()I"⟩
def rm_pa_kindHere : Room := { frames := 0, cells := 0, slots := 0, locals := 0 }
theorem d_pa_kindHere_0 : decode b_pa_kindHere 0 = .ok (.aload_n 0, 1) := by decide +kernel
theorem d_pa_kindHere_1 : decode b_pa_kindHere 1 = .ok (.getfield 12, 3) := by decide +kernel
theorem d_pa_kindHere_4 : decode b_pa_kindHere 4 = .ok (.getfield 45, 3) := by decide +kernel
theorem d_pa_kindHere_7 : decode b_pa_kindHere 7 = .ok (.aload_n 0, 1) := by decide +kernel
theorem d_pa_kindHere_8 : decode b_pa_kindHere 8 = .ok (.getfield 34, 3) := by decide +kernel
theorem d_pa_kindHere_11 : decode b_pa_kindHere 11 = .ok (.iaload, 1) := by decide +kernel
theorem d_pa_kindHere_12 : decode b_pa_kindHere 12 = .ok (.ireturn, 1) := by decide +kernel
theorem kb_pa_kindHere {a0 : Nat}  {w : WW} {r : (Int32 × WW)} (h : f_pa_kindHere a0 w = some r) : kb w a0 2 = true := (its h).1
set_option maxHeartbeats 4000000 in
set_option maxRecDepth 100000 in
theorem c_pa_kindHere (l : Launch) (D : va_G) (cA : Nat → ClassId) (base : Nat) {a0 : Nat} {w w' : WW} {r : Int32} (h : f_pa_kindHere a0 w = some (r, w')) : mt l D cls (wo_tys cA) cA base y_pa_kindHere (Cond.code y_pa_kindHere b_pa_kindHere 1 (some .int) :: gt) rm_pa_kindHere [.ref (base + a0)] w (some (.int r)) w' rm_pa_kindHere.cells rm_pa_kindHere.slots := by
  refine mt_start (by decide) (Nat.le_of_ble_eq_true rfl) ?_
  intro p e s m below meth c ls hx hb hr hml hown hts hlk hnm hK hG hW hl
  have C : cx b_pa_kindHere (some .int) 1 y_pa_kindHere.cls "kindHere" p s m [.ref (base + a0)].toArray meth c D cA base := ⟨hx, hb, hr, hml, hown, hts, hlk, hnm, hK, hG⟩
  have hl : lv_has ls 1 [(0, .ref (base + a0))] := hl
  unfold f_pa_kindHere at h
  replace h := its h
  obtain ⟨-, h⟩ := h
  refine lv_aload_n hx hb d_pa_kindHere_0 rfl (lv_at hl 0 rfl) ?_
  replace h := bs h
  obtain ⟨x1, hx1, h⟩ := h
  refine gf_pa_12 hx hb hts hown hK hG hW (gN_s hx1) d_pa_kindHere_1 ?_
  replace h := bs h
  obtain ⟨x2, hx2, h⟩ := h
  refine gf_pa_45 hx hb hts hown hK hG hW (gN_s hx2) d_pa_kindHere_4 ?_
  refine lv_aload_n hx hb d_pa_kindHere_7 rfl (lv_at hl 0 rfl) ?_
  replace h := bs h
  obtain ⟨x3, hx3, h⟩ := h
  refine gf_pa_34 hx hb hts hown hK hG hW (gI_s hx3) d_pa_kindHere_8 ?_
  replace h := bs h
  obtain ⟨x4, hx4, h⟩ := h
  refine wo_iald hx hb hK hW (t := 0) rfl hx4 d_pa_kindHere_11 ?_
  cases h
  exact wo_iret hx hb hr hlk hW d_pa_kindHere_12
abbrev b_pa_beginsStatement : ByteArray := prog_3_method_9_code
def y_pa_beginsStatement : MethodName := ⟨"AlarmForge$Parser", "beginsStatement", "(I)Z"⟩
def rm_pa_beginsStatement : Room := { frames := 0, cells := 0, slots := 0, locals := 0 }
theorem d_pa_beginsStatement_0 : decode b_pa_beginsStatement 0 = .ok (.iload_n 0, 1) := by decide +kernel
theorem d_pa_beginsStatement_1 : decode b_pa_beginsStatement 1 = .ok (.iconst 2, 1) := by decide +kernel
theorem d_pa_beginsStatement_2 : decode b_pa_beginsStatement 2 = .ok (.if_icmp .eq (25), 3) := by decide +kernel
theorem d_pa_beginsStatement_5 : decode b_pa_beginsStatement 5 = .ok (.iload_n 0, 1) := by decide +kernel
theorem d_pa_beginsStatement_6 : decode b_pa_beginsStatement 6 = .ok (.iconst 3, 1) := by decide +kernel
theorem d_pa_beginsStatement_7 : decode b_pa_beginsStatement 7 = .ok (.if_icmp .eq (20), 3) := by decide +kernel
theorem d_pa_beginsStatement_10 : decode b_pa_beginsStatement 10 = .ok (.iload_n 0, 1) := by decide +kernel
theorem d_pa_beginsStatement_11 : decode b_pa_beginsStatement 11 = .ok (.iconst 4, 1) := by decide +kernel
theorem d_pa_beginsStatement_12 : decode b_pa_beginsStatement 12 = .ok (.if_icmp .eq (15), 3) := by decide +kernel
theorem d_pa_beginsStatement_15 : decode b_pa_beginsStatement 15 = .ok (.iload_n 0, 1) := by decide +kernel
theorem d_pa_beginsStatement_16 : decode b_pa_beginsStatement 16 = .ok (.bipush (6), 2) := by decide +kernel
theorem d_pa_beginsStatement_18 : decode b_pa_beginsStatement 18 = .ok (.if_icmp .eq (9), 3) := by decide +kernel
theorem d_pa_beginsStatement_21 : decode b_pa_beginsStatement 21 = .ok (.iload_n 0, 1) := by decide +kernel
theorem d_pa_beginsStatement_22 : decode b_pa_beginsStatement 22 = .ok (.bipush (7), 2) := by decide +kernel
theorem d_pa_beginsStatement_24 : decode b_pa_beginsStatement 24 = .ok (.if_icmp .ne (7), 3) := by decide +kernel
theorem d_pa_beginsStatement_27 : decode b_pa_beginsStatement 27 = .ok (.iconst 1, 1) := by decide +kernel
theorem d_pa_beginsStatement_28 : decode b_pa_beginsStatement 28 = .ok (.goto (4), 3) := by decide +kernel
theorem d_pa_beginsStatement_31 : decode b_pa_beginsStatement 31 = .ok (.iconst 0, 1) := by decide +kernel
theorem d_pa_beginsStatement_32 : decode b_pa_beginsStatement 32 = .ok (.ireturn, 1) := by decide +kernel
set_option maxHeartbeats 4000000 in
set_option maxRecDepth 100000 in
theorem j_pa_beginsStatement_32 {p : Program} {l : Launch} {e : Env} {s : State} {m : MethodId} {args : Array Value} {below : List Frame} {meth : Method} {c : Code} {D : va_G} {cA : Nat → ClassId} {base : Nat} {r : Int32} {w' : WW} (C : cx b_pa_beginsStatement (some .boolean) 1 y_pa_beginsStatement.cls "beginsStatement" p s m args meth c D cA base)   : ∀ (z0 : Int32) (w : WW), f_pa_beginsStatement_32 z0 w = some (r, w') → ∀ (H : Heap) (locs : List Loc) (ls : Array Slot), wo_S D cls cA base s w H locs → lv_has ls 1 [] → W p l e rm_pa_beginsStatement s m args below meth c H locs 0 0 (MQ below (wo_Q D cls cA base (some (.int r)) w') args s rm_pa_beginsStatement.cells rm_pa_beginsStatement.slots (wo_B base)) (F0 m 32 ls [.int z0]) := by
  obtain ⟨hx, hb, hr, hml, hown, hts, hlk, hnm, hK, hG⟩ := id C
  intro z0 w h H locs ls hW hl
  unfold f_pa_beginsStatement_32 at h
  replace h := its h
  obtain ⟨c2, h⟩ := h
  cases h
  exact wo_zret hx hb hr hlk hW c2 d_pa_beginsStatement_32
set_option maxHeartbeats 4000000 in
set_option maxRecDepth 100000 in
theorem j_pa_beginsStatement_27 {p : Program} {l : Launch} {e : Env} {s : State} {m : MethodId} {args : Array Value} {below : List Frame} {meth : Method} {c : Code} {D : va_G} {cA : Nat → ClassId} {base : Nat} {r : Int32} {w' : WW} (C : cx b_pa_beginsStatement (some .boolean) 1 y_pa_beginsStatement.cls "beginsStatement" p s m args meth c D cA base)   : ∀  (w : WW), f_pa_beginsStatement_27  w = some (r, w') → ∀ (H : Heap) (locs : List Loc) (ls : Array Slot), wo_S D cls cA base s w H locs → lv_has ls 1 [] → W p l e rm_pa_beginsStatement s m args below meth c H locs 0 0 (MQ below (wo_Q D cls cA base (some (.int r)) w') args s rm_pa_beginsStatement.cells rm_pa_beginsStatement.slots (wo_B base)) (F0 m 27 ls []) := by
  obtain ⟨hx, hb, hr, hml, hown, hts, hlk, hnm, hK, hG⟩ := id C
  intro  w h H locs ls hW hl
  unfold f_pa_beginsStatement_27 at h
  refine lv_iconst (v := (1 : Int32)) hx hb d_pa_beginsStatement_27 (by decide) ?_
  refine lv_goto (tgt := 32) hx hb d_pa_beginsStatement_28 (by decide) ?_
  exact j_pa_beginsStatement_32 C (1 : Int32) w h _ _ _ hW (lv_sub hl [] rfl)
set_option maxHeartbeats 4000000 in
set_option maxRecDepth 100000 in
theorem c_pa_beginsStatement (l : Launch) (D : va_G) (cA : Nat → ClassId) (base : Nat) {a0 : Int32} {w w' : WW} {r : Int32} (h : f_pa_beginsStatement a0 w = some (r, w')) : mt l D cls (wo_tys cA) cA base y_pa_beginsStatement (Cond.code y_pa_beginsStatement b_pa_beginsStatement 1 (some .boolean) :: gt) rm_pa_beginsStatement [.int a0] w (some (.int r)) w' rm_pa_beginsStatement.cells rm_pa_beginsStatement.slots := by
  refine mt_start (by decide) (Nat.le_of_ble_eq_true rfl) ?_
  intro p e s m below meth c ls hx hb hr hml hown hts hlk hnm hK hG hW hl
  have C : cx b_pa_beginsStatement (some .boolean) 1 y_pa_beginsStatement.cls "beginsStatement" p s m [.int a0].toArray meth c D cA base := ⟨hx, hb, hr, hml, hown, hts, hlk, hnm, hK, hG⟩
  have hl : lv_has ls 1 [(0, .int a0)] := hl
  unfold f_pa_beginsStatement at h
  refine lv_iload_n hx hb d_pa_beginsStatement_0 rfl (lv_at hl 0 rfl) ?_
  refine lv_iconst (v := (2 : Int32)) hx hb d_pa_beginsStatement_1 (by decide) ?_
  refine lv_icmp_eq (tgt := 27) hx hb d_pa_beginsStatement_2 (by decide) (fun c1 => ?_) (fun c1 => ?_)
  · rw [if_pos c1] at h
    exact j_pa_beginsStatement_27 C w h _ _ _ hW (lv_sub hl [] rfl)
  · rw [if_neg c1] at h
    refine lv_iload_n hx hb d_pa_beginsStatement_5 rfl (lv_at hl 0 rfl) ?_
    refine lv_iconst (v := (3 : Int32)) hx hb d_pa_beginsStatement_6 (by decide) ?_
    refine lv_icmp_eq (tgt := 27) hx hb d_pa_beginsStatement_7 (by decide) (fun c3 => ?_) (fun c3 => ?_)
    · rw [if_pos c3] at h
      exact j_pa_beginsStatement_27 C w h _ _ _ hW (lv_sub hl [] rfl)
    · rw [if_neg c3] at h
      refine lv_iload_n hx hb d_pa_beginsStatement_10 rfl (lv_at hl 0 rfl) ?_
      refine lv_iconst (v := (4 : Int32)) hx hb d_pa_beginsStatement_11 (by decide) ?_
      refine lv_icmp_eq (tgt := 27) hx hb d_pa_beginsStatement_12 (by decide) (fun c4 => ?_) (fun c4 => ?_)
      · rw [if_pos c4] at h
        exact j_pa_beginsStatement_27 C w h _ _ _ hW (lv_sub hl [] rfl)
      · rw [if_neg c4] at h
        refine lv_iload_n hx hb d_pa_beginsStatement_15 rfl (lv_at hl 0 rfl) ?_
        refine lv_bipush (v := (6 : Int32)) hx hb d_pa_beginsStatement_16 (by decide) ?_
        refine lv_icmp_eq (tgt := 27) hx hb d_pa_beginsStatement_18 (by decide) (fun c5 => ?_) (fun c5 => ?_)
        · rw [if_pos c5] at h
          exact j_pa_beginsStatement_27 C w h _ _ _ hW (lv_sub hl [] rfl)
        · rw [if_neg c5] at h
          refine lv_iload_n hx hb d_pa_beginsStatement_21 rfl (lv_at hl 0 rfl) ?_
          refine lv_bipush (v := (7 : Int32)) hx hb d_pa_beginsStatement_22 (by decide) ?_
          refine lv_icmp_ne (tgt := 31) hx hb d_pa_beginsStatement_24 (by decide) (fun c6 => ?_) (fun c6 => ?_)
          · rw [if_neg c6] at h
            refine lv_iconst (v := (0 : Int32)) hx hb d_pa_beginsStatement_31 (by decide) ?_
            exact j_pa_beginsStatement_32 C (0 : Int32) w h _ _ _ hW (lv_sub hl [] rfl)
          · rw [if_pos c6] at h
            exact j_pa_beginsStatement_27 C w h _ _ _ hW (lv_sub hl [] rfl)
abbrev b_pg_isFull : ByteArray := prog_4_method_3_code
def y_pg_isFull : MethodName := ⟨"AlarmForge$Program", "isFull", "()Z"⟩
def rm_pg_isFull : Room := { frames := 0, cells := 0, slots := 0, locals := 0 }
theorem d_pg_isFull_0 : decode b_pg_isFull 0 = .ok (.aload_n 0, 1) := by decide +kernel
theorem d_pg_isFull_1 : decode b_pg_isFull 1 = .ok (.getfield 28, 3) := by decide +kernel
theorem d_pg_isFull_4 : decode b_pg_isFull 4 = .ok (.bipush (50), 2) := by decide +kernel
theorem d_pg_isFull_6 : decode b_pg_isFull 6 = .ok (.if_icmp .lt (7), 3) := by decide +kernel
theorem d_pg_isFull_9 : decode b_pg_isFull 9 = .ok (.iconst 1, 1) := by decide +kernel
theorem d_pg_isFull_10 : decode b_pg_isFull 10 = .ok (.goto (4), 3) := by decide +kernel
theorem d_pg_isFull_13 : decode b_pg_isFull 13 = .ok (.iconst 0, 1) := by decide +kernel
theorem d_pg_isFull_14 : decode b_pg_isFull 14 = .ok (.ireturn, 1) := by decide +kernel
theorem kb_pg_isFull {a0 : Nat}  {w : WW} {r : (Int32 × WW)} (h : f_pg_isFull a0 w = some r) : kb w a0 3 = true := (its h).1
set_option maxHeartbeats 4000000 in
set_option maxRecDepth 100000 in
theorem j_pg_isFull_14 {p : Program} {l : Launch} {e : Env} {s : State} {m : MethodId} {args : Array Value} {below : List Frame} {meth : Method} {c : Code} {D : va_G} {cA : Nat → ClassId} {base : Nat} {r : Int32} {w' : WW} (C : cx b_pg_isFull (some .boolean) 1 y_pg_isFull.cls "isFull" p s m args meth c D cA base)   : ∀ (z0 : Int32) (w : WW), f_pg_isFull_14 z0 w = some (r, w') → ∀ (H : Heap) (locs : List Loc) (ls : Array Slot), wo_S D cls cA base s w H locs → lv_has ls 1 [] → W p l e rm_pg_isFull s m args below meth c H locs 0 0 (MQ below (wo_Q D cls cA base (some (.int r)) w') args s rm_pg_isFull.cells rm_pg_isFull.slots (wo_B base)) (F0 m 14 ls [.int z0]) := by
  obtain ⟨hx, hb, hr, hml, hown, hts, hlk, hnm, hK, hG⟩ := id C
  intro z0 w h H locs ls hW hl
  unfold f_pg_isFull_14 at h
  replace h := its h
  obtain ⟨c3, h⟩ := h
  cases h
  exact wo_zret hx hb hr hlk hW c3 d_pg_isFull_14
set_option maxHeartbeats 4000000 in
set_option maxRecDepth 100000 in
theorem c_pg_isFull (l : Launch) (D : va_G) (cA : Nat → ClassId) (base : Nat) {a0 : Nat} {w w' : WW} {r : Int32} (h : f_pg_isFull a0 w = some (r, w')) : mt l D cls (wo_tys cA) cA base y_pg_isFull (Cond.code y_pg_isFull b_pg_isFull 1 (some .boolean) :: gt) rm_pg_isFull [.ref (base + a0)] w (some (.int r)) w' rm_pg_isFull.cells rm_pg_isFull.slots := by
  refine mt_start (by decide) (Nat.le_of_ble_eq_true rfl) ?_
  intro p e s m below meth c ls hx hb hr hml hown hts hlk hnm hK hG hW hl
  have C : cx b_pg_isFull (some .boolean) 1 y_pg_isFull.cls "isFull" p s m [.ref (base + a0)].toArray meth c D cA base := ⟨hx, hb, hr, hml, hown, hts, hlk, hnm, hK, hG⟩
  have hl : lv_has ls 1 [(0, .ref (base + a0))] := hl
  unfold f_pg_isFull at h
  replace h := its h
  obtain ⟨-, h⟩ := h
  refine lv_aload_n hx hb d_pg_isFull_0 rfl (lv_at hl 0 rfl) ?_
  replace h := bs h
  obtain ⟨x1, hx1, h⟩ := h
  refine gf_pg_28 hx hb hts hown hK hG hW (gI_s hx1) d_pg_isFull_1 ?_
  refine lv_bipush (v := (50 : Int32)) hx hb d_pg_isFull_4 (by decide) ?_
  refine lv_icmp_lt (tgt := 13) hx hb d_pg_isFull_6 (by decide) (fun c2 => ?_) (fun c2 => ?_)
  · rw [if_pos c2] at h
    refine lv_iconst (v := (0 : Int32)) hx hb d_pg_isFull_13 (by decide) ?_
    exact j_pg_isFull_14 C (0 : Int32) w h _ _ _ hW (lv_sub hl [] rfl)
  · rw [if_neg c2] at h
    refine lv_iconst (v := (1 : Int32)) hx hb d_pg_isFull_9 (by decide) ?_
    refine lv_goto (tgt := 14) hx hb d_pg_isFull_10 (by decide) ?_
    exact j_pg_isFull_14 C (1 : Int32) w h _ _ _ hW (lv_sub hl [] rfl)
abbrev b_pa_need : ByteArray := prog_3_method_4_code
def y_pa_need : MethodName := ⟨"AlarmForge$Parser", "need", "(Z)V"⟩
def rm_pa_need : Room := { frames := 6, cells := 0, slots := 0, locals := 100 }
def rx_pa_need : Room := { frames := 6, cells := 1, slots := 6, locals := 100 }
theorem ow_pa_54 : (Bundle.ownAtoms0 "AlarmForge$Parser" 54 "java/lang/IllegalArgumentException" ["java/lang/RuntimeException", "java/lang/Exception"]).all ow_ok = true := by decide +kernel
theorem d_pa_need_0 : decode b_pa_need 0 = .ok (.iload_n 1, 1) := by decide +kernel
theorem d_pa_need_1 : decode b_pa_need 1 = .ok (.ifCond .ne (27), 3) := by decide +kernel
theorem d_pa_need_4 : decode b_pa_need 4 = .ok (.aload_n 0, 1) := by decide +kernel
theorem d_pa_need_5 : decode b_pa_need 5 = .ok (.aload_n 0, 1) := by decide +kernel
theorem d_pa_need_6 : decode b_pa_need 6 = .ok (.getfield 12, 3) := by decide +kernel
theorem d_pa_need_9 : decode b_pa_need 9 = .ok (.getfield 49, 3) := by decide +kernel
theorem d_pa_need_12 : decode b_pa_need 12 = .ok (.aload_n 0, 1) := by decide +kernel
theorem d_pa_need_13 : decode b_pa_need 13 = .ok (.getfield 34, 3) := by decide +kernel
theorem d_pa_need_16 : decode b_pa_need 16 = .ok (.iaload, 1) := by decide +kernel
theorem d_pa_need_17 : decode b_pa_need 17 = .ok (.putfield 18, 3) := by decide +kernel
theorem d_pa_need_20 : decode b_pa_need 20 = .ok (.new 52, 3) := by decide +kernel
theorem d_pa_need_23 : decode b_pa_need 23 = .ok (.dup, 1) := by decide +kernel
theorem d_pa_need_24 : decode b_pa_need 24 = .ok (.invokespecial 54, 3) := by decide +kernel
theorem d_pa_need_27 : decode b_pa_need 27 = .ok (.athrow, 1) := by decide +kernel
theorem d_pa_need_28 : decode b_pa_need 28 = .ok (.return_, 1) := by decide +kernel
theorem kb_pa_need {a0 : Nat} {a1 : Int32} {w : WW} {r : ((Unit ⊕ String) × WW)} (h : f_pa_need a0 a1 w = some r) : kb w a0 2 = true := (its h).1
set_option maxHeartbeats 4000000 in
set_option maxRecDepth 100000 in
theorem c_pa_need (l : Launch) (D : va_G) (cA : Nat → ClassId) (base : Nat) {a0 : Nat} {a1 : Int32} {w w' : WW} (h : f_pa_need a0 a1 w = some (.inl (), w')) : mt l D cls (wo_tys cA) cA base y_pa_need (Cond.code y_pa_need b_pa_need 2 (none) :: gt) rm_pa_need [.ref (base + a0), .int a1] w none w' rm_pa_need.cells rm_pa_need.slots := by
  refine mt_start (by decide) (Nat.le_of_ble_eq_true rfl) ?_
  intro p e s m below meth c ls hx hb hr hml hown hts hlk hnm hK hG hW hl
  have C : cx b_pa_need (none) 2 y_pa_need.cls "need" p s m [.ref (base + a0), .int a1].toArray meth c D cA base := ⟨hx, hb, hr, hml, hown, hts, hlk, hnm, hK, hG⟩
  have hl : lv_has ls 2 [(0, .ref (base + a0)), (1, .int a1)] := hl
  unfold f_pa_need at h
  replace h := its h
  obtain ⟨-, h⟩ := h
  refine lv_iload_n hx hb d_pa_need_0 rfl (lv_at hl 1 rfl) ?_
  refine lv_if_ne (tgt := 28) hx hb d_pa_need_1 (by decide) (fun c1 => ?_) (fun c1 => ?_)
  · rw [if_neg c1] at h
    cases h
    exact wo_vret hx hb hr hlk hW d_pa_need_28
  · rw [if_pos c1] at h
    refine lv_aload_n hx hb d_pa_need_4 rfl (lv_at hl 0 rfl) ?_
    refine lv_aload_n hx hb d_pa_need_5 rfl (lv_at hl 0 rfl) ?_
    replace h := bs h
    obtain ⟨x2, hx2, h⟩ := h
    refine gf_pa_12 hx hb hts hown hK hG hW (gN_s hx2) d_pa_need_6 ?_
    replace h := bs h
    obtain ⟨x3, hx3, h⟩ := h
    refine gf_pa_49 hx hb hts hown hK hG hW (gN_s hx3) d_pa_need_9 ?_
    refine lv_aload_n hx hb d_pa_need_12 rfl (lv_at hl 0 rfl) ?_
    replace h := bs h
    obtain ⟨x4, hx4, h⟩ := h
    refine gf_pa_34 hx hb hts hown hK hG hW (gI_s hx4) d_pa_need_13 ?_
    replace h := bs h
    obtain ⟨x5, hx5, h⟩ := h
    refine wo_iald hx hb hK hW (t := 0) rfl hx5 d_pa_need_16 ?_
    replace h := bs h
    obtain ⟨w6, hw6, h⟩ := h
    refine pf_pa_18 hx hb hts hown hK hG hW rfl rfl (pbi hw6 rfl) d_pa_need_17 (fun H locs hW => ?_)
    cases h
set_option maxHeartbeats 4000000 in
set_option maxRecDepth 100000 in
theorem x_pa_need (l : Launch) (hst : l.stackTraces = false) (D : va_G) (cA : Nat → ClassId) (base : Nat) {a0 : Nat} {a1 : Int32} {w w' : WW} {E : String} (h : f_pa_need a0 a1 w = some (.inr E, w')) : xt l D cls (wo_tys cA) cA base y_pa_need (Cond.code y_pa_need b_pa_need 2 (none) :: gt) rx_pa_need [.ref (base + a0), .int a1] w E w' rx_pa_need.cells rx_pa_need.slots := by
  refine xt_start (by decide) (Nat.le_of_ble_eq_true rfl) ?_
  intro p e s m below meth c ls hx hb hr hml hown hts hlk hnm hK hG hW hl hnt
  have C : cx b_pa_need (none) 2 y_pa_need.cls "need" p s m [.ref (base + a0), .int a1].toArray meth c D cA base ∧ (∀ x ∈ c.exceptionTable.toList, ∀ k : Nat, covers x k = false) ∧ l.stackTraces = false := ⟨⟨hx, hb, hr, hml, hown, hts, hlk, hnm, hK, hG⟩, hnt, hst⟩
  have hl : lv_has ls 2 [(0, .ref (base + a0)), (1, .int a1)] := hl
  unfold f_pa_need at h
  replace h := its h
  obtain ⟨-, h⟩ := h
  refine lv_iload_n hx hb d_pa_need_0 rfl (lv_at hl 1 rfl) ?_
  refine lv_if_ne (tgt := 28) hx hb d_pa_need_1 (by decide) (fun c1 => ?_) (fun c1 => ?_)
  · rw [if_neg c1] at h
    cases h
  · rw [if_pos c1] at h
    refine lv_aload_n hx hb d_pa_need_4 rfl (lv_at hl 0 rfl) ?_
    refine lv_aload_n hx hb d_pa_need_5 rfl (lv_at hl 0 rfl) ?_
    replace h := bs h
    obtain ⟨x2, hx2, h⟩ := h
    refine gf_pa_12 hx hb hts hown hK hG hW (gN_s hx2) d_pa_need_6 ?_
    replace h := bs h
    obtain ⟨x3, hx3, h⟩ := h
    refine gf_pa_49 hx hb hts hown hK hG hW (gN_s hx3) d_pa_need_9 ?_
    refine lv_aload_n hx hb d_pa_need_12 rfl (lv_at hl 0 rfl) ?_
    replace h := bs h
    obtain ⟨x4, hx4, h⟩ := h
    refine gf_pa_34 hx hb hts hown hK hG hW (gI_s hx4) d_pa_need_13 ?_
    replace h := bs h
    obtain ⟨x5, hx5, h⟩ := h
    refine wo_iald hx hb hK hW (t := 0) rfl hx5 d_pa_need_16 ?_
    replace h := bs h
    obtain ⟨w6, hw6, h⟩ := h
    refine pf_pa_18 hx hb hts hown hK hG hW rfl rfl (pbi hw6 rfl) d_pa_need_17 (fun H locs hW => ?_)
    cases h
    exact wo_throw (names := ["java/lang/RuntimeException", "java/lang/Exception"]) hx hb hst hown hts hG hW hnt hlk (by decide) (by decide) (gt_of (i := 664) (by decide +kernel) (by decide +kernel)) (gt_of (i := 14) (by decide +kernel) (by decide +kernel)) ow_pa_54 (hl.1.trans hml.symm) d_pa_need_20 d_pa_need_23 d_pa_need_24 d_pa_need_27 (Nat.le_of_ble_eq_true rfl) (Nat.le_of_ble_eq_true rfl) (Nat.le_of_ble_eq_true rfl) (Nat.le_of_ble_eq_true rfl) (Nat.le_of_ble_eq_true rfl) (Nat.le_of_ble_eq_true rfl)
abbrev b_pg_newStatement : ByteArray := prog_4_method_4_code
def y_pg_newStatement : MethodName := ⟨"AlarmForge$Program", "newStatement", "()LAlarmForge$Statement;"⟩
def rm_pg_newStatement : Room := { frames := 0, cells := 0, slots := 0, locals := 0 }
theorem d_pg_newStatement_0 : decode b_pg_newStatement 0 = .ok (.aload_n 0, 1) := by decide +kernel
theorem d_pg_newStatement_1 : decode b_pg_newStatement 1 = .ok (.getfield 11, 3) := by decide +kernel
theorem d_pg_newStatement_4 : decode b_pg_newStatement 4 = .ok (.aload_n 0, 1) := by decide +kernel
theorem d_pg_newStatement_5 : decode b_pg_newStatement 5 = .ok (.getfield 28, 3) := by decide +kernel
theorem d_pg_newStatement_8 : decode b_pg_newStatement 8 = .ok (.aaload, 1) := by decide +kernel
theorem d_pg_newStatement_9 : decode b_pg_newStatement 9 = .ok (.astore_n 1, 1) := by decide +kernel
theorem d_pg_newStatement_10 : decode b_pg_newStatement 10 = .ok (.aload_n 0, 1) := by decide +kernel
theorem d_pg_newStatement_11 : decode b_pg_newStatement 11 = .ok (.dup, 1) := by decide +kernel
theorem d_pg_newStatement_12 : decode b_pg_newStatement 12 = .ok (.getfield 28, 3) := by decide +kernel
theorem d_pg_newStatement_15 : decode b_pg_newStatement 15 = .ok (.iconst 1, 1) := by decide +kernel
theorem d_pg_newStatement_16 : decode b_pg_newStatement 16 = .ok (.iadd, 1) := by decide +kernel
theorem d_pg_newStatement_17 : decode b_pg_newStatement 17 = .ok (.putfield 28, 3) := by decide +kernel
theorem d_pg_newStatement_20 : decode b_pg_newStatement 20 = .ok (.aload_n 1, 1) := by decide +kernel
theorem d_pg_newStatement_21 : decode b_pg_newStatement 21 = .ok (.areturn, 1) := by decide +kernel
theorem kb_pg_newStatement {a0 : Nat}  {w : WW} {r : (Option Nat × WW)} (h : f_pg_newStatement a0 w = some r) : kb w a0 3 = true := (its h).1
set_option maxHeartbeats 4000000 in
set_option maxRecDepth 100000 in
theorem c_pg_newStatement (l : Launch) (D : va_G) (cA : Nat → ClassId) (base : Nat) {a0 : Nat} {w w' : WW} {r : Option Nat} (h : f_pg_newStatement a0 w = some (r, w')) : mt l D cls (wo_tys cA) cA base y_pg_newStatement (Cond.code y_pg_newStatement b_pg_newStatement 2 (some (.object "AlarmForge$Statement")) :: gt) rm_pg_newStatement [.ref (base + a0)] w (some (rb base r)) w' rm_pg_newStatement.cells rm_pg_newStatement.slots := by
  refine mt_start (by decide) (Nat.le_of_ble_eq_true rfl) ?_
  intro p e s m below meth c ls hx hb hr hml hown hts hlk hnm hK hG hW hl
  have C : cx b_pg_newStatement (some (.object "AlarmForge$Statement")) 2 y_pg_newStatement.cls "newStatement" p s m [.ref (base + a0)].toArray meth c D cA base := ⟨hx, hb, hr, hml, hown, hts, hlk, hnm, hK, hG⟩
  have hl : lv_has ls 2 [(0, .ref (base + a0))] := hl
  unfold f_pg_newStatement at h
  replace h := its h
  obtain ⟨-, h⟩ := h
  refine lv_aload_n hx hb d_pg_newStatement_0 rfl (lv_at hl 0 rfl) ?_
  replace h := bs h
  obtain ⟨x1, hx1, h⟩ := h
  refine gf_pg_11 hx hb hts hown hK hG hW (gN_s hx1) d_pg_newStatement_1 ?_
  refine lv_aload_n hx hb d_pg_newStatement_4 rfl (lv_at hl 0 rfl) ?_
  replace h := bs h
  obtain ⟨x2, hx2, h⟩ := h
  refine gf_pg_28 hx hb hts hown hK hG hW (gI_s hx2) d_pg_newStatement_5 ?_
  replace h := bs h
  obtain ⟨x3, hx3, h⟩ := h
  refine wo_aald hx hb hK hW (t := 6) rfl (rN_s hx3) d_pg_newStatement_8 ?_
  refine lv_astore_n (lv' := [(1, .ref (base + x3)), (0, .ref (base + a0))]) hx hb d_pg_newStatement_9 rfl hl (by decide) rfl (fun ls hl => ?_)
  refine lv_aload_n hx hb d_pg_newStatement_10 rfl (lv_at hl 1 rfl) ?_
  refine lv_dup hx hb d_pg_newStatement_11 rfl ?_
  replace h := bs h
  obtain ⟨x4, hx4, h⟩ := h
  refine gf_pg_28 hx hb hts hown hK hG hW (gI_s hx4) d_pg_newStatement_12 ?_
  refine lv_iconst (v := (1 : Int32)) hx hb d_pg_newStatement_15 (by decide) ?_
  refine lv_iadd hx hb d_pg_newStatement_16 ?_
  replace h := bs h
  obtain ⟨w5, hw5, h⟩ := h
  refine pf_pg_28 hx hb hts hown hK hG hW rfl rfl (pbi hw5 rfl) d_pg_newStatement_17 (fun H locs hW => ?_)
  refine lv_aload_n hx hb d_pg_newStatement_20 rfl (lv_at hl 0 rfl) ?_
  cases h
  exact wo_aret hx hb hr hlk hW d_pg_newStatement_21
abbrev b_st_begin : ByteArray := prog_8_method_2_code
def y_st_begin : MethodName := ⟨"AlarmForge$Statement", "begin", "(III)V"⟩
def rm_st_begin : Room := { frames := 0, cells := 0, slots := 0, locals := 0 }
theorem d_st_begin_0 : decode b_st_begin 0 = .ok (.aload_n 0, 1) := by decide +kernel
theorem d_st_begin_1 : decode b_st_begin 1 = .ok (.iload_n 1, 1) := by decide +kernel
theorem d_st_begin_2 : decode b_st_begin 2 = .ok (.putfield 7, 3) := by decide +kernel
theorem d_st_begin_5 : decode b_st_begin 5 = .ok (.aload_n 0, 1) := by decide +kernel
theorem d_st_begin_6 : decode b_st_begin 6 = .ok (.iload_n 2, 1) := by decide +kernel
theorem d_st_begin_7 : decode b_st_begin 7 = .ok (.putfield 13, 3) := by decide +kernel
theorem d_st_begin_10 : decode b_st_begin 10 = .ok (.aload_n 0, 1) := by decide +kernel
theorem d_st_begin_11 : decode b_st_begin 11 = .ok (.iload_n 3, 1) := by decide +kernel
theorem d_st_begin_12 : decode b_st_begin 12 = .ok (.putfield 16, 3) := by decide +kernel
theorem d_st_begin_15 : decode b_st_begin 15 = .ok (.aload_n 0, 1) := by decide +kernel
theorem d_st_begin_16 : decode b_st_begin 16 = .ok (.aconst_null, 1) := by decide +kernel
theorem d_st_begin_17 : decode b_st_begin 17 = .ok (.putfield 19, 3) := by decide +kernel
theorem d_st_begin_20 : decode b_st_begin 20 = .ok (.aload_n 0, 1) := by decide +kernel
theorem d_st_begin_21 : decode b_st_begin 21 = .ok (.aconst_null, 1) := by decide +kernel
theorem d_st_begin_22 : decode b_st_begin 22 = .ok (.putfield 23, 3) := by decide +kernel
theorem d_st_begin_25 : decode b_st_begin 25 = .ok (.aload_n 0, 1) := by decide +kernel
theorem d_st_begin_26 : decode b_st_begin 26 = .ok (.aconst_null, 1) := by decide +kernel
theorem d_st_begin_27 : decode b_st_begin 27 = .ok (.putfield 26, 3) := by decide +kernel
theorem d_st_begin_30 : decode b_st_begin 30 = .ok (.return_, 1) := by decide +kernel
theorem kb_st_begin {a0 : Nat} {a1 : Int32} {a2 : Int32} {a3 : Int32} {w : WW} {r : WW} (h : f_st_begin a0 a1 a2 a3 w = some r) : kb w a0 4 = true := (its h).1
set_option maxHeartbeats 4000000 in
set_option maxRecDepth 100000 in
theorem c_st_begin (l : Launch) (D : va_G) (cA : Nat → ClassId) (base : Nat) {a0 : Nat} {a1 : Int32} {a2 : Int32} {a3 : Int32} {w w' : WW} (h : f_st_begin a0 a1 a2 a3 w = some w') : mt l D cls (wo_tys cA) cA base y_st_begin (Cond.code y_st_begin b_st_begin 4 (none) :: gt) rm_st_begin [.ref (base + a0), .int a1, .int a2, .int a3] w none w' rm_st_begin.cells rm_st_begin.slots := by
  refine mt_start (by decide) (Nat.le_of_ble_eq_true rfl) ?_
  intro p e s m below meth c ls hx hb hr hml hown hts hlk hnm hK hG hW hl
  have C : cx b_st_begin (none) 4 y_st_begin.cls "begin" p s m [.ref (base + a0), .int a1, .int a2, .int a3].toArray meth c D cA base := ⟨hx, hb, hr, hml, hown, hts, hlk, hnm, hK, hG⟩
  have hl : lv_has ls 4 [(0, .ref (base + a0)), (1, .int a1), (2, .int a2), (3, .int a3)] := hl
  unfold f_st_begin at h
  replace h := its h
  obtain ⟨-, h⟩ := h
  refine lv_aload_n hx hb d_st_begin_0 rfl (lv_at hl 0 rfl) ?_
  refine lv_iload_n hx hb d_st_begin_1 rfl (lv_at hl 1 rfl) ?_
  replace h := bs h
  obtain ⟨w1, hw1, h⟩ := h
  refine pf_st_7 hx hb hts hown hK hG hW rfl rfl (pbi hw1 rfl) d_st_begin_2 (fun H locs hW => ?_)
  refine lv_aload_n hx hb d_st_begin_5 rfl (lv_at hl 0 rfl) ?_
  refine lv_iload_n hx hb d_st_begin_6 rfl (lv_at hl 2 rfl) ?_
  replace h := bs h
  obtain ⟨w2, hw2, h⟩ := h
  refine pf_st_13 hx hb hts hown hK hG hW rfl rfl (pbi hw2 rfl) d_st_begin_7 (fun H locs hW => ?_)
  refine lv_aload_n hx hb d_st_begin_10 rfl (lv_at hl 0 rfl) ?_
  refine lv_iload_n hx hb d_st_begin_11 rfl (lv_at hl 3 rfl) ?_
  replace h := bs h
  obtain ⟨w3, hw3, h⟩ := h
  refine pf_st_16 hx hb hts hown hK hG hW rfl rfl (pbi hw3 rfl) d_st_begin_12 (fun H locs hW => ?_)
  refine lv_aload_n hx hb d_st_begin_15 rfl (lv_at hl 0 rfl) ?_
  refine wo_null (base := base) hx hb d_st_begin_16 ?_
  replace h := bs h
  obtain ⟨w4, hw4, h⟩ := h
  refine pf_st_19 hx hb hts hown hK hG hW (rf_n _ _ _) (rf_f _ _ _) (pbi hw4 (ub_rf _ _)) d_st_begin_17 (fun H locs hW => ?_)
  refine lv_aload_n hx hb d_st_begin_20 rfl (lv_at hl 0 rfl) ?_
  refine wo_null (base := base) hx hb d_st_begin_21 ?_
  replace h := bs h
  obtain ⟨w5, hw5, h⟩ := h
  refine pf_st_23 hx hb hts hown hK hG hW (rf_n _ _ _) (rf_f _ _ _) (pbi hw5 (ub_rf _ _)) d_st_begin_22 (fun H locs hW => ?_)
  refine lv_aload_n hx hb d_st_begin_25 rfl (lv_at hl 0 rfl) ?_
  refine wo_null (base := base) hx hb d_st_begin_26 ?_
  replace h := bs h
  obtain ⟨w6, hw6, h⟩ := h
  refine pf_st_26 hx hb hts hown hK hG hW (rf_n _ _ _) (rf_f _ _ _) (pbi hw6 (ub_rf _ _)) d_st_begin_27 (fun H locs hW => ?_)
  cases h
  exact wo_vret hx hb hr hlk hW d_st_begin_30
abbrev b_pa_advance : ByteArray := prog_3_method_5_code
def y_pa_advance : MethodName := ⟨"AlarmForge$Parser", "advance", "()V"⟩
def rm_pa_advance : Room := { frames := 0, cells := 0, slots := 0, locals := 0 }
theorem d_pa_advance_0 : decode b_pa_advance 0 = .ok (.aload_n 0, 1) := by decide +kernel
theorem d_pa_advance_1 : decode b_pa_advance 1 = .ok (.getfield 34, 3) := by decide +kernel
theorem d_pa_advance_4 : decode b_pa_advance 4 = .ok (.sipush (200), 3) := by decide +kernel
theorem d_pa_advance_7 : decode b_pa_advance 7 = .ok (.if_icmp .ge (13), 3) := by decide +kernel
theorem d_pa_advance_10 : decode b_pa_advance 10 = .ok (.aload_n 0, 1) := by decide +kernel
theorem d_pa_advance_11 : decode b_pa_advance 11 = .ok (.dup, 1) := by decide +kernel
theorem d_pa_advance_12 : decode b_pa_advance 12 = .ok (.getfield 34, 3) := by decide +kernel
theorem d_pa_advance_15 : decode b_pa_advance 15 = .ok (.iconst 1, 1) := by decide +kernel
theorem d_pa_advance_16 : decode b_pa_advance 16 = .ok (.iadd, 1) := by decide +kernel
theorem d_pa_advance_17 : decode b_pa_advance 17 = .ok (.putfield 34, 3) := by decide +kernel
theorem d_pa_advance_20 : decode b_pa_advance 20 = .ok (.return_, 1) := by decide +kernel
theorem kb_pa_advance {a0 : Nat}  {w : WW} {r : WW} (h : f_pa_advance a0 w = some r) : kb w a0 2 = true := (its h).1
set_option maxHeartbeats 4000000 in
set_option maxRecDepth 100000 in
theorem j_pa_advance_20 {p : Program} {l : Launch} {e : Env} {s : State} {m : MethodId} {args : Array Value} {below : List Frame} {meth : Method} {c : Code} {D : va_G} {cA : Nat → ClassId} {base : Nat} {w' : WW} (C : cx b_pa_advance (none) 1 y_pa_advance.cls "advance" p s m args meth c D cA base)   : ∀  (w : WW), f_pa_advance_20  w = some w' → ∀ (H : Heap) (locs : List Loc) (ls : Array Slot), wo_S D cls cA base s w H locs → lv_has ls 1 [] → W p l e rm_pa_advance s m args below meth c H locs 0 0 (MQ below (wo_Q D cls cA base none w') args s rm_pa_advance.cells rm_pa_advance.slots (wo_B base)) (F0 m 20 ls []) := by
  obtain ⟨hx, hb, hr, hml, hown, hts, hlk, hnm, hK, hG⟩ := id C
  intro  w h H locs ls hW hl
  unfold f_pa_advance_20 at h
  cases h
  exact wo_vret hx hb hr hlk hW d_pa_advance_20
set_option maxHeartbeats 4000000 in
set_option maxRecDepth 100000 in
theorem c_pa_advance (l : Launch) (D : va_G) (cA : Nat → ClassId) (base : Nat) {a0 : Nat} {w w' : WW} (h : f_pa_advance a0 w = some w') : mt l D cls (wo_tys cA) cA base y_pa_advance (Cond.code y_pa_advance b_pa_advance 1 (none) :: gt) rm_pa_advance [.ref (base + a0)] w none w' rm_pa_advance.cells rm_pa_advance.slots := by
  refine mt_start (by decide) (Nat.le_of_ble_eq_true rfl) ?_
  intro p e s m below meth c ls hx hb hr hml hown hts hlk hnm hK hG hW hl
  have C : cx b_pa_advance (none) 1 y_pa_advance.cls "advance" p s m [.ref (base + a0)].toArray meth c D cA base := ⟨hx, hb, hr, hml, hown, hts, hlk, hnm, hK, hG⟩
  have hl : lv_has ls 1 [(0, .ref (base + a0))] := hl
  unfold f_pa_advance at h
  replace h := its h
  obtain ⟨-, h⟩ := h
  refine lv_aload_n hx hb d_pa_advance_0 rfl (lv_at hl 0 rfl) ?_
  replace h := bs h
  obtain ⟨x1, hx1, h⟩ := h
  refine gf_pa_34 hx hb hts hown hK hG hW (gI_s hx1) d_pa_advance_1 ?_
  refine lv_sipush (v := (200 : Int32)) hx hb d_pa_advance_4 (by decide) ?_
  refine lv_icmp_ge (tgt := 20) hx hb d_pa_advance_7 (by decide) (fun c2 => ?_) (fun c2 => ?_)
  · rw [if_pos c2] at h
    exact j_pa_advance_20 C w h _ _ _ hW (lv_sub hl [] rfl)
  · rw [if_neg c2] at h
    refine lv_aload_n hx hb d_pa_advance_10 rfl (lv_at hl 0 rfl) ?_
    refine lv_dup hx hb d_pa_advance_11 rfl ?_
    replace h := bs h
    obtain ⟨x3, hx3, h⟩ := h
    refine gf_pa_34 hx hb hts hown hK hG hW (gI_s hx3) d_pa_advance_12 ?_
    refine lv_iconst (v := (1 : Int32)) hx hb d_pa_advance_15 (by decide) ?_
    refine lv_iadd hx hb d_pa_advance_16 ?_
    replace h := bs h
    obtain ⟨w4, hw4, h⟩ := h
    refine pf_pa_34 hx hb hts hown hK hG hW rfl rfl (pbi hw4 rfl) d_pa_advance_17 (fun H locs hW => ?_)
    exact j_pa_advance_20 C w4 h _ _ _ hW (lv_sub hl [] rfl)
theorem cv_pa_55 {p : Program} {l : Launch} {e : Env} {R : Room} {s : State} {m : MethodId} {args : Array Value} {below : List Frame} {meth : Method} {c : Code} {H : Heap} {locs : List Loc} {cells slots : Nat} {Q : State → Prop} {D : va_G} {cA : Nat → ClassId} {base : Nat} {w w' : WW} {cc : ByteArray} {pc nL : Nat} {ls : Array Slot} {rest st0 As : List Value} {ov : Option Value} {b : Nat} (hx : p.tables.exec = Jvm.exec) (hb : c.code = cc) (hml : c.maxLocals = nL) (hown : s.vm.findClass Rc_pa = some m.cls) (hts : ∀ w ∈ gt, w.before args s = true) (hK : va_K D cls (wo_tys cA) s) (hG : wo_G cA base s) (hW : wo_S D cls cA base s w H locs) (hM : mt l D cls (wo_tys cA) cA base y_pa_kindHere (Cond.code y_pa_kindHere b_pa_kindHere 1 (some .int) :: gt) rm_pa_kindHere (.ref (base + b) :: As) w ov w' rm_pa_kindHere.cells rm_pa_kindHere.slots) (hkb : kb w b 2 = true) (hR : rm_pa_kindHere.frames + 1 ≤ R.frames ∧ 8 + (1 + 11) + rm_pa_kindHere.locals ≤ R.locals) (hf : cells + rm_pa_kindHere.cells ≤ R.cells ∧ slots + rm_pa_kindHere.slots ≤ R.slots) (hn : As.length = 0) (hsz : ls.size = nL) (hst : st0 = As.reverse ++ .ref (base + b) :: rest) (hcat : (rest.map fun v => v.category).sum ≤ 8) (hdg : decode cc pc = .ok (.invokevirtual 55, 3)) (kk : ∀ (H1 : Heap) (locs1 : List Loc), wo_S D cls cA base s w' H1 locs1 → W p l e R s m args below meth c H1 locs1 (cells + rm_pa_kindHere.cells) (slots + rm_pa_kindHere.slots) Q (F0 m (pc + 3) ls (ov.toList ++ rest))) : W p l e R s m args below meth c H locs cells slots Q (F0 m pc ls st0) :=
  wo_callV (C := Rc_pa) hx hb hml hown hts hK hG hW hM hkb rfl (gt_of (i := 645) (by decide +kernel) (by decide +kernel)) (gt_of (i := 647) (by decide +kernel) (by decide +kernel)) (gt_sel (i := 8) (by decide +kernel) (by decide +kernel)) (gt_of (i := 2) (by decide +kernel) (by decide +kernel)) (gt_of (i := 648) (by decide +kernel) (by decide +kernel)) (by decide +kernel) hR hf hn hsz hst hcat hdg kk
theorem xv_pa_59 {p : Program} {l : Launch} {e : Env} {R : Room} {s : State} {m : MethodId} {args : Array Value} {below : List Frame} {meth : Method} {c : Code} {H : Heap} {locs : List Loc} {cells slots : Nat} {Q : State → Prop} {D : va_G} {cA : Nat → ClassId} {base : Nat} {w w' : WW} {cc : ByteArray} {pc nL : Nat} {ls : Array Slot} {rest st0 As : List Value} {E : String} {b : Nat} (hx : p.tables.exec = Jvm.exec) (hb : c.code = cc) (hml : c.maxLocals = nL) (hown : s.vm.findClass Rc_pa = some m.cls) (hts : ∀ w ∈ gt, w.before args s = true) (hK : va_K D cls (wo_tys cA) s) (hG : wo_G cA base s) (hW : wo_S D cls cA base s w H locs) (hM : xt l D cls (wo_tys cA) cA base y_pa_need (Cond.code y_pa_need b_pa_need 2 (none) :: gt) rx_pa_need (.ref (base + b) :: As) w E w' rx_pa_need.cells rx_pa_need.slots) (hkb : kb w b 2 = true) (hR : rx_pa_need.frames + 1 ≤ R.frames ∧ 8 + (2 + 11) + rx_pa_need.locals ≤ R.locals) (hf : cells + rx_pa_need.cells ≤ R.cells ∧ slots + rx_pa_need.slots ≤ R.slots) (hn : As.length = 1) (hsz : ls.size = nL) (hst : st0 = As.reverse ++ .ref (base + b) :: rest) (hcat : (rest.map fun v => v.category).sum ≤ 8) (hdg : decode cc pc = .ok (.invokevirtual 59, 3)) (kk : ∀ (H1 : Heap) (locs1 : List Loc) (q : Addr) (ce : Cell), wo_S D cls cA base s w' H1 locs1 → H1[q]? = some ce → ce.vm = .none → s.vm.findClass E = some ce.cls → XW p l e R s m args below meth c H1 locs1 (cells + rx_pa_need.cells) (slots + rx_pa_need.slots) Q (F0 m pc ls rest) q) : W p l e R s m args below meth c H locs cells slots Q (F0 m pc ls st0) :=
  wo_xcallV (C := Rc_pa) hx hb hml hown hts hK hG hW hM hkb rfl (gt_of (i := 660) (by decide +kernel) (by decide +kernel)) (gt_of (i := 662) (by decide +kernel) (by decide +kernel)) (gt_sel (i := 10) (by decide +kernel) (by decide +kernel)) (gt_of (i := 2) (by decide +kernel) (by decide +kernel)) (gt_of (i := 663) (by decide +kernel) (by decide +kernel)) (by decide +kernel) hR hf hn hsz hst hcat hdg kk
theorem cv_pa_59 {p : Program} {l : Launch} {e : Env} {R : Room} {s : State} {m : MethodId} {args : Array Value} {below : List Frame} {meth : Method} {c : Code} {H : Heap} {locs : List Loc} {cells slots : Nat} {Q : State → Prop} {D : va_G} {cA : Nat → ClassId} {base : Nat} {w w' : WW} {cc : ByteArray} {pc nL : Nat} {ls : Array Slot} {rest st0 As : List Value} {ov : Option Value} {b : Nat} (hx : p.tables.exec = Jvm.exec) (hb : c.code = cc) (hml : c.maxLocals = nL) (hown : s.vm.findClass Rc_pa = some m.cls) (hts : ∀ w ∈ gt, w.before args s = true) (hK : va_K D cls (wo_tys cA) s) (hG : wo_G cA base s) (hW : wo_S D cls cA base s w H locs) (hM : mt l D cls (wo_tys cA) cA base y_pa_need (Cond.code y_pa_need b_pa_need 2 (none) :: gt) rm_pa_need (.ref (base + b) :: As) w ov w' rm_pa_need.cells rm_pa_need.slots) (hkb : kb w b 2 = true) (hR : rm_pa_need.frames + 1 ≤ R.frames ∧ 8 + (2 + 11) + rm_pa_need.locals ≤ R.locals) (hf : cells + rm_pa_need.cells ≤ R.cells ∧ slots + rm_pa_need.slots ≤ R.slots) (hn : As.length = 1) (hsz : ls.size = nL) (hst : st0 = As.reverse ++ .ref (base + b) :: rest) (hcat : (rest.map fun v => v.category).sum ≤ 8) (hdg : decode cc pc = .ok (.invokevirtual 59, 3)) (kk : ∀ (H1 : Heap) (locs1 : List Loc), wo_S D cls cA base s w' H1 locs1 → W p l e R s m args below meth c H1 locs1 (cells + rm_pa_need.cells) (slots + rm_pa_need.slots) Q (F0 m (pc + 3) ls (ov.toList ++ rest))) : W p l e R s m args below meth c H locs cells slots Q (F0 m pc ls st0) :=
  wo_callV (C := Rc_pa) hx hb hml hown hts hK hG hW hM hkb rfl (gt_of (i := 660) (by decide +kernel) (by decide +kernel)) (gt_of (i := 662) (by decide +kernel) (by decide +kernel)) (gt_sel (i := 10) (by decide +kernel) (by decide +kernel)) (gt_of (i := 2) (by decide +kernel) (by decide +kernel)) (gt_of (i := 663) (by decide +kernel) (by decide +kernel)) (by decide +kernel) hR hf hn hsz hst hcat hdg kk
theorem cv_pa_63 {p : Program} {l : Launch} {e : Env} {R : Room} {s : State} {m : MethodId} {args : Array Value} {below : List Frame} {meth : Method} {c : Code} {H : Heap} {locs : List Loc} {cells slots : Nat} {Q : State → Prop} {D : va_G} {cA : Nat → ClassId} {base : Nat} {w w' : WW} {cc : ByteArray} {pc nL : Nat} {ls : Array Slot} {rest st0 As : List Value} {ov : Option Value} {b : Nat} (hx : p.tables.exec = Jvm.exec) (hb : c.code = cc) (hml : c.maxLocals = nL) (hown : s.vm.findClass Rc_pa = some m.cls) (hts : ∀ w ∈ gt, w.before args s = true) (hK : va_K D cls (wo_tys cA) s) (hG : wo_G cA base s) (hW : wo_S D cls cA base s w H locs) (hM : mt l D cls (wo_tys cA) cA base y_pa_advance (Cond.code y_pa_advance b_pa_advance 1 (none) :: gt) rm_pa_advance (.ref (base + b) :: As) w ov w' rm_pa_advance.cells rm_pa_advance.slots) (hkb : kb w b 2 = true) (hR : rm_pa_advance.frames + 1 ≤ R.frames ∧ 8 + (1 + 11) + rm_pa_advance.locals ≤ R.locals) (hf : cells + rm_pa_advance.cells ≤ R.cells ∧ slots + rm_pa_advance.slots ≤ R.slots) (hn : As.length = 0) (hsz : ls.size = nL) (hst : st0 = As.reverse ++ .ref (base + b) :: rest) (hcat : (rest.map fun v => v.category).sum ≤ 8) (hdg : decode cc pc = .ok (.invokevirtual 63, 3)) (kk : ∀ (H1 : Heap) (locs1 : List Loc), wo_S D cls cA base s w' H1 locs1 → W p l e R s m args below meth c H1 locs1 (cells + rm_pa_advance.cells) (slots + rm_pa_advance.slots) Q (F0 m (pc + 3) ls (ov.toList ++ rest))) : W p l e R s m args below meth c H locs cells slots Q (F0 m pc ls st0) :=
  wo_callV (C := Rc_pa) hx hb hml hown hts hK hG hW hM hkb rfl (gt_of (i := 674) (by decide +kernel) (by decide +kernel)) (gt_of (i := 676) (by decide +kernel) (by decide +kernel)) (gt_sel (i := 11) (by decide +kernel) (by decide +kernel)) (gt_of (i := 2) (by decide +kernel) (by decide +kernel)) (gt_of (i := 677) (by decide +kernel) (by decide +kernel)) (by decide +kernel) hR hf hn hsz hst hcat hdg kk
abbrev b_pa_take : ByteArray := prog_3_method_6_code
def y_pa_take : MethodName := ⟨"AlarmForge$Parser", "take", "(I)V"⟩
def rm_pa_take : Room := { frames := 7, cells := 0, slots := 0, locals := 121 }
def rx_pa_take : Room := { frames := 7, cells := 1, slots := 6, locals := 121 }
theorem d_pa_take_0 : decode b_pa_take 0 = .ok (.aload_n 0, 1) := by decide +kernel
theorem d_pa_take_1 : decode b_pa_take 1 = .ok (.aload_n 0, 1) := by decide +kernel
theorem d_pa_take_2 : decode b_pa_take 2 = .ok (.invokevirtual 55, 3) := by decide +kernel
theorem d_pa_take_5 : decode b_pa_take 5 = .ok (.iload_n 1, 1) := by decide +kernel
theorem d_pa_take_6 : decode b_pa_take 6 = .ok (.if_icmp .ne (7), 3) := by decide +kernel
theorem d_pa_take_9 : decode b_pa_take 9 = .ok (.iconst 1, 1) := by decide +kernel
theorem d_pa_take_10 : decode b_pa_take 10 = .ok (.goto (4), 3) := by decide +kernel
theorem d_pa_take_13 : decode b_pa_take 13 = .ok (.iconst 0, 1) := by decide +kernel
theorem d_pa_take_14 : decode b_pa_take 14 = .ok (.invokevirtual 59, 3) := by decide +kernel
theorem d_pa_take_17 : decode b_pa_take 17 = .ok (.aload_n 0, 1) := by decide +kernel
theorem d_pa_take_18 : decode b_pa_take 18 = .ok (.invokevirtual 63, 3) := by decide +kernel
theorem d_pa_take_21 : decode b_pa_take 21 = .ok (.return_, 1) := by decide +kernel
theorem kb_pa_take {a0 : Nat} {a1 : Int32} {w : WW} {r : ((Unit ⊕ String) × WW)} (h : f_pa_take a0 a1 w = some r) : kb w a0 2 = true := (its h).1
set_option maxHeartbeats 4000000 in
set_option maxRecDepth 100000 in
theorem j_pa_take_14 {p : Program} {l : Launch} {e : Env} {s : State} {m : MethodId} {args : Array Value} {below : List Frame} {meth : Method} {c : Code} {D : va_G} {cA : Nat → ClassId} {base : Nat} {w' : WW} (C : cx b_pa_take (none) 2 y_pa_take.cls "take" p s m args meth c D cA base)   : ∀ (y0 : Nat) (z0 : Nat) (z1 : Int32) (w : WW), f_pa_take_14 y0 z0 z1 w = some (.inl (), w') → ∀ (H : Heap) (locs : List Loc) (ls : Array Slot), wo_S D cls cA base s w H locs → lv_has ls 2 [(0, .ref (base + y0))] → W p l e rm_pa_take s m args below meth c H locs 0 0 (MQ below (wo_Q D cls cA base none w') args s rm_pa_take.cells rm_pa_take.slots (wo_B base)) (F0 m 14 ls [.int z1, .ref (base + z0)]) := by
  obtain ⟨hx, hb, hr, hml, hown, hts, hlk, hnm, hK, hG⟩ := id C
  intro y0 z0 z1 w h H locs ls hW hl
  unfold f_pa_take_14 at h
  replace h := bsx h
  obtain ⟨x5, w4, hw4, h⟩ := h
  refine cv_pa_59 (As := [.int z1]) (rest := []) hx hb hml hown hts hK hG hW (c_pa_need l D cA base hw4) (kb_pa_need hw4) ⟨Nat.le_of_ble_eq_true rfl, Nat.le_of_ble_eq_true rfl⟩ ⟨Nat.le_of_ble_eq_true rfl, Nat.le_of_ble_eq_true rfl⟩ rfl hl.1 rfl (Nat.le_of_ble_eq_true rfl) d_pa_take_14 (fun H locs hW => ?_)
  refine lv_aload_n hx hb d_pa_take_17 rfl (lv_at hl 0 rfl) ?_
  replace h := bs h
  obtain ⟨w6, hw6, h⟩ := h
  refine cv_pa_63 (As := []) (rest := []) hx hb hml hown hts hK hG hW (c_pa_advance l D cA base hw6) (kb_pa_advance hw6) ⟨Nat.le_of_ble_eq_true rfl, Nat.le_of_ble_eq_true rfl⟩ ⟨Nat.le_of_ble_eq_true rfl, Nat.le_of_ble_eq_true rfl⟩ rfl hl.1 rfl (Nat.le_of_ble_eq_true rfl) d_pa_take_18 (fun H locs hW => ?_)
  cases h
  exact wo_vret hx hb hr hlk hW d_pa_take_21
set_option maxHeartbeats 4000000 in
set_option maxRecDepth 100000 in
theorem c_pa_take (l : Launch) (D : va_G) (cA : Nat → ClassId) (base : Nat) {a0 : Nat} {a1 : Int32} {w w' : WW} (h : f_pa_take a0 a1 w = some (.inl (), w')) : mt l D cls (wo_tys cA) cA base y_pa_take (Cond.code y_pa_take b_pa_take 2 (none) :: gt) rm_pa_take [.ref (base + a0), .int a1] w none w' rm_pa_take.cells rm_pa_take.slots := by
  refine mt_start (by decide) (Nat.le_of_ble_eq_true rfl) ?_
  intro p e s m below meth c ls hx hb hr hml hown hts hlk hnm hK hG hW hl
  have C : cx b_pa_take (none) 2 y_pa_take.cls "take" p s m [.ref (base + a0), .int a1].toArray meth c D cA base := ⟨hx, hb, hr, hml, hown, hts, hlk, hnm, hK, hG⟩
  have hl : lv_has ls 2 [(0, .ref (base + a0)), (1, .int a1)] := hl
  unfold f_pa_take at h
  replace h := its h
  obtain ⟨-, h⟩ := h
  refine lv_aload_n hx hb d_pa_take_0 rfl (lv_at hl 0 rfl) ?_
  refine lv_aload_n hx hb d_pa_take_1 rfl (lv_at hl 0 rfl) ?_
  replace h := bs2 h
  obtain ⟨x2, w1, hw1, h⟩ := h
  refine cv_pa_55 (As := []) (rest := [.ref (base + a0)]) hx hb hml hown hts hK hG hW (c_pa_kindHere l D cA base hw1) (kb_pa_kindHere hw1) ⟨Nat.le_of_ble_eq_true rfl, Nat.le_of_ble_eq_true rfl⟩ ⟨Nat.le_of_ble_eq_true rfl, Nat.le_of_ble_eq_true rfl⟩ rfl hl.1 rfl (Nat.le_of_ble_eq_true rfl) d_pa_take_2 (fun H locs hW => ?_)
  refine lv_iload_n hx hb d_pa_take_5 rfl (lv_at hl 1 rfl) ?_
  refine lv_icmp_ne (tgt := 13) hx hb d_pa_take_6 (by decide) (fun c3 => ?_) (fun c3 => ?_)
  · rw [if_neg c3] at h
    refine lv_iconst (v := (0 : Int32)) hx hb d_pa_take_13 (by decide) ?_
    exact j_pa_take_14 C a0 a0 (0 : Int32) w1 h _ _ _ hW (lv_sub hl [0] rfl)
  · rw [if_pos c3] at h
    refine lv_iconst (v := (1 : Int32)) hx hb d_pa_take_9 (by decide) ?_
    refine lv_goto (tgt := 14) hx hb d_pa_take_10 (by decide) ?_
    exact j_pa_take_14 C a0 a0 (1 : Int32) w1 h _ _ _ hW (lv_sub hl [0] rfl)
set_option maxHeartbeats 4000000 in
set_option maxRecDepth 100000 in
theorem jx_pa_take_14 {p : Program} {l : Launch} {e : Env} {s : State} {m : MethodId} {args : Array Value} {below : List Frame} {meth : Method} {c : Code} {D : va_G} {cA : Nat → ClassId} {base : Nat} {E : String} {w' : WW} (C : cx b_pa_take (none) 2 y_pa_take.cls "take" p s m args meth c D cA base ∧ (∀ x ∈ c.exceptionTable.toList, ∀ k : Nat, covers x k = false) ∧ l.stackTraces = false)   : ∀ (y0 : Nat) (z0 : Nat) (z1 : Int32) (w : WW), f_pa_take_14 y0 z0 z1 w = some (.inr E, w') → ∀ (H : Heap) (locs : List Loc) (ls : Array Slot), wo_S D cls cA base s w H locs → lv_has ls 2 [(0, .ref (base + y0))] → W p l e rx_pa_take s m args below meth c H locs 0 0 (XQ below (wo_X D cls cA base E w' rx_pa_take.cells rx_pa_take.slots) args s) (F0 m 14 ls [.int z1, .ref (base + z0)]) := by
  obtain ⟨hx, hb, hr, hml, hown, hts, hlk, hnm, hK, hG⟩ := id C.1
  have hnt := C.2.1
  have hst := C.2.2
  intro y0 z0 z1 w h H locs ls hW hl
  unfold f_pa_take_14 at h
  rcases bsy h with hw4 | ⟨x5, w4, hw4, hnw4⟩
  · exact xv_pa_59 (As := [.int z1]) (rest := []) hx hb hml hown hts hK hG hW (x_pa_need l hst D cA base hw4) (kb_pa_need hw4) ⟨Nat.le_of_ble_eq_true rfl, Nat.le_of_ble_eq_true rfl⟩ ⟨Nat.le_of_ble_eq_true rfl, Nat.le_of_ble_eq_true rfl⟩ rfl hl.1 rfl (Nat.le_of_ble_eq_true rfl) d_pa_take_14 (fun H locs q ce hW h1 h2 h3 => wo_xout hnt hlk hW h1 h2 h3 (Nat.le_of_ble_eq_true rfl) (Nat.le_of_ble_eq_true rfl))
  clear h
  have h := hnw4
  clear hnw4
  refine cv_pa_59 (As := [.int z1]) (rest := []) hx hb hml hown hts hK hG hW (c_pa_need l D cA base hw4) (kb_pa_need hw4) ⟨Nat.le_of_ble_eq_true rfl, Nat.le_of_ble_eq_true rfl⟩ ⟨Nat.le_of_ble_eq_true rfl, Nat.le_of_ble_eq_true rfl⟩ rfl hl.1 rfl (Nat.le_of_ble_eq_true rfl) d_pa_take_14 (fun H locs hW => ?_)
  refine lv_aload_n hx hb d_pa_take_17 rfl (lv_at hl 0 rfl) ?_
  replace h := bs h
  obtain ⟨w6, hw6, h⟩ := h
  refine cv_pa_63 (As := []) (rest := []) hx hb hml hown hts hK hG hW (c_pa_advance l D cA base hw6) (kb_pa_advance hw6) ⟨Nat.le_of_ble_eq_true rfl, Nat.le_of_ble_eq_true rfl⟩ ⟨Nat.le_of_ble_eq_true rfl, Nat.le_of_ble_eq_true rfl⟩ rfl hl.1 rfl (Nat.le_of_ble_eq_true rfl) d_pa_take_18 (fun H locs hW => ?_)
  cases h
set_option maxHeartbeats 4000000 in
set_option maxRecDepth 100000 in
theorem x_pa_take (l : Launch) (hst : l.stackTraces = false) (D : va_G) (cA : Nat → ClassId) (base : Nat) {a0 : Nat} {a1 : Int32} {w w' : WW} {E : String} (h : f_pa_take a0 a1 w = some (.inr E, w')) : xt l D cls (wo_tys cA) cA base y_pa_take (Cond.code y_pa_take b_pa_take 2 (none) :: gt) rx_pa_take [.ref (base + a0), .int a1] w E w' rx_pa_take.cells rx_pa_take.slots := by
  refine xt_start (by decide) (Nat.le_of_ble_eq_true rfl) ?_
  intro p e s m below meth c ls hx hb hr hml hown hts hlk hnm hK hG hW hl hnt
  have C : cx b_pa_take (none) 2 y_pa_take.cls "take" p s m [.ref (base + a0), .int a1].toArray meth c D cA base ∧ (∀ x ∈ c.exceptionTable.toList, ∀ k : Nat, covers x k = false) ∧ l.stackTraces = false := ⟨⟨hx, hb, hr, hml, hown, hts, hlk, hnm, hK, hG⟩, hnt, hst⟩
  have hl : lv_has ls 2 [(0, .ref (base + a0)), (1, .int a1)] := hl
  unfold f_pa_take at h
  replace h := its h
  obtain ⟨-, h⟩ := h
  refine lv_aload_n hx hb d_pa_take_0 rfl (lv_at hl 0 rfl) ?_
  refine lv_aload_n hx hb d_pa_take_1 rfl (lv_at hl 0 rfl) ?_
  replace h := bs2 h
  obtain ⟨x2, w1, hw1, h⟩ := h
  refine cv_pa_55 (As := []) (rest := [.ref (base + a0)]) hx hb hml hown hts hK hG hW (c_pa_kindHere l D cA base hw1) (kb_pa_kindHere hw1) ⟨Nat.le_of_ble_eq_true rfl, Nat.le_of_ble_eq_true rfl⟩ ⟨Nat.le_of_ble_eq_true rfl, Nat.le_of_ble_eq_true rfl⟩ rfl hl.1 rfl (Nat.le_of_ble_eq_true rfl) d_pa_take_2 (fun H locs hW => ?_)
  refine lv_iload_n hx hb d_pa_take_5 rfl (lv_at hl 1 rfl) ?_
  refine lv_icmp_ne (tgt := 13) hx hb d_pa_take_6 (by decide) (fun c3 => ?_) (fun c3 => ?_)
  · rw [if_neg c3] at h
    refine lv_iconst (v := (0 : Int32)) hx hb d_pa_take_13 (by decide) ?_
    exact jx_pa_take_14 C a0 a0 (0 : Int32) w1 h _ _ _ hW (lv_sub hl [0] rfl)
  · rw [if_pos c3] at h
    refine lv_iconst (v := (1 : Int32)) hx hb d_pa_take_9 (by decide) ?_
    refine lv_goto (tgt := 14) hx hb d_pa_take_10 (by decide) ?_
    exact jx_pa_take_14 C a0 a0 (1 : Int32) w1 h _ _ _ hW (lv_sub hl [0] rfl)
abbrev b_pg_addStep : ByteArray := prog_4_method_6_code
def y_pg_addStep : MethodName := ⟨"AlarmForge$Program", "addStep", "(III)V"⟩
def rm_pg_addStep : Room := { frames := 0, cells := 0, slots := 0, locals := 0 }
theorem d_pg_addStep_0 : decode b_pg_addStep 0 = .ok (.aload_n 0, 1) := by decide +kernel
theorem d_pg_addStep_1 : decode b_pg_addStep 1 = .ok (.getfield 32, 3) := by decide +kernel
theorem d_pg_addStep_4 : decode b_pg_addStep 4 = .ok (.sipush (200), 3) := by decide +kernel
theorem d_pg_addStep_7 : decode b_pg_addStep 7 = .ok (.if_icmp .ge (43), 3) := by decide +kernel
theorem d_pg_addStep_10 : decode b_pg_addStep 10 = .ok (.aload_n 0, 1) := by decide +kernel
theorem d_pg_addStep_11 : decode b_pg_addStep 11 = .ok (.getfield 18, 3) := by decide +kernel
theorem d_pg_addStep_14 : decode b_pg_addStep 14 = .ok (.aload_n 0, 1) := by decide +kernel
theorem d_pg_addStep_15 : decode b_pg_addStep 15 = .ok (.getfield 32, 3) := by decide +kernel
theorem d_pg_addStep_18 : decode b_pg_addStep 18 = .ok (.iload_n 1, 1) := by decide +kernel
theorem d_pg_addStep_19 : decode b_pg_addStep 19 = .ok (.iastore, 1) := by decide +kernel
theorem d_pg_addStep_20 : decode b_pg_addStep 20 = .ok (.aload_n 0, 1) := by decide +kernel
theorem d_pg_addStep_21 : decode b_pg_addStep 21 = .ok (.getfield 22, 3) := by decide +kernel
theorem d_pg_addStep_24 : decode b_pg_addStep 24 = .ok (.aload_n 0, 1) := by decide +kernel
theorem d_pg_addStep_25 : decode b_pg_addStep 25 = .ok (.getfield 32, 3) := by decide +kernel
theorem d_pg_addStep_28 : decode b_pg_addStep 28 = .ok (.iload_n 2, 1) := by decide +kernel
theorem d_pg_addStep_29 : decode b_pg_addStep 29 = .ok (.iastore, 1) := by decide +kernel
theorem d_pg_addStep_30 : decode b_pg_addStep 30 = .ok (.aload_n 0, 1) := by decide +kernel
theorem d_pg_addStep_31 : decode b_pg_addStep 31 = .ok (.getfield 25, 3) := by decide +kernel
theorem d_pg_addStep_34 : decode b_pg_addStep 34 = .ok (.aload_n 0, 1) := by decide +kernel
theorem d_pg_addStep_35 : decode b_pg_addStep 35 = .ok (.getfield 32, 3) := by decide +kernel
theorem d_pg_addStep_38 : decode b_pg_addStep 38 = .ok (.iload_n 3, 1) := by decide +kernel
theorem d_pg_addStep_39 : decode b_pg_addStep 39 = .ok (.iastore, 1) := by decide +kernel
theorem d_pg_addStep_40 : decode b_pg_addStep 40 = .ok (.aload_n 0, 1) := by decide +kernel
theorem d_pg_addStep_41 : decode b_pg_addStep 41 = .ok (.dup, 1) := by decide +kernel
theorem d_pg_addStep_42 : decode b_pg_addStep 42 = .ok (.getfield 32, 3) := by decide +kernel
theorem d_pg_addStep_45 : decode b_pg_addStep 45 = .ok (.iconst 1, 1) := by decide +kernel
theorem d_pg_addStep_46 : decode b_pg_addStep 46 = .ok (.iadd, 1) := by decide +kernel
theorem d_pg_addStep_47 : decode b_pg_addStep 47 = .ok (.putfield 32, 3) := by decide +kernel
theorem d_pg_addStep_50 : decode b_pg_addStep 50 = .ok (.return_, 1) := by decide +kernel
theorem kb_pg_addStep {a0 : Nat} {a1 : Int32} {a2 : Int32} {a3 : Int32} {w : WW} {r : WW} (h : f_pg_addStep a0 a1 a2 a3 w = some r) : kb w a0 3 = true := (its h).1
set_option maxHeartbeats 4000000 in
set_option maxRecDepth 100000 in
theorem j_pg_addStep_50 {p : Program} {l : Launch} {e : Env} {s : State} {m : MethodId} {args : Array Value} {below : List Frame} {meth : Method} {c : Code} {D : va_G} {cA : Nat → ClassId} {base : Nat} {w' : WW} (C : cx b_pg_addStep (none) 4 y_pg_addStep.cls "addStep" p s m args meth c D cA base)   : ∀  (w : WW), f_pg_addStep_50  w = some w' → ∀ (H : Heap) (locs : List Loc) (ls : Array Slot), wo_S D cls cA base s w H locs → lv_has ls 4 [] → W p l e rm_pg_addStep s m args below meth c H locs 0 0 (MQ below (wo_Q D cls cA base none w') args s rm_pg_addStep.cells rm_pg_addStep.slots (wo_B base)) (F0 m 50 ls []) := by
  obtain ⟨hx, hb, hr, hml, hown, hts, hlk, hnm, hK, hG⟩ := id C
  intro  w h H locs ls hW hl
  unfold f_pg_addStep_50 at h
  cases h
  exact wo_vret hx hb hr hlk hW d_pg_addStep_50
set_option maxHeartbeats 4000000 in
set_option maxRecDepth 100000 in
theorem c_pg_addStep (l : Launch) (D : va_G) (cA : Nat → ClassId) (base : Nat) {a0 : Nat} {a1 : Int32} {a2 : Int32} {a3 : Int32} {w w' : WW} (h : f_pg_addStep a0 a1 a2 a3 w = some w') : mt l D cls (wo_tys cA) cA base y_pg_addStep (Cond.code y_pg_addStep b_pg_addStep 4 (none) :: gt) rm_pg_addStep [.ref (base + a0), .int a1, .int a2, .int a3] w none w' rm_pg_addStep.cells rm_pg_addStep.slots := by
  refine mt_start (by decide) (Nat.le_of_ble_eq_true rfl) ?_
  intro p e s m below meth c ls hx hb hr hml hown hts hlk hnm hK hG hW hl
  have C : cx b_pg_addStep (none) 4 y_pg_addStep.cls "addStep" p s m [.ref (base + a0), .int a1, .int a2, .int a3].toArray meth c D cA base := ⟨hx, hb, hr, hml, hown, hts, hlk, hnm, hK, hG⟩
  have hl : lv_has ls 4 [(0, .ref (base + a0)), (1, .int a1), (2, .int a2), (3, .int a3)] := hl
  unfold f_pg_addStep at h
  replace h := its h
  obtain ⟨-, h⟩ := h
  refine lv_aload_n hx hb d_pg_addStep_0 rfl (lv_at hl 0 rfl) ?_
  replace h := bs h
  obtain ⟨x1, hx1, h⟩ := h
  refine gf_pg_32 hx hb hts hown hK hG hW (gI_s hx1) d_pg_addStep_1 ?_
  refine lv_sipush (v := (200 : Int32)) hx hb d_pg_addStep_4 (by decide) ?_
  refine lv_icmp_ge (tgt := 50) hx hb d_pg_addStep_7 (by decide) (fun c2 => ?_) (fun c2 => ?_)
  · rw [if_pos c2] at h
    exact j_pg_addStep_50 C w h _ _ _ hW (lv_sub hl [] rfl)
  · rw [if_neg c2] at h
    refine lv_aload_n hx hb d_pg_addStep_10 rfl (lv_at hl 0 rfl) ?_
    replace h := bs h
    obtain ⟨x3, hx3, h⟩ := h
    refine gf_pg_18 hx hb hts hown hK hG hW (gN_s hx3) d_pg_addStep_11 ?_
    refine lv_aload_n hx hb d_pg_addStep_14 rfl (lv_at hl 0 rfl) ?_
    replace h := bs h
    obtain ⟨x4, hx4, h⟩ := h
    refine gf_pg_32 hx hb hts hown hK hG hW (gI_s hx4) d_pg_addStep_15 ?_
    refine lv_iload_n hx hb d_pg_addStep_18 rfl (lv_at hl 1 rfl) ?_
    replace h := bs h
    obtain ⟨w5, hw5, h⟩ := h
    refine wo_iast hx hb hK hW (t := 0) rfl hw5 d_pg_addStep_19 (fun H locs hW => ?_)
    refine lv_aload_n hx hb d_pg_addStep_20 rfl (lv_at hl 0 rfl) ?_
    replace h := bs h
    obtain ⟨x6, hx6, h⟩ := h
    refine gf_pg_22 hx hb hts hown hK hG hW (gN_s hx6) d_pg_addStep_21 ?_
    refine lv_aload_n hx hb d_pg_addStep_24 rfl (lv_at hl 0 rfl) ?_
    replace h := bs h
    obtain ⟨x7, hx7, h⟩ := h
    refine gf_pg_32 hx hb hts hown hK hG hW (gI_s hx7) d_pg_addStep_25 ?_
    refine lv_iload_n hx hb d_pg_addStep_28 rfl (lv_at hl 2 rfl) ?_
    replace h := bs h
    obtain ⟨w8, hw8, h⟩ := h
    refine wo_iast hx hb hK hW (t := 0) rfl hw8 d_pg_addStep_29 (fun H locs hW => ?_)
    refine lv_aload_n hx hb d_pg_addStep_30 rfl (lv_at hl 0 rfl) ?_
    replace h := bs h
    obtain ⟨x9, hx9, h⟩ := h
    refine gf_pg_25 hx hb hts hown hK hG hW (gN_s hx9) d_pg_addStep_31 ?_
    refine lv_aload_n hx hb d_pg_addStep_34 rfl (lv_at hl 0 rfl) ?_
    replace h := bs h
    obtain ⟨x10, hx10, h⟩ := h
    refine gf_pg_32 hx hb hts hown hK hG hW (gI_s hx10) d_pg_addStep_35 ?_
    refine lv_iload_n hx hb d_pg_addStep_38 rfl (lv_at hl 3 rfl) ?_
    replace h := bs h
    obtain ⟨w11, hw11, h⟩ := h
    refine wo_iast hx hb hK hW (t := 0) rfl hw11 d_pg_addStep_39 (fun H locs hW => ?_)
    refine lv_aload_n hx hb d_pg_addStep_40 rfl (lv_at hl 0 rfl) ?_
    refine lv_dup hx hb d_pg_addStep_41 rfl ?_
    replace h := bs h
    obtain ⟨x12, hx12, h⟩ := h
    refine gf_pg_32 hx hb hts hown hK hG hW (gI_s hx12) d_pg_addStep_42 ?_
    refine lv_iconst (v := (1 : Int32)) hx hb d_pg_addStep_45 (by decide) ?_
    refine lv_iadd hx hb d_pg_addStep_46 ?_
    replace h := bs h
    obtain ⟨w13, hw13, h⟩ := h
    refine pf_pg_32 hx hb hts hown hK hG hW rfl rfl (pbi hw13 rfl) d_pg_addStep_47 (fun H locs hW => ?_)
    exact j_pg_addStep_50 C w13 h _ _ _ hW (lv_sub hl [] rfl)
abbrev b_pa_isProductSign : ByteArray := prog_3_method_17_code
def y_pa_isProductSign : MethodName := ⟨"AlarmForge$Parser", "isProductSign", "(I)Z"⟩
def rm_pa_isProductSign : Room := { frames := 0, cells := 0, slots := 0, locals := 0 }
theorem d_pa_isProductSign_0 : decode b_pa_isProductSign 0 = .ok (.iload_n 0, 1) := by decide +kernel
theorem d_pa_isProductSign_1 : decode b_pa_isProductSign 1 = .ok (.bipush (42), 2) := by decide +kernel
theorem d_pa_isProductSign_3 : decode b_pa_isProductSign 3 = .ok (.if_icmp .eq (15), 3) := by decide +kernel
theorem d_pa_isProductSign_6 : decode b_pa_isProductSign 6 = .ok (.iload_n 0, 1) := by decide +kernel
theorem d_pa_isProductSign_7 : decode b_pa_isProductSign 7 = .ok (.bipush (47), 2) := by decide +kernel
theorem d_pa_isProductSign_9 : decode b_pa_isProductSign 9 = .ok (.if_icmp .eq (9), 3) := by decide +kernel
theorem d_pa_isProductSign_12 : decode b_pa_isProductSign 12 = .ok (.iload_n 0, 1) := by decide +kernel
theorem d_pa_isProductSign_13 : decode b_pa_isProductSign 13 = .ok (.bipush (37), 2) := by decide +kernel
theorem d_pa_isProductSign_15 : decode b_pa_isProductSign 15 = .ok (.if_icmp .ne (7), 3) := by decide +kernel
theorem d_pa_isProductSign_18 : decode b_pa_isProductSign 18 = .ok (.iconst 1, 1) := by decide +kernel
theorem d_pa_isProductSign_19 : decode b_pa_isProductSign 19 = .ok (.goto (4), 3) := by decide +kernel
theorem d_pa_isProductSign_22 : decode b_pa_isProductSign 22 = .ok (.iconst 0, 1) := by decide +kernel
theorem d_pa_isProductSign_23 : decode b_pa_isProductSign 23 = .ok (.ireturn, 1) := by decide +kernel
set_option maxHeartbeats 4000000 in
set_option maxRecDepth 100000 in
theorem j_pa_isProductSign_23 {p : Program} {l : Launch} {e : Env} {s : State} {m : MethodId} {args : Array Value} {below : List Frame} {meth : Method} {c : Code} {D : va_G} {cA : Nat → ClassId} {base : Nat} {r : Int32} {w' : WW} (C : cx b_pa_isProductSign (some .boolean) 1 y_pa_isProductSign.cls "isProductSign" p s m args meth c D cA base)   : ∀ (z0 : Int32) (w : WW), f_pa_isProductSign_23 z0 w = some (r, w') → ∀ (H : Heap) (locs : List Loc) (ls : Array Slot), wo_S D cls cA base s w H locs → lv_has ls 1 [] → W p l e rm_pa_isProductSign s m args below meth c H locs 0 0 (MQ below (wo_Q D cls cA base (some (.int r)) w') args s rm_pa_isProductSign.cells rm_pa_isProductSign.slots (wo_B base)) (F0 m 23 ls [.int z0]) := by
  obtain ⟨hx, hb, hr, hml, hown, hts, hlk, hnm, hK, hG⟩ := id C
  intro z0 w h H locs ls hW hl
  unfold f_pa_isProductSign_23 at h
  replace h := its h
  obtain ⟨c2, h⟩ := h
  cases h
  exact wo_zret hx hb hr hlk hW c2 d_pa_isProductSign_23
set_option maxHeartbeats 4000000 in
set_option maxRecDepth 100000 in
theorem j_pa_isProductSign_18 {p : Program} {l : Launch} {e : Env} {s : State} {m : MethodId} {args : Array Value} {below : List Frame} {meth : Method} {c : Code} {D : va_G} {cA : Nat → ClassId} {base : Nat} {r : Int32} {w' : WW} (C : cx b_pa_isProductSign (some .boolean) 1 y_pa_isProductSign.cls "isProductSign" p s m args meth c D cA base)   : ∀  (w : WW), f_pa_isProductSign_18  w = some (r, w') → ∀ (H : Heap) (locs : List Loc) (ls : Array Slot), wo_S D cls cA base s w H locs → lv_has ls 1 [] → W p l e rm_pa_isProductSign s m args below meth c H locs 0 0 (MQ below (wo_Q D cls cA base (some (.int r)) w') args s rm_pa_isProductSign.cells rm_pa_isProductSign.slots (wo_B base)) (F0 m 18 ls []) := by
  obtain ⟨hx, hb, hr, hml, hown, hts, hlk, hnm, hK, hG⟩ := id C
  intro  w h H locs ls hW hl
  unfold f_pa_isProductSign_18 at h
  refine lv_iconst (v := (1 : Int32)) hx hb d_pa_isProductSign_18 (by decide) ?_
  refine lv_goto (tgt := 23) hx hb d_pa_isProductSign_19 (by decide) ?_
  exact j_pa_isProductSign_23 C (1 : Int32) w h _ _ _ hW (lv_sub hl [] rfl)
set_option maxHeartbeats 4000000 in
set_option maxRecDepth 100000 in
theorem c_pa_isProductSign (l : Launch) (D : va_G) (cA : Nat → ClassId) (base : Nat) {a0 : Int32} {w w' : WW} {r : Int32} (h : f_pa_isProductSign a0 w = some (r, w')) : mt l D cls (wo_tys cA) cA base y_pa_isProductSign (Cond.code y_pa_isProductSign b_pa_isProductSign 1 (some .boolean) :: gt) rm_pa_isProductSign [.int a0] w (some (.int r)) w' rm_pa_isProductSign.cells rm_pa_isProductSign.slots := by
  refine mt_start (by decide) (Nat.le_of_ble_eq_true rfl) ?_
  intro p e s m below meth c ls hx hb hr hml hown hts hlk hnm hK hG hW hl
  have C : cx b_pa_isProductSign (some .boolean) 1 y_pa_isProductSign.cls "isProductSign" p s m [.int a0].toArray meth c D cA base := ⟨hx, hb, hr, hml, hown, hts, hlk, hnm, hK, hG⟩
  have hl : lv_has ls 1 [(0, .int a0)] := hl
  unfold f_pa_isProductSign at h
  refine lv_iload_n hx hb d_pa_isProductSign_0 rfl (lv_at hl 0 rfl) ?_
  refine lv_bipush (v := (42 : Int32)) hx hb d_pa_isProductSign_1 (by decide) ?_
  refine lv_icmp_eq (tgt := 18) hx hb d_pa_isProductSign_3 (by decide) (fun c1 => ?_) (fun c1 => ?_)
  · rw [if_pos c1] at h
    exact j_pa_isProductSign_18 C w h _ _ _ hW (lv_sub hl [] rfl)
  · rw [if_neg c1] at h
    refine lv_iload_n hx hb d_pa_isProductSign_6 rfl (lv_at hl 0 rfl) ?_
    refine lv_bipush (v := (47 : Int32)) hx hb d_pa_isProductSign_7 (by decide) ?_
    refine lv_icmp_eq (tgt := 18) hx hb d_pa_isProductSign_9 (by decide) (fun c3 => ?_) (fun c3 => ?_)
    · rw [if_pos c3] at h
      exact j_pa_isProductSign_18 C w h _ _ _ hW (lv_sub hl [] rfl)
    · rw [if_neg c3] at h
      refine lv_iload_n hx hb d_pa_isProductSign_12 rfl (lv_at hl 0 rfl) ?_
      refine lv_bipush (v := (37 : Int32)) hx hb d_pa_isProductSign_13 (by decide) ?_
      refine lv_icmp_ne (tgt := 22) hx hb d_pa_isProductSign_15 (by decide) (fun c4 => ?_) (fun c4 => ?_)
      · rw [if_neg c4] at h
        refine lv_iconst (v := (0 : Int32)) hx hb d_pa_isProductSign_22 (by decide) ?_
        exact j_pa_isProductSign_23 C (0 : Int32) w h _ _ _ hW (lv_sub hl [] rfl)
      · rw [if_pos c4] at h
        exact j_pa_isProductSign_18 C w h _ _ _ hW (lv_sub hl [] rfl)
abbrev b_pa_beginsFactor : ByteArray := prog_3_method_18_code
def y_pa_beginsFactor : MethodName := ⟨"AlarmForge$Parser", "beginsFactor", "(I)Z"⟩
def rm_pa_beginsFactor : Room := { frames := 0, cells := 0, slots := 0, locals := 0 }
theorem d_pa_beginsFactor_0 : decode b_pa_beginsFactor 0 = .ok (.iload_n 0, 1) := by decide +kernel
theorem d_pa_beginsFactor_1 : decode b_pa_beginsFactor 1 = .ok (.iconst 1, 1) := by decide +kernel
theorem d_pa_beginsFactor_2 : decode b_pa_beginsFactor 2 = .ok (.if_icmp .eq (25), 3) := by decide +kernel
theorem d_pa_beginsFactor_5 : decode b_pa_beginsFactor 5 = .ok (.iload_n 0, 1) := by decide +kernel
theorem d_pa_beginsFactor_6 : decode b_pa_beginsFactor 6 = .ok (.iconst 2, 1) := by decide +kernel
theorem d_pa_beginsFactor_7 : decode b_pa_beginsFactor 7 = .ok (.if_icmp .eq (20), 3) := by decide +kernel
theorem d_pa_beginsFactor_10 : decode b_pa_beginsFactor 10 = .ok (.iload_n 0, 1) := by decide +kernel
theorem d_pa_beginsFactor_11 : decode b_pa_beginsFactor 11 = .ok (.iconst 3, 1) := by decide +kernel
theorem d_pa_beginsFactor_12 : decode b_pa_beginsFactor 12 = .ok (.if_icmp .eq (15), 3) := by decide +kernel
theorem d_pa_beginsFactor_15 : decode b_pa_beginsFactor 15 = .ok (.iload_n 0, 1) := by decide +kernel
theorem d_pa_beginsFactor_16 : decode b_pa_beginsFactor 16 = .ok (.bipush (45), 2) := by decide +kernel
theorem d_pa_beginsFactor_18 : decode b_pa_beginsFactor 18 = .ok (.if_icmp .eq (9), 3) := by decide +kernel
theorem d_pa_beginsFactor_21 : decode b_pa_beginsFactor 21 = .ok (.iload_n 0, 1) := by decide +kernel
theorem d_pa_beginsFactor_22 : decode b_pa_beginsFactor 22 = .ok (.bipush (40), 2) := by decide +kernel
theorem d_pa_beginsFactor_24 : decode b_pa_beginsFactor 24 = .ok (.if_icmp .ne (7), 3) := by decide +kernel
theorem d_pa_beginsFactor_27 : decode b_pa_beginsFactor 27 = .ok (.iconst 1, 1) := by decide +kernel
theorem d_pa_beginsFactor_28 : decode b_pa_beginsFactor 28 = .ok (.goto (4), 3) := by decide +kernel
theorem d_pa_beginsFactor_31 : decode b_pa_beginsFactor 31 = .ok (.iconst 0, 1) := by decide +kernel
theorem d_pa_beginsFactor_32 : decode b_pa_beginsFactor 32 = .ok (.ireturn, 1) := by decide +kernel
set_option maxHeartbeats 4000000 in
set_option maxRecDepth 100000 in
theorem j_pa_beginsFactor_32 {p : Program} {l : Launch} {e : Env} {s : State} {m : MethodId} {args : Array Value} {below : List Frame} {meth : Method} {c : Code} {D : va_G} {cA : Nat → ClassId} {base : Nat} {r : Int32} {w' : WW} (C : cx b_pa_beginsFactor (some .boolean) 1 y_pa_beginsFactor.cls "beginsFactor" p s m args meth c D cA base)   : ∀ (z0 : Int32) (w : WW), f_pa_beginsFactor_32 z0 w = some (r, w') → ∀ (H : Heap) (locs : List Loc) (ls : Array Slot), wo_S D cls cA base s w H locs → lv_has ls 1 [] → W p l e rm_pa_beginsFactor s m args below meth c H locs 0 0 (MQ below (wo_Q D cls cA base (some (.int r)) w') args s rm_pa_beginsFactor.cells rm_pa_beginsFactor.slots (wo_B base)) (F0 m 32 ls [.int z0]) := by
  obtain ⟨hx, hb, hr, hml, hown, hts, hlk, hnm, hK, hG⟩ := id C
  intro z0 w h H locs ls hW hl
  unfold f_pa_beginsFactor_32 at h
  replace h := its h
  obtain ⟨c2, h⟩ := h
  cases h
  exact wo_zret hx hb hr hlk hW c2 d_pa_beginsFactor_32
set_option maxHeartbeats 4000000 in
set_option maxRecDepth 100000 in
theorem j_pa_beginsFactor_27 {p : Program} {l : Launch} {e : Env} {s : State} {m : MethodId} {args : Array Value} {below : List Frame} {meth : Method} {c : Code} {D : va_G} {cA : Nat → ClassId} {base : Nat} {r : Int32} {w' : WW} (C : cx b_pa_beginsFactor (some .boolean) 1 y_pa_beginsFactor.cls "beginsFactor" p s m args meth c D cA base)   : ∀  (w : WW), f_pa_beginsFactor_27  w = some (r, w') → ∀ (H : Heap) (locs : List Loc) (ls : Array Slot), wo_S D cls cA base s w H locs → lv_has ls 1 [] → W p l e rm_pa_beginsFactor s m args below meth c H locs 0 0 (MQ below (wo_Q D cls cA base (some (.int r)) w') args s rm_pa_beginsFactor.cells rm_pa_beginsFactor.slots (wo_B base)) (F0 m 27 ls []) := by
  obtain ⟨hx, hb, hr, hml, hown, hts, hlk, hnm, hK, hG⟩ := id C
  intro  w h H locs ls hW hl
  unfold f_pa_beginsFactor_27 at h
  refine lv_iconst (v := (1 : Int32)) hx hb d_pa_beginsFactor_27 (by decide) ?_
  refine lv_goto (tgt := 32) hx hb d_pa_beginsFactor_28 (by decide) ?_
  exact j_pa_beginsFactor_32 C (1 : Int32) w h _ _ _ hW (lv_sub hl [] rfl)
set_option maxHeartbeats 4000000 in
set_option maxRecDepth 100000 in
theorem c_pa_beginsFactor (l : Launch) (D : va_G) (cA : Nat → ClassId) (base : Nat) {a0 : Int32} {w w' : WW} {r : Int32} (h : f_pa_beginsFactor a0 w = some (r, w')) : mt l D cls (wo_tys cA) cA base y_pa_beginsFactor (Cond.code y_pa_beginsFactor b_pa_beginsFactor 1 (some .boolean) :: gt) rm_pa_beginsFactor [.int a0] w (some (.int r)) w' rm_pa_beginsFactor.cells rm_pa_beginsFactor.slots := by
  refine mt_start (by decide) (Nat.le_of_ble_eq_true rfl) ?_
  intro p e s m below meth c ls hx hb hr hml hown hts hlk hnm hK hG hW hl
  have C : cx b_pa_beginsFactor (some .boolean) 1 y_pa_beginsFactor.cls "beginsFactor" p s m [.int a0].toArray meth c D cA base := ⟨hx, hb, hr, hml, hown, hts, hlk, hnm, hK, hG⟩
  have hl : lv_has ls 1 [(0, .int a0)] := hl
  unfold f_pa_beginsFactor at h
  refine lv_iload_n hx hb d_pa_beginsFactor_0 rfl (lv_at hl 0 rfl) ?_
  refine lv_iconst (v := (1 : Int32)) hx hb d_pa_beginsFactor_1 (by decide) ?_
  refine lv_icmp_eq (tgt := 27) hx hb d_pa_beginsFactor_2 (by decide) (fun c1 => ?_) (fun c1 => ?_)
  · rw [if_pos c1] at h
    exact j_pa_beginsFactor_27 C w h _ _ _ hW (lv_sub hl [] rfl)
  · rw [if_neg c1] at h
    refine lv_iload_n hx hb d_pa_beginsFactor_5 rfl (lv_at hl 0 rfl) ?_
    refine lv_iconst (v := (2 : Int32)) hx hb d_pa_beginsFactor_6 (by decide) ?_
    refine lv_icmp_eq (tgt := 27) hx hb d_pa_beginsFactor_7 (by decide) (fun c3 => ?_) (fun c3 => ?_)
    · rw [if_pos c3] at h
      exact j_pa_beginsFactor_27 C w h _ _ _ hW (lv_sub hl [] rfl)
    · rw [if_neg c3] at h
      refine lv_iload_n hx hb d_pa_beginsFactor_10 rfl (lv_at hl 0 rfl) ?_
      refine lv_iconst (v := (3 : Int32)) hx hb d_pa_beginsFactor_11 (by decide) ?_
      refine lv_icmp_eq (tgt := 27) hx hb d_pa_beginsFactor_12 (by decide) (fun c4 => ?_) (fun c4 => ?_)
      · rw [if_pos c4] at h
        exact j_pa_beginsFactor_27 C w h _ _ _ hW (lv_sub hl [] rfl)
      · rw [if_neg c4] at h
        refine lv_iload_n hx hb d_pa_beginsFactor_15 rfl (lv_at hl 0 rfl) ?_
        refine lv_bipush (v := (45 : Int32)) hx hb d_pa_beginsFactor_16 (by decide) ?_
        refine lv_icmp_eq (tgt := 27) hx hb d_pa_beginsFactor_18 (by decide) (fun c5 => ?_) (fun c5 => ?_)
        · rw [if_pos c5] at h
          exact j_pa_beginsFactor_27 C w h _ _ _ hW (lv_sub hl [] rfl)
        · rw [if_neg c5] at h
          refine lv_iload_n hx hb d_pa_beginsFactor_21 rfl (lv_at hl 0 rfl) ?_
          refine lv_bipush (v := (40 : Int32)) hx hb d_pa_beginsFactor_22 (by decide) ?_
          refine lv_icmp_ne (tgt := 31) hx hb d_pa_beginsFactor_24 (by decide) (fun c6 => ?_) (fun c6 => ?_)
          · rw [if_neg c6] at h
            refine lv_iconst (v := (0 : Int32)) hx hb d_pa_beginsFactor_31 (by decide) ?_
            exact j_pa_beginsFactor_32 C (0 : Int32) w h _ _ _ hW (lv_sub hl [] rfl)
          · rw [if_pos c6] at h
            exact j_pa_beginsFactor_27 C w h _ _ _ hW (lv_sub hl [] rfl)
abbrev b_pa_readExpr : ByteArray := prog_3_method_15_code
def y_pa_readExpr : MethodName := ⟨"AlarmForge$Parser", "readExpr", "(I)I"⟩
def rm_pa_readExpr (d : Nat) : Room := { frames := 8 + 1 * d, cells := 0, slots := 0, locals := 142 + 25 * d }
def rx_pa_readExpr (d : Nat) : Room := { frames := 8 + 1 * d, cells := 1, slots := 6, locals := 142 + 25 * d }
abbrev b_pa_readTerm : ByteArray := prog_3_method_16_code
def y_pa_readTerm : MethodName := ⟨"AlarmForge$Parser", "readTerm", "(I)I"⟩
def rm_pa_readTerm (d : Nat) : Room := { frames := 8 + 1 * d, cells := 0, slots := 0, locals := 142 + 25 * d }
def rx_pa_readTerm (d : Nat) : Room := { frames := 8 + 1 * d, cells := 1, slots := 6, locals := 142 + 25 * d }
abbrev b_pa_readFactor : ByteArray := prog_3_method_19_code
def y_pa_readFactor : MethodName := ⟨"AlarmForge$Parser", "readFactor", "(I)I"⟩
def rm_pa_readFactor (d : Nat) : Room := { frames := 8 + 1 * d, cells := 0, slots := 0, locals := 142 + 25 * d }
def rx_pa_readFactor (d : Nat) : Room := { frames := 8 + 1 * d, cells := 1, slots := 6, locals := 142 + 25 * d }
def sA_pa3 (l : Launch) (D : va_G) (cA : Nat → ClassId) (base d : Nat) (g_pa_readExpr : Nat → Int32 → WW → Option ((Int32 ⊕ String) × WW)) (g_pa_readTerm : Nat → Int32 → WW → Option ((Int32 ⊕ String) × WW)) (g_pa_readFactor : Nat → Int32 → WW → Option ((Int32 ⊕ String) × WW)) : Prop := ((∀ {a0 : Nat} {a1 : Int32} {w w' : WW} {r : Int32}, g_pa_readExpr a0 a1 w = some (.inl r, w') → mt l D cls (wo_tys cA) cA base y_pa_readExpr (Cond.code y_pa_readExpr b_pa_readExpr 6 (some .int) :: gt) (rm_pa_readExpr d) [.ref (base + a0), .int a1] w (some (.int r)) w' (rm_pa_readExpr d).cells (rm_pa_readExpr d).slots) ∧ (∀ {a0 : Nat} {a1 : Int32} {w : WW} {r : ((Int32 ⊕ String) × WW)}, g_pa_readExpr a0 a1 w = some r → kb w a0 2 = true)) ∧ ((∀ {a0 : Nat} {a1 : Int32} {w w' : WW} {r : Int32}, g_pa_readTerm a0 a1 w = some (.inl r, w') → mt l D cls (wo_tys cA) cA base y_pa_readTerm (Cond.code y_pa_readTerm b_pa_readTerm 6 (some .int) :: gt) (rm_pa_readTerm d) [.ref (base + a0), .int a1] w (some (.int r)) w' (rm_pa_readTerm d).cells (rm_pa_readTerm d).slots) ∧ (∀ {a0 : Nat} {a1 : Int32} {w : WW} {r : ((Int32 ⊕ String) × WW)}, g_pa_readTerm a0 a1 w = some r → kb w a0 2 = true)) ∧ ((∀ {a0 : Nat} {a1 : Int32} {w w' : WW} {r : Int32}, g_pa_readFactor a0 a1 w = some (.inl r, w') → mt l D cls (wo_tys cA) cA base y_pa_readFactor (Cond.code y_pa_readFactor b_pa_readFactor 6 (some .int) :: gt) (rm_pa_readFactor d) [.ref (base + a0), .int a1] w (some (.int r)) w' (rm_pa_readFactor d).cells (rm_pa_readFactor d).slots) ∧ (∀ {a0 : Nat} {a1 : Int32} {w : WW} {r : ((Int32 ⊕ String) × WW)}, g_pa_readFactor a0 a1 w = some r → kb w a0 2 = true))
def sX_pa3 (l : Launch) (D : va_G) (cA : Nat → ClassId) (base d : Nat) (g_pa_readExpr : Nat → Int32 → WW → Option ((Int32 ⊕ String) × WW)) (g_pa_readTerm : Nat → Int32 → WW → Option ((Int32 ⊕ String) × WW)) (g_pa_readFactor : Nat → Int32 → WW → Option ((Int32 ⊕ String) × WW)) : Prop := (∀ {a0 : Nat} {a1 : Int32} {w w' : WW} {E : String}, g_pa_readExpr a0 a1 w = some (.inr E, w') → xt l D cls (wo_tys cA) cA base y_pa_readExpr (Cond.code y_pa_readExpr b_pa_readExpr 6 (some .int) :: gt) (rx_pa_readExpr d) [.ref (base + a0), .int a1] w E w' (rx_pa_readExpr d).cells (rx_pa_readExpr d).slots) ∧ (∀ {a0 : Nat} {a1 : Int32} {w w' : WW} {E : String}, g_pa_readTerm a0 a1 w = some (.inr E, w') → xt l D cls (wo_tys cA) cA base y_pa_readTerm (Cond.code y_pa_readTerm b_pa_readTerm 6 (some .int) :: gt) (rx_pa_readTerm d) [.ref (base + a0), .int a1] w E w' (rx_pa_readTerm d).cells (rx_pa_readTerm d).slots) ∧ (∀ {a0 : Nat} {a1 : Int32} {w w' : WW} {E : String}, g_pa_readFactor a0 a1 w = some (.inr E, w') → xt l D cls (wo_tys cA) cA base y_pa_readFactor (Cond.code y_pa_readFactor b_pa_readFactor 6 (some .int) :: gt) (rx_pa_readFactor d) [.ref (base + a0), .int a1] w E w' (rx_pa_readFactor d).cells (rx_pa_readFactor d).slots)
theorem xv_pa_143 {p : Program} {l : Launch} {e : Env} {R : Room} {s : State} {m : MethodId} {args : Array Value} {below : List Frame} {meth : Method} {c : Code} {H : Heap} {locs : List Loc} {cells slots : Nat} {Q : State → Prop} {D : va_G} {cA : Nat → ClassId} {base : Nat} {w w' : WW} {cc : ByteArray} {pc nL d : Nat} {ls : Array Slot} {rest st0 As : List Value} {E : String} {b : Nat} (hx : p.tables.exec = Jvm.exec) (hb : c.code = cc) (hml : c.maxLocals = nL) (hown : s.vm.findClass Rc_pa = some m.cls) (hts : ∀ w ∈ gt, w.before args s = true) (hK : va_K D cls (wo_tys cA) s) (hG : wo_G cA base s) (hW : wo_S D cls cA base s w H locs) (hM : xt l D cls (wo_tys cA) cA base y_pa_readTerm (Cond.code y_pa_readTerm b_pa_readTerm 6 (some .int) :: gt) (rx_pa_readTerm d) (.ref (base + b) :: As) w E w' (rx_pa_readTerm d).cells (rx_pa_readTerm d).slots) (hkb : kb w b 2 = true) (hR : (rx_pa_readTerm d).frames + 1 ≤ R.frames ∧ 8 + (6 + 11) + (rx_pa_readTerm d).locals ≤ R.locals) (hf : cells + (rx_pa_readTerm d).cells ≤ R.cells ∧ slots + (rx_pa_readTerm d).slots ≤ R.slots) (hn : As.length = 1) (hsz : ls.size = nL) (hst : st0 = As.reverse ++ .ref (base + b) :: rest) (hcat : (rest.map fun v => v.category).sum ≤ 8) (hdg : decode cc pc = .ok (.invokevirtual 143, 3)) (kk : ∀ (H1 : Heap) (locs1 : List Loc) (q : Addr) (ce : Cell), wo_S D cls cA base s w' H1 locs1 → H1[q]? = some ce → ce.vm = .none → s.vm.findClass E = some ce.cls → XW p l e R s m args below meth c H1 locs1 (cells + (rx_pa_readTerm d).cells) (slots + (rx_pa_readTerm d).slots) Q (F0 m pc ls rest) q) : W p l e R s m args below meth c H locs cells slots Q (F0 m pc ls st0) :=
  wo_xcallV (C := Rc_pa) hx hb hml hown hts hK hG hW hM hkb rfl (gt_of (i := 690) (by decide +kernel) (by decide +kernel)) (gt_of (i := 692) (by decide +kernel) (by decide +kernel)) (gt_sel (i := 15) (by decide +kernel) (by decide +kernel)) (gt_of (i := 2) (by decide +kernel) (by decide +kernel)) (gt_of (i := 693) (by decide +kernel) (by decide +kernel)) (by decide +kernel) hR hf hn hsz hst hcat hdg kk
theorem cv_pa_143 {p : Program} {l : Launch} {e : Env} {R : Room} {s : State} {m : MethodId} {args : Array Value} {below : List Frame} {meth : Method} {c : Code} {H : Heap} {locs : List Loc} {cells slots : Nat} {Q : State → Prop} {D : va_G} {cA : Nat → ClassId} {base : Nat} {w w' : WW} {cc : ByteArray} {pc nL d : Nat} {ls : Array Slot} {rest st0 As : List Value} {ov : Option Value} {b : Nat} (hx : p.tables.exec = Jvm.exec) (hb : c.code = cc) (hml : c.maxLocals = nL) (hown : s.vm.findClass Rc_pa = some m.cls) (hts : ∀ w ∈ gt, w.before args s = true) (hK : va_K D cls (wo_tys cA) s) (hG : wo_G cA base s) (hW : wo_S D cls cA base s w H locs) (hM : mt l D cls (wo_tys cA) cA base y_pa_readTerm (Cond.code y_pa_readTerm b_pa_readTerm 6 (some .int) :: gt) (rm_pa_readTerm d) (.ref (base + b) :: As) w ov w' (rm_pa_readTerm d).cells (rm_pa_readTerm d).slots) (hkb : kb w b 2 = true) (hR : (rm_pa_readTerm d).frames + 1 ≤ R.frames ∧ 8 + (6 + 11) + (rm_pa_readTerm d).locals ≤ R.locals) (hf : cells + (rm_pa_readTerm d).cells ≤ R.cells ∧ slots + (rm_pa_readTerm d).slots ≤ R.slots) (hn : As.length = 1) (hsz : ls.size = nL) (hst : st0 = As.reverse ++ .ref (base + b) :: rest) (hcat : (rest.map fun v => v.category).sum ≤ 8) (hdg : decode cc pc = .ok (.invokevirtual 143, 3)) (kk : ∀ (H1 : Heap) (locs1 : List Loc), wo_S D cls cA base s w' H1 locs1 → W p l e R s m args below meth c H1 locs1 (cells + (rm_pa_readTerm d).cells) (slots + (rm_pa_readTerm d).slots) Q (F0 m (pc + 3) ls (ov.toList ++ rest))) : W p l e R s m args below meth c H locs cells slots Q (F0 m pc ls st0) :=
  wo_callV (C := Rc_pa) hx hb hml hown hts hK hG hW hM hkb rfl (gt_of (i := 690) (by decide +kernel) (by decide +kernel)) (gt_of (i := 692) (by decide +kernel) (by decide +kernel)) (gt_sel (i := 15) (by decide +kernel) (by decide +kernel)) (gt_of (i := 2) (by decide +kernel) (by decide +kernel)) (gt_of (i := 693) (by decide +kernel) (by decide +kernel)) (by decide +kernel) hR hf hn hsz hst hcat hdg kk
theorem cs_pa_146 {p : Program} {l : Launch} {e : Env} {R : Room} {s : State} {m : MethodId} {args : Array Value} {below : List Frame} {meth : Method} {c : Code} {H : Heap} {locs : List Loc} {cells slots : Nat} {Q : State → Prop} {D : va_G} {cA : Nat → ClassId} {base : Nat} {w w' : WW} {cc : ByteArray} {pc nL : Nat} {ls : Array Slot} {rest st0 As : List Value} {ov : Option Value} (hx : p.tables.exec = Jvm.exec) (hb : c.code = cc) (hml : c.maxLocals = nL) (hown : s.vm.findClass Rc_pa = some m.cls) (hts : ∀ w ∈ gt, w.before args s = true) (hK : va_K D cls (wo_tys cA) s) (hG : wo_G cA base s) (hW : wo_S D cls cA base s w H locs) (hM : mt l D cls (wo_tys cA) cA base y_ma_max_II (Cond.code y_ma_max_II b_ma_max_II 2 (some .int) :: gt) rm_ma_max_II (As) w ov w' rm_ma_max_II.cells rm_ma_max_II.slots) (hR : rm_ma_max_II.frames + 1 ≤ R.frames ∧ 8 + (2 + 11) + rm_ma_max_II.locals ≤ R.locals) (hf : cells + rm_ma_max_II.cells ≤ R.cells ∧ slots + rm_ma_max_II.slots ≤ R.slots) (hn : As.length = 2) (hsz : ls.size = nL) (hst : st0 = As.reverse ++ rest) (hcat : (rest.map fun v => v.category).sum ≤ 8) (hdg : decode cc pc = .ok (.invokestatic 146, 3)) (kk : ∀ (H1 : Heap) (locs1 : List Loc), wo_S D cls cA base s w' H1 locs1 → W p l e R s m args below meth c H1 locs1 (cells + rm_ma_max_II.cells) (slots + rm_ma_max_II.slots) Q (F0 m (pc + 3) ls (ov.toList ++ rest))) : W p l e R s m args below meth c H locs cells slots Q (F0 m pc ls st0) :=
  wo_callS hx hb hml hown hts hK hG hW hM (gt_of (i := 708) (by decide +kernel) (by decide +kernel)) (gt_of (i := 598) (by decide +kernel) (by decide +kernel)) (gt_of (i := 20) (by decide +kernel) (by decide +kernel)) (gt_of (i := 599) (by decide +kernel) (by decide +kernel)) (by decide +kernel) hR hf hn hsz hst hcat hdg kk
theorem cv_pa_152 {p : Program} {l : Launch} {e : Env} {R : Room} {s : State} {m : MethodId} {args : Array Value} {below : List Frame} {meth : Method} {c : Code} {H : Heap} {locs : List Loc} {cells slots : Nat} {Q : State → Prop} {D : va_G} {cA : Nat → ClassId} {base : Nat} {w w' : WW} {cc : ByteArray} {pc nL : Nat} {ls : Array Slot} {rest st0 As : List Value} {ov : Option Value} {b : Nat} (hx : p.tables.exec = Jvm.exec) (hb : c.code = cc) (hml : c.maxLocals = nL) (hown : s.vm.findClass Rc_pa = some m.cls) (hts : ∀ w ∈ gt, w.before args s = true) (hK : va_K D cls (wo_tys cA) s) (hG : wo_G cA base s) (hW : wo_S D cls cA base s w H locs) (hM : mt l D cls (wo_tys cA) cA base y_pg_addStep (Cond.code y_pg_addStep b_pg_addStep 4 (none) :: gt) rm_pg_addStep (.ref (base + b) :: As) w ov w' rm_pg_addStep.cells rm_pg_addStep.slots) (hkb : kb w b 3 = true) (hR : rm_pg_addStep.frames + 1 ≤ R.frames ∧ 8 + (4 + 11) + rm_pg_addStep.locals ≤ R.locals) (hf : cells + rm_pg_addStep.cells ≤ R.cells ∧ slots + rm_pg_addStep.slots ≤ R.slots) (hn : As.length = 3) (hsz : ls.size = nL) (hst : st0 = As.reverse ++ .ref (base + b) :: rest) (hcat : (rest.map fun v => v.category).sum ≤ 8) (hdg : decode cc pc = .ok (.invokevirtual 152, 3)) (kk : ∀ (H1 : Heap) (locs1 : List Loc), wo_S D cls cA base s w' H1 locs1 → W p l e R s m args below meth c H1 locs1 (cells + rm_pg_addStep.cells) (slots + rm_pg_addStep.slots) Q (F0 m (pc + 3) ls (ov.toList ++ rest))) : W p l e R s m args below meth c H locs cells slots Q (F0 m pc ls st0) :=
  wo_callV (C := Rc_pg) hx hb hml hown hts hK hG hW hM hkb rfl (gt_of (i := 701) (by decide +kernel) (by decide +kernel)) (gt_of (i := 702) (by decide +kernel) (by decide +kernel)) (gt_of (i := 703) (by decide +kernel) (by decide +kernel)) (gt_of (i := 4) (by decide +kernel) (by decide +kernel)) (gt_of (i := 704) (by decide +kernel) (by decide +kernel)) (by decide +kernel) hR hf hn hsz hst hcat hdg kk
theorem xv_pa_155 {p : Program} {l : Launch} {e : Env} {R : Room} {s : State} {m : MethodId} {args : Array Value} {below : List Frame} {meth : Method} {c : Code} {H : Heap} {locs : List Loc} {cells slots : Nat} {Q : State → Prop} {D : va_G} {cA : Nat → ClassId} {base : Nat} {w w' : WW} {cc : ByteArray} {pc nL d : Nat} {ls : Array Slot} {rest st0 As : List Value} {E : String} {b : Nat} (hx : p.tables.exec = Jvm.exec) (hb : c.code = cc) (hml : c.maxLocals = nL) (hown : s.vm.findClass Rc_pa = some m.cls) (hts : ∀ w ∈ gt, w.before args s = true) (hK : va_K D cls (wo_tys cA) s) (hG : wo_G cA base s) (hW : wo_S D cls cA base s w H locs) (hM : xt l D cls (wo_tys cA) cA base y_pa_readFactor (Cond.code y_pa_readFactor b_pa_readFactor 6 (some .int) :: gt) (rx_pa_readFactor d) (.ref (base + b) :: As) w E w' (rx_pa_readFactor d).cells (rx_pa_readFactor d).slots) (hkb : kb w b 2 = true) (hR : (rx_pa_readFactor d).frames + 1 ≤ R.frames ∧ 8 + (6 + 11) + (rx_pa_readFactor d).locals ≤ R.locals) (hf : cells + (rx_pa_readFactor d).cells ≤ R.cells ∧ slots + (rx_pa_readFactor d).slots ≤ R.slots) (hn : As.length = 1) (hsz : ls.size = nL) (hst : st0 = As.reverse ++ .ref (base + b) :: rest) (hcat : (rest.map fun v => v.category).sum ≤ 8) (hdg : decode cc pc = .ok (.invokevirtual 155, 3)) (kk : ∀ (H1 : Heap) (locs1 : List Loc) (q : Addr) (ce : Cell), wo_S D cls cA base s w' H1 locs1 → H1[q]? = some ce → ce.vm = .none → s.vm.findClass E = some ce.cls → XW p l e R s m args below meth c H1 locs1 (cells + (rx_pa_readFactor d).cells) (slots + (rx_pa_readFactor d).slots) Q (F0 m pc ls rest) q) : W p l e R s m args below meth c H locs cells slots Q (F0 m pc ls st0) :=
  wo_xcallV (C := Rc_pa) hx hb hml hown hts hK hG hW hM hkb rfl (gt_of (i := 694) (by decide +kernel) (by decide +kernel)) (gt_of (i := 696) (by decide +kernel) (by decide +kernel)) (gt_sel (i := 16) (by decide +kernel) (by decide +kernel)) (gt_of (i := 2) (by decide +kernel) (by decide +kernel)) (gt_of (i := 697) (by decide +kernel) (by decide +kernel)) (by decide +kernel) hR hf hn hsz hst hcat hdg kk
theorem cv_pa_155 {p : Program} {l : Launch} {e : Env} {R : Room} {s : State} {m : MethodId} {args : Array Value} {below : List Frame} {meth : Method} {c : Code} {H : Heap} {locs : List Loc} {cells slots : Nat} {Q : State → Prop} {D : va_G} {cA : Nat → ClassId} {base : Nat} {w w' : WW} {cc : ByteArray} {pc nL d : Nat} {ls : Array Slot} {rest st0 As : List Value} {ov : Option Value} {b : Nat} (hx : p.tables.exec = Jvm.exec) (hb : c.code = cc) (hml : c.maxLocals = nL) (hown : s.vm.findClass Rc_pa = some m.cls) (hts : ∀ w ∈ gt, w.before args s = true) (hK : va_K D cls (wo_tys cA) s) (hG : wo_G cA base s) (hW : wo_S D cls cA base s w H locs) (hM : mt l D cls (wo_tys cA) cA base y_pa_readFactor (Cond.code y_pa_readFactor b_pa_readFactor 6 (some .int) :: gt) (rm_pa_readFactor d) (.ref (base + b) :: As) w ov w' (rm_pa_readFactor d).cells (rm_pa_readFactor d).slots) (hkb : kb w b 2 = true) (hR : (rm_pa_readFactor d).frames + 1 ≤ R.frames ∧ 8 + (6 + 11) + (rm_pa_readFactor d).locals ≤ R.locals) (hf : cells + (rm_pa_readFactor d).cells ≤ R.cells ∧ slots + (rm_pa_readFactor d).slots ≤ R.slots) (hn : As.length = 1) (hsz : ls.size = nL) (hst : st0 = As.reverse ++ .ref (base + b) :: rest) (hcat : (rest.map fun v => v.category).sum ≤ 8) (hdg : decode cc pc = .ok (.invokevirtual 155, 3)) (kk : ∀ (H1 : Heap) (locs1 : List Loc), wo_S D cls cA base s w' H1 locs1 → W p l e R s m args below meth c H1 locs1 (cells + (rm_pa_readFactor d).cells) (slots + (rm_pa_readFactor d).slots) Q (F0 m (pc + 3) ls (ov.toList ++ rest))) : W p l e R s m args below meth c H locs cells slots Q (F0 m pc ls st0) :=
  wo_callV (C := Rc_pa) hx hb hml hown hts hK hG hW hM hkb rfl (gt_of (i := 694) (by decide +kernel) (by decide +kernel)) (gt_of (i := 696) (by decide +kernel) (by decide +kernel)) (gt_sel (i := 16) (by decide +kernel) (by decide +kernel)) (gt_of (i := 2) (by decide +kernel) (by decide +kernel)) (gt_of (i := 697) (by decide +kernel) (by decide +kernel)) (by decide +kernel) hR hf hn hsz hst hcat hdg kk
theorem cs_pa_158 {p : Program} {l : Launch} {e : Env} {R : Room} {s : State} {m : MethodId} {args : Array Value} {below : List Frame} {meth : Method} {c : Code} {H : Heap} {locs : List Loc} {cells slots : Nat} {Q : State → Prop} {D : va_G} {cA : Nat → ClassId} {base : Nat} {w w' : WW} {cc : ByteArray} {pc nL : Nat} {ls : Array Slot} {rest st0 As : List Value} {ov : Option Value} (hx : p.tables.exec = Jvm.exec) (hb : c.code = cc) (hml : c.maxLocals = nL) (hown : s.vm.findClass Rc_pa = some m.cls) (hts : ∀ w ∈ gt, w.before args s = true) (hK : va_K D cls (wo_tys cA) s) (hG : wo_G cA base s) (hW : wo_S D cls cA base s w H locs) (hM : mt l D cls (wo_tys cA) cA base y_pa_isProductSign (Cond.code y_pa_isProductSign b_pa_isProductSign 1 (some .boolean) :: gt) rm_pa_isProductSign (As) w ov w' rm_pa_isProductSign.cells rm_pa_isProductSign.slots) (hR : rm_pa_isProductSign.frames + 1 ≤ R.frames ∧ 8 + (1 + 11) + rm_pa_isProductSign.locals ≤ R.locals) (hf : cells + rm_pa_isProductSign.cells ≤ R.cells ∧ slots + rm_pa_isProductSign.slots ≤ R.slots) (hn : As.length = 1) (hsz : ls.size = nL) (hst : st0 = As.reverse ++ rest) (hcat : (rest.map fun v => v.category).sum ≤ 8) (hdg : decode cc pc = .ok (.invokestatic 158, 3)) (kk : ∀ (H1 : Heap) (locs1 : List Loc), wo_S D cls cA base s w' H1 locs1 → W p l e R s m args below meth c H1 locs1 (cells + rm_pa_isProductSign.cells) (slots + rm_pa_isProductSign.slots) Q (F0 m (pc + 3) ls (ov.toList ++ rest))) : W p l e R s m args below meth c H locs cells slots Q (F0 m pc ls st0) :=
  wo_callS hx hb hml hown hts hK hG hW hM (gt_of (i := 705) (by decide +kernel) (by decide +kernel)) (gt_of (i := 706) (by decide +kernel) (by decide +kernel)) (gt_of (i := 2) (by decide +kernel) (by decide +kernel)) (gt_of (i := 707) (by decide +kernel) (by decide +kernel)) (by decide +kernel) hR hf hn hsz hst hcat hdg kk
theorem cs_pa_161 {p : Program} {l : Launch} {e : Env} {R : Room} {s : State} {m : MethodId} {args : Array Value} {below : List Frame} {meth : Method} {c : Code} {H : Heap} {locs : List Loc} {cells slots : Nat} {Q : State → Prop} {D : va_G} {cA : Nat → ClassId} {base : Nat} {w w' : WW} {cc : ByteArray} {pc nL : Nat} {ls : Array Slot} {rest st0 As : List Value} {ov : Option Value} (hx : p.tables.exec = Jvm.exec) (hb : c.code = cc) (hml : c.maxLocals = nL) (hown : s.vm.findClass Rc_pa = some m.cls) (hts : ∀ w ∈ gt, w.before args s = true) (hK : va_K D cls (wo_tys cA) s) (hG : wo_G cA base s) (hW : wo_S D cls cA base s w H locs) (hM : mt l D cls (wo_tys cA) cA base y_pa_beginsFactor (Cond.code y_pa_beginsFactor b_pa_beginsFactor 1 (some .boolean) :: gt) rm_pa_beginsFactor (As) w ov w' rm_pa_beginsFactor.cells rm_pa_beginsFactor.slots) (hR : rm_pa_beginsFactor.frames + 1 ≤ R.frames ∧ 8 + (1 + 11) + rm_pa_beginsFactor.locals ≤ R.locals) (hf : cells + rm_pa_beginsFactor.cells ≤ R.cells ∧ slots + rm_pa_beginsFactor.slots ≤ R.slots) (hn : As.length = 1) (hsz : ls.size = nL) (hst : st0 = As.reverse ++ rest) (hcat : (rest.map fun v => v.category).sum ≤ 8) (hdg : decode cc pc = .ok (.invokestatic 161, 3)) (kk : ∀ (H1 : Heap) (locs1 : List Loc), wo_S D cls cA base s w' H1 locs1 → W p l e R s m args below meth c H1 locs1 (cells + rm_pa_beginsFactor.cells) (slots + rm_pa_beginsFactor.slots) Q (F0 m (pc + 3) ls (ov.toList ++ rest))) : W p l e R s m args below meth c H locs cells slots Q (F0 m pc ls st0) :=
  wo_callS hx hb hml hown hts hK hG hW hM (gt_of (i := 698) (by decide +kernel) (by decide +kernel)) (gt_of (i := 699) (by decide +kernel) (by decide +kernel)) (gt_of (i := 2) (by decide +kernel) (by decide +kernel)) (gt_of (i := 700) (by decide +kernel) (by decide +kernel)) (by decide +kernel) hR hf hn hsz hst hcat hdg kk
theorem xv_pa_121 {p : Program} {l : Launch} {e : Env} {R : Room} {s : State} {m : MethodId} {args : Array Value} {below : List Frame} {meth : Method} {c : Code} {H : Heap} {locs : List Loc} {cells slots : Nat} {Q : State → Prop} {D : va_G} {cA : Nat → ClassId} {base : Nat} {w w' : WW} {cc : ByteArray} {pc nL d : Nat} {ls : Array Slot} {rest st0 As : List Value} {E : String} {b : Nat} (hx : p.tables.exec = Jvm.exec) (hb : c.code = cc) (hml : c.maxLocals = nL) (hown : s.vm.findClass Rc_pa = some m.cls) (hts : ∀ w ∈ gt, w.before args s = true) (hK : va_K D cls (wo_tys cA) s) (hG : wo_G cA base s) (hW : wo_S D cls cA base s w H locs) (hM : xt l D cls (wo_tys cA) cA base y_pa_readExpr (Cond.code y_pa_readExpr b_pa_readExpr 6 (some .int) :: gt) (rx_pa_readExpr d) (.ref (base + b) :: As) w E w' (rx_pa_readExpr d).cells (rx_pa_readExpr d).slots) (hkb : kb w b 2 = true) (hR : (rx_pa_readExpr d).frames + 1 ≤ R.frames ∧ 8 + (6 + 11) + (rx_pa_readExpr d).locals ≤ R.locals) (hf : cells + (rx_pa_readExpr d).cells ≤ R.cells ∧ slots + (rx_pa_readExpr d).slots ≤ R.slots) (hn : As.length = 1) (hsz : ls.size = nL) (hst : st0 = As.reverse ++ .ref (base + b) :: rest) (hcat : (rest.map fun v => v.category).sum ≤ 8) (hdg : decode cc pc = .ok (.invokevirtual 121, 3)) (kk : ∀ (H1 : Heap) (locs1 : List Loc) (q : Addr) (ce : Cell), wo_S D cls cA base s w' H1 locs1 → H1[q]? = some ce → ce.vm = .none → s.vm.findClass E = some ce.cls → XW p l e R s m args below meth c H1 locs1 (cells + (rx_pa_readExpr d).cells) (slots + (rx_pa_readExpr d).slots) Q (F0 m pc ls rest) q) : W p l e R s m args below meth c H locs cells slots Q (F0 m pc ls st0) :=
  wo_xcallV (C := Rc_pa) hx hb hml hown hts hK hG hW hM hkb rfl (gt_of (i := 686) (by decide +kernel) (by decide +kernel)) (gt_of (i := 688) (by decide +kernel) (by decide +kernel)) (gt_sel (i := 14) (by decide +kernel) (by decide +kernel)) (gt_of (i := 2) (by decide +kernel) (by decide +kernel)) (gt_of (i := 689) (by decide +kernel) (by decide +kernel)) (by decide +kernel) hR hf hn hsz hst hcat hdg kk
theorem cv_pa_121 {p : Program} {l : Launch} {e : Env} {R : Room} {s : State} {m : MethodId} {args : Array Value} {below : List Frame} {meth : Method} {c : Code} {H : Heap} {locs : List Loc} {cells slots : Nat} {Q : State → Prop} {D : va_G} {cA : Nat → ClassId} {base : Nat} {w w' : WW} {cc : ByteArray} {pc nL d : Nat} {ls : Array Slot} {rest st0 As : List Value} {ov : Option Value} {b : Nat} (hx : p.tables.exec = Jvm.exec) (hb : c.code = cc) (hml : c.maxLocals = nL) (hown : s.vm.findClass Rc_pa = some m.cls) (hts : ∀ w ∈ gt, w.before args s = true) (hK : va_K D cls (wo_tys cA) s) (hG : wo_G cA base s) (hW : wo_S D cls cA base s w H locs) (hM : mt l D cls (wo_tys cA) cA base y_pa_readExpr (Cond.code y_pa_readExpr b_pa_readExpr 6 (some .int) :: gt) (rm_pa_readExpr d) (.ref (base + b) :: As) w ov w' (rm_pa_readExpr d).cells (rm_pa_readExpr d).slots) (hkb : kb w b 2 = true) (hR : (rm_pa_readExpr d).frames + 1 ≤ R.frames ∧ 8 + (6 + 11) + (rm_pa_readExpr d).locals ≤ R.locals) (hf : cells + (rm_pa_readExpr d).cells ≤ R.cells ∧ slots + (rm_pa_readExpr d).slots ≤ R.slots) (hn : As.length = 1) (hsz : ls.size = nL) (hst : st0 = As.reverse ++ .ref (base + b) :: rest) (hcat : (rest.map fun v => v.category).sum ≤ 8) (hdg : decode cc pc = .ok (.invokevirtual 121, 3)) (kk : ∀ (H1 : Heap) (locs1 : List Loc), wo_S D cls cA base s w' H1 locs1 → W p l e R s m args below meth c H1 locs1 (cells + (rm_pa_readExpr d).cells) (slots + (rm_pa_readExpr d).slots) Q (F0 m (pc + 3) ls (ov.toList ++ rest))) : W p l e R s m args below meth c H locs cells slots Q (F0 m pc ls st0) :=
  wo_callV (C := Rc_pa) hx hb hml hown hts hK hG hW hM hkb rfl (gt_of (i := 686) (by decide +kernel) (by decide +kernel)) (gt_of (i := 688) (by decide +kernel) (by decide +kernel)) (gt_sel (i := 14) (by decide +kernel) (by decide +kernel)) (gt_of (i := 2) (by decide +kernel) (by decide +kernel)) (gt_of (i := 689) (by decide +kernel) (by decide +kernel)) (by decide +kernel) hR hf hn hsz hst hcat hdg kk
theorem xv_pa_108 {p : Program} {l : Launch} {e : Env} {R : Room} {s : State} {m : MethodId} {args : Array Value} {below : List Frame} {meth : Method} {c : Code} {H : Heap} {locs : List Loc} {cells slots : Nat} {Q : State → Prop} {D : va_G} {cA : Nat → ClassId} {base : Nat} {w w' : WW} {cc : ByteArray} {pc nL : Nat} {ls : Array Slot} {rest st0 As : List Value} {E : String} {b : Nat} (hx : p.tables.exec = Jvm.exec) (hb : c.code = cc) (hml : c.maxLocals = nL) (hown : s.vm.findClass Rc_pa = some m.cls) (hts : ∀ w ∈ gt, w.before args s = true) (hK : va_K D cls (wo_tys cA) s) (hG : wo_G cA base s) (hW : wo_S D cls cA base s w H locs) (hM : xt l D cls (wo_tys cA) cA base y_pa_take (Cond.code y_pa_take b_pa_take 2 (none) :: gt) rx_pa_take (.ref (base + b) :: As) w E w' rx_pa_take.cells rx_pa_take.slots) (hkb : kb w b 2 = true) (hR : rx_pa_take.frames + 1 ≤ R.frames ∧ 8 + (2 + 11) + rx_pa_take.locals ≤ R.locals) (hf : cells + rx_pa_take.cells ≤ R.cells ∧ slots + rx_pa_take.slots ≤ R.slots) (hn : As.length = 1) (hsz : ls.size = nL) (hst : st0 = As.reverse ++ .ref (base + b) :: rest) (hcat : (rest.map fun v => v.category).sum ≤ 8) (hdg : decode cc pc = .ok (.invokevirtual 108, 3)) (kk : ∀ (H1 : Heap) (locs1 : List Loc) (q : Addr) (ce : Cell), wo_S D cls cA base s w' H1 locs1 → H1[q]? = some ce → ce.vm = .none → s.vm.findClass E = some ce.cls → XW p l e R s m args below meth c H1 locs1 (cells + rx_pa_take.cells) (slots + rx_pa_take.slots) Q (F0 m pc ls rest) q) : W p l e R s m args below meth c H locs cells slots Q (F0 m pc ls st0) :=
  wo_xcallV (C := Rc_pa) hx hb hml hown hts hK hG hW hM hkb rfl (gt_of (i := 682) (by decide +kernel) (by decide +kernel)) (gt_of (i := 684) (by decide +kernel) (by decide +kernel)) (gt_sel (i := 13) (by decide +kernel) (by decide +kernel)) (gt_of (i := 2) (by decide +kernel) (by decide +kernel)) (gt_of (i := 685) (by decide +kernel) (by decide +kernel)) (by decide +kernel) hR hf hn hsz hst hcat hdg kk
theorem cv_pa_108 {p : Program} {l : Launch} {e : Env} {R : Room} {s : State} {m : MethodId} {args : Array Value} {below : List Frame} {meth : Method} {c : Code} {H : Heap} {locs : List Loc} {cells slots : Nat} {Q : State → Prop} {D : va_G} {cA : Nat → ClassId} {base : Nat} {w w' : WW} {cc : ByteArray} {pc nL : Nat} {ls : Array Slot} {rest st0 As : List Value} {ov : Option Value} {b : Nat} (hx : p.tables.exec = Jvm.exec) (hb : c.code = cc) (hml : c.maxLocals = nL) (hown : s.vm.findClass Rc_pa = some m.cls) (hts : ∀ w ∈ gt, w.before args s = true) (hK : va_K D cls (wo_tys cA) s) (hG : wo_G cA base s) (hW : wo_S D cls cA base s w H locs) (hM : mt l D cls (wo_tys cA) cA base y_pa_take (Cond.code y_pa_take b_pa_take 2 (none) :: gt) rm_pa_take (.ref (base + b) :: As) w ov w' rm_pa_take.cells rm_pa_take.slots) (hkb : kb w b 2 = true) (hR : rm_pa_take.frames + 1 ≤ R.frames ∧ 8 + (2 + 11) + rm_pa_take.locals ≤ R.locals) (hf : cells + rm_pa_take.cells ≤ R.cells ∧ slots + rm_pa_take.slots ≤ R.slots) (hn : As.length = 1) (hsz : ls.size = nL) (hst : st0 = As.reverse ++ .ref (base + b) :: rest) (hcat : (rest.map fun v => v.category).sum ≤ 8) (hdg : decode cc pc = .ok (.invokevirtual 108, 3)) (kk : ∀ (H1 : Heap) (locs1 : List Loc), wo_S D cls cA base s w' H1 locs1 → W p l e R s m args below meth c H1 locs1 (cells + rm_pa_take.cells) (slots + rm_pa_take.slots) Q (F0 m (pc + 3) ls (ov.toList ++ rest))) : W p l e R s m args below meth c H locs cells slots Q (F0 m pc ls st0) :=
  wo_callV (C := Rc_pa) hx hb hml hown hts hK hG hW hM hkb rfl (gt_of (i := 682) (by decide +kernel) (by decide +kernel)) (gt_of (i := 684) (by decide +kernel) (by decide +kernel)) (gt_sel (i := 13) (by decide +kernel) (by decide +kernel)) (gt_of (i := 2) (by decide +kernel) (by decide +kernel)) (gt_of (i := 685) (by decide +kernel) (by decide +kernel)) (by decide +kernel) hR hf hn hsz hst hcat hdg kk
theorem d_pa_readExpr_0 : decode b_pa_readExpr 0 = .ok (.aload_n 0, 1) := by decide +kernel
theorem d_pa_readExpr_1 : decode b_pa_readExpr 1 = .ok (.iload_n 1, 1) := by decide +kernel
theorem d_pa_readExpr_2 : decode b_pa_readExpr 2 = .ok (.invokevirtual 143, 3) := by decide +kernel
theorem d_pa_readExpr_5 : decode b_pa_readExpr 5 = .ok (.istore_n 2, 1) := by decide +kernel
theorem d_pa_readExpr_6 : decode b_pa_readExpr 6 = .ok (.iconst 0, 1) := by decide +kernel
theorem d_pa_readExpr_7 : decode b_pa_readExpr 7 = .ok (.istore_n 3, 1) := by decide +kernel
theorem d_pa_readExpr_8 : decode b_pa_readExpr 8 = .ok (.iload_n 3, 1) := by decide +kernel
theorem d_pa_readExpr_9 : decode b_pa_readExpr 9 = .ok (.sipush (200), 3) := by decide +kernel
theorem d_pa_readExpr_12 : decode b_pa_readExpr 12 = .ok (.if_icmp .ge (90), 3) := by decide +kernel
theorem d_pa_readExpr_15 : decode b_pa_readExpr 15 = .ok (.aload_n 0, 1) := by decide +kernel
theorem d_pa_readExpr_16 : decode b_pa_readExpr 16 = .ok (.invokevirtual 55, 3) := by decide +kernel
theorem d_pa_readExpr_19 : decode b_pa_readExpr 19 = .ok (.bipush (43), 2) := by decide +kernel
theorem d_pa_readExpr_21 : decode b_pa_readExpr 21 = .ok (.if_icmp .eq (12), 3) := by decide +kernel
theorem d_pa_readExpr_24 : decode b_pa_readExpr 24 = .ok (.aload_n 0, 1) := by decide +kernel
theorem d_pa_readExpr_25 : decode b_pa_readExpr 25 = .ok (.invokevirtual 55, 3) := by decide +kernel
theorem d_pa_readExpr_28 : decode b_pa_readExpr 28 = .ok (.bipush (45), 2) := by decide +kernel
theorem d_pa_readExpr_30 : decode b_pa_readExpr 30 = .ok (.if_icmp .ne (72), 3) := by decide +kernel
theorem d_pa_readExpr_33 : decode b_pa_readExpr 33 = .ok (.aload_n 0, 1) := by decide +kernel
theorem d_pa_readExpr_34 : decode b_pa_readExpr 34 = .ok (.invokevirtual 55, 3) := by decide +kernel
theorem d_pa_readExpr_37 : decode b_pa_readExpr 37 = .ok (.istore 4, 2) := by decide +kernel
theorem d_pa_readExpr_39 : decode b_pa_readExpr 39 = .ok (.aload_n 0, 1) := by decide +kernel
theorem d_pa_readExpr_40 : decode b_pa_readExpr 40 = .ok (.getfield 12, 3) := by decide +kernel
theorem d_pa_readExpr_43 : decode b_pa_readExpr 43 = .ok (.getfield 49, 3) := by decide +kernel
theorem d_pa_readExpr_46 : decode b_pa_readExpr 46 = .ok (.aload_n 0, 1) := by decide +kernel
theorem d_pa_readExpr_47 : decode b_pa_readExpr 47 = .ok (.getfield 34, 3) := by decide +kernel
theorem d_pa_readExpr_50 : decode b_pa_readExpr 50 = .ok (.iaload, 1) := by decide +kernel
theorem d_pa_readExpr_51 : decode b_pa_readExpr 51 = .ok (.istore 5, 2) := by decide +kernel
theorem d_pa_readExpr_53 : decode b_pa_readExpr 53 = .ok (.aload_n 0, 1) := by decide +kernel
theorem d_pa_readExpr_54 : decode b_pa_readExpr 54 = .ok (.iload_n 2, 1) := by decide +kernel
theorem d_pa_readExpr_55 : decode b_pa_readExpr 55 = .ok (.bipush (16), 2) := by decide +kernel
theorem d_pa_readExpr_57 : decode b_pa_readExpr 57 = .ok (.if_icmp .ge (7), 3) := by decide +kernel
theorem d_pa_readExpr_60 : decode b_pa_readExpr 60 = .ok (.iconst 1, 1) := by decide +kernel
theorem d_pa_readExpr_61 : decode b_pa_readExpr 61 = .ok (.goto (4), 3) := by decide +kernel
theorem d_pa_readExpr_64 : decode b_pa_readExpr 64 = .ok (.iconst 0, 1) := by decide +kernel
theorem d_pa_readExpr_65 : decode b_pa_readExpr 65 = .ok (.invokevirtual 59, 3) := by decide +kernel
theorem d_pa_readExpr_68 : decode b_pa_readExpr 68 = .ok (.aload_n 0, 1) := by decide +kernel
theorem d_pa_readExpr_69 : decode b_pa_readExpr 69 = .ok (.invokevirtual 63, 3) := by decide +kernel
theorem d_pa_readExpr_72 : decode b_pa_readExpr 72 = .ok (.iconst 1, 1) := by decide +kernel
theorem d_pa_readExpr_73 : decode b_pa_readExpr 73 = .ok (.iload_n 2, 1) := by decide +kernel
theorem d_pa_readExpr_74 : decode b_pa_readExpr 74 = .ok (.aload_n 0, 1) := by decide +kernel
theorem d_pa_readExpr_75 : decode b_pa_readExpr 75 = .ok (.iload_n 1, 1) := by decide +kernel
theorem d_pa_readExpr_76 : decode b_pa_readExpr 76 = .ok (.invokevirtual 143, 3) := by decide +kernel
theorem d_pa_readExpr_79 : decode b_pa_readExpr 79 = .ok (.invokestatic 146, 3) := by decide +kernel
theorem d_pa_readExpr_82 : decode b_pa_readExpr 82 = .ok (.iadd, 1) := by decide +kernel
theorem d_pa_readExpr_83 : decode b_pa_readExpr 83 = .ok (.istore_n 2, 1) := by decide +kernel
theorem d_pa_readExpr_84 : decode b_pa_readExpr 84 = .ok (.aload_n 0, 1) := by decide +kernel
theorem d_pa_readExpr_85 : decode b_pa_readExpr 85 = .ok (.getfield 22, 3) := by decide +kernel
theorem d_pa_readExpr_88 : decode b_pa_readExpr 88 = .ok (.iload 4, 2) := by decide +kernel
theorem d_pa_readExpr_90 : decode b_pa_readExpr 90 = .ok (.iconst 0, 1) := by decide +kernel
theorem d_pa_readExpr_91 : decode b_pa_readExpr 91 = .ok (.iload 5, 2) := by decide +kernel
theorem d_pa_readExpr_93 : decode b_pa_readExpr 93 = .ok (.invokevirtual 152, 3) := by decide +kernel
theorem d_pa_readExpr_96 : decode b_pa_readExpr 96 = .ok (.iinc 3 (1), 3) := by decide +kernel
theorem d_pa_readExpr_99 : decode b_pa_readExpr 99 = .ok (.goto (-91), 3) := by decide +kernel
theorem d_pa_readExpr_102 : decode b_pa_readExpr 102 = .ok (.iload_n 2, 1) := by decide +kernel
theorem d_pa_readExpr_103 : decode b_pa_readExpr 103 = .ok (.ireturn, 1) := by decide +kernel
theorem kbo_pa_readExpr {g_pa_readExpr : Nat → Int32 → WW → Option ((Int32 ⊕ String) × WW)} {g_pa_readTerm : Nat → Int32 → WW → Option ((Int32 ⊕ String) × WW)} {g_pa_readFactor : Nat → Int32 → WW → Option ((Int32 ⊕ String) × WW)} {a0 : Nat} {a1 : Int32} {w : WW} {r : ((Int32 ⊕ String) × WW)} (h : fo_pa_readExpr g_pa_readExpr g_pa_readTerm g_pa_readFactor a0 a1 w = some r) : kb w a0 2 = true := (its h).1
set_option maxHeartbeats 4000000 in
set_option maxRecDepth 100000 in
theorem j_pa_readExpr_102 {p : Program} {l : Launch} {e : Env} {s : State} {m : MethodId} {args : Array Value} {below : List Frame} {meth : Method} {c : Code} {D : va_G} {cA : Nat → ClassId} {base : Nat} {r : Int32} {w' : WW} (C : cx b_pa_readExpr (some .int) 6 y_pa_readExpr.cls "readExpr" p s m args meth c D cA base) {d : Nat} {g_pa_readExpr : Nat → Int32 → WW → Option ((Int32 ⊕ String) × WW)} {g_pa_readTerm : Nat → Int32 → WW → Option ((Int32 ⊕ String) × WW)} {g_pa_readFactor : Nat → Int32 → WW → Option ((Int32 ⊕ String) × WW)} (HG : sA_pa3 l D cA base d g_pa_readExpr g_pa_readTerm g_pa_readFactor )   : ∀ (y2 : Int32) (w : WW), f_pa_readExpr_102 g_pa_readExpr g_pa_readTerm g_pa_readFactor y2 w = some (.inl r, w') → ∀ (H : Heap) (locs : List Loc) (ls : Array Slot), wo_S D cls cA base s w H locs → lv_has ls 6 [(2, .int y2)] → W p l e (rm_pa_readExpr (d + 1)) s m args below meth c H locs 0 0 (MQ below (wo_Q D cls cA base (some (.int r)) w') args s (rm_pa_readExpr (d + 1)).cells (rm_pa_readExpr (d + 1)).slots (wo_B base)) (F0 m 102 ls []) := by
  obtain ⟨hx, hb, hr, hml, hown, hts, hlk, hnm, hK, hG⟩ := id C
  intro y2 w h H locs ls hW hl
  unfold f_pa_readExpr_102 at h
  refine lv_iload_n hx hb d_pa_readExpr_102 rfl (lv_at hl 0 rfl) ?_
  cases h
  exact wo_iret hx hb hr hlk hW d_pa_readExpr_103
set_option maxHeartbeats 4000000 in
set_option maxRecDepth 100000 in
theorem j_pa_readExpr_65 {p : Program} {l : Launch} {e : Env} {s : State} {m : MethodId} {args : Array Value} {below : List Frame} {meth : Method} {c : Code} {D : va_G} {cA : Nat → ClassId} {base : Nat} {r : Int32} {w' : WW} (C : cx b_pa_readExpr (some .int) 6 y_pa_readExpr.cls "readExpr" p s m args meth c D cA base) {d : Nat} {g_pa_readExpr : Nat → Int32 → WW → Option ((Int32 ⊕ String) × WW)} {g_pa_readTerm : Nat → Int32 → WW → Option ((Int32 ⊕ String) × WW)} {g_pa_readFactor : Nat → Int32 → WW → Option ((Int32 ⊕ String) × WW)} (HG : sA_pa3 l D cA base d g_pa_readExpr g_pa_readTerm g_pa_readFactor ) {k_8 : Nat → Int32 → Int32 → Int32 → WW → Option ((Int32 ⊕ String) × WW)} (hk_8 : ∀ (y0 : Nat) (y1 : Int32) (y2 : Int32) (y3 : Int32) (w : WW), k_8 y0 y1 y2 y3 w = some (.inl r, w') → ∀ (H : Heap) (locs : List Loc) (ls : Array Slot), wo_S D cls cA base s w H locs → lv_has ls 6 [(0, .ref (base + y0)), (1, .int y1), (2, .int y2), (3, .int y3)] → W p l e (rm_pa_readExpr (d + 1)) s m args below meth c H locs 0 0 (MQ below (wo_Q D cls cA base (some (.int r)) w') args s (rm_pa_readExpr (d + 1)).cells (rm_pa_readExpr (d + 1)).slots (wo_B base)) (F0 m 8 ls [])) : ∀ (y0 : Nat) (y1 : Int32) (y2 : Int32) (y3 : Int32) (y4 : Int32) (y5 : Int32) (z0 : Nat) (z1 : Int32) (w : WW), f_pa_readExpr_65 g_pa_readExpr g_pa_readTerm g_pa_readFactor k_8 y0 y1 y2 y3 y4 y5 z0 z1 w = some (.inl r, w') → ∀ (H : Heap) (locs : List Loc) (ls : Array Slot), wo_S D cls cA base s w H locs → lv_has ls 6 [(0, .ref (base + y0)), (1, .int y1), (2, .int y2), (3, .int y3), (4, .int y4), (5, .int y5)] → W p l e (rm_pa_readExpr (d + 1)) s m args below meth c H locs 0 0 (MQ below (wo_Q D cls cA base (some (.int r)) w') args s (rm_pa_readExpr (d + 1)).cells (rm_pa_readExpr (d + 1)).slots (wo_B base)) (F0 m 65 ls [.int z1, .ref (base + z0)]) := by
  obtain ⟨hx, hb, hr, hml, hown, hts, hlk, hnm, hK, hG⟩ := id C
  intro y0 y1 y2 y3 y4 y5 z0 z1 w h H locs ls hW hl
  unfold f_pa_readExpr_65 at h
  replace h := bsx h
  obtain ⟨x15, w14, hw14, h⟩ := h
  refine cv_pa_59 (As := [.int z1]) (rest := []) hx hb hml hown hts hK hG hW (c_pa_need l D cA base hw14) (kb_pa_need hw14) ⟨by show 6 + 1 ≤ 8 + 1 * (d + 1); omega, by show 8 + (2 + 11) + 100 ≤ 142 + 25 * (d + 1); omega⟩ ⟨Nat.le_of_ble_eq_true rfl, Nat.le_of_ble_eq_true rfl⟩ rfl hl.1 rfl (Nat.le_of_ble_eq_true rfl) d_pa_readExpr_65 (fun H locs hW => ?_)
  refine lv_aload_n hx hb d_pa_readExpr_68 rfl (lv_at hl 0 rfl) ?_
  replace h := bs h
  obtain ⟨w16, hw16, h⟩ := h
  refine cv_pa_63 (As := []) (rest := []) hx hb hml hown hts hK hG hW (c_pa_advance l D cA base hw16) (kb_pa_advance hw16) ⟨by show 0 + 1 ≤ 8 + 1 * (d + 1); omega, by show 8 + (1 + 11) + 0 ≤ 142 + 25 * (d + 1); omega⟩ ⟨Nat.le_of_ble_eq_true rfl, Nat.le_of_ble_eq_true rfl⟩ rfl hl.1 rfl (Nat.le_of_ble_eq_true rfl) d_pa_readExpr_69 (fun H locs hW => ?_)
  refine lv_iconst (v := (1 : Int32)) hx hb d_pa_readExpr_72 (by decide) ?_
  refine lv_iload_n hx hb d_pa_readExpr_73 rfl (lv_at hl 2 rfl) ?_
  refine lv_aload_n hx hb d_pa_readExpr_74 rfl (lv_at hl 0 rfl) ?_
  refine lv_iload_n hx hb d_pa_readExpr_75 rfl (lv_at hl 1 rfl) ?_
  replace h := bsx h
  obtain ⟨x18, w17, hw17, h⟩ := h
  refine cv_pa_143 (As := [.int y1]) (rest := [.int y2, .int (1 : Int32)]) hx hb hml hown hts hK hG hW (HG.2.1.1 hw17) (HG.2.1.2 hw17) ⟨by show 8 + 1 * d + 1 ≤ 8 + 1 * (d + 1); omega, by show 8 + (6 + 11) + (142 + 25 * d) ≤ 142 + 25 * (d + 1); omega⟩ ⟨Nat.le_of_ble_eq_true rfl, Nat.le_of_ble_eq_true rfl⟩ rfl hl.1 rfl (Nat.le_of_ble_eq_true rfl) d_pa_readExpr_76 (fun H locs hW => ?_)
  replace h := bs2 h
  obtain ⟨x20, w19, hw19, h⟩ := h
  refine cs_pa_146 (As := [.int y2, .int x18]) (rest := [.int (1 : Int32)]) hx hb hml hown hts hK hG hW (c_ma_max_II l D cA base hw19) ⟨by show 0 + 1 ≤ 8 + 1 * (d + 1); omega, by show 8 + (2 + 11) + 0 ≤ 142 + 25 * (d + 1); omega⟩ ⟨Nat.le_of_ble_eq_true rfl, Nat.le_of_ble_eq_true rfl⟩ rfl hl.1 rfl (Nat.le_of_ble_eq_true rfl) d_pa_readExpr_79 (fun H locs hW => ?_)
  refine lv_iadd hx hb d_pa_readExpr_82 ?_
  refine lv_istore_n (lv' := [(2, .int ((1 : Int32) + x20)), (0, .ref (base + y0)), (1, .int y1), (3, .int y3), (4, .int y4), (5, .int y5)]) hx hb d_pa_readExpr_83 rfl hl (by decide) rfl (fun ls hl => ?_)
  refine lv_aload_n hx hb d_pa_readExpr_84 rfl (lv_at hl 1 rfl) ?_
  replace h := bs h
  obtain ⟨x21, hx21, h⟩ := h
  refine gf_pa_22 hx hb hts hown hK hG hW (gR_s hx21) d_pa_readExpr_85 ?_
  refine lv_iload hx hb d_pa_readExpr_88 (lv_at hl 4 rfl) ?_
  refine lv_iconst (v := (0 : Int32)) hx hb d_pa_readExpr_90 (by decide) ?_
  refine lv_iload hx hb d_pa_readExpr_91 (lv_at hl 5 rfl) ?_
  replace h := bs h
  obtain ⟨x22, ex22, h⟩ := h
  subst ex22
  replace h := bs h
  obtain ⟨w23, hw23, h⟩ := h
  refine cv_pa_152 (As := [.int y4, .int (0 : Int32), .int y5]) (rest := []) hx hb hml hown hts hK hG hW (c_pg_addStep l D cA base hw23) (kb_pg_addStep hw23) ⟨by show 0 + 1 ≤ 8 + 1 * (d + 1); omega, by show 8 + (4 + 11) + 0 ≤ 142 + 25 * (d + 1); omega⟩ ⟨Nat.le_of_ble_eq_true rfl, Nat.le_of_ble_eq_true rfl⟩ rfl hl.1 rfl (Nat.le_of_ble_eq_true rfl) d_pa_readExpr_93 (fun H locs hW => ?_)
  refine lv_iinc (v := (y3 + (1 : Int32))) (lv' := [(3, .int (y3 + (1 : Int32))), (2, .int ((1 : Int32) + x20)), (0, .ref (base + y0)), (1, .int y1), (4, .int y4), (5, .int y5)]) hx hb d_pa_readExpr_96 hl (k := 3) rfl rfl (by decide) rfl (fun ls hl => ?_)
  refine lv_goto (tgt := 8) hx hb d_pa_readExpr_99 (by decide) ?_
  exact hk_8 y0 y1 ((1 : Int32) + x20) (y3 + (1 : Int32)) w23 h _ _ _ hW (lv_sub hl [2, 3, 1, 0] rfl)
set_option maxHeartbeats 4000000 in
set_option maxRecDepth 100000 in
theorem j_pa_readExpr_33 {p : Program} {l : Launch} {e : Env} {s : State} {m : MethodId} {args : Array Value} {below : List Frame} {meth : Method} {c : Code} {D : va_G} {cA : Nat → ClassId} {base : Nat} {r : Int32} {w' : WW} (C : cx b_pa_readExpr (some .int) 6 y_pa_readExpr.cls "readExpr" p s m args meth c D cA base) {d : Nat} {g_pa_readExpr : Nat → Int32 → WW → Option ((Int32 ⊕ String) × WW)} {g_pa_readTerm : Nat → Int32 → WW → Option ((Int32 ⊕ String) × WW)} {g_pa_readFactor : Nat → Int32 → WW → Option ((Int32 ⊕ String) × WW)} (HG : sA_pa3 l D cA base d g_pa_readExpr g_pa_readTerm g_pa_readFactor ) {k_8 : Nat → Int32 → Int32 → Int32 → WW → Option ((Int32 ⊕ String) × WW)} (hk_8 : ∀ (y0 : Nat) (y1 : Int32) (y2 : Int32) (y3 : Int32) (w : WW), k_8 y0 y1 y2 y3 w = some (.inl r, w') → ∀ (H : Heap) (locs : List Loc) (ls : Array Slot), wo_S D cls cA base s w H locs → lv_has ls 6 [(0, .ref (base + y0)), (1, .int y1), (2, .int y2), (3, .int y3)] → W p l e (rm_pa_readExpr (d + 1)) s m args below meth c H locs 0 0 (MQ below (wo_Q D cls cA base (some (.int r)) w') args s (rm_pa_readExpr (d + 1)).cells (rm_pa_readExpr (d + 1)).slots (wo_B base)) (F0 m 8 ls [])) : ∀ (y0 : Nat) (y1 : Int32) (y2 : Int32) (y3 : Int32) (w : WW), f_pa_readExpr_33 g_pa_readExpr g_pa_readTerm g_pa_readFactor k_8 y0 y1 y2 y3 w = some (.inl r, w') → ∀ (H : Heap) (locs : List Loc) (ls : Array Slot), wo_S D cls cA base s w H locs → lv_has ls 6 [(0, .ref (base + y0)), (1, .int y1), (2, .int y2), (3, .int y3)] → W p l e (rm_pa_readExpr (d + 1)) s m args below meth c H locs 0 0 (MQ below (wo_Q D cls cA base (some (.int r)) w') args s (rm_pa_readExpr (d + 1)).cells (rm_pa_readExpr (d + 1)).slots (wo_B base)) (F0 m 33 ls []) := by
  obtain ⟨hx, hb, hr, hml, hown, hts, hlk, hnm, hK, hG⟩ := id C
  intro y0 y1 y2 y3 w h H locs ls hW hl
  unfold f_pa_readExpr_33 at h
  refine lv_aload_n hx hb d_pa_readExpr_33 rfl (lv_at hl 0 rfl) ?_
  replace h := bs2 h
  obtain ⟨x8, w7, hw7, h⟩ := h
  refine cv_pa_55 (As := []) (rest := []) hx hb hml hown hts hK hG hW (c_pa_kindHere l D cA base hw7) (kb_pa_kindHere hw7) ⟨by show 0 + 1 ≤ 8 + 1 * (d + 1); omega, by show 8 + (1 + 11) + 0 ≤ 142 + 25 * (d + 1); omega⟩ ⟨Nat.le_of_ble_eq_true rfl, Nat.le_of_ble_eq_true rfl⟩ rfl hl.1 rfl (Nat.le_of_ble_eq_true rfl) d_pa_readExpr_34 (fun H locs hW => ?_)
  refine lv_istore (lv' := [(4, .int x8), (0, .ref (base + y0)), (1, .int y1), (2, .int y2), (3, .int y3)]) hx hb d_pa_readExpr_37 hl (by decide) rfl (fun ls hl => ?_)
  refine lv_aload_n hx hb d_pa_readExpr_39 rfl (lv_at hl 1 rfl) ?_
  replace h := bs h
  obtain ⟨x9, hx9, h⟩ := h
  refine gf_pa_12 hx hb hts hown hK hG hW (gN_s hx9) d_pa_readExpr_40 ?_
  replace h := bs h
  obtain ⟨x10, hx10, h⟩ := h
  refine gf_pa_49 hx hb hts hown hK hG hW (gN_s hx10) d_pa_readExpr_43 ?_
  refine lv_aload_n hx hb d_pa_readExpr_46 rfl (lv_at hl 1 rfl) ?_
  replace h := bs h
  obtain ⟨x11, hx11, h⟩ := h
  refine gf_pa_34 hx hb hts hown hK hG hW (gI_s hx11) d_pa_readExpr_47 ?_
  replace h := bs h
  obtain ⟨x12, hx12, h⟩ := h
  refine wo_iald hx hb hK hW (t := 0) rfl hx12 d_pa_readExpr_50 ?_
  refine lv_istore (lv' := [(5, .int x12), (4, .int x8), (0, .ref (base + y0)), (1, .int y1), (2, .int y2), (3, .int y3)]) hx hb d_pa_readExpr_51 hl (by decide) rfl (fun ls hl => ?_)
  refine lv_aload_n hx hb d_pa_readExpr_53 rfl (lv_at hl 2 rfl) ?_
  refine lv_iload_n hx hb d_pa_readExpr_54 rfl (lv_at hl 4 rfl) ?_
  refine lv_bipush (v := (16 : Int32)) hx hb d_pa_readExpr_55 (by decide) ?_
  refine lv_icmp_ge (tgt := 64) hx hb d_pa_readExpr_57 (by decide) (fun c13 => ?_) (fun c13 => ?_)
  · rw [if_pos c13] at h
    refine lv_iconst (v := (0 : Int32)) hx hb d_pa_readExpr_64 (by decide) ?_
    exact j_pa_readExpr_65 C HG hk_8 y0 y1 y2 y3 x8 x12 y0 (0 : Int32) w7 h _ _ _ hW (lv_sub hl [2, 3, 4, 5, 1, 0] rfl)
  · rw [if_neg c13] at h
    refine lv_iconst (v := (1 : Int32)) hx hb d_pa_readExpr_60 (by decide) ?_
    refine lv_goto (tgt := 65) hx hb d_pa_readExpr_61 (by decide) ?_
    exact j_pa_readExpr_65 C HG hk_8 y0 y1 y2 y3 x8 x12 y0 (1 : Int32) w7 h _ _ _ hW (lv_sub hl [2, 3, 4, 5, 1, 0] rfl)
set_option maxHeartbeats 4000000 in
set_option maxRecDepth 100000 in
theorem j_pa_readExpr_8 {p : Program} {l : Launch} {e : Env} {s : State} {m : MethodId} {args : Array Value} {below : List Frame} {meth : Method} {c : Code} {D : va_G} {cA : Nat → ClassId} {base : Nat} {r : Int32} {w' : WW} (C : cx b_pa_readExpr (some .int) 6 y_pa_readExpr.cls "readExpr" p s m args meth c D cA base) {d : Nat} {g_pa_readExpr : Nat → Int32 → WW → Option ((Int32 ⊕ String) × WW)} {g_pa_readTerm : Nat → Int32 → WW → Option ((Int32 ⊕ String) × WW)} {g_pa_readFactor : Nat → Int32 → WW → Option ((Int32 ⊕ String) × WW)} (HG : sA_pa3 l D cA base d g_pa_readExpr g_pa_readTerm g_pa_readFactor )   : ∀ n : Nat, ∀ (y0 : Nat) (y1 : Int32) (y2 : Int32) (y3 : Int32) (w : WW), f_pa_readExpr_8 g_pa_readExpr g_pa_readTerm g_pa_readFactor n y0 y1 y2 y3 w = some (.inl r, w') → ∀ (H : Heap) (locs : List Loc) (ls : Array Slot), wo_S D cls cA base s w H locs → lv_has ls 6 [(0, .ref (base + y0)), (1, .int y1), (2, .int y2), (3, .int y3)] → W p l e (rm_pa_readExpr (d + 1)) s m args below meth c H locs 0 0 (MQ below (wo_Q D cls cA base (some (.int r)) w') args s (rm_pa_readExpr (d + 1)).cells (rm_pa_readExpr (d + 1)).slots (wo_B base)) (F0 m 8 ls []) := by
  obtain ⟨hx, hb, hr, hml, hown, hts, hlk, hnm, hK, hG⟩ := id C
  intro n
  induction n with
  | zero => intro y0 y1 y2 y3 w h; cases h
  | succ n ih =>
    intro y0 y1 y2 y3 w h H locs ls hW hl
    rw [f_pa_readExpr_8] at h
    refine lv_iload_n hx hb d_pa_readExpr_8 rfl (lv_at hl 3 rfl) ?_
    refine lv_sipush (v := (200 : Int32)) hx hb d_pa_readExpr_9 (by decide) ?_
    refine lv_icmp_ge (tgt := 102) hx hb d_pa_readExpr_12 (by decide) (fun c3 => ?_) (fun c3 => ?_)
    · rw [if_pos c3] at h
      exact j_pa_readExpr_102 C HG y2 w h _ _ _ hW (lv_sub hl [2] rfl)
    · rw [if_neg c3] at h
      refine lv_aload_n hx hb d_pa_readExpr_15 rfl (lv_at hl 0 rfl) ?_
      replace h := bs2 h
      obtain ⟨x5, w4, hw4, h⟩ := h
      refine cv_pa_55 (As := []) (rest := []) hx hb hml hown hts hK hG hW (c_pa_kindHere l D cA base hw4) (kb_pa_kindHere hw4) ⟨by show 0 + 1 ≤ 8 + 1 * (d + 1); omega, by show 8 + (1 + 11) + 0 ≤ 142 + 25 * (d + 1); omega⟩ ⟨Nat.le_of_ble_eq_true rfl, Nat.le_of_ble_eq_true rfl⟩ rfl hl.1 rfl (Nat.le_of_ble_eq_true rfl) d_pa_readExpr_16 (fun H locs hW => ?_)
      refine lv_bipush (v := (43 : Int32)) hx hb d_pa_readExpr_19 (by decide) ?_
      refine lv_icmp_eq (tgt := 33) hx hb d_pa_readExpr_21 (by decide) (fun c6 => ?_) (fun c6 => ?_)
      · rw [if_pos c6] at h
        exact j_pa_readExpr_33 C HG ih y0 y1 y2 y3 w4 h _ _ _ hW (lv_sub hl [0, 1, 2, 3] rfl)
      · rw [if_neg c6] at h
        refine lv_aload_n hx hb d_pa_readExpr_24 rfl (lv_at hl 0 rfl) ?_
        replace h := bs2 h
        obtain ⟨x25, w24, hw24, h⟩ := h
        refine cv_pa_55 (As := []) (rest := []) hx hb hml hown hts hK hG hW (c_pa_kindHere l D cA base hw24) (kb_pa_kindHere hw24) ⟨by show 0 + 1 ≤ 8 + 1 * (d + 1); omega, by show 8 + (1 + 11) + 0 ≤ 142 + 25 * (d + 1); omega⟩ ⟨Nat.le_of_ble_eq_true rfl, Nat.le_of_ble_eq_true rfl⟩ rfl hl.1 rfl (Nat.le_of_ble_eq_true rfl) d_pa_readExpr_25 (fun H locs hW => ?_)
        refine lv_bipush (v := (45 : Int32)) hx hb d_pa_readExpr_28 (by decide) ?_
        refine lv_icmp_ne (tgt := 102) hx hb d_pa_readExpr_30 (by decide) (fun c26 => ?_) (fun c26 => ?_)
        · rw [if_neg c26] at h
          exact j_pa_readExpr_102 C HG y2 w24 h _ _ _ hW (lv_sub hl [2] rfl)
        · rw [if_pos c26] at h
          exact j_pa_readExpr_33 C HG ih y0 y1 y2 y3 w24 h _ _ _ hW (lv_sub hl [0, 1, 2, 3] rfl)
set_option maxHeartbeats 4000000 in
set_option maxRecDepth 100000 in
theorem co_pa_readExpr (l : Launch) (D : va_G) (cA : Nat → ClassId) (base : Nat) {d : Nat} {g_pa_readExpr : Nat → Int32 → WW → Option ((Int32 ⊕ String) × WW)} {g_pa_readTerm : Nat → Int32 → WW → Option ((Int32 ⊕ String) × WW)} {g_pa_readFactor : Nat → Int32 → WW → Option ((Int32 ⊕ String) × WW)} (HG : sA_pa3 l D cA base d g_pa_readExpr g_pa_readTerm g_pa_readFactor ) {a0 : Nat} {a1 : Int32} {w w' : WW} {r : Int32} (h : fo_pa_readExpr g_pa_readExpr g_pa_readTerm g_pa_readFactor a0 a1 w = some (.inl r, w')) : mt l D cls (wo_tys cA) cA base y_pa_readExpr (Cond.code y_pa_readExpr b_pa_readExpr 6 (some .int) :: gt) (rm_pa_readExpr (d + 1)) [.ref (base + a0), .int a1] w (some (.int r)) w' (rm_pa_readExpr (d + 1)).cells (rm_pa_readExpr (d + 1)).slots := by
  refine mt_start (by decide) (Nat.le_of_ble_eq_true rfl) ?_
  intro p e s m below meth c ls hx hb hr hml hown hts hlk hnm hK hG hW hl
  have C : cx b_pa_readExpr (some .int) 6 y_pa_readExpr.cls "readExpr" p s m [.ref (base + a0), .int a1].toArray meth c D cA base := ⟨hx, hb, hr, hml, hown, hts, hlk, hnm, hK, hG⟩
  have hl : lv_has ls 6 [(0, .ref (base + a0)), (1, .int a1)] := hl
  unfold fo_pa_readExpr at h
  replace h := its h
  obtain ⟨-, h⟩ := h
  refine lv_aload_n hx hb d_pa_readExpr_0 rfl (lv_at hl 0 rfl) ?_
  refine lv_iload_n hx hb d_pa_readExpr_1 rfl (lv_at hl 1 rfl) ?_
  replace h := bsx h
  obtain ⟨x2, w1, hw1, h⟩ := h
  refine cv_pa_143 (As := [.int a1]) (rest := []) hx hb hml hown hts hK hG hW (HG.2.1.1 hw1) (HG.2.1.2 hw1) ⟨by show 8 + 1 * d + 1 ≤ 8 + 1 * (d + 1); omega, by show 8 + (6 + 11) + (142 + 25 * d) ≤ 142 + 25 * (d + 1); omega⟩ ⟨Nat.le_of_ble_eq_true rfl, Nat.le_of_ble_eq_true rfl⟩ rfl hl.1 rfl (Nat.le_of_ble_eq_true rfl) d_pa_readExpr_2 (fun H locs hW => ?_)
  refine lv_istore_n (lv' := [(2, .int x2), (0, .ref (base + a0)), (1, .int a1)]) hx hb d_pa_readExpr_5 rfl hl (by decide) rfl (fun ls hl => ?_)
  refine lv_iconst (v := (0 : Int32)) hx hb d_pa_readExpr_6 (by decide) ?_
  refine lv_istore_n (lv' := [(3, .int (0 : Int32)), (2, .int x2), (0, .ref (base + a0)), (1, .int a1)]) hx hb d_pa_readExpr_7 rfl hl (by decide) rfl (fun ls hl => ?_)
  exact j_pa_readExpr_8 C HG KK a0 a1 x2 (0 : Int32) w1 h _ _ _ hW (lv_sub hl [2, 3, 1, 0] rfl)
set_option maxHeartbeats 4000000 in
set_option maxRecDepth 100000 in
theorem jx_pa_readExpr_102 {p : Program} {l : Launch} {e : Env} {s : State} {m : MethodId} {args : Array Value} {below : List Frame} {meth : Method} {c : Code} {D : va_G} {cA : Nat → ClassId} {base : Nat} {E : String} {w' : WW} (C : cx b_pa_readExpr (some .int) 6 y_pa_readExpr.cls "readExpr" p s m args meth c D cA base ∧ (∀ x ∈ c.exceptionTable.toList, ∀ k : Nat, covers x k = false) ∧ l.stackTraces = false) {d : Nat} {g_pa_readExpr : Nat → Int32 → WW → Option ((Int32 ⊕ String) × WW)} {g_pa_readTerm : Nat → Int32 → WW → Option ((Int32 ⊕ String) × WW)} {g_pa_readFactor : Nat → Int32 → WW → Option ((Int32 ⊕ String) × WW)} (HG : sA_pa3 l D cA base d g_pa_readExpr g_pa_readTerm g_pa_readFactor ) (HX : sX_pa3 l D cA base d g_pa_readExpr g_pa_readTerm g_pa_readFactor )   : ∀ (y2 : Int32) (w : WW), f_pa_readExpr_102 g_pa_readExpr g_pa_readTerm g_pa_readFactor y2 w = some (.inr E, w') → ∀ (H : Heap) (locs : List Loc) (ls : Array Slot), wo_S D cls cA base s w H locs → lv_has ls 6 [(2, .int y2)] → W p l e (rx_pa_readExpr (d + 1)) s m args below meth c H locs 0 0 (XQ below (wo_X D cls cA base E w' (rx_pa_readExpr (d + 1)).cells (rx_pa_readExpr (d + 1)).slots) args s) (F0 m 102 ls []) := by
  obtain ⟨hx, hb, hr, hml, hown, hts, hlk, hnm, hK, hG⟩ := id C.1
  have hnt := C.2.1
  have hst := C.2.2
  intro y2 w h H locs ls hW hl
  unfold f_pa_readExpr_102 at h
  refine lv_iload_n hx hb d_pa_readExpr_102 rfl (lv_at hl 0 rfl) ?_
  cases h
set_option maxHeartbeats 4000000 in
set_option maxRecDepth 100000 in
theorem jx_pa_readExpr_65 {p : Program} {l : Launch} {e : Env} {s : State} {m : MethodId} {args : Array Value} {below : List Frame} {meth : Method} {c : Code} {D : va_G} {cA : Nat → ClassId} {base : Nat} {E : String} {w' : WW} (C : cx b_pa_readExpr (some .int) 6 y_pa_readExpr.cls "readExpr" p s m args meth c D cA base ∧ (∀ x ∈ c.exceptionTable.toList, ∀ k : Nat, covers x k = false) ∧ l.stackTraces = false) {d : Nat} {g_pa_readExpr : Nat → Int32 → WW → Option ((Int32 ⊕ String) × WW)} {g_pa_readTerm : Nat → Int32 → WW → Option ((Int32 ⊕ String) × WW)} {g_pa_readFactor : Nat → Int32 → WW → Option ((Int32 ⊕ String) × WW)} (HG : sA_pa3 l D cA base d g_pa_readExpr g_pa_readTerm g_pa_readFactor ) (HX : sX_pa3 l D cA base d g_pa_readExpr g_pa_readTerm g_pa_readFactor ) {k_8 : Nat → Int32 → Int32 → Int32 → WW → Option ((Int32 ⊕ String) × WW)} (hk_8 : ∀ (y0 : Nat) (y1 : Int32) (y2 : Int32) (y3 : Int32) (w : WW), k_8 y0 y1 y2 y3 w = some (.inr E, w') → ∀ (H : Heap) (locs : List Loc) (ls : Array Slot), wo_S D cls cA base s w H locs → lv_has ls 6 [(0, .ref (base + y0)), (1, .int y1), (2, .int y2), (3, .int y3)] → W p l e (rx_pa_readExpr (d + 1)) s m args below meth c H locs 0 0 (XQ below (wo_X D cls cA base E w' (rx_pa_readExpr (d + 1)).cells (rx_pa_readExpr (d + 1)).slots) args s) (F0 m 8 ls [])) : ∀ (y0 : Nat) (y1 : Int32) (y2 : Int32) (y3 : Int32) (y4 : Int32) (y5 : Int32) (z0 : Nat) (z1 : Int32) (w : WW), f_pa_readExpr_65 g_pa_readExpr g_pa_readTerm g_pa_readFactor k_8 y0 y1 y2 y3 y4 y5 z0 z1 w = some (.inr E, w') → ∀ (H : Heap) (locs : List Loc) (ls : Array Slot), wo_S D cls cA base s w H locs → lv_has ls 6 [(0, .ref (base + y0)), (1, .int y1), (2, .int y2), (3, .int y3), (4, .int y4), (5, .int y5)] → W p l e (rx_pa_readExpr (d + 1)) s m args below meth c H locs 0 0 (XQ below (wo_X D cls cA base E w' (rx_pa_readExpr (d + 1)).cells (rx_pa_readExpr (d + 1)).slots) args s) (F0 m 65 ls [.int z1, .ref (base + z0)]) := by
  obtain ⟨hx, hb, hr, hml, hown, hts, hlk, hnm, hK, hG⟩ := id C.1
  have hnt := C.2.1
  have hst := C.2.2
  intro y0 y1 y2 y3 y4 y5 z0 z1 w h H locs ls hW hl
  unfold f_pa_readExpr_65 at h
  rcases bsy h with hw14 | ⟨x15, w14, hw14, hnw14⟩
  · exact xv_pa_59 (As := [.int z1]) (rest := []) hx hb hml hown hts hK hG hW (x_pa_need l hst D cA base hw14) (kb_pa_need hw14) ⟨by show 6 + 1 ≤ 8 + 1 * (d + 1); omega, by show 8 + (2 + 11) + 100 ≤ 142 + 25 * (d + 1); omega⟩ ⟨Nat.le_of_ble_eq_true rfl, Nat.le_of_ble_eq_true rfl⟩ rfl hl.1 rfl (Nat.le_of_ble_eq_true rfl) d_pa_readExpr_65 (fun H locs q ce hW h1 h2 h3 => wo_xout hnt hlk hW h1 h2 h3 (Nat.le_of_ble_eq_true rfl) (Nat.le_of_ble_eq_true rfl))
  clear h
  have h := hnw14
  clear hnw14
  refine cv_pa_59 (As := [.int z1]) (rest := []) hx hb hml hown hts hK hG hW (c_pa_need l D cA base hw14) (kb_pa_need hw14) ⟨by show 6 + 1 ≤ 8 + 1 * (d + 1); omega, by show 8 + (2 + 11) + 100 ≤ 142 + 25 * (d + 1); omega⟩ ⟨Nat.le_of_ble_eq_true rfl, Nat.le_of_ble_eq_true rfl⟩ rfl hl.1 rfl (Nat.le_of_ble_eq_true rfl) d_pa_readExpr_65 (fun H locs hW => ?_)
  refine lv_aload_n hx hb d_pa_readExpr_68 rfl (lv_at hl 0 rfl) ?_
  replace h := bs h
  obtain ⟨w16, hw16, h⟩ := h
  refine cv_pa_63 (As := []) (rest := []) hx hb hml hown hts hK hG hW (c_pa_advance l D cA base hw16) (kb_pa_advance hw16) ⟨by show 0 + 1 ≤ 8 + 1 * (d + 1); omega, by show 8 + (1 + 11) + 0 ≤ 142 + 25 * (d + 1); omega⟩ ⟨Nat.le_of_ble_eq_true rfl, Nat.le_of_ble_eq_true rfl⟩ rfl hl.1 rfl (Nat.le_of_ble_eq_true rfl) d_pa_readExpr_69 (fun H locs hW => ?_)
  refine lv_iconst (v := (1 : Int32)) hx hb d_pa_readExpr_72 (by decide) ?_
  refine lv_iload_n hx hb d_pa_readExpr_73 rfl (lv_at hl 2 rfl) ?_
  refine lv_aload_n hx hb d_pa_readExpr_74 rfl (lv_at hl 0 rfl) ?_
  refine lv_iload_n hx hb d_pa_readExpr_75 rfl (lv_at hl 1 rfl) ?_
  rcases bsy h with hw17 | ⟨x18, w17, hw17, hnw17⟩
  · exact xv_pa_143 (As := [.int y1]) (rest := [.int y2, .int (1 : Int32)]) hx hb hml hown hts hK hG hW (HX.2.1 hw17) (HG.2.1.2 hw17) ⟨by show 8 + 1 * d + 1 ≤ 8 + 1 * (d + 1); omega, by show 8 + (6 + 11) + (142 + 25 * d) ≤ 142 + 25 * (d + 1); omega⟩ ⟨Nat.le_of_ble_eq_true rfl, Nat.le_of_ble_eq_true rfl⟩ rfl hl.1 rfl (Nat.le_of_ble_eq_true rfl) d_pa_readExpr_76 (fun H locs q ce hW h1 h2 h3 => wo_xout hnt hlk hW h1 h2 h3 (Nat.le_of_ble_eq_true rfl) (Nat.le_of_ble_eq_true rfl))
  clear h
  have h := hnw17
  clear hnw17
  refine cv_pa_143 (As := [.int y1]) (rest := [.int y2, .int (1 : Int32)]) hx hb hml hown hts hK hG hW (HG.2.1.1 hw17) (HG.2.1.2 hw17) ⟨by show 8 + 1 * d + 1 ≤ 8 + 1 * (d + 1); omega, by show 8 + (6 + 11) + (142 + 25 * d) ≤ 142 + 25 * (d + 1); omega⟩ ⟨Nat.le_of_ble_eq_true rfl, Nat.le_of_ble_eq_true rfl⟩ rfl hl.1 rfl (Nat.le_of_ble_eq_true rfl) d_pa_readExpr_76 (fun H locs hW => ?_)
  replace h := bs2 h
  obtain ⟨x20, w19, hw19, h⟩ := h
  refine cs_pa_146 (As := [.int y2, .int x18]) (rest := [.int (1 : Int32)]) hx hb hml hown hts hK hG hW (c_ma_max_II l D cA base hw19) ⟨by show 0 + 1 ≤ 8 + 1 * (d + 1); omega, by show 8 + (2 + 11) + 0 ≤ 142 + 25 * (d + 1); omega⟩ ⟨Nat.le_of_ble_eq_true rfl, Nat.le_of_ble_eq_true rfl⟩ rfl hl.1 rfl (Nat.le_of_ble_eq_true rfl) d_pa_readExpr_79 (fun H locs hW => ?_)
  refine lv_iadd hx hb d_pa_readExpr_82 ?_
  refine lv_istore_n (lv' := [(2, .int ((1 : Int32) + x20)), (0, .ref (base + y0)), (1, .int y1), (3, .int y3), (4, .int y4), (5, .int y5)]) hx hb d_pa_readExpr_83 rfl hl (by decide) rfl (fun ls hl => ?_)
  refine lv_aload_n hx hb d_pa_readExpr_84 rfl (lv_at hl 1 rfl) ?_
  replace h := bs h
  obtain ⟨x21, hx21, h⟩ := h
  refine gf_pa_22 hx hb hts hown hK hG hW (gR_s hx21) d_pa_readExpr_85 ?_
  refine lv_iload hx hb d_pa_readExpr_88 (lv_at hl 4 rfl) ?_
  refine lv_iconst (v := (0 : Int32)) hx hb d_pa_readExpr_90 (by decide) ?_
  refine lv_iload hx hb d_pa_readExpr_91 (lv_at hl 5 rfl) ?_
  replace h := bs h
  obtain ⟨x22, ex22, h⟩ := h
  subst ex22
  replace h := bs h
  obtain ⟨w23, hw23, h⟩ := h
  refine cv_pa_152 (As := [.int y4, .int (0 : Int32), .int y5]) (rest := []) hx hb hml hown hts hK hG hW (c_pg_addStep l D cA base hw23) (kb_pg_addStep hw23) ⟨by show 0 + 1 ≤ 8 + 1 * (d + 1); omega, by show 8 + (4 + 11) + 0 ≤ 142 + 25 * (d + 1); omega⟩ ⟨Nat.le_of_ble_eq_true rfl, Nat.le_of_ble_eq_true rfl⟩ rfl hl.1 rfl (Nat.le_of_ble_eq_true rfl) d_pa_readExpr_93 (fun H locs hW => ?_)
  refine lv_iinc (v := (y3 + (1 : Int32))) (lv' := [(3, .int (y3 + (1 : Int32))), (2, .int ((1 : Int32) + x20)), (0, .ref (base + y0)), (1, .int y1), (4, .int y4), (5, .int y5)]) hx hb d_pa_readExpr_96 hl (k := 3) rfl rfl (by decide) rfl (fun ls hl => ?_)
  refine lv_goto (tgt := 8) hx hb d_pa_readExpr_99 (by decide) ?_
  exact hk_8 y0 y1 ((1 : Int32) + x20) (y3 + (1 : Int32)) w23 h _ _ _ hW (lv_sub hl [2, 3, 1, 0] rfl)
set_option maxHeartbeats 4000000 in
set_option maxRecDepth 100000 in
theorem jx_pa_readExpr_33 {p : Program} {l : Launch} {e : Env} {s : State} {m : MethodId} {args : Array Value} {below : List Frame} {meth : Method} {c : Code} {D : va_G} {cA : Nat → ClassId} {base : Nat} {E : String} {w' : WW} (C : cx b_pa_readExpr (some .int) 6 y_pa_readExpr.cls "readExpr" p s m args meth c D cA base ∧ (∀ x ∈ c.exceptionTable.toList, ∀ k : Nat, covers x k = false) ∧ l.stackTraces = false) {d : Nat} {g_pa_readExpr : Nat → Int32 → WW → Option ((Int32 ⊕ String) × WW)} {g_pa_readTerm : Nat → Int32 → WW → Option ((Int32 ⊕ String) × WW)} {g_pa_readFactor : Nat → Int32 → WW → Option ((Int32 ⊕ String) × WW)} (HG : sA_pa3 l D cA base d g_pa_readExpr g_pa_readTerm g_pa_readFactor ) (HX : sX_pa3 l D cA base d g_pa_readExpr g_pa_readTerm g_pa_readFactor ) {k_8 : Nat → Int32 → Int32 → Int32 → WW → Option ((Int32 ⊕ String) × WW)} (hk_8 : ∀ (y0 : Nat) (y1 : Int32) (y2 : Int32) (y3 : Int32) (w : WW), k_8 y0 y1 y2 y3 w = some (.inr E, w') → ∀ (H : Heap) (locs : List Loc) (ls : Array Slot), wo_S D cls cA base s w H locs → lv_has ls 6 [(0, .ref (base + y0)), (1, .int y1), (2, .int y2), (3, .int y3)] → W p l e (rx_pa_readExpr (d + 1)) s m args below meth c H locs 0 0 (XQ below (wo_X D cls cA base E w' (rx_pa_readExpr (d + 1)).cells (rx_pa_readExpr (d + 1)).slots) args s) (F0 m 8 ls [])) : ∀ (y0 : Nat) (y1 : Int32) (y2 : Int32) (y3 : Int32) (w : WW), f_pa_readExpr_33 g_pa_readExpr g_pa_readTerm g_pa_readFactor k_8 y0 y1 y2 y3 w = some (.inr E, w') → ∀ (H : Heap) (locs : List Loc) (ls : Array Slot), wo_S D cls cA base s w H locs → lv_has ls 6 [(0, .ref (base + y0)), (1, .int y1), (2, .int y2), (3, .int y3)] → W p l e (rx_pa_readExpr (d + 1)) s m args below meth c H locs 0 0 (XQ below (wo_X D cls cA base E w' (rx_pa_readExpr (d + 1)).cells (rx_pa_readExpr (d + 1)).slots) args s) (F0 m 33 ls []) := by
  obtain ⟨hx, hb, hr, hml, hown, hts, hlk, hnm, hK, hG⟩ := id C.1
  have hnt := C.2.1
  have hst := C.2.2
  intro y0 y1 y2 y3 w h H locs ls hW hl
  unfold f_pa_readExpr_33 at h
  refine lv_aload_n hx hb d_pa_readExpr_33 rfl (lv_at hl 0 rfl) ?_
  replace h := bs2 h
  obtain ⟨x8, w7, hw7, h⟩ := h
  refine cv_pa_55 (As := []) (rest := []) hx hb hml hown hts hK hG hW (c_pa_kindHere l D cA base hw7) (kb_pa_kindHere hw7) ⟨by show 0 + 1 ≤ 8 + 1 * (d + 1); omega, by show 8 + (1 + 11) + 0 ≤ 142 + 25 * (d + 1); omega⟩ ⟨Nat.le_of_ble_eq_true rfl, Nat.le_of_ble_eq_true rfl⟩ rfl hl.1 rfl (Nat.le_of_ble_eq_true rfl) d_pa_readExpr_34 (fun H locs hW => ?_)
  refine lv_istore (lv' := [(4, .int x8), (0, .ref (base + y0)), (1, .int y1), (2, .int y2), (3, .int y3)]) hx hb d_pa_readExpr_37 hl (by decide) rfl (fun ls hl => ?_)
  refine lv_aload_n hx hb d_pa_readExpr_39 rfl (lv_at hl 1 rfl) ?_
  replace h := bs h
  obtain ⟨x9, hx9, h⟩ := h
  refine gf_pa_12 hx hb hts hown hK hG hW (gN_s hx9) d_pa_readExpr_40 ?_
  replace h := bs h
  obtain ⟨x10, hx10, h⟩ := h
  refine gf_pa_49 hx hb hts hown hK hG hW (gN_s hx10) d_pa_readExpr_43 ?_
  refine lv_aload_n hx hb d_pa_readExpr_46 rfl (lv_at hl 1 rfl) ?_
  replace h := bs h
  obtain ⟨x11, hx11, h⟩ := h
  refine gf_pa_34 hx hb hts hown hK hG hW (gI_s hx11) d_pa_readExpr_47 ?_
  replace h := bs h
  obtain ⟨x12, hx12, h⟩ := h
  refine wo_iald hx hb hK hW (t := 0) rfl hx12 d_pa_readExpr_50 ?_
  refine lv_istore (lv' := [(5, .int x12), (4, .int x8), (0, .ref (base + y0)), (1, .int y1), (2, .int y2), (3, .int y3)]) hx hb d_pa_readExpr_51 hl (by decide) rfl (fun ls hl => ?_)
  refine lv_aload_n hx hb d_pa_readExpr_53 rfl (lv_at hl 2 rfl) ?_
  refine lv_iload_n hx hb d_pa_readExpr_54 rfl (lv_at hl 4 rfl) ?_
  refine lv_bipush (v := (16 : Int32)) hx hb d_pa_readExpr_55 (by decide) ?_
  refine lv_icmp_ge (tgt := 64) hx hb d_pa_readExpr_57 (by decide) (fun c13 => ?_) (fun c13 => ?_)
  · rw [if_pos c13] at h
    refine lv_iconst (v := (0 : Int32)) hx hb d_pa_readExpr_64 (by decide) ?_
    exact jx_pa_readExpr_65 C HG HX hk_8 y0 y1 y2 y3 x8 x12 y0 (0 : Int32) w7 h _ _ _ hW (lv_sub hl [2, 3, 4, 5, 1, 0] rfl)
  · rw [if_neg c13] at h
    refine lv_iconst (v := (1 : Int32)) hx hb d_pa_readExpr_60 (by decide) ?_
    refine lv_goto (tgt := 65) hx hb d_pa_readExpr_61 (by decide) ?_
    exact jx_pa_readExpr_65 C HG HX hk_8 y0 y1 y2 y3 x8 x12 y0 (1 : Int32) w7 h _ _ _ hW (lv_sub hl [2, 3, 4, 5, 1, 0] rfl)
set_option maxHeartbeats 4000000 in
set_option maxRecDepth 100000 in
theorem jx_pa_readExpr_8 {p : Program} {l : Launch} {e : Env} {s : State} {m : MethodId} {args : Array Value} {below : List Frame} {meth : Method} {c : Code} {D : va_G} {cA : Nat → ClassId} {base : Nat} {E : String} {w' : WW} (C : cx b_pa_readExpr (some .int) 6 y_pa_readExpr.cls "readExpr" p s m args meth c D cA base ∧ (∀ x ∈ c.exceptionTable.toList, ∀ k : Nat, covers x k = false) ∧ l.stackTraces = false) {d : Nat} {g_pa_readExpr : Nat → Int32 → WW → Option ((Int32 ⊕ String) × WW)} {g_pa_readTerm : Nat → Int32 → WW → Option ((Int32 ⊕ String) × WW)} {g_pa_readFactor : Nat → Int32 → WW → Option ((Int32 ⊕ String) × WW)} (HG : sA_pa3 l D cA base d g_pa_readExpr g_pa_readTerm g_pa_readFactor ) (HX : sX_pa3 l D cA base d g_pa_readExpr g_pa_readTerm g_pa_readFactor )   : ∀ n : Nat, ∀ (y0 : Nat) (y1 : Int32) (y2 : Int32) (y3 : Int32) (w : WW), f_pa_readExpr_8 g_pa_readExpr g_pa_readTerm g_pa_readFactor n y0 y1 y2 y3 w = some (.inr E, w') → ∀ (H : Heap) (locs : List Loc) (ls : Array Slot), wo_S D cls cA base s w H locs → lv_has ls 6 [(0, .ref (base + y0)), (1, .int y1), (2, .int y2), (3, .int y3)] → W p l e (rx_pa_readExpr (d + 1)) s m args below meth c H locs 0 0 (XQ below (wo_X D cls cA base E w' (rx_pa_readExpr (d + 1)).cells (rx_pa_readExpr (d + 1)).slots) args s) (F0 m 8 ls []) := by
  obtain ⟨hx, hb, hr, hml, hown, hts, hlk, hnm, hK, hG⟩ := id C.1
  have hnt := C.2.1
  have hst := C.2.2
  intro n
  induction n with
  | zero => intro y0 y1 y2 y3 w h; cases h
  | succ n ih =>
    intro y0 y1 y2 y3 w h H locs ls hW hl
    rw [f_pa_readExpr_8] at h
    refine lv_iload_n hx hb d_pa_readExpr_8 rfl (lv_at hl 3 rfl) ?_
    refine lv_sipush (v := (200 : Int32)) hx hb d_pa_readExpr_9 (by decide) ?_
    refine lv_icmp_ge (tgt := 102) hx hb d_pa_readExpr_12 (by decide) (fun c3 => ?_) (fun c3 => ?_)
    · rw [if_pos c3] at h
      exact jx_pa_readExpr_102 C HG HX y2 w h _ _ _ hW (lv_sub hl [2] rfl)
    · rw [if_neg c3] at h
      refine lv_aload_n hx hb d_pa_readExpr_15 rfl (lv_at hl 0 rfl) ?_
      replace h := bs2 h
      obtain ⟨x5, w4, hw4, h⟩ := h
      refine cv_pa_55 (As := []) (rest := []) hx hb hml hown hts hK hG hW (c_pa_kindHere l D cA base hw4) (kb_pa_kindHere hw4) ⟨by show 0 + 1 ≤ 8 + 1 * (d + 1); omega, by show 8 + (1 + 11) + 0 ≤ 142 + 25 * (d + 1); omega⟩ ⟨Nat.le_of_ble_eq_true rfl, Nat.le_of_ble_eq_true rfl⟩ rfl hl.1 rfl (Nat.le_of_ble_eq_true rfl) d_pa_readExpr_16 (fun H locs hW => ?_)
      refine lv_bipush (v := (43 : Int32)) hx hb d_pa_readExpr_19 (by decide) ?_
      refine lv_icmp_eq (tgt := 33) hx hb d_pa_readExpr_21 (by decide) (fun c6 => ?_) (fun c6 => ?_)
      · rw [if_pos c6] at h
        exact jx_pa_readExpr_33 C HG HX ih y0 y1 y2 y3 w4 h _ _ _ hW (lv_sub hl [0, 1, 2, 3] rfl)
      · rw [if_neg c6] at h
        refine lv_aload_n hx hb d_pa_readExpr_24 rfl (lv_at hl 0 rfl) ?_
        replace h := bs2 h
        obtain ⟨x25, w24, hw24, h⟩ := h
        refine cv_pa_55 (As := []) (rest := []) hx hb hml hown hts hK hG hW (c_pa_kindHere l D cA base hw24) (kb_pa_kindHere hw24) ⟨by show 0 + 1 ≤ 8 + 1 * (d + 1); omega, by show 8 + (1 + 11) + 0 ≤ 142 + 25 * (d + 1); omega⟩ ⟨Nat.le_of_ble_eq_true rfl, Nat.le_of_ble_eq_true rfl⟩ rfl hl.1 rfl (Nat.le_of_ble_eq_true rfl) d_pa_readExpr_25 (fun H locs hW => ?_)
        refine lv_bipush (v := (45 : Int32)) hx hb d_pa_readExpr_28 (by decide) ?_
        refine lv_icmp_ne (tgt := 102) hx hb d_pa_readExpr_30 (by decide) (fun c26 => ?_) (fun c26 => ?_)
        · rw [if_neg c26] at h
          exact jx_pa_readExpr_102 C HG HX y2 w24 h _ _ _ hW (lv_sub hl [2] rfl)
        · rw [if_pos c26] at h
          exact jx_pa_readExpr_33 C HG HX ih y0 y1 y2 y3 w24 h _ _ _ hW (lv_sub hl [0, 1, 2, 3] rfl)
set_option maxHeartbeats 4000000 in
set_option maxRecDepth 100000 in
theorem xo_pa_readExpr (l : Launch) (hst : l.stackTraces = false) (D : va_G) (cA : Nat → ClassId) (base : Nat) {d : Nat} {g_pa_readExpr : Nat → Int32 → WW → Option ((Int32 ⊕ String) × WW)} {g_pa_readTerm : Nat → Int32 → WW → Option ((Int32 ⊕ String) × WW)} {g_pa_readFactor : Nat → Int32 → WW → Option ((Int32 ⊕ String) × WW)} (HG : sA_pa3 l D cA base d g_pa_readExpr g_pa_readTerm g_pa_readFactor ) (HX : sX_pa3 l D cA base d g_pa_readExpr g_pa_readTerm g_pa_readFactor ) {a0 : Nat} {a1 : Int32} {w w' : WW} {E : String} (h : fo_pa_readExpr g_pa_readExpr g_pa_readTerm g_pa_readFactor a0 a1 w = some (.inr E, w')) : xt l D cls (wo_tys cA) cA base y_pa_readExpr (Cond.code y_pa_readExpr b_pa_readExpr 6 (some .int) :: gt) (rx_pa_readExpr (d + 1)) [.ref (base + a0), .int a1] w E w' (rx_pa_readExpr (d + 1)).cells (rx_pa_readExpr (d + 1)).slots := by
  refine xt_start (by decide) (Nat.le_of_ble_eq_true rfl) ?_
  intro p e s m below meth c ls hx hb hr hml hown hts hlk hnm hK hG hW hl hnt
  have C : cx b_pa_readExpr (some .int) 6 y_pa_readExpr.cls "readExpr" p s m [.ref (base + a0), .int a1].toArray meth c D cA base ∧ (∀ x ∈ c.exceptionTable.toList, ∀ k : Nat, covers x k = false) ∧ l.stackTraces = false := ⟨⟨hx, hb, hr, hml, hown, hts, hlk, hnm, hK, hG⟩, hnt, hst⟩
  have hl : lv_has ls 6 [(0, .ref (base + a0)), (1, .int a1)] := hl
  unfold fo_pa_readExpr at h
  replace h := its h
  obtain ⟨-, h⟩ := h
  refine lv_aload_n hx hb d_pa_readExpr_0 rfl (lv_at hl 0 rfl) ?_
  refine lv_iload_n hx hb d_pa_readExpr_1 rfl (lv_at hl 1 rfl) ?_
  rcases bsy h with hw1 | ⟨x2, w1, hw1, hnw1⟩
  · exact xv_pa_143 (As := [.int a1]) (rest := []) hx hb hml hown hts hK hG hW (HX.2.1 hw1) (HG.2.1.2 hw1) ⟨by show 8 + 1 * d + 1 ≤ 8 + 1 * (d + 1); omega, by show 8 + (6 + 11) + (142 + 25 * d) ≤ 142 + 25 * (d + 1); omega⟩ ⟨Nat.le_of_ble_eq_true rfl, Nat.le_of_ble_eq_true rfl⟩ rfl hl.1 rfl (Nat.le_of_ble_eq_true rfl) d_pa_readExpr_2 (fun H locs q ce hW h1 h2 h3 => wo_xout hnt hlk hW h1 h2 h3 (Nat.le_of_ble_eq_true rfl) (Nat.le_of_ble_eq_true rfl))
  clear h
  have h := hnw1
  clear hnw1
  refine cv_pa_143 (As := [.int a1]) (rest := []) hx hb hml hown hts hK hG hW (HG.2.1.1 hw1) (HG.2.1.2 hw1) ⟨by show 8 + 1 * d + 1 ≤ 8 + 1 * (d + 1); omega, by show 8 + (6 + 11) + (142 + 25 * d) ≤ 142 + 25 * (d + 1); omega⟩ ⟨Nat.le_of_ble_eq_true rfl, Nat.le_of_ble_eq_true rfl⟩ rfl hl.1 rfl (Nat.le_of_ble_eq_true rfl) d_pa_readExpr_2 (fun H locs hW => ?_)
  refine lv_istore_n (lv' := [(2, .int x2), (0, .ref (base + a0)), (1, .int a1)]) hx hb d_pa_readExpr_5 rfl hl (by decide) rfl (fun ls hl => ?_)
  refine lv_iconst (v := (0 : Int32)) hx hb d_pa_readExpr_6 (by decide) ?_
  refine lv_istore_n (lv' := [(3, .int (0 : Int32)), (2, .int x2), (0, .ref (base + a0)), (1, .int a1)]) hx hb d_pa_readExpr_7 rfl hl (by decide) rfl (fun ls hl => ?_)
  exact jx_pa_readExpr_8 C HG HX KK a0 a1 x2 (0 : Int32) w1 h _ _ _ hW (lv_sub hl [2, 3, 1, 0] rfl)
theorem d_pa_readTerm_0 : decode b_pa_readTerm 0 = .ok (.aload_n 0, 1) := by decide +kernel
theorem d_pa_readTerm_1 : decode b_pa_readTerm 1 = .ok (.iload_n 1, 1) := by decide +kernel
theorem d_pa_readTerm_2 : decode b_pa_readTerm 2 = .ok (.invokevirtual 155, 3) := by decide +kernel
theorem d_pa_readTerm_5 : decode b_pa_readTerm 5 = .ok (.istore_n 2, 1) := by decide +kernel
theorem d_pa_readTerm_6 : decode b_pa_readTerm 6 = .ok (.iconst 0, 1) := by decide +kernel
theorem d_pa_readTerm_7 : decode b_pa_readTerm 7 = .ok (.istore_n 3, 1) := by decide +kernel
theorem d_pa_readTerm_8 : decode b_pa_readTerm 8 = .ok (.iload_n 3, 1) := by decide +kernel
theorem d_pa_readTerm_9 : decode b_pa_readTerm 9 = .ok (.sipush (200), 3) := by decide +kernel
theorem d_pa_readTerm_12 : decode b_pa_readTerm 12 = .ok (.if_icmp .ge (82), 3) := by decide +kernel
theorem d_pa_readTerm_15 : decode b_pa_readTerm 15 = .ok (.aload_n 0, 1) := by decide +kernel
theorem d_pa_readTerm_16 : decode b_pa_readTerm 16 = .ok (.invokevirtual 55, 3) := by decide +kernel
theorem d_pa_readTerm_19 : decode b_pa_readTerm 19 = .ok (.invokestatic 158, 3) := by decide +kernel
theorem d_pa_readTerm_22 : decode b_pa_readTerm 22 = .ok (.ifCond .eq (72), 3) := by decide +kernel
theorem d_pa_readTerm_25 : decode b_pa_readTerm 25 = .ok (.aload_n 0, 1) := by decide +kernel
theorem d_pa_readTerm_26 : decode b_pa_readTerm 26 = .ok (.invokevirtual 55, 3) := by decide +kernel
theorem d_pa_readTerm_29 : decode b_pa_readTerm 29 = .ok (.istore 4, 2) := by decide +kernel
theorem d_pa_readTerm_31 : decode b_pa_readTerm 31 = .ok (.aload_n 0, 1) := by decide +kernel
theorem d_pa_readTerm_32 : decode b_pa_readTerm 32 = .ok (.getfield 12, 3) := by decide +kernel
theorem d_pa_readTerm_35 : decode b_pa_readTerm 35 = .ok (.getfield 49, 3) := by decide +kernel
theorem d_pa_readTerm_38 : decode b_pa_readTerm 38 = .ok (.aload_n 0, 1) := by decide +kernel
theorem d_pa_readTerm_39 : decode b_pa_readTerm 39 = .ok (.getfield 34, 3) := by decide +kernel
theorem d_pa_readTerm_42 : decode b_pa_readTerm 42 = .ok (.iaload, 1) := by decide +kernel
theorem d_pa_readTerm_43 : decode b_pa_readTerm 43 = .ok (.istore 5, 2) := by decide +kernel
theorem d_pa_readTerm_45 : decode b_pa_readTerm 45 = .ok (.aload_n 0, 1) := by decide +kernel
theorem d_pa_readTerm_46 : decode b_pa_readTerm 46 = .ok (.iload_n 2, 1) := by decide +kernel
theorem d_pa_readTerm_47 : decode b_pa_readTerm 47 = .ok (.bipush (16), 2) := by decide +kernel
theorem d_pa_readTerm_49 : decode b_pa_readTerm 49 = .ok (.if_icmp .ge (7), 3) := by decide +kernel
theorem d_pa_readTerm_52 : decode b_pa_readTerm 52 = .ok (.iconst 1, 1) := by decide +kernel
theorem d_pa_readTerm_53 : decode b_pa_readTerm 53 = .ok (.goto (4), 3) := by decide +kernel
theorem d_pa_readTerm_56 : decode b_pa_readTerm 56 = .ok (.iconst 0, 1) := by decide +kernel
theorem d_pa_readTerm_57 : decode b_pa_readTerm 57 = .ok (.invokevirtual 59, 3) := by decide +kernel
theorem d_pa_readTerm_60 : decode b_pa_readTerm 60 = .ok (.aload_n 0, 1) := by decide +kernel
theorem d_pa_readTerm_61 : decode b_pa_readTerm 61 = .ok (.invokevirtual 63, 3) := by decide +kernel
theorem d_pa_readTerm_64 : decode b_pa_readTerm 64 = .ok (.iconst 1, 1) := by decide +kernel
theorem d_pa_readTerm_65 : decode b_pa_readTerm 65 = .ok (.iload_n 2, 1) := by decide +kernel
theorem d_pa_readTerm_66 : decode b_pa_readTerm 66 = .ok (.aload_n 0, 1) := by decide +kernel
theorem d_pa_readTerm_67 : decode b_pa_readTerm 67 = .ok (.iload_n 1, 1) := by decide +kernel
theorem d_pa_readTerm_68 : decode b_pa_readTerm 68 = .ok (.invokevirtual 155, 3) := by decide +kernel
theorem d_pa_readTerm_71 : decode b_pa_readTerm 71 = .ok (.invokestatic 146, 3) := by decide +kernel
theorem d_pa_readTerm_74 : decode b_pa_readTerm 74 = .ok (.iadd, 1) := by decide +kernel
theorem d_pa_readTerm_75 : decode b_pa_readTerm 75 = .ok (.istore_n 2, 1) := by decide +kernel
theorem d_pa_readTerm_76 : decode b_pa_readTerm 76 = .ok (.aload_n 0, 1) := by decide +kernel
theorem d_pa_readTerm_77 : decode b_pa_readTerm 77 = .ok (.getfield 22, 3) := by decide +kernel
theorem d_pa_readTerm_80 : decode b_pa_readTerm 80 = .ok (.iload 4, 2) := by decide +kernel
theorem d_pa_readTerm_82 : decode b_pa_readTerm 82 = .ok (.iconst 0, 1) := by decide +kernel
theorem d_pa_readTerm_83 : decode b_pa_readTerm 83 = .ok (.iload 5, 2) := by decide +kernel
theorem d_pa_readTerm_85 : decode b_pa_readTerm 85 = .ok (.invokevirtual 152, 3) := by decide +kernel
theorem d_pa_readTerm_88 : decode b_pa_readTerm 88 = .ok (.iinc 3 (1), 3) := by decide +kernel
theorem d_pa_readTerm_91 : decode b_pa_readTerm 91 = .ok (.goto (-83), 3) := by decide +kernel
theorem d_pa_readTerm_94 : decode b_pa_readTerm 94 = .ok (.iload_n 2, 1) := by decide +kernel
theorem d_pa_readTerm_95 : decode b_pa_readTerm 95 = .ok (.ireturn, 1) := by decide +kernel
theorem kbo_pa_readTerm {g_pa_readExpr : Nat → Int32 → WW → Option ((Int32 ⊕ String) × WW)} {g_pa_readTerm : Nat → Int32 → WW → Option ((Int32 ⊕ String) × WW)} {g_pa_readFactor : Nat → Int32 → WW → Option ((Int32 ⊕ String) × WW)} {a0 : Nat} {a1 : Int32} {w : WW} {r : ((Int32 ⊕ String) × WW)} (h : fo_pa_readTerm g_pa_readExpr g_pa_readTerm g_pa_readFactor a0 a1 w = some r) : kb w a0 2 = true := (its h).1
set_option maxHeartbeats 4000000 in
set_option maxRecDepth 100000 in
theorem j_pa_readTerm_94 {p : Program} {l : Launch} {e : Env} {s : State} {m : MethodId} {args : Array Value} {below : List Frame} {meth : Method} {c : Code} {D : va_G} {cA : Nat → ClassId} {base : Nat} {r : Int32} {w' : WW} (C : cx b_pa_readTerm (some .int) 6 y_pa_readTerm.cls "readTerm" p s m args meth c D cA base) {d : Nat} {g_pa_readExpr : Nat → Int32 → WW → Option ((Int32 ⊕ String) × WW)} {g_pa_readTerm : Nat → Int32 → WW → Option ((Int32 ⊕ String) × WW)} {g_pa_readFactor : Nat → Int32 → WW → Option ((Int32 ⊕ String) × WW)} (HG : sA_pa3 l D cA base d g_pa_readExpr g_pa_readTerm g_pa_readFactor )   : ∀ (y2 : Int32) (w : WW), f_pa_readTerm_94 g_pa_readExpr g_pa_readTerm g_pa_readFactor y2 w = some (.inl r, w') → ∀ (H : Heap) (locs : List Loc) (ls : Array Slot), wo_S D cls cA base s w H locs → lv_has ls 6 [(2, .int y2)] → W p l e (rm_pa_readTerm (d + 1)) s m args below meth c H locs 0 0 (MQ below (wo_Q D cls cA base (some (.int r)) w') args s (rm_pa_readTerm (d + 1)).cells (rm_pa_readTerm (d + 1)).slots (wo_B base)) (F0 m 94 ls []) := by
  obtain ⟨hx, hb, hr, hml, hown, hts, hlk, hnm, hK, hG⟩ := id C
  intro y2 w h H locs ls hW hl
  unfold f_pa_readTerm_94 at h
  refine lv_iload_n hx hb d_pa_readTerm_94 rfl (lv_at hl 0 rfl) ?_
  cases h
  exact wo_iret hx hb hr hlk hW d_pa_readTerm_95
set_option maxHeartbeats 4000000 in
set_option maxRecDepth 100000 in
theorem j_pa_readTerm_57 {p : Program} {l : Launch} {e : Env} {s : State} {m : MethodId} {args : Array Value} {below : List Frame} {meth : Method} {c : Code} {D : va_G} {cA : Nat → ClassId} {base : Nat} {r : Int32} {w' : WW} (C : cx b_pa_readTerm (some .int) 6 y_pa_readTerm.cls "readTerm" p s m args meth c D cA base) {d : Nat} {g_pa_readExpr : Nat → Int32 → WW → Option ((Int32 ⊕ String) × WW)} {g_pa_readTerm : Nat → Int32 → WW → Option ((Int32 ⊕ String) × WW)} {g_pa_readFactor : Nat → Int32 → WW → Option ((Int32 ⊕ String) × WW)} (HG : sA_pa3 l D cA base d g_pa_readExpr g_pa_readTerm g_pa_readFactor ) {k_8 : Nat → Int32 → Int32 → Int32 → WW → Option ((Int32 ⊕ String) × WW)} (hk_8 : ∀ (y0 : Nat) (y1 : Int32) (y2 : Int32) (y3 : Int32) (w : WW), k_8 y0 y1 y2 y3 w = some (.inl r, w') → ∀ (H : Heap) (locs : List Loc) (ls : Array Slot), wo_S D cls cA base s w H locs → lv_has ls 6 [(0, .ref (base + y0)), (1, .int y1), (2, .int y2), (3, .int y3)] → W p l e (rm_pa_readTerm (d + 1)) s m args below meth c H locs 0 0 (MQ below (wo_Q D cls cA base (some (.int r)) w') args s (rm_pa_readTerm (d + 1)).cells (rm_pa_readTerm (d + 1)).slots (wo_B base)) (F0 m 8 ls [])) : ∀ (y0 : Nat) (y1 : Int32) (y2 : Int32) (y3 : Int32) (y4 : Int32) (y5 : Int32) (z0 : Nat) (z1 : Int32) (w : WW), f_pa_readTerm_57 g_pa_readExpr g_pa_readTerm g_pa_readFactor k_8 y0 y1 y2 y3 y4 y5 z0 z1 w = some (.inl r, w') → ∀ (H : Heap) (locs : List Loc) (ls : Array Slot), wo_S D cls cA base s w H locs → lv_has ls 6 [(0, .ref (base + y0)), (1, .int y1), (2, .int y2), (3, .int y3), (4, .int y4), (5, .int y5)] → W p l e (rm_pa_readTerm (d + 1)) s m args below meth c H locs 0 0 (MQ below (wo_Q D cls cA base (some (.int r)) w') args s (rm_pa_readTerm (d + 1)).cells (rm_pa_readTerm (d + 1)).slots (wo_B base)) (F0 m 57 ls [.int z1, .ref (base + z0)]) := by
  obtain ⟨hx, hb, hr, hml, hown, hts, hlk, hnm, hK, hG⟩ := id C
  intro y0 y1 y2 y3 y4 y5 z0 z1 w h H locs ls hW hl
  unfold f_pa_readTerm_57 at h
  replace h := bsx h
  obtain ⟨x17, w16, hw16, h⟩ := h
  refine cv_pa_59 (As := [.int z1]) (rest := []) hx hb hml hown hts hK hG hW (c_pa_need l D cA base hw16) (kb_pa_need hw16) ⟨by show 6 + 1 ≤ 8 + 1 * (d + 1); omega, by show 8 + (2 + 11) + 100 ≤ 142 + 25 * (d + 1); omega⟩ ⟨Nat.le_of_ble_eq_true rfl, Nat.le_of_ble_eq_true rfl⟩ rfl hl.1 rfl (Nat.le_of_ble_eq_true rfl) d_pa_readTerm_57 (fun H locs hW => ?_)
  refine lv_aload_n hx hb d_pa_readTerm_60 rfl (lv_at hl 0 rfl) ?_
  replace h := bs h
  obtain ⟨w18, hw18, h⟩ := h
  refine cv_pa_63 (As := []) (rest := []) hx hb hml hown hts hK hG hW (c_pa_advance l D cA base hw18) (kb_pa_advance hw18) ⟨by show 0 + 1 ≤ 8 + 1 * (d + 1); omega, by show 8 + (1 + 11) + 0 ≤ 142 + 25 * (d + 1); omega⟩ ⟨Nat.le_of_ble_eq_true rfl, Nat.le_of_ble_eq_true rfl⟩ rfl hl.1 rfl (Nat.le_of_ble_eq_true rfl) d_pa_readTerm_61 (fun H locs hW => ?_)
  refine lv_iconst (v := (1 : Int32)) hx hb d_pa_readTerm_64 (by decide) ?_
  refine lv_iload_n hx hb d_pa_readTerm_65 rfl (lv_at hl 2 rfl) ?_
  refine lv_aload_n hx hb d_pa_readTerm_66 rfl (lv_at hl 0 rfl) ?_
  refine lv_iload_n hx hb d_pa_readTerm_67 rfl (lv_at hl 1 rfl) ?_
  replace h := bsx h
  obtain ⟨x20, w19, hw19, h⟩ := h
  refine cv_pa_155 (As := [.int y1]) (rest := [.int y2, .int (1 : Int32)]) hx hb hml hown hts hK hG hW (HG.2.2.1 hw19) (HG.2.2.2 hw19) ⟨by show 8 + 1 * d + 1 ≤ 8 + 1 * (d + 1); omega, by show 8 + (6 + 11) + (142 + 25 * d) ≤ 142 + 25 * (d + 1); omega⟩ ⟨Nat.le_of_ble_eq_true rfl, Nat.le_of_ble_eq_true rfl⟩ rfl hl.1 rfl (Nat.le_of_ble_eq_true rfl) d_pa_readTerm_68 (fun H locs hW => ?_)
  replace h := bs2 h
  obtain ⟨x22, w21, hw21, h⟩ := h
  refine cs_pa_146 (As := [.int y2, .int x20]) (rest := [.int (1 : Int32)]) hx hb hml hown hts hK hG hW (c_ma_max_II l D cA base hw21) ⟨by show 0 + 1 ≤ 8 + 1 * (d + 1); omega, by show 8 + (2 + 11) + 0 ≤ 142 + 25 * (d + 1); omega⟩ ⟨Nat.le_of_ble_eq_true rfl, Nat.le_of_ble_eq_true rfl⟩ rfl hl.1 rfl (Nat.le_of_ble_eq_true rfl) d_pa_readTerm_71 (fun H locs hW => ?_)
  refine lv_iadd hx hb d_pa_readTerm_74 ?_
  refine lv_istore_n (lv' := [(2, .int ((1 : Int32) + x22)), (0, .ref (base + y0)), (1, .int y1), (3, .int y3), (4, .int y4), (5, .int y5)]) hx hb d_pa_readTerm_75 rfl hl (by decide) rfl (fun ls hl => ?_)
  refine lv_aload_n hx hb d_pa_readTerm_76 rfl (lv_at hl 1 rfl) ?_
  replace h := bs h
  obtain ⟨x23, hx23, h⟩ := h
  refine gf_pa_22 hx hb hts hown hK hG hW (gR_s hx23) d_pa_readTerm_77 ?_
  refine lv_iload hx hb d_pa_readTerm_80 (lv_at hl 4 rfl) ?_
  refine lv_iconst (v := (0 : Int32)) hx hb d_pa_readTerm_82 (by decide) ?_
  refine lv_iload hx hb d_pa_readTerm_83 (lv_at hl 5 rfl) ?_
  replace h := bs h
  obtain ⟨x24, ex24, h⟩ := h
  subst ex24
  replace h := bs h
  obtain ⟨w25, hw25, h⟩ := h
  refine cv_pa_152 (As := [.int y4, .int (0 : Int32), .int y5]) (rest := []) hx hb hml hown hts hK hG hW (c_pg_addStep l D cA base hw25) (kb_pg_addStep hw25) ⟨by show 0 + 1 ≤ 8 + 1 * (d + 1); omega, by show 8 + (4 + 11) + 0 ≤ 142 + 25 * (d + 1); omega⟩ ⟨Nat.le_of_ble_eq_true rfl, Nat.le_of_ble_eq_true rfl⟩ rfl hl.1 rfl (Nat.le_of_ble_eq_true rfl) d_pa_readTerm_85 (fun H locs hW => ?_)
  refine lv_iinc (v := (y3 + (1 : Int32))) (lv' := [(3, .int (y3 + (1 : Int32))), (2, .int ((1 : Int32) + x22)), (0, .ref (base + y0)), (1, .int y1), (4, .int y4), (5, .int y5)]) hx hb d_pa_readTerm_88 hl (k := 3) rfl rfl (by decide) rfl (fun ls hl => ?_)
  refine lv_goto (tgt := 8) hx hb d_pa_readTerm_91 (by decide) ?_
  exact hk_8 y0 y1 ((1 : Int32) + x22) (y3 + (1 : Int32)) w25 h _ _ _ hW (lv_sub hl [2, 3, 1, 0] rfl)
set_option maxHeartbeats 4000000 in
set_option maxRecDepth 100000 in
theorem j_pa_readTerm_8 {p : Program} {l : Launch} {e : Env} {s : State} {m : MethodId} {args : Array Value} {below : List Frame} {meth : Method} {c : Code} {D : va_G} {cA : Nat → ClassId} {base : Nat} {r : Int32} {w' : WW} (C : cx b_pa_readTerm (some .int) 6 y_pa_readTerm.cls "readTerm" p s m args meth c D cA base) {d : Nat} {g_pa_readExpr : Nat → Int32 → WW → Option ((Int32 ⊕ String) × WW)} {g_pa_readTerm : Nat → Int32 → WW → Option ((Int32 ⊕ String) × WW)} {g_pa_readFactor : Nat → Int32 → WW → Option ((Int32 ⊕ String) × WW)} (HG : sA_pa3 l D cA base d g_pa_readExpr g_pa_readTerm g_pa_readFactor )   : ∀ n : Nat, ∀ (y0 : Nat) (y1 : Int32) (y2 : Int32) (y3 : Int32) (w : WW), f_pa_readTerm_8 g_pa_readExpr g_pa_readTerm g_pa_readFactor n y0 y1 y2 y3 w = some (.inl r, w') → ∀ (H : Heap) (locs : List Loc) (ls : Array Slot), wo_S D cls cA base s w H locs → lv_has ls 6 [(0, .ref (base + y0)), (1, .int y1), (2, .int y2), (3, .int y3)] → W p l e (rm_pa_readTerm (d + 1)) s m args below meth c H locs 0 0 (MQ below (wo_Q D cls cA base (some (.int r)) w') args s (rm_pa_readTerm (d + 1)).cells (rm_pa_readTerm (d + 1)).slots (wo_B base)) (F0 m 8 ls []) := by
  obtain ⟨hx, hb, hr, hml, hown, hts, hlk, hnm, hK, hG⟩ := id C
  intro n
  induction n with
  | zero => intro y0 y1 y2 y3 w h; cases h
  | succ n ih =>
    intro y0 y1 y2 y3 w h H locs ls hW hl
    rw [f_pa_readTerm_8] at h
    refine lv_iload_n hx hb d_pa_readTerm_8 rfl (lv_at hl 3 rfl) ?_
    refine lv_sipush (v := (200 : Int32)) hx hb d_pa_readTerm_9 (by decide) ?_
    refine lv_icmp_ge (tgt := 94) hx hb d_pa_readTerm_12 (by decide) (fun c3 => ?_) (fun c3 => ?_)
    · rw [if_pos c3] at h
      exact j_pa_readTerm_94 C HG y2 w h _ _ _ hW (lv_sub hl [2] rfl)
    · rw [if_neg c3] at h
      refine lv_aload_n hx hb d_pa_readTerm_15 rfl (lv_at hl 0 rfl) ?_
      replace h := bs2 h
      obtain ⟨x5, w4, hw4, h⟩ := h
      refine cv_pa_55 (As := []) (rest := []) hx hb hml hown hts hK hG hW (c_pa_kindHere l D cA base hw4) (kb_pa_kindHere hw4) ⟨by show 0 + 1 ≤ 8 + 1 * (d + 1); omega, by show 8 + (1 + 11) + 0 ≤ 142 + 25 * (d + 1); omega⟩ ⟨Nat.le_of_ble_eq_true rfl, Nat.le_of_ble_eq_true rfl⟩ rfl hl.1 rfl (Nat.le_of_ble_eq_true rfl) d_pa_readTerm_16 (fun H locs hW => ?_)
      replace h := bs2 h
      obtain ⟨x7, w6, hw6, h⟩ := h
      refine cs_pa_158 (As := [.int x5]) (rest := []) hx hb hml hown hts hK hG hW (c_pa_isProductSign l D cA base hw6) ⟨by show 0 + 1 ≤ 8 + 1 * (d + 1); omega, by show 8 + (1 + 11) + 0 ≤ 142 + 25 * (d + 1); omega⟩ ⟨Nat.le_of_ble_eq_true rfl, Nat.le_of_ble_eq_true rfl⟩ rfl hl.1 rfl (Nat.le_of_ble_eq_true rfl) d_pa_readTerm_19 (fun H locs hW => ?_)
      refine lv_if_eq (tgt := 94) hx hb d_pa_readTerm_22 (by decide) (fun c8 => ?_) (fun c8 => ?_)
      · rw [if_pos c8] at h
        exact j_pa_readTerm_94 C HG y2 w6 h _ _ _ hW (lv_sub hl [2] rfl)
      · rw [if_neg c8] at h
        refine lv_aload_n hx hb d_pa_readTerm_25 rfl (lv_at hl 0 rfl) ?_
        replace h := bs2 h
        obtain ⟨x10, w9, hw9, h⟩ := h
        refine cv_pa_55 (As := []) (rest := []) hx hb hml hown hts hK hG hW (c_pa_kindHere l D cA base hw9) (kb_pa_kindHere hw9) ⟨by show 0 + 1 ≤ 8 + 1 * (d + 1); omega, by show 8 + (1 + 11) + 0 ≤ 142 + 25 * (d + 1); omega⟩ ⟨Nat.le_of_ble_eq_true rfl, Nat.le_of_ble_eq_true rfl⟩ rfl hl.1 rfl (Nat.le_of_ble_eq_true rfl) d_pa_readTerm_26 (fun H locs hW => ?_)
        refine lv_istore (lv' := [(4, .int x10), (0, .ref (base + y0)), (1, .int y1), (2, .int y2), (3, .int y3)]) hx hb d_pa_readTerm_29 hl (by decide) rfl (fun ls hl => ?_)
        refine lv_aload_n hx hb d_pa_readTerm_31 rfl (lv_at hl 1 rfl) ?_
        replace h := bs h
        obtain ⟨x11, hx11, h⟩ := h
        refine gf_pa_12 hx hb hts hown hK hG hW (gN_s hx11) d_pa_readTerm_32 ?_
        replace h := bs h
        obtain ⟨x12, hx12, h⟩ := h
        refine gf_pa_49 hx hb hts hown hK hG hW (gN_s hx12) d_pa_readTerm_35 ?_
        refine lv_aload_n hx hb d_pa_readTerm_38 rfl (lv_at hl 1 rfl) ?_
        replace h := bs h
        obtain ⟨x13, hx13, h⟩ := h
        refine gf_pa_34 hx hb hts hown hK hG hW (gI_s hx13) d_pa_readTerm_39 ?_
        replace h := bs h
        obtain ⟨x14, hx14, h⟩ := h
        refine wo_iald hx hb hK hW (t := 0) rfl hx14 d_pa_readTerm_42 ?_
        refine lv_istore (lv' := [(5, .int x14), (4, .int x10), (0, .ref (base + y0)), (1, .int y1), (2, .int y2), (3, .int y3)]) hx hb d_pa_readTerm_43 hl (by decide) rfl (fun ls hl => ?_)
        refine lv_aload_n hx hb d_pa_readTerm_45 rfl (lv_at hl 2 rfl) ?_
        refine lv_iload_n hx hb d_pa_readTerm_46 rfl (lv_at hl 4 rfl) ?_
        refine lv_bipush (v := (16 : Int32)) hx hb d_pa_readTerm_47 (by decide) ?_
        refine lv_icmp_ge (tgt := 56) hx hb d_pa_readTerm_49 (by decide) (fun c15 => ?_) (fun c15 => ?_)
        · rw [if_pos c15] at h
          refine lv_iconst (v := (0 : Int32)) hx hb d_pa_readTerm_56 (by decide) ?_
          exact j_pa_readTerm_57 C HG ih y0 y1 y2 y3 x10 x14 y0 (0 : Int32) w9 h _ _ _ hW (lv_sub hl [2, 3, 4, 5, 1, 0] rfl)
        · rw [if_neg c15] at h
          refine lv_iconst (v := (1 : Int32)) hx hb d_pa_readTerm_52 (by decide) ?_
          refine lv_goto (tgt := 57) hx hb d_pa_readTerm_53 (by decide) ?_
          exact j_pa_readTerm_57 C HG ih y0 y1 y2 y3 x10 x14 y0 (1 : Int32) w9 h _ _ _ hW (lv_sub hl [2, 3, 4, 5, 1, 0] rfl)
set_option maxHeartbeats 4000000 in
set_option maxRecDepth 100000 in
theorem co_pa_readTerm (l : Launch) (D : va_G) (cA : Nat → ClassId) (base : Nat) {d : Nat} {g_pa_readExpr : Nat → Int32 → WW → Option ((Int32 ⊕ String) × WW)} {g_pa_readTerm : Nat → Int32 → WW → Option ((Int32 ⊕ String) × WW)} {g_pa_readFactor : Nat → Int32 → WW → Option ((Int32 ⊕ String) × WW)} (HG : sA_pa3 l D cA base d g_pa_readExpr g_pa_readTerm g_pa_readFactor ) {a0 : Nat} {a1 : Int32} {w w' : WW} {r : Int32} (h : fo_pa_readTerm g_pa_readExpr g_pa_readTerm g_pa_readFactor a0 a1 w = some (.inl r, w')) : mt l D cls (wo_tys cA) cA base y_pa_readTerm (Cond.code y_pa_readTerm b_pa_readTerm 6 (some .int) :: gt) (rm_pa_readTerm (d + 1)) [.ref (base + a0), .int a1] w (some (.int r)) w' (rm_pa_readTerm (d + 1)).cells (rm_pa_readTerm (d + 1)).slots := by
  refine mt_start (by decide) (Nat.le_of_ble_eq_true rfl) ?_
  intro p e s m below meth c ls hx hb hr hml hown hts hlk hnm hK hG hW hl
  have C : cx b_pa_readTerm (some .int) 6 y_pa_readTerm.cls "readTerm" p s m [.ref (base + a0), .int a1].toArray meth c D cA base := ⟨hx, hb, hr, hml, hown, hts, hlk, hnm, hK, hG⟩
  have hl : lv_has ls 6 [(0, .ref (base + a0)), (1, .int a1)] := hl
  unfold fo_pa_readTerm at h
  replace h := its h
  obtain ⟨-, h⟩ := h
  refine lv_aload_n hx hb d_pa_readTerm_0 rfl (lv_at hl 0 rfl) ?_
  refine lv_iload_n hx hb d_pa_readTerm_1 rfl (lv_at hl 1 rfl) ?_
  replace h := bsx h
  obtain ⟨x2, w1, hw1, h⟩ := h
  refine cv_pa_155 (As := [.int a1]) (rest := []) hx hb hml hown hts hK hG hW (HG.2.2.1 hw1) (HG.2.2.2 hw1) ⟨by show 8 + 1 * d + 1 ≤ 8 + 1 * (d + 1); omega, by show 8 + (6 + 11) + (142 + 25 * d) ≤ 142 + 25 * (d + 1); omega⟩ ⟨Nat.le_of_ble_eq_true rfl, Nat.le_of_ble_eq_true rfl⟩ rfl hl.1 rfl (Nat.le_of_ble_eq_true rfl) d_pa_readTerm_2 (fun H locs hW => ?_)
  refine lv_istore_n (lv' := [(2, .int x2), (0, .ref (base + a0)), (1, .int a1)]) hx hb d_pa_readTerm_5 rfl hl (by decide) rfl (fun ls hl => ?_)
  refine lv_iconst (v := (0 : Int32)) hx hb d_pa_readTerm_6 (by decide) ?_
  refine lv_istore_n (lv' := [(3, .int (0 : Int32)), (2, .int x2), (0, .ref (base + a0)), (1, .int a1)]) hx hb d_pa_readTerm_7 rfl hl (by decide) rfl (fun ls hl => ?_)
  exact j_pa_readTerm_8 C HG KK a0 a1 x2 (0 : Int32) w1 h _ _ _ hW (lv_sub hl [2, 3, 1, 0] rfl)
set_option maxHeartbeats 4000000 in
set_option maxRecDepth 100000 in
theorem jx_pa_readTerm_94 {p : Program} {l : Launch} {e : Env} {s : State} {m : MethodId} {args : Array Value} {below : List Frame} {meth : Method} {c : Code} {D : va_G} {cA : Nat → ClassId} {base : Nat} {E : String} {w' : WW} (C : cx b_pa_readTerm (some .int) 6 y_pa_readTerm.cls "readTerm" p s m args meth c D cA base ∧ (∀ x ∈ c.exceptionTable.toList, ∀ k : Nat, covers x k = false) ∧ l.stackTraces = false) {d : Nat} {g_pa_readExpr : Nat → Int32 → WW → Option ((Int32 ⊕ String) × WW)} {g_pa_readTerm : Nat → Int32 → WW → Option ((Int32 ⊕ String) × WW)} {g_pa_readFactor : Nat → Int32 → WW → Option ((Int32 ⊕ String) × WW)} (HG : sA_pa3 l D cA base d g_pa_readExpr g_pa_readTerm g_pa_readFactor ) (HX : sX_pa3 l D cA base d g_pa_readExpr g_pa_readTerm g_pa_readFactor )   : ∀ (y2 : Int32) (w : WW), f_pa_readTerm_94 g_pa_readExpr g_pa_readTerm g_pa_readFactor y2 w = some (.inr E, w') → ∀ (H : Heap) (locs : List Loc) (ls : Array Slot), wo_S D cls cA base s w H locs → lv_has ls 6 [(2, .int y2)] → W p l e (rx_pa_readTerm (d + 1)) s m args below meth c H locs 0 0 (XQ below (wo_X D cls cA base E w' (rx_pa_readTerm (d + 1)).cells (rx_pa_readTerm (d + 1)).slots) args s) (F0 m 94 ls []) := by
  obtain ⟨hx, hb, hr, hml, hown, hts, hlk, hnm, hK, hG⟩ := id C.1
  have hnt := C.2.1
  have hst := C.2.2
  intro y2 w h H locs ls hW hl
  unfold f_pa_readTerm_94 at h
  refine lv_iload_n hx hb d_pa_readTerm_94 rfl (lv_at hl 0 rfl) ?_
  cases h
set_option maxHeartbeats 4000000 in
set_option maxRecDepth 100000 in
theorem jx_pa_readTerm_57 {p : Program} {l : Launch} {e : Env} {s : State} {m : MethodId} {args : Array Value} {below : List Frame} {meth : Method} {c : Code} {D : va_G} {cA : Nat → ClassId} {base : Nat} {E : String} {w' : WW} (C : cx b_pa_readTerm (some .int) 6 y_pa_readTerm.cls "readTerm" p s m args meth c D cA base ∧ (∀ x ∈ c.exceptionTable.toList, ∀ k : Nat, covers x k = false) ∧ l.stackTraces = false) {d : Nat} {g_pa_readExpr : Nat → Int32 → WW → Option ((Int32 ⊕ String) × WW)} {g_pa_readTerm : Nat → Int32 → WW → Option ((Int32 ⊕ String) × WW)} {g_pa_readFactor : Nat → Int32 → WW → Option ((Int32 ⊕ String) × WW)} (HG : sA_pa3 l D cA base d g_pa_readExpr g_pa_readTerm g_pa_readFactor ) (HX : sX_pa3 l D cA base d g_pa_readExpr g_pa_readTerm g_pa_readFactor ) {k_8 : Nat → Int32 → Int32 → Int32 → WW → Option ((Int32 ⊕ String) × WW)} (hk_8 : ∀ (y0 : Nat) (y1 : Int32) (y2 : Int32) (y3 : Int32) (w : WW), k_8 y0 y1 y2 y3 w = some (.inr E, w') → ∀ (H : Heap) (locs : List Loc) (ls : Array Slot), wo_S D cls cA base s w H locs → lv_has ls 6 [(0, .ref (base + y0)), (1, .int y1), (2, .int y2), (3, .int y3)] → W p l e (rx_pa_readTerm (d + 1)) s m args below meth c H locs 0 0 (XQ below (wo_X D cls cA base E w' (rx_pa_readTerm (d + 1)).cells (rx_pa_readTerm (d + 1)).slots) args s) (F0 m 8 ls [])) : ∀ (y0 : Nat) (y1 : Int32) (y2 : Int32) (y3 : Int32) (y4 : Int32) (y5 : Int32) (z0 : Nat) (z1 : Int32) (w : WW), f_pa_readTerm_57 g_pa_readExpr g_pa_readTerm g_pa_readFactor k_8 y0 y1 y2 y3 y4 y5 z0 z1 w = some (.inr E, w') → ∀ (H : Heap) (locs : List Loc) (ls : Array Slot), wo_S D cls cA base s w H locs → lv_has ls 6 [(0, .ref (base + y0)), (1, .int y1), (2, .int y2), (3, .int y3), (4, .int y4), (5, .int y5)] → W p l e (rx_pa_readTerm (d + 1)) s m args below meth c H locs 0 0 (XQ below (wo_X D cls cA base E w' (rx_pa_readTerm (d + 1)).cells (rx_pa_readTerm (d + 1)).slots) args s) (F0 m 57 ls [.int z1, .ref (base + z0)]) := by
  obtain ⟨hx, hb, hr, hml, hown, hts, hlk, hnm, hK, hG⟩ := id C.1
  have hnt := C.2.1
  have hst := C.2.2
  intro y0 y1 y2 y3 y4 y5 z0 z1 w h H locs ls hW hl
  unfold f_pa_readTerm_57 at h
  rcases bsy h with hw16 | ⟨x17, w16, hw16, hnw16⟩
  · exact xv_pa_59 (As := [.int z1]) (rest := []) hx hb hml hown hts hK hG hW (x_pa_need l hst D cA base hw16) (kb_pa_need hw16) ⟨by show 6 + 1 ≤ 8 + 1 * (d + 1); omega, by show 8 + (2 + 11) + 100 ≤ 142 + 25 * (d + 1); omega⟩ ⟨Nat.le_of_ble_eq_true rfl, Nat.le_of_ble_eq_true rfl⟩ rfl hl.1 rfl (Nat.le_of_ble_eq_true rfl) d_pa_readTerm_57 (fun H locs q ce hW h1 h2 h3 => wo_xout hnt hlk hW h1 h2 h3 (Nat.le_of_ble_eq_true rfl) (Nat.le_of_ble_eq_true rfl))
  clear h
  have h := hnw16
  clear hnw16
  refine cv_pa_59 (As := [.int z1]) (rest := []) hx hb hml hown hts hK hG hW (c_pa_need l D cA base hw16) (kb_pa_need hw16) ⟨by show 6 + 1 ≤ 8 + 1 * (d + 1); omega, by show 8 + (2 + 11) + 100 ≤ 142 + 25 * (d + 1); omega⟩ ⟨Nat.le_of_ble_eq_true rfl, Nat.le_of_ble_eq_true rfl⟩ rfl hl.1 rfl (Nat.le_of_ble_eq_true rfl) d_pa_readTerm_57 (fun H locs hW => ?_)
  refine lv_aload_n hx hb d_pa_readTerm_60 rfl (lv_at hl 0 rfl) ?_
  replace h := bs h
  obtain ⟨w18, hw18, h⟩ := h
  refine cv_pa_63 (As := []) (rest := []) hx hb hml hown hts hK hG hW (c_pa_advance l D cA base hw18) (kb_pa_advance hw18) ⟨by show 0 + 1 ≤ 8 + 1 * (d + 1); omega, by show 8 + (1 + 11) + 0 ≤ 142 + 25 * (d + 1); omega⟩ ⟨Nat.le_of_ble_eq_true rfl, Nat.le_of_ble_eq_true rfl⟩ rfl hl.1 rfl (Nat.le_of_ble_eq_true rfl) d_pa_readTerm_61 (fun H locs hW => ?_)
  refine lv_iconst (v := (1 : Int32)) hx hb d_pa_readTerm_64 (by decide) ?_
  refine lv_iload_n hx hb d_pa_readTerm_65 rfl (lv_at hl 2 rfl) ?_
  refine lv_aload_n hx hb d_pa_readTerm_66 rfl (lv_at hl 0 rfl) ?_
  refine lv_iload_n hx hb d_pa_readTerm_67 rfl (lv_at hl 1 rfl) ?_
  rcases bsy h with hw19 | ⟨x20, w19, hw19, hnw19⟩
  · exact xv_pa_155 (As := [.int y1]) (rest := [.int y2, .int (1 : Int32)]) hx hb hml hown hts hK hG hW (HX.2.2 hw19) (HG.2.2.2 hw19) ⟨by show 8 + 1 * d + 1 ≤ 8 + 1 * (d + 1); omega, by show 8 + (6 + 11) + (142 + 25 * d) ≤ 142 + 25 * (d + 1); omega⟩ ⟨Nat.le_of_ble_eq_true rfl, Nat.le_of_ble_eq_true rfl⟩ rfl hl.1 rfl (Nat.le_of_ble_eq_true rfl) d_pa_readTerm_68 (fun H locs q ce hW h1 h2 h3 => wo_xout hnt hlk hW h1 h2 h3 (Nat.le_of_ble_eq_true rfl) (Nat.le_of_ble_eq_true rfl))
  clear h
  have h := hnw19
  clear hnw19
  refine cv_pa_155 (As := [.int y1]) (rest := [.int y2, .int (1 : Int32)]) hx hb hml hown hts hK hG hW (HG.2.2.1 hw19) (HG.2.2.2 hw19) ⟨by show 8 + 1 * d + 1 ≤ 8 + 1 * (d + 1); omega, by show 8 + (6 + 11) + (142 + 25 * d) ≤ 142 + 25 * (d + 1); omega⟩ ⟨Nat.le_of_ble_eq_true rfl, Nat.le_of_ble_eq_true rfl⟩ rfl hl.1 rfl (Nat.le_of_ble_eq_true rfl) d_pa_readTerm_68 (fun H locs hW => ?_)
  replace h := bs2 h
  obtain ⟨x22, w21, hw21, h⟩ := h
  refine cs_pa_146 (As := [.int y2, .int x20]) (rest := [.int (1 : Int32)]) hx hb hml hown hts hK hG hW (c_ma_max_II l D cA base hw21) ⟨by show 0 + 1 ≤ 8 + 1 * (d + 1); omega, by show 8 + (2 + 11) + 0 ≤ 142 + 25 * (d + 1); omega⟩ ⟨Nat.le_of_ble_eq_true rfl, Nat.le_of_ble_eq_true rfl⟩ rfl hl.1 rfl (Nat.le_of_ble_eq_true rfl) d_pa_readTerm_71 (fun H locs hW => ?_)
  refine lv_iadd hx hb d_pa_readTerm_74 ?_
  refine lv_istore_n (lv' := [(2, .int ((1 : Int32) + x22)), (0, .ref (base + y0)), (1, .int y1), (3, .int y3), (4, .int y4), (5, .int y5)]) hx hb d_pa_readTerm_75 rfl hl (by decide) rfl (fun ls hl => ?_)
  refine lv_aload_n hx hb d_pa_readTerm_76 rfl (lv_at hl 1 rfl) ?_
  replace h := bs h
  obtain ⟨x23, hx23, h⟩ := h
  refine gf_pa_22 hx hb hts hown hK hG hW (gR_s hx23) d_pa_readTerm_77 ?_
  refine lv_iload hx hb d_pa_readTerm_80 (lv_at hl 4 rfl) ?_
  refine lv_iconst (v := (0 : Int32)) hx hb d_pa_readTerm_82 (by decide) ?_
  refine lv_iload hx hb d_pa_readTerm_83 (lv_at hl 5 rfl) ?_
  replace h := bs h
  obtain ⟨x24, ex24, h⟩ := h
  subst ex24
  replace h := bs h
  obtain ⟨w25, hw25, h⟩ := h
  refine cv_pa_152 (As := [.int y4, .int (0 : Int32), .int y5]) (rest := []) hx hb hml hown hts hK hG hW (c_pg_addStep l D cA base hw25) (kb_pg_addStep hw25) ⟨by show 0 + 1 ≤ 8 + 1 * (d + 1); omega, by show 8 + (4 + 11) + 0 ≤ 142 + 25 * (d + 1); omega⟩ ⟨Nat.le_of_ble_eq_true rfl, Nat.le_of_ble_eq_true rfl⟩ rfl hl.1 rfl (Nat.le_of_ble_eq_true rfl) d_pa_readTerm_85 (fun H locs hW => ?_)
  refine lv_iinc (v := (y3 + (1 : Int32))) (lv' := [(3, .int (y3 + (1 : Int32))), (2, .int ((1 : Int32) + x22)), (0, .ref (base + y0)), (1, .int y1), (4, .int y4), (5, .int y5)]) hx hb d_pa_readTerm_88 hl (k := 3) rfl rfl (by decide) rfl (fun ls hl => ?_)
  refine lv_goto (tgt := 8) hx hb d_pa_readTerm_91 (by decide) ?_
  exact hk_8 y0 y1 ((1 : Int32) + x22) (y3 + (1 : Int32)) w25 h _ _ _ hW (lv_sub hl [2, 3, 1, 0] rfl)
set_option maxHeartbeats 4000000 in
set_option maxRecDepth 100000 in
theorem jx_pa_readTerm_8 {p : Program} {l : Launch} {e : Env} {s : State} {m : MethodId} {args : Array Value} {below : List Frame} {meth : Method} {c : Code} {D : va_G} {cA : Nat → ClassId} {base : Nat} {E : String} {w' : WW} (C : cx b_pa_readTerm (some .int) 6 y_pa_readTerm.cls "readTerm" p s m args meth c D cA base ∧ (∀ x ∈ c.exceptionTable.toList, ∀ k : Nat, covers x k = false) ∧ l.stackTraces = false) {d : Nat} {g_pa_readExpr : Nat → Int32 → WW → Option ((Int32 ⊕ String) × WW)} {g_pa_readTerm : Nat → Int32 → WW → Option ((Int32 ⊕ String) × WW)} {g_pa_readFactor : Nat → Int32 → WW → Option ((Int32 ⊕ String) × WW)} (HG : sA_pa3 l D cA base d g_pa_readExpr g_pa_readTerm g_pa_readFactor ) (HX : sX_pa3 l D cA base d g_pa_readExpr g_pa_readTerm g_pa_readFactor )   : ∀ n : Nat, ∀ (y0 : Nat) (y1 : Int32) (y2 : Int32) (y3 : Int32) (w : WW), f_pa_readTerm_8 g_pa_readExpr g_pa_readTerm g_pa_readFactor n y0 y1 y2 y3 w = some (.inr E, w') → ∀ (H : Heap) (locs : List Loc) (ls : Array Slot), wo_S D cls cA base s w H locs → lv_has ls 6 [(0, .ref (base + y0)), (1, .int y1), (2, .int y2), (3, .int y3)] → W p l e (rx_pa_readTerm (d + 1)) s m args below meth c H locs 0 0 (XQ below (wo_X D cls cA base E w' (rx_pa_readTerm (d + 1)).cells (rx_pa_readTerm (d + 1)).slots) args s) (F0 m 8 ls []) := by
  obtain ⟨hx, hb, hr, hml, hown, hts, hlk, hnm, hK, hG⟩ := id C.1
  have hnt := C.2.1
  have hst := C.2.2
  intro n
  induction n with
  | zero => intro y0 y1 y2 y3 w h; cases h
  | succ n ih =>
    intro y0 y1 y2 y3 w h H locs ls hW hl
    rw [f_pa_readTerm_8] at h
    refine lv_iload_n hx hb d_pa_readTerm_8 rfl (lv_at hl 3 rfl) ?_
    refine lv_sipush (v := (200 : Int32)) hx hb d_pa_readTerm_9 (by decide) ?_
    refine lv_icmp_ge (tgt := 94) hx hb d_pa_readTerm_12 (by decide) (fun c3 => ?_) (fun c3 => ?_)
    · rw [if_pos c3] at h
      exact jx_pa_readTerm_94 C HG HX y2 w h _ _ _ hW (lv_sub hl [2] rfl)
    · rw [if_neg c3] at h
      refine lv_aload_n hx hb d_pa_readTerm_15 rfl (lv_at hl 0 rfl) ?_
      replace h := bs2 h
      obtain ⟨x5, w4, hw4, h⟩ := h
      refine cv_pa_55 (As := []) (rest := []) hx hb hml hown hts hK hG hW (c_pa_kindHere l D cA base hw4) (kb_pa_kindHere hw4) ⟨by show 0 + 1 ≤ 8 + 1 * (d + 1); omega, by show 8 + (1 + 11) + 0 ≤ 142 + 25 * (d + 1); omega⟩ ⟨Nat.le_of_ble_eq_true rfl, Nat.le_of_ble_eq_true rfl⟩ rfl hl.1 rfl (Nat.le_of_ble_eq_true rfl) d_pa_readTerm_16 (fun H locs hW => ?_)
      replace h := bs2 h
      obtain ⟨x7, w6, hw6, h⟩ := h
      refine cs_pa_158 (As := [.int x5]) (rest := []) hx hb hml hown hts hK hG hW (c_pa_isProductSign l D cA base hw6) ⟨by show 0 + 1 ≤ 8 + 1 * (d + 1); omega, by show 8 + (1 + 11) + 0 ≤ 142 + 25 * (d + 1); omega⟩ ⟨Nat.le_of_ble_eq_true rfl, Nat.le_of_ble_eq_true rfl⟩ rfl hl.1 rfl (Nat.le_of_ble_eq_true rfl) d_pa_readTerm_19 (fun H locs hW => ?_)
      refine lv_if_eq (tgt := 94) hx hb d_pa_readTerm_22 (by decide) (fun c8 => ?_) (fun c8 => ?_)
      · rw [if_pos c8] at h
        exact jx_pa_readTerm_94 C HG HX y2 w6 h _ _ _ hW (lv_sub hl [2] rfl)
      · rw [if_neg c8] at h
        refine lv_aload_n hx hb d_pa_readTerm_25 rfl (lv_at hl 0 rfl) ?_
        replace h := bs2 h
        obtain ⟨x10, w9, hw9, h⟩ := h
        refine cv_pa_55 (As := []) (rest := []) hx hb hml hown hts hK hG hW (c_pa_kindHere l D cA base hw9) (kb_pa_kindHere hw9) ⟨by show 0 + 1 ≤ 8 + 1 * (d + 1); omega, by show 8 + (1 + 11) + 0 ≤ 142 + 25 * (d + 1); omega⟩ ⟨Nat.le_of_ble_eq_true rfl, Nat.le_of_ble_eq_true rfl⟩ rfl hl.1 rfl (Nat.le_of_ble_eq_true rfl) d_pa_readTerm_26 (fun H locs hW => ?_)
        refine lv_istore (lv' := [(4, .int x10), (0, .ref (base + y0)), (1, .int y1), (2, .int y2), (3, .int y3)]) hx hb d_pa_readTerm_29 hl (by decide) rfl (fun ls hl => ?_)
        refine lv_aload_n hx hb d_pa_readTerm_31 rfl (lv_at hl 1 rfl) ?_
        replace h := bs h
        obtain ⟨x11, hx11, h⟩ := h
        refine gf_pa_12 hx hb hts hown hK hG hW (gN_s hx11) d_pa_readTerm_32 ?_
        replace h := bs h
        obtain ⟨x12, hx12, h⟩ := h
        refine gf_pa_49 hx hb hts hown hK hG hW (gN_s hx12) d_pa_readTerm_35 ?_
        refine lv_aload_n hx hb d_pa_readTerm_38 rfl (lv_at hl 1 rfl) ?_
        replace h := bs h
        obtain ⟨x13, hx13, h⟩ := h
        refine gf_pa_34 hx hb hts hown hK hG hW (gI_s hx13) d_pa_readTerm_39 ?_
        replace h := bs h
        obtain ⟨x14, hx14, h⟩ := h
        refine wo_iald hx hb hK hW (t := 0) rfl hx14 d_pa_readTerm_42 ?_
        refine lv_istore (lv' := [(5, .int x14), (4, .int x10), (0, .ref (base + y0)), (1, .int y1), (2, .int y2), (3, .int y3)]) hx hb d_pa_readTerm_43 hl (by decide) rfl (fun ls hl => ?_)
        refine lv_aload_n hx hb d_pa_readTerm_45 rfl (lv_at hl 2 rfl) ?_
        refine lv_iload_n hx hb d_pa_readTerm_46 rfl (lv_at hl 4 rfl) ?_
        refine lv_bipush (v := (16 : Int32)) hx hb d_pa_readTerm_47 (by decide) ?_
        refine lv_icmp_ge (tgt := 56) hx hb d_pa_readTerm_49 (by decide) (fun c15 => ?_) (fun c15 => ?_)
        · rw [if_pos c15] at h
          refine lv_iconst (v := (0 : Int32)) hx hb d_pa_readTerm_56 (by decide) ?_
          exact jx_pa_readTerm_57 C HG HX ih y0 y1 y2 y3 x10 x14 y0 (0 : Int32) w9 h _ _ _ hW (lv_sub hl [2, 3, 4, 5, 1, 0] rfl)
        · rw [if_neg c15] at h
          refine lv_iconst (v := (1 : Int32)) hx hb d_pa_readTerm_52 (by decide) ?_
          refine lv_goto (tgt := 57) hx hb d_pa_readTerm_53 (by decide) ?_
          exact jx_pa_readTerm_57 C HG HX ih y0 y1 y2 y3 x10 x14 y0 (1 : Int32) w9 h _ _ _ hW (lv_sub hl [2, 3, 4, 5, 1, 0] rfl)
set_option maxHeartbeats 4000000 in
set_option maxRecDepth 100000 in
theorem xo_pa_readTerm (l : Launch) (hst : l.stackTraces = false) (D : va_G) (cA : Nat → ClassId) (base : Nat) {d : Nat} {g_pa_readExpr : Nat → Int32 → WW → Option ((Int32 ⊕ String) × WW)} {g_pa_readTerm : Nat → Int32 → WW → Option ((Int32 ⊕ String) × WW)} {g_pa_readFactor : Nat → Int32 → WW → Option ((Int32 ⊕ String) × WW)} (HG : sA_pa3 l D cA base d g_pa_readExpr g_pa_readTerm g_pa_readFactor ) (HX : sX_pa3 l D cA base d g_pa_readExpr g_pa_readTerm g_pa_readFactor ) {a0 : Nat} {a1 : Int32} {w w' : WW} {E : String} (h : fo_pa_readTerm g_pa_readExpr g_pa_readTerm g_pa_readFactor a0 a1 w = some (.inr E, w')) : xt l D cls (wo_tys cA) cA base y_pa_readTerm (Cond.code y_pa_readTerm b_pa_readTerm 6 (some .int) :: gt) (rx_pa_readTerm (d + 1)) [.ref (base + a0), .int a1] w E w' (rx_pa_readTerm (d + 1)).cells (rx_pa_readTerm (d + 1)).slots := by
  refine xt_start (by decide) (Nat.le_of_ble_eq_true rfl) ?_
  intro p e s m below meth c ls hx hb hr hml hown hts hlk hnm hK hG hW hl hnt
  have C : cx b_pa_readTerm (some .int) 6 y_pa_readTerm.cls "readTerm" p s m [.ref (base + a0), .int a1].toArray meth c D cA base ∧ (∀ x ∈ c.exceptionTable.toList, ∀ k : Nat, covers x k = false) ∧ l.stackTraces = false := ⟨⟨hx, hb, hr, hml, hown, hts, hlk, hnm, hK, hG⟩, hnt, hst⟩
  have hl : lv_has ls 6 [(0, .ref (base + a0)), (1, .int a1)] := hl
  unfold fo_pa_readTerm at h
  replace h := its h
  obtain ⟨-, h⟩ := h
  refine lv_aload_n hx hb d_pa_readTerm_0 rfl (lv_at hl 0 rfl) ?_
  refine lv_iload_n hx hb d_pa_readTerm_1 rfl (lv_at hl 1 rfl) ?_
  rcases bsy h with hw1 | ⟨x2, w1, hw1, hnw1⟩
  · exact xv_pa_155 (As := [.int a1]) (rest := []) hx hb hml hown hts hK hG hW (HX.2.2 hw1) (HG.2.2.2 hw1) ⟨by show 8 + 1 * d + 1 ≤ 8 + 1 * (d + 1); omega, by show 8 + (6 + 11) + (142 + 25 * d) ≤ 142 + 25 * (d + 1); omega⟩ ⟨Nat.le_of_ble_eq_true rfl, Nat.le_of_ble_eq_true rfl⟩ rfl hl.1 rfl (Nat.le_of_ble_eq_true rfl) d_pa_readTerm_2 (fun H locs q ce hW h1 h2 h3 => wo_xout hnt hlk hW h1 h2 h3 (Nat.le_of_ble_eq_true rfl) (Nat.le_of_ble_eq_true rfl))
  clear h
  have h := hnw1
  clear hnw1
  refine cv_pa_155 (As := [.int a1]) (rest := []) hx hb hml hown hts hK hG hW (HG.2.2.1 hw1) (HG.2.2.2 hw1) ⟨by show 8 + 1 * d + 1 ≤ 8 + 1 * (d + 1); omega, by show 8 + (6 + 11) + (142 + 25 * d) ≤ 142 + 25 * (d + 1); omega⟩ ⟨Nat.le_of_ble_eq_true rfl, Nat.le_of_ble_eq_true rfl⟩ rfl hl.1 rfl (Nat.le_of_ble_eq_true rfl) d_pa_readTerm_2 (fun H locs hW => ?_)
  refine lv_istore_n (lv' := [(2, .int x2), (0, .ref (base + a0)), (1, .int a1)]) hx hb d_pa_readTerm_5 rfl hl (by decide) rfl (fun ls hl => ?_)
  refine lv_iconst (v := (0 : Int32)) hx hb d_pa_readTerm_6 (by decide) ?_
  refine lv_istore_n (lv' := [(3, .int (0 : Int32)), (2, .int x2), (0, .ref (base + a0)), (1, .int a1)]) hx hb d_pa_readTerm_7 rfl hl (by decide) rfl (fun ls hl => ?_)
  exact jx_pa_readTerm_8 C HG HX KK a0 a1 x2 (0 : Int32) w1 h _ _ _ hW (lv_sub hl [2, 3, 1, 0] rfl)
theorem d_pa_readFactor_0 : decode b_pa_readFactor 0 = .ok (.aload_n 0, 1) := by decide +kernel
theorem d_pa_readFactor_1 : decode b_pa_readFactor 1 = .ok (.iload_n 1, 1) := by decide +kernel
theorem d_pa_readFactor_2 : decode b_pa_readFactor 2 = .ok (.bipush (10), 2) := by decide +kernel
theorem d_pa_readFactor_4 : decode b_pa_readFactor 4 = .ok (.if_icmp .gt (7), 3) := by decide +kernel
theorem d_pa_readFactor_7 : decode b_pa_readFactor 7 = .ok (.iconst 1, 1) := by decide +kernel
theorem d_pa_readFactor_8 : decode b_pa_readFactor 8 = .ok (.goto (4), 3) := by decide +kernel
theorem d_pa_readFactor_11 : decode b_pa_readFactor 11 = .ok (.iconst 0, 1) := by decide +kernel
theorem d_pa_readFactor_12 : decode b_pa_readFactor 12 = .ok (.invokevirtual 59, 3) := by decide +kernel
theorem d_pa_readFactor_15 : decode b_pa_readFactor 15 = .ok (.aload_n 0, 1) := by decide +kernel
theorem d_pa_readFactor_16 : decode b_pa_readFactor 16 = .ok (.invokevirtual 55, 3) := by decide +kernel
theorem d_pa_readFactor_19 : decode b_pa_readFactor 19 = .ok (.istore_n 2, 1) := by decide +kernel
theorem d_pa_readFactor_20 : decode b_pa_readFactor 20 = .ok (.aload_n 0, 1) := by decide +kernel
theorem d_pa_readFactor_21 : decode b_pa_readFactor 21 = .ok (.getfield 12, 3) := by decide +kernel
theorem d_pa_readFactor_24 : decode b_pa_readFactor 24 = .ok (.getfield 49, 3) := by decide +kernel
theorem d_pa_readFactor_27 : decode b_pa_readFactor 27 = .ok (.aload_n 0, 1) := by decide +kernel
theorem d_pa_readFactor_28 : decode b_pa_readFactor 28 = .ok (.getfield 34, 3) := by decide +kernel
theorem d_pa_readFactor_31 : decode b_pa_readFactor 31 = .ok (.iaload, 1) := by decide +kernel
theorem d_pa_readFactor_32 : decode b_pa_readFactor 32 = .ok (.istore_n 3, 1) := by decide +kernel
theorem d_pa_readFactor_33 : decode b_pa_readFactor 33 = .ok (.aload_n 0, 1) := by decide +kernel
theorem d_pa_readFactor_34 : decode b_pa_readFactor 34 = .ok (.getfield 12, 3) := by decide +kernel
theorem d_pa_readFactor_37 : decode b_pa_readFactor 37 = .ok (.getfield 87, 3) := by decide +kernel
theorem d_pa_readFactor_40 : decode b_pa_readFactor 40 = .ok (.aload_n 0, 1) := by decide +kernel
theorem d_pa_readFactor_41 : decode b_pa_readFactor 41 = .ok (.getfield 34, 3) := by decide +kernel
theorem d_pa_readFactor_44 : decode b_pa_readFactor 44 = .ok (.iaload, 1) := by decide +kernel
theorem d_pa_readFactor_45 : decode b_pa_readFactor 45 = .ok (.istore 4, 2) := by decide +kernel
theorem d_pa_readFactor_47 : decode b_pa_readFactor 47 = .ok (.aload_n 0, 1) := by decide +kernel
theorem d_pa_readFactor_48 : decode b_pa_readFactor 48 = .ok (.iload_n 2, 1) := by decide +kernel
theorem d_pa_readFactor_49 : decode b_pa_readFactor 49 = .ok (.invokestatic 161, 3) := by decide +kernel
theorem d_pa_readFactor_52 : decode b_pa_readFactor 52 = .ok (.invokevirtual 59, 3) := by decide +kernel
theorem d_pa_readFactor_55 : decode b_pa_readFactor 55 = .ok (.aload_n 0, 1) := by decide +kernel
theorem d_pa_readFactor_56 : decode b_pa_readFactor 56 = .ok (.invokevirtual 63, 3) := by decide +kernel
theorem d_pa_readFactor_59 : decode b_pa_readFactor 59 = .ok (.iload_n 2, 1) := by decide +kernel
theorem d_pa_readFactor_60 : decode b_pa_readFactor 60 = .ok (.bipush (40), 2) := by decide +kernel
theorem d_pa_readFactor_62 : decode b_pa_readFactor 62 = .ok (.if_icmp .ne (21), 3) := by decide +kernel
theorem d_pa_readFactor_65 : decode b_pa_readFactor 65 = .ok (.aload_n 0, 1) := by decide +kernel
theorem d_pa_readFactor_66 : decode b_pa_readFactor 66 = .ok (.iload_n 1, 1) := by decide +kernel
theorem d_pa_readFactor_67 : decode b_pa_readFactor 67 = .ok (.iconst 1, 1) := by decide +kernel
theorem d_pa_readFactor_68 : decode b_pa_readFactor 68 = .ok (.iadd, 1) := by decide +kernel
theorem d_pa_readFactor_69 : decode b_pa_readFactor 69 = .ok (.invokevirtual 121, 3) := by decide +kernel
theorem d_pa_readFactor_72 : decode b_pa_readFactor 72 = .ok (.istore 5, 2) := by decide +kernel
theorem d_pa_readFactor_74 : decode b_pa_readFactor 74 = .ok (.aload_n 0, 1) := by decide +kernel
theorem d_pa_readFactor_75 : decode b_pa_readFactor 75 = .ok (.bipush (41), 2) := by decide +kernel
theorem d_pa_readFactor_77 : decode b_pa_readFactor 77 = .ok (.invokevirtual 108, 3) := by decide +kernel
theorem d_pa_readFactor_80 : decode b_pa_readFactor 80 = .ok (.iload 5, 2) := by decide +kernel
theorem d_pa_readFactor_82 : decode b_pa_readFactor 82 = .ok (.ireturn, 1) := by decide +kernel
theorem d_pa_readFactor_83 : decode b_pa_readFactor 83 = .ok (.iconst 0, 1) := by decide +kernel
theorem d_pa_readFactor_84 : decode b_pa_readFactor 84 = .ok (.istore 5, 2) := by decide +kernel
theorem d_pa_readFactor_86 : decode b_pa_readFactor 86 = .ok (.iload_n 2, 1) := by decide +kernel
theorem d_pa_readFactor_87 : decode b_pa_readFactor 87 = .ok (.iconst 3, 1) := by decide +kernel
theorem d_pa_readFactor_88 : decode b_pa_readFactor 88 = .ok (.if_icmp .ne (27), 3) := by decide +kernel
theorem d_pa_readFactor_91 : decode b_pa_readFactor 91 = .ok (.aload_n 0, 1) := by decide +kernel
theorem d_pa_readFactor_92 : decode b_pa_readFactor 92 = .ok (.bipush (91), 2) := by decide +kernel
theorem d_pa_readFactor_94 : decode b_pa_readFactor 94 = .ok (.invokevirtual 108, 3) := by decide +kernel
theorem d_pa_readFactor_97 : decode b_pa_readFactor 97 = .ok (.aload_n 0, 1) := by decide +kernel
theorem d_pa_readFactor_98 : decode b_pa_readFactor 98 = .ok (.iload_n 1, 1) := by decide +kernel
theorem d_pa_readFactor_99 : decode b_pa_readFactor 99 = .ok (.iconst 1, 1) := by decide +kernel
theorem d_pa_readFactor_100 : decode b_pa_readFactor 100 = .ok (.iadd, 1) := by decide +kernel
theorem d_pa_readFactor_101 : decode b_pa_readFactor 101 = .ok (.invokevirtual 121, 3) := by decide +kernel
theorem d_pa_readFactor_104 : decode b_pa_readFactor 104 = .ok (.istore 5, 2) := by decide +kernel
theorem d_pa_readFactor_106 : decode b_pa_readFactor 106 = .ok (.aload_n 0, 1) := by decide +kernel
theorem d_pa_readFactor_107 : decode b_pa_readFactor 107 = .ok (.bipush (93), 2) := by decide +kernel
theorem d_pa_readFactor_109 : decode b_pa_readFactor 109 = .ok (.invokevirtual 108, 3) := by decide +kernel
theorem d_pa_readFactor_112 : decode b_pa_readFactor 112 = .ok (.goto (22), 3) := by decide +kernel
theorem d_pa_readFactor_115 : decode b_pa_readFactor 115 = .ok (.iload_n 2, 1) := by decide +kernel
theorem d_pa_readFactor_116 : decode b_pa_readFactor 116 = .ok (.bipush (45), 2) := by decide +kernel
theorem d_pa_readFactor_118 : decode b_pa_readFactor 118 = .ok (.if_icmp .ne (16), 3) := by decide +kernel
theorem d_pa_readFactor_121 : decode b_pa_readFactor 121 = .ok (.sipush (259), 3) := by decide +kernel
theorem d_pa_readFactor_124 : decode b_pa_readFactor 124 = .ok (.istore_n 2, 1) := by decide +kernel
theorem d_pa_readFactor_125 : decode b_pa_readFactor 125 = .ok (.aload_n 0, 1) := by decide +kernel
theorem d_pa_readFactor_126 : decode b_pa_readFactor 126 = .ok (.iload_n 1, 1) := by decide +kernel
theorem d_pa_readFactor_127 : decode b_pa_readFactor 127 = .ok (.iconst 1, 1) := by decide +kernel
theorem d_pa_readFactor_128 : decode b_pa_readFactor 128 = .ok (.iadd, 1) := by decide +kernel
theorem d_pa_readFactor_129 : decode b_pa_readFactor 129 = .ok (.invokevirtual 155, 3) := by decide +kernel
theorem d_pa_readFactor_132 : decode b_pa_readFactor 132 = .ok (.istore 5, 2) := by decide +kernel
theorem d_pa_readFactor_134 : decode b_pa_readFactor 134 = .ok (.aload_n 0, 1) := by decide +kernel
theorem d_pa_readFactor_135 : decode b_pa_readFactor 135 = .ok (.getfield 22, 3) := by decide +kernel
theorem d_pa_readFactor_138 : decode b_pa_readFactor 138 = .ok (.iload_n 2, 1) := by decide +kernel
theorem d_pa_readFactor_139 : decode b_pa_readFactor 139 = .ok (.iload 4, 2) := by decide +kernel
theorem d_pa_readFactor_141 : decode b_pa_readFactor 141 = .ok (.iload_n 3, 1) := by decide +kernel
theorem d_pa_readFactor_142 : decode b_pa_readFactor 142 = .ok (.invokevirtual 152, 3) := by decide +kernel
theorem d_pa_readFactor_145 : decode b_pa_readFactor 145 = .ok (.iload 5, 2) := by decide +kernel
theorem d_pa_readFactor_147 : decode b_pa_readFactor 147 = .ok (.iconst 1, 1) := by decide +kernel
theorem d_pa_readFactor_148 : decode b_pa_readFactor 148 = .ok (.iadd, 1) := by decide +kernel
theorem d_pa_readFactor_149 : decode b_pa_readFactor 149 = .ok (.ireturn, 1) := by decide +kernel
theorem kbo_pa_readFactor {g_pa_readExpr : Nat → Int32 → WW → Option ((Int32 ⊕ String) × WW)} {g_pa_readTerm : Nat → Int32 → WW → Option ((Int32 ⊕ String) × WW)} {g_pa_readFactor : Nat → Int32 → WW → Option ((Int32 ⊕ String) × WW)} {a0 : Nat} {a1 : Int32} {w : WW} {r : ((Int32 ⊕ String) × WW)} (h : fo_pa_readFactor g_pa_readExpr g_pa_readTerm g_pa_readFactor a0 a1 w = some r) : kb w a0 2 = true := (its h).1
set_option maxHeartbeats 4000000 in
set_option maxRecDepth 100000 in
theorem j_pa_readFactor_134 {p : Program} {l : Launch} {e : Env} {s : State} {m : MethodId} {args : Array Value} {below : List Frame} {meth : Method} {c : Code} {D : va_G} {cA : Nat → ClassId} {base : Nat} {r : Int32} {w' : WW} (C : cx b_pa_readFactor (some .int) 6 y_pa_readFactor.cls "readFactor" p s m args meth c D cA base) {d : Nat} {g_pa_readExpr : Nat → Int32 → WW → Option ((Int32 ⊕ String) × WW)} {g_pa_readTerm : Nat → Int32 → WW → Option ((Int32 ⊕ String) × WW)} {g_pa_readFactor : Nat → Int32 → WW → Option ((Int32 ⊕ String) × WW)} (HG : sA_pa3 l D cA base d g_pa_readExpr g_pa_readTerm g_pa_readFactor )   : ∀ (y0 : Nat) (y2 : Int32) (y3 : Int32) (y4 : Int32) (y5 : Int32) (w : WW), f_pa_readFactor_134 g_pa_readExpr g_pa_readTerm g_pa_readFactor y0 y2 y3 y4 y5 w = some (.inl r, w') → ∀ (H : Heap) (locs : List Loc) (ls : Array Slot), wo_S D cls cA base s w H locs → lv_has ls 6 [(0, .ref (base + y0)), (2, .int y2), (3, .int y3), (4, .int y4), (5, .int y5)] → W p l e (rm_pa_readFactor (d + 1)) s m args below meth c H locs 0 0 (MQ below (wo_Q D cls cA base (some (.int r)) w') args s (rm_pa_readFactor (d + 1)).cells (rm_pa_readFactor (d + 1)).slots (wo_B base)) (F0 m 134 ls []) := by
  obtain ⟨hx, hb, hr, hml, hown, hts, hlk, hnm, hK, hG⟩ := id C
  intro y0 y2 y3 y4 y5 w h H locs ls hW hl
  unfold f_pa_readFactor_134 at h
  refine lv_aload_n hx hb d_pa_readFactor_134 rfl (lv_at hl 0 rfl) ?_
  replace h := bs h
  obtain ⟨x22, hx22, h⟩ := h
  refine gf_pa_22 hx hb hts hown hK hG hW (gR_s hx22) d_pa_readFactor_135 ?_
  refine lv_iload_n hx hb d_pa_readFactor_138 rfl (lv_at hl 1 rfl) ?_
  refine lv_iload hx hb d_pa_readFactor_139 (lv_at hl 3 rfl) ?_
  refine lv_iload_n hx hb d_pa_readFactor_141 rfl (lv_at hl 2 rfl) ?_
  replace h := bs h
  obtain ⟨x23, ex23, h⟩ := h
  subst ex23
  replace h := bs h
  obtain ⟨w24, hw24, h⟩ := h
  refine cv_pa_152 (As := [.int y2, .int y4, .int y3]) (rest := []) hx hb hml hown hts hK hG hW (c_pg_addStep l D cA base hw24) (kb_pg_addStep hw24) ⟨by show 0 + 1 ≤ 8 + 1 * (d + 1); omega, by show 8 + (4 + 11) + 0 ≤ 142 + 25 * (d + 1); omega⟩ ⟨Nat.le_of_ble_eq_true rfl, Nat.le_of_ble_eq_true rfl⟩ rfl hl.1 rfl (Nat.le_of_ble_eq_true rfl) d_pa_readFactor_142 (fun H locs hW => ?_)
  refine lv_iload hx hb d_pa_readFactor_145 (lv_at hl 4 rfl) ?_
  refine lv_iconst (v := (1 : Int32)) hx hb d_pa_readFactor_147 (by decide) ?_
  refine lv_iadd hx hb d_pa_readFactor_148 ?_
  cases h
  exact wo_iret hx hb hr hlk hW d_pa_readFactor_149
set_option maxHeartbeats 4000000 in
set_option maxRecDepth 100000 in
theorem j_pa_readFactor_12 {p : Program} {l : Launch} {e : Env} {s : State} {m : MethodId} {args : Array Value} {below : List Frame} {meth : Method} {c : Code} {D : va_G} {cA : Nat → ClassId} {base : Nat} {r : Int32} {w' : WW} (C : cx b_pa_readFactor (some .int) 6 y_pa_readFactor.cls "readFactor" p s m args meth c D cA base) {d : Nat} {g_pa_readExpr : Nat → Int32 → WW → Option ((Int32 ⊕ String) × WW)} {g_pa_readTerm : Nat → Int32 → WW → Option ((Int32 ⊕ String) × WW)} {g_pa_readFactor : Nat → Int32 → WW → Option ((Int32 ⊕ String) × WW)} (HG : sA_pa3 l D cA base d g_pa_readExpr g_pa_readTerm g_pa_readFactor )   : ∀ (y0 : Nat) (y1 : Int32) (z0 : Nat) (z1 : Int32) (w : WW), f_pa_readFactor_12 g_pa_readExpr g_pa_readTerm g_pa_readFactor y0 y1 z0 z1 w = some (.inl r, w') → ∀ (H : Heap) (locs : List Loc) (ls : Array Slot), wo_S D cls cA base s w H locs → lv_has ls 6 [(0, .ref (base + y0)), (1, .int y1)] → W p l e (rm_pa_readFactor (d + 1)) s m args below meth c H locs 0 0 (MQ below (wo_Q D cls cA base (some (.int r)) w') args s (rm_pa_readFactor (d + 1)).cells (rm_pa_readFactor (d + 1)).slots (wo_B base)) (F0 m 12 ls [.int z1, .ref (base + z0)]) := by
  obtain ⟨hx, hb, hr, hml, hown, hts, hlk, hnm, hK, hG⟩ := id C
  intro y0 y1 z0 z1 w h H locs ls hW hl
  unfold f_pa_readFactor_12 at h
  replace h := bsx h
  obtain ⟨x3, w2, hw2, h⟩ := h
  refine cv_pa_59 (As := [.int z1]) (rest := []) hx hb hml hown hts hK hG hW (c_pa_need l D cA base hw2) (kb_pa_need hw2) ⟨by show 6 + 1 ≤ 8 + 1 * (d + 1); omega, by show 8 + (2 + 11) + 100 ≤ 142 + 25 * (d + 1); omega⟩ ⟨Nat.le_of_ble_eq_true rfl, Nat.le_of_ble_eq_true rfl⟩ rfl hl.1 rfl (Nat.le_of_ble_eq_true rfl) d_pa_readFactor_12 (fun H locs hW => ?_)
  refine lv_aload_n hx hb d_pa_readFactor_15 rfl (lv_at hl 0 rfl) ?_
  replace h := bs2 h
  obtain ⟨x5, w4, hw4, h⟩ := h
  refine cv_pa_55 (As := []) (rest := []) hx hb hml hown hts hK hG hW (c_pa_kindHere l D cA base hw4) (kb_pa_kindHere hw4) ⟨by show 0 + 1 ≤ 8 + 1 * (d + 1); omega, by show 8 + (1 + 11) + 0 ≤ 142 + 25 * (d + 1); omega⟩ ⟨Nat.le_of_ble_eq_true rfl, Nat.le_of_ble_eq_true rfl⟩ rfl hl.1 rfl (Nat.le_of_ble_eq_true rfl) d_pa_readFactor_16 (fun H locs hW => ?_)
  refine lv_istore_n (lv' := [(2, .int x5), (0, .ref (base + y0)), (1, .int y1)]) hx hb d_pa_readFactor_19 rfl hl (by decide) rfl (fun ls hl => ?_)
  refine lv_aload_n hx hb d_pa_readFactor_20 rfl (lv_at hl 1 rfl) ?_
  replace h := bs h
  obtain ⟨x6, hx6, h⟩ := h
  refine gf_pa_12 hx hb hts hown hK hG hW (gN_s hx6) d_pa_readFactor_21 ?_
  replace h := bs h
  obtain ⟨x7, hx7, h⟩ := h
  refine gf_pa_49 hx hb hts hown hK hG hW (gN_s hx7) d_pa_readFactor_24 ?_
  refine lv_aload_n hx hb d_pa_readFactor_27 rfl (lv_at hl 1 rfl) ?_
  replace h := bs h
  obtain ⟨x8, hx8, h⟩ := h
  refine gf_pa_34 hx hb hts hown hK hG hW (gI_s hx8) d_pa_readFactor_28 ?_
  replace h := bs h
  obtain ⟨x9, hx9, h⟩ := h
  refine wo_iald hx hb hK hW (t := 0) rfl hx9 d_pa_readFactor_31 ?_
  refine lv_istore_n (lv' := [(3, .int x9), (2, .int x5), (0, .ref (base + y0)), (1, .int y1)]) hx hb d_pa_readFactor_32 rfl hl (by decide) rfl (fun ls hl => ?_)
  refine lv_aload_n hx hb d_pa_readFactor_33 rfl (lv_at hl 2 rfl) ?_
  replace h := bs h
  obtain ⟨x10, hx10, h⟩ := h
  refine gf_pa_12 hx hb hts hown hK hG hW (gN_s hx10) d_pa_readFactor_34 ?_
  replace h := bs h
  obtain ⟨x11, hx11, h⟩ := h
  refine gf_pa_87 hx hb hts hown hK hG hW (gN_s hx11) d_pa_readFactor_37 ?_
  refine lv_aload_n hx hb d_pa_readFactor_40 rfl (lv_at hl 2 rfl) ?_
  replace h := bs h
  obtain ⟨x12, hx12, h⟩ := h
  refine gf_pa_34 hx hb hts hown hK hG hW (gI_s hx12) d_pa_readFactor_41 ?_
  replace h := bs h
  obtain ⟨x13, hx13, h⟩ := h
  refine wo_iald hx hb hK hW (t := 0) rfl hx13 d_pa_readFactor_44 ?_
  refine lv_istore (lv' := [(4, .int x13), (3, .int x9), (2, .int x5), (0, .ref (base + y0)), (1, .int y1)]) hx hb d_pa_readFactor_45 hl (by decide) rfl (fun ls hl => ?_)
  refine lv_aload_n hx hb d_pa_readFactor_47 rfl (lv_at hl 3 rfl) ?_
  refine lv_iload_n hx hb d_pa_readFactor_48 rfl (lv_at hl 2 rfl) ?_
  replace h := bs2 h
  obtain ⟨x15, w14, hw14, h⟩ := h
  refine cs_pa_161 (As := [.int x5]) (rest := [.ref (base + y0)]) hx hb hml hown hts hK hG hW (c_pa_beginsFactor l D cA base hw14) ⟨by show 0 + 1 ≤ 8 + 1 * (d + 1); omega, by show 8 + (1 + 11) + 0 ≤ 142 + 25 * (d + 1); omega⟩ ⟨Nat.le_of_ble_eq_true rfl, Nat.le_of_ble_eq_true rfl⟩ rfl hl.1 rfl (Nat.le_of_ble_eq_true rfl) d_pa_readFactor_49 (fun H locs hW => ?_)
  replace h := bsx h
  obtain ⟨x17, w16, hw16, h⟩ := h
  refine cv_pa_59 (As := [.int x15]) (rest := []) hx hb hml hown hts hK hG hW (c_pa_need l D cA base hw16) (kb_pa_need hw16) ⟨by show 6 + 1 ≤ 8 + 1 * (d + 1); omega, by show 8 + (2 + 11) + 100 ≤ 142 + 25 * (d + 1); omega⟩ ⟨Nat.le_of_ble_eq_true rfl, Nat.le_of_ble_eq_true rfl⟩ rfl hl.1 rfl (Nat.le_of_ble_eq_true rfl) d_pa_readFactor_52 (fun H locs hW => ?_)
  refine lv_aload_n hx hb d_pa_readFactor_55 rfl (lv_at hl 3 rfl) ?_
  replace h := bs h
  obtain ⟨w18, hw18, h⟩ := h
  refine cv_pa_63 (As := []) (rest := []) hx hb hml hown hts hK hG hW (c_pa_advance l D cA base hw18) (kb_pa_advance hw18) ⟨by show 0 + 1 ≤ 8 + 1 * (d + 1); omega, by show 8 + (1 + 11) + 0 ≤ 142 + 25 * (d + 1); omega⟩ ⟨Nat.le_of_ble_eq_true rfl, Nat.le_of_ble_eq_true rfl⟩ rfl hl.1 rfl (Nat.le_of_ble_eq_true rfl) d_pa_readFactor_56 (fun H locs hW => ?_)
  refine lv_iload_n hx hb d_pa_readFactor_59 rfl (lv_at hl 2 rfl) ?_
  refine lv_bipush (v := (40 : Int32)) hx hb d_pa_readFactor_60 (by decide) ?_
  refine lv_icmp_ne (tgt := 83) hx hb d_pa_readFactor_62 (by decide) (fun c19 => ?_) (fun c19 => ?_)
  · rw [if_neg c19] at h
    refine lv_iconst (v := (0 : Int32)) hx hb d_pa_readFactor_83 (by decide) ?_
    refine lv_istore (lv' := [(5, .int (0 : Int32)), (4, .int x13), (3, .int x9), (2, .int x5), (0, .ref (base + y0)), (1, .int y1)]) hx hb d_pa_readFactor_84 hl (by decide) rfl (fun ls hl => ?_)
    refine lv_iload_n hx hb d_pa_readFactor_86 rfl (lv_at hl 3 rfl) ?_
    refine lv_iconst (v := (3 : Int32)) hx hb d_pa_readFactor_87 (by decide) ?_
    refine lv_icmp_ne (tgt := 115) hx hb d_pa_readFactor_88 (by decide) (fun c20 => ?_) (fun c20 => ?_)
    · rw [if_neg c20] at h
      refine lv_iload_n hx hb d_pa_readFactor_115 rfl (lv_at hl 3 rfl) ?_
      refine lv_bipush (v := (45 : Int32)) hx hb d_pa_readFactor_116 (by decide) ?_
      refine lv_icmp_ne (tgt := 134) hx hb d_pa_readFactor_118 (by decide) (fun c21 => ?_) (fun c21 => ?_)
      · rw [if_neg c21] at h
        exact j_pa_readFactor_134 C HG y0 x5 x9 x13 (0 : Int32) w18 h _ _ _ hW (lv_sub hl [4, 3, 2, 1, 0] rfl)
      · rw [if_pos c21] at h
        refine lv_sipush (v := (259 : Int32)) hx hb d_pa_readFactor_121 (by decide) ?_
        refine lv_istore_n (lv' := [(2, .int (259 : Int32)), (5, .int (0 : Int32)), (4, .int x13), (3, .int x9), (0, .ref (base + y0)), (1, .int y1)]) hx hb d_pa_readFactor_124 rfl hl (by decide) rfl (fun ls hl => ?_)
        refine lv_aload_n hx hb d_pa_readFactor_125 rfl (lv_at hl 4 rfl) ?_
        refine lv_iload_n hx hb d_pa_readFactor_126 rfl (lv_at hl 5 rfl) ?_
        refine lv_iconst (v := (1 : Int32)) hx hb d_pa_readFactor_127 (by decide) ?_
        refine lv_iadd hx hb d_pa_readFactor_128 ?_
        replace h := bsx h
        obtain ⟨x26, w25, hw25, h⟩ := h
        refine cv_pa_155 (As := [.int (y1 + (1 : Int32))]) (rest := []) hx hb hml hown hts hK hG hW (HG.2.2.1 hw25) (HG.2.2.2 hw25) ⟨by show 8 + 1 * d + 1 ≤ 8 + 1 * (d + 1); omega, by show 8 + (6 + 11) + (142 + 25 * d) ≤ 142 + 25 * (d + 1); omega⟩ ⟨Nat.le_of_ble_eq_true rfl, Nat.le_of_ble_eq_true rfl⟩ rfl hl.1 rfl (Nat.le_of_ble_eq_true rfl) d_pa_readFactor_129 (fun H locs hW => ?_)
        refine lv_istore (lv' := [(5, .int x26), (2, .int (259 : Int32)), (4, .int x13), (3, .int x9), (0, .ref (base + y0)), (1, .int y1)]) hx hb d_pa_readFactor_132 hl (by decide) rfl (fun ls hl => ?_)
        exact j_pa_readFactor_134 C HG y0 (259 : Int32) x9 x13 x26 w25 h _ _ _ hW (lv_sub hl [4, 1, 3, 2, 0] rfl)
    · rw [if_pos c20] at h
      refine lv_aload_n hx hb d_pa_readFactor_91 rfl (lv_at hl 4 rfl) ?_
      refine lv_bipush (v := (91 : Int32)) hx hb d_pa_readFactor_92 (by decide) ?_
      replace h := bsx h
      obtain ⟨x28, w27, hw27, h⟩ := h
      refine cv_pa_108 (As := [.int (91 : Int32)]) (rest := []) hx hb hml hown hts hK hG hW (c_pa_take l D cA base hw27) (kb_pa_take hw27) ⟨by show 7 + 1 ≤ 8 + 1 * (d + 1); omega, by show 8 + (2 + 11) + 121 ≤ 142 + 25 * (d + 1); omega⟩ ⟨Nat.le_of_ble_eq_true rfl, Nat.le_of_ble_eq_true rfl⟩ rfl hl.1 rfl (Nat.le_of_ble_eq_true rfl) d_pa_readFactor_94 (fun H locs hW => ?_)
      refine lv_aload_n hx hb d_pa_readFactor_97 rfl (lv_at hl 4 rfl) ?_
      refine lv_iload_n hx hb d_pa_readFactor_98 rfl (lv_at hl 5 rfl) ?_
      refine lv_iconst (v := (1 : Int32)) hx hb d_pa_readFactor_99 (by decide) ?_
      refine lv_iadd hx hb d_pa_readFactor_100 ?_
      replace h := bsx h
      obtain ⟨x30, w29, hw29, h⟩ := h
      refine cv_pa_121 (As := [.int (y1 + (1 : Int32))]) (rest := []) hx hb hml hown hts hK hG hW (HG.1.1 hw29) (HG.1.2 hw29) ⟨by show 8 + 1 * d + 1 ≤ 8 + 1 * (d + 1); omega, by show 8 + (6 + 11) + (142 + 25 * d) ≤ 142 + 25 * (d + 1); omega⟩ ⟨Nat.le_of_ble_eq_true rfl, Nat.le_of_ble_eq_true rfl⟩ rfl hl.1 rfl (Nat.le_of_ble_eq_true rfl) d_pa_readFactor_101 (fun H locs hW => ?_)
      refine lv_istore (lv' := [(5, .int x30), (4, .int x13), (3, .int x9), (2, .int x5), (0, .ref (base + y0)), (1, .int y1)]) hx hb d_pa_readFactor_104 hl (by decide) rfl (fun ls hl => ?_)
      refine lv_aload_n hx hb d_pa_readFactor_106 rfl (lv_at hl 4 rfl) ?_
      refine lv_bipush (v := (93 : Int32)) hx hb d_pa_readFactor_107 (by decide) ?_
      replace h := bsx h
      obtain ⟨x32, w31, hw31, h⟩ := h
      refine cv_pa_108 (As := [.int (93 : Int32)]) (rest := []) hx hb hml hown hts hK hG hW (c_pa_take l D cA base hw31) (kb_pa_take hw31) ⟨by show 7 + 1 ≤ 8 + 1 * (d + 1); omega, by show 8 + (2 + 11) + 121 ≤ 142 + 25 * (d + 1); omega⟩ ⟨Nat.le_of_ble_eq_true rfl, Nat.le_of_ble_eq_true rfl⟩ rfl hl.1 rfl (Nat.le_of_ble_eq_true rfl) d_pa_readFactor_109 (fun H locs hW => ?_)
      refine lv_goto (tgt := 134) hx hb d_pa_readFactor_112 (by decide) ?_
      exact j_pa_readFactor_134 C HG y0 x5 x9 x13 x30 w31 h _ _ _ hW (lv_sub hl [4, 3, 2, 1, 0] rfl)
  · rw [if_pos c19] at h
    refine lv_aload_n hx hb d_pa_readFactor_65 rfl (lv_at hl 3 rfl) ?_
    refine lv_iload_n hx hb d_pa_readFactor_66 rfl (lv_at hl 4 rfl) ?_
    refine lv_iconst (v := (1 : Int32)) hx hb d_pa_readFactor_67 (by decide) ?_
    refine lv_iadd hx hb d_pa_readFactor_68 ?_
    replace h := bsx h
    obtain ⟨x34, w33, hw33, h⟩ := h
    refine cv_pa_121 (As := [.int (y1 + (1 : Int32))]) (rest := []) hx hb hml hown hts hK hG hW (HG.1.1 hw33) (HG.1.2 hw33) ⟨by show 8 + 1 * d + 1 ≤ 8 + 1 * (d + 1); omega, by show 8 + (6 + 11) + (142 + 25 * d) ≤ 142 + 25 * (d + 1); omega⟩ ⟨Nat.le_of_ble_eq_true rfl, Nat.le_of_ble_eq_true rfl⟩ rfl hl.1 rfl (Nat.le_of_ble_eq_true rfl) d_pa_readFactor_69 (fun H locs hW => ?_)
    refine lv_istore (lv' := [(5, .int x34), (4, .int x13), (3, .int x9), (2, .int x5), (0, .ref (base + y0)), (1, .int y1)]) hx hb d_pa_readFactor_72 hl (by decide) rfl (fun ls hl => ?_)
    refine lv_aload_n hx hb d_pa_readFactor_74 rfl (lv_at hl 4 rfl) ?_
    refine lv_bipush (v := (41 : Int32)) hx hb d_pa_readFactor_75 (by decide) ?_
    replace h := bsx h
    obtain ⟨x36, w35, hw35, h⟩ := h
    refine cv_pa_108 (As := [.int (41 : Int32)]) (rest := []) hx hb hml hown hts hK hG hW (c_pa_take l D cA base hw35) (kb_pa_take hw35) ⟨by show 7 + 1 ≤ 8 + 1 * (d + 1); omega, by show 8 + (2 + 11) + 121 ≤ 142 + 25 * (d + 1); omega⟩ ⟨Nat.le_of_ble_eq_true rfl, Nat.le_of_ble_eq_true rfl⟩ rfl hl.1 rfl (Nat.le_of_ble_eq_true rfl) d_pa_readFactor_77 (fun H locs hW => ?_)
    refine lv_iload hx hb d_pa_readFactor_80 (lv_at hl 0 rfl) ?_
    cases h
    exact wo_iret hx hb hr hlk hW d_pa_readFactor_82
set_option maxHeartbeats 4000000 in
set_option maxRecDepth 100000 in
theorem co_pa_readFactor (l : Launch) (D : va_G) (cA : Nat → ClassId) (base : Nat) {d : Nat} {g_pa_readExpr : Nat → Int32 → WW → Option ((Int32 ⊕ String) × WW)} {g_pa_readTerm : Nat → Int32 → WW → Option ((Int32 ⊕ String) × WW)} {g_pa_readFactor : Nat → Int32 → WW → Option ((Int32 ⊕ String) × WW)} (HG : sA_pa3 l D cA base d g_pa_readExpr g_pa_readTerm g_pa_readFactor ) {a0 : Nat} {a1 : Int32} {w w' : WW} {r : Int32} (h : fo_pa_readFactor g_pa_readExpr g_pa_readTerm g_pa_readFactor a0 a1 w = some (.inl r, w')) : mt l D cls (wo_tys cA) cA base y_pa_readFactor (Cond.code y_pa_readFactor b_pa_readFactor 6 (some .int) :: gt) (rm_pa_readFactor (d + 1)) [.ref (base + a0), .int a1] w (some (.int r)) w' (rm_pa_readFactor (d + 1)).cells (rm_pa_readFactor (d + 1)).slots := by
  refine mt_start (by decide) (Nat.le_of_ble_eq_true rfl) ?_
  intro p e s m below meth c ls hx hb hr hml hown hts hlk hnm hK hG hW hl
  have C : cx b_pa_readFactor (some .int) 6 y_pa_readFactor.cls "readFactor" p s m [.ref (base + a0), .int a1].toArray meth c D cA base := ⟨hx, hb, hr, hml, hown, hts, hlk, hnm, hK, hG⟩
  have hl : lv_has ls 6 [(0, .ref (base + a0)), (1, .int a1)] := hl
  unfold fo_pa_readFactor at h
  replace h := its h
  obtain ⟨-, h⟩ := h
  refine lv_aload_n hx hb d_pa_readFactor_0 rfl (lv_at hl 0 rfl) ?_
  refine lv_iload_n hx hb d_pa_readFactor_1 rfl (lv_at hl 1 rfl) ?_
  refine lv_bipush (v := (10 : Int32)) hx hb d_pa_readFactor_2 (by decide) ?_
  refine lv_icmp_gt (tgt := 11) hx hb d_pa_readFactor_4 (by decide) (fun c1 => ?_) (fun c1 => ?_)
  · rw [if_pos c1] at h
    refine lv_iconst (v := (0 : Int32)) hx hb d_pa_readFactor_11 (by decide) ?_
    exact j_pa_readFactor_12 C HG a0 a1 a0 (0 : Int32) w h _ _ _ hW (lv_sub hl [0, 1] rfl)
  · rw [if_neg c1] at h
    refine lv_iconst (v := (1 : Int32)) hx hb d_pa_readFactor_7 (by decide) ?_
    refine lv_goto (tgt := 12) hx hb d_pa_readFactor_8 (by decide) ?_
    exact j_pa_readFactor_12 C HG a0 a1 a0 (1 : Int32) w h _ _ _ hW (lv_sub hl [0, 1] rfl)
set_option maxHeartbeats 4000000 in
set_option maxRecDepth 100000 in
theorem jx_pa_readFactor_134 {p : Program} {l : Launch} {e : Env} {s : State} {m : MethodId} {args : Array Value} {below : List Frame} {meth : Method} {c : Code} {D : va_G} {cA : Nat → ClassId} {base : Nat} {E : String} {w' : WW} (C : cx b_pa_readFactor (some .int) 6 y_pa_readFactor.cls "readFactor" p s m args meth c D cA base ∧ (∀ x ∈ c.exceptionTable.toList, ∀ k : Nat, covers x k = false) ∧ l.stackTraces = false) {d : Nat} {g_pa_readExpr : Nat → Int32 → WW → Option ((Int32 ⊕ String) × WW)} {g_pa_readTerm : Nat → Int32 → WW → Option ((Int32 ⊕ String) × WW)} {g_pa_readFactor : Nat → Int32 → WW → Option ((Int32 ⊕ String) × WW)} (HG : sA_pa3 l D cA base d g_pa_readExpr g_pa_readTerm g_pa_readFactor ) (HX : sX_pa3 l D cA base d g_pa_readExpr g_pa_readTerm g_pa_readFactor )   : ∀ (y0 : Nat) (y2 : Int32) (y3 : Int32) (y4 : Int32) (y5 : Int32) (w : WW), f_pa_readFactor_134 g_pa_readExpr g_pa_readTerm g_pa_readFactor y0 y2 y3 y4 y5 w = some (.inr E, w') → ∀ (H : Heap) (locs : List Loc) (ls : Array Slot), wo_S D cls cA base s w H locs → lv_has ls 6 [(0, .ref (base + y0)), (2, .int y2), (3, .int y3), (4, .int y4), (5, .int y5)] → W p l e (rx_pa_readFactor (d + 1)) s m args below meth c H locs 0 0 (XQ below (wo_X D cls cA base E w' (rx_pa_readFactor (d + 1)).cells (rx_pa_readFactor (d + 1)).slots) args s) (F0 m 134 ls []) := by
  obtain ⟨hx, hb, hr, hml, hown, hts, hlk, hnm, hK, hG⟩ := id C.1
  have hnt := C.2.1
  have hst := C.2.2
  intro y0 y2 y3 y4 y5 w h H locs ls hW hl
  unfold f_pa_readFactor_134 at h
  refine lv_aload_n hx hb d_pa_readFactor_134 rfl (lv_at hl 0 rfl) ?_
  replace h := bs h
  obtain ⟨x22, hx22, h⟩ := h
  refine gf_pa_22 hx hb hts hown hK hG hW (gR_s hx22) d_pa_readFactor_135 ?_
  refine lv_iload_n hx hb d_pa_readFactor_138 rfl (lv_at hl 1 rfl) ?_
  refine lv_iload hx hb d_pa_readFactor_139 (lv_at hl 3 rfl) ?_
  refine lv_iload_n hx hb d_pa_readFactor_141 rfl (lv_at hl 2 rfl) ?_
  replace h := bs h
  obtain ⟨x23, ex23, h⟩ := h
  subst ex23
  replace h := bs h
  obtain ⟨w24, hw24, h⟩ := h
  refine cv_pa_152 (As := [.int y2, .int y4, .int y3]) (rest := []) hx hb hml hown hts hK hG hW (c_pg_addStep l D cA base hw24) (kb_pg_addStep hw24) ⟨by show 0 + 1 ≤ 8 + 1 * (d + 1); omega, by show 8 + (4 + 11) + 0 ≤ 142 + 25 * (d + 1); omega⟩ ⟨Nat.le_of_ble_eq_true rfl, Nat.le_of_ble_eq_true rfl⟩ rfl hl.1 rfl (Nat.le_of_ble_eq_true rfl) d_pa_readFactor_142 (fun H locs hW => ?_)
  refine lv_iload hx hb d_pa_readFactor_145 (lv_at hl 4 rfl) ?_
  refine lv_iconst (v := (1 : Int32)) hx hb d_pa_readFactor_147 (by decide) ?_
  refine lv_iadd hx hb d_pa_readFactor_148 ?_
  cases h
set_option maxHeartbeats 4000000 in
set_option maxRecDepth 100000 in
theorem jx_pa_readFactor_12 {p : Program} {l : Launch} {e : Env} {s : State} {m : MethodId} {args : Array Value} {below : List Frame} {meth : Method} {c : Code} {D : va_G} {cA : Nat → ClassId} {base : Nat} {E : String} {w' : WW} (C : cx b_pa_readFactor (some .int) 6 y_pa_readFactor.cls "readFactor" p s m args meth c D cA base ∧ (∀ x ∈ c.exceptionTable.toList, ∀ k : Nat, covers x k = false) ∧ l.stackTraces = false) {d : Nat} {g_pa_readExpr : Nat → Int32 → WW → Option ((Int32 ⊕ String) × WW)} {g_pa_readTerm : Nat → Int32 → WW → Option ((Int32 ⊕ String) × WW)} {g_pa_readFactor : Nat → Int32 → WW → Option ((Int32 ⊕ String) × WW)} (HG : sA_pa3 l D cA base d g_pa_readExpr g_pa_readTerm g_pa_readFactor ) (HX : sX_pa3 l D cA base d g_pa_readExpr g_pa_readTerm g_pa_readFactor )   : ∀ (y0 : Nat) (y1 : Int32) (z0 : Nat) (z1 : Int32) (w : WW), f_pa_readFactor_12 g_pa_readExpr g_pa_readTerm g_pa_readFactor y0 y1 z0 z1 w = some (.inr E, w') → ∀ (H : Heap) (locs : List Loc) (ls : Array Slot), wo_S D cls cA base s w H locs → lv_has ls 6 [(0, .ref (base + y0)), (1, .int y1)] → W p l e (rx_pa_readFactor (d + 1)) s m args below meth c H locs 0 0 (XQ below (wo_X D cls cA base E w' (rx_pa_readFactor (d + 1)).cells (rx_pa_readFactor (d + 1)).slots) args s) (F0 m 12 ls [.int z1, .ref (base + z0)]) := by
  obtain ⟨hx, hb, hr, hml, hown, hts, hlk, hnm, hK, hG⟩ := id C.1
  have hnt := C.2.1
  have hst := C.2.2
  intro y0 y1 z0 z1 w h H locs ls hW hl
  unfold f_pa_readFactor_12 at h
  rcases bsy h with hw2 | ⟨x3, w2, hw2, hnw2⟩
  · exact xv_pa_59 (As := [.int z1]) (rest := []) hx hb hml hown hts hK hG hW (x_pa_need l hst D cA base hw2) (kb_pa_need hw2) ⟨by show 6 + 1 ≤ 8 + 1 * (d + 1); omega, by show 8 + (2 + 11) + 100 ≤ 142 + 25 * (d + 1); omega⟩ ⟨Nat.le_of_ble_eq_true rfl, Nat.le_of_ble_eq_true rfl⟩ rfl hl.1 rfl (Nat.le_of_ble_eq_true rfl) d_pa_readFactor_12 (fun H locs q ce hW h1 h2 h3 => wo_xout hnt hlk hW h1 h2 h3 (Nat.le_of_ble_eq_true rfl) (Nat.le_of_ble_eq_true rfl))
  clear h
  have h := hnw2
  clear hnw2
  refine cv_pa_59 (As := [.int z1]) (rest := []) hx hb hml hown hts hK hG hW (c_pa_need l D cA base hw2) (kb_pa_need hw2) ⟨by show 6 + 1 ≤ 8 + 1 * (d + 1); omega, by show 8 + (2 + 11) + 100 ≤ 142 + 25 * (d + 1); omega⟩ ⟨Nat.le_of_ble_eq_true rfl, Nat.le_of_ble_eq_true rfl⟩ rfl hl.1 rfl (Nat.le_of_ble_eq_true rfl) d_pa_readFactor_12 (fun H locs hW => ?_)
  refine lv_aload_n hx hb d_pa_readFactor_15 rfl (lv_at hl 0 rfl) ?_
  replace h := bs2 h
  obtain ⟨x5, w4, hw4, h⟩ := h
  refine cv_pa_55 (As := []) (rest := []) hx hb hml hown hts hK hG hW (c_pa_kindHere l D cA base hw4) (kb_pa_kindHere hw4) ⟨by show 0 + 1 ≤ 8 + 1 * (d + 1); omega, by show 8 + (1 + 11) + 0 ≤ 142 + 25 * (d + 1); omega⟩ ⟨Nat.le_of_ble_eq_true rfl, Nat.le_of_ble_eq_true rfl⟩ rfl hl.1 rfl (Nat.le_of_ble_eq_true rfl) d_pa_readFactor_16 (fun H locs hW => ?_)
  refine lv_istore_n (lv' := [(2, .int x5), (0, .ref (base + y0)), (1, .int y1)]) hx hb d_pa_readFactor_19 rfl hl (by decide) rfl (fun ls hl => ?_)
  refine lv_aload_n hx hb d_pa_readFactor_20 rfl (lv_at hl 1 rfl) ?_
  replace h := bs h
  obtain ⟨x6, hx6, h⟩ := h
  refine gf_pa_12 hx hb hts hown hK hG hW (gN_s hx6) d_pa_readFactor_21 ?_
  replace h := bs h
  obtain ⟨x7, hx7, h⟩ := h
  refine gf_pa_49 hx hb hts hown hK hG hW (gN_s hx7) d_pa_readFactor_24 ?_
  refine lv_aload_n hx hb d_pa_readFactor_27 rfl (lv_at hl 1 rfl) ?_
  replace h := bs h
  obtain ⟨x8, hx8, h⟩ := h
  refine gf_pa_34 hx hb hts hown hK hG hW (gI_s hx8) d_pa_readFactor_28 ?_
  replace h := bs h
  obtain ⟨x9, hx9, h⟩ := h
  refine wo_iald hx hb hK hW (t := 0) rfl hx9 d_pa_readFactor_31 ?_
  refine lv_istore_n (lv' := [(3, .int x9), (2, .int x5), (0, .ref (base + y0)), (1, .int y1)]) hx hb d_pa_readFactor_32 rfl hl (by decide) rfl (fun ls hl => ?_)
  refine lv_aload_n hx hb d_pa_readFactor_33 rfl (lv_at hl 2 rfl) ?_
  replace h := bs h
  obtain ⟨x10, hx10, h⟩ := h
  refine gf_pa_12 hx hb hts hown hK hG hW (gN_s hx10) d_pa_readFactor_34 ?_
  replace h := bs h
  obtain ⟨x11, hx11, h⟩ := h
  refine gf_pa_87 hx hb hts hown hK hG hW (gN_s hx11) d_pa_readFactor_37 ?_
  refine lv_aload_n hx hb d_pa_readFactor_40 rfl (lv_at hl 2 rfl) ?_
  replace h := bs h
  obtain ⟨x12, hx12, h⟩ := h
  refine gf_pa_34 hx hb hts hown hK hG hW (gI_s hx12) d_pa_readFactor_41 ?_
  replace h := bs h
  obtain ⟨x13, hx13, h⟩ := h
  refine wo_iald hx hb hK hW (t := 0) rfl hx13 d_pa_readFactor_44 ?_
  refine lv_istore (lv' := [(4, .int x13), (3, .int x9), (2, .int x5), (0, .ref (base + y0)), (1, .int y1)]) hx hb d_pa_readFactor_45 hl (by decide) rfl (fun ls hl => ?_)
  refine lv_aload_n hx hb d_pa_readFactor_47 rfl (lv_at hl 3 rfl) ?_
  refine lv_iload_n hx hb d_pa_readFactor_48 rfl (lv_at hl 2 rfl) ?_
  replace h := bs2 h
  obtain ⟨x15, w14, hw14, h⟩ := h
  refine cs_pa_161 (As := [.int x5]) (rest := [.ref (base + y0)]) hx hb hml hown hts hK hG hW (c_pa_beginsFactor l D cA base hw14) ⟨by show 0 + 1 ≤ 8 + 1 * (d + 1); omega, by show 8 + (1 + 11) + 0 ≤ 142 + 25 * (d + 1); omega⟩ ⟨Nat.le_of_ble_eq_true rfl, Nat.le_of_ble_eq_true rfl⟩ rfl hl.1 rfl (Nat.le_of_ble_eq_true rfl) d_pa_readFactor_49 (fun H locs hW => ?_)
  rcases bsy h with hw16 | ⟨x17, w16, hw16, hnw16⟩
  · exact xv_pa_59 (As := [.int x15]) (rest := []) hx hb hml hown hts hK hG hW (x_pa_need l hst D cA base hw16) (kb_pa_need hw16) ⟨by show 6 + 1 ≤ 8 + 1 * (d + 1); omega, by show 8 + (2 + 11) + 100 ≤ 142 + 25 * (d + 1); omega⟩ ⟨Nat.le_of_ble_eq_true rfl, Nat.le_of_ble_eq_true rfl⟩ rfl hl.1 rfl (Nat.le_of_ble_eq_true rfl) d_pa_readFactor_52 (fun H locs q ce hW h1 h2 h3 => wo_xout hnt hlk hW h1 h2 h3 (Nat.le_of_ble_eq_true rfl) (Nat.le_of_ble_eq_true rfl))
  clear h
  have h := hnw16
  clear hnw16
  refine cv_pa_59 (As := [.int x15]) (rest := []) hx hb hml hown hts hK hG hW (c_pa_need l D cA base hw16) (kb_pa_need hw16) ⟨by show 6 + 1 ≤ 8 + 1 * (d + 1); omega, by show 8 + (2 + 11) + 100 ≤ 142 + 25 * (d + 1); omega⟩ ⟨Nat.le_of_ble_eq_true rfl, Nat.le_of_ble_eq_true rfl⟩ rfl hl.1 rfl (Nat.le_of_ble_eq_true rfl) d_pa_readFactor_52 (fun H locs hW => ?_)
  refine lv_aload_n hx hb d_pa_readFactor_55 rfl (lv_at hl 3 rfl) ?_
  replace h := bs h
  obtain ⟨w18, hw18, h⟩ := h
  refine cv_pa_63 (As := []) (rest := []) hx hb hml hown hts hK hG hW (c_pa_advance l D cA base hw18) (kb_pa_advance hw18) ⟨by show 0 + 1 ≤ 8 + 1 * (d + 1); omega, by show 8 + (1 + 11) + 0 ≤ 142 + 25 * (d + 1); omega⟩ ⟨Nat.le_of_ble_eq_true rfl, Nat.le_of_ble_eq_true rfl⟩ rfl hl.1 rfl (Nat.le_of_ble_eq_true rfl) d_pa_readFactor_56 (fun H locs hW => ?_)
  refine lv_iload_n hx hb d_pa_readFactor_59 rfl (lv_at hl 2 rfl) ?_
  refine lv_bipush (v := (40 : Int32)) hx hb d_pa_readFactor_60 (by decide) ?_
  refine lv_icmp_ne (tgt := 83) hx hb d_pa_readFactor_62 (by decide) (fun c19 => ?_) (fun c19 => ?_)
  · rw [if_neg c19] at h
    refine lv_iconst (v := (0 : Int32)) hx hb d_pa_readFactor_83 (by decide) ?_
    refine lv_istore (lv' := [(5, .int (0 : Int32)), (4, .int x13), (3, .int x9), (2, .int x5), (0, .ref (base + y0)), (1, .int y1)]) hx hb d_pa_readFactor_84 hl (by decide) rfl (fun ls hl => ?_)
    refine lv_iload_n hx hb d_pa_readFactor_86 rfl (lv_at hl 3 rfl) ?_
    refine lv_iconst (v := (3 : Int32)) hx hb d_pa_readFactor_87 (by decide) ?_
    refine lv_icmp_ne (tgt := 115) hx hb d_pa_readFactor_88 (by decide) (fun c20 => ?_) (fun c20 => ?_)
    · rw [if_neg c20] at h
      refine lv_iload_n hx hb d_pa_readFactor_115 rfl (lv_at hl 3 rfl) ?_
      refine lv_bipush (v := (45 : Int32)) hx hb d_pa_readFactor_116 (by decide) ?_
      refine lv_icmp_ne (tgt := 134) hx hb d_pa_readFactor_118 (by decide) (fun c21 => ?_) (fun c21 => ?_)
      · rw [if_neg c21] at h
        exact jx_pa_readFactor_134 C HG HX y0 x5 x9 x13 (0 : Int32) w18 h _ _ _ hW (lv_sub hl [4, 3, 2, 1, 0] rfl)
      · rw [if_pos c21] at h
        refine lv_sipush (v := (259 : Int32)) hx hb d_pa_readFactor_121 (by decide) ?_
        refine lv_istore_n (lv' := [(2, .int (259 : Int32)), (5, .int (0 : Int32)), (4, .int x13), (3, .int x9), (0, .ref (base + y0)), (1, .int y1)]) hx hb d_pa_readFactor_124 rfl hl (by decide) rfl (fun ls hl => ?_)
        refine lv_aload_n hx hb d_pa_readFactor_125 rfl (lv_at hl 4 rfl) ?_
        refine lv_iload_n hx hb d_pa_readFactor_126 rfl (lv_at hl 5 rfl) ?_
        refine lv_iconst (v := (1 : Int32)) hx hb d_pa_readFactor_127 (by decide) ?_
        refine lv_iadd hx hb d_pa_readFactor_128 ?_
        rcases bsy h with hw25 | ⟨x26, w25, hw25, hnw25⟩
        · exact xv_pa_155 (As := [.int (y1 + (1 : Int32))]) (rest := []) hx hb hml hown hts hK hG hW (HX.2.2 hw25) (HG.2.2.2 hw25) ⟨by show 8 + 1 * d + 1 ≤ 8 + 1 * (d + 1); omega, by show 8 + (6 + 11) + (142 + 25 * d) ≤ 142 + 25 * (d + 1); omega⟩ ⟨Nat.le_of_ble_eq_true rfl, Nat.le_of_ble_eq_true rfl⟩ rfl hl.1 rfl (Nat.le_of_ble_eq_true rfl) d_pa_readFactor_129 (fun H locs q ce hW h1 h2 h3 => wo_xout hnt hlk hW h1 h2 h3 (Nat.le_of_ble_eq_true rfl) (Nat.le_of_ble_eq_true rfl))
        clear h
        have h := hnw25
        clear hnw25
        refine cv_pa_155 (As := [.int (y1 + (1 : Int32))]) (rest := []) hx hb hml hown hts hK hG hW (HG.2.2.1 hw25) (HG.2.2.2 hw25) ⟨by show 8 + 1 * d + 1 ≤ 8 + 1 * (d + 1); omega, by show 8 + (6 + 11) + (142 + 25 * d) ≤ 142 + 25 * (d + 1); omega⟩ ⟨Nat.le_of_ble_eq_true rfl, Nat.le_of_ble_eq_true rfl⟩ rfl hl.1 rfl (Nat.le_of_ble_eq_true rfl) d_pa_readFactor_129 (fun H locs hW => ?_)
        refine lv_istore (lv' := [(5, .int x26), (2, .int (259 : Int32)), (4, .int x13), (3, .int x9), (0, .ref (base + y0)), (1, .int y1)]) hx hb d_pa_readFactor_132 hl (by decide) rfl (fun ls hl => ?_)
        exact jx_pa_readFactor_134 C HG HX y0 (259 : Int32) x9 x13 x26 w25 h _ _ _ hW (lv_sub hl [4, 1, 3, 2, 0] rfl)
    · rw [if_pos c20] at h
      refine lv_aload_n hx hb d_pa_readFactor_91 rfl (lv_at hl 4 rfl) ?_
      refine lv_bipush (v := (91 : Int32)) hx hb d_pa_readFactor_92 (by decide) ?_
      rcases bsy h with hw27 | ⟨x28, w27, hw27, hnw27⟩
      · exact xv_pa_108 (As := [.int (91 : Int32)]) (rest := []) hx hb hml hown hts hK hG hW (x_pa_take l hst D cA base hw27) (kb_pa_take hw27) ⟨by show 7 + 1 ≤ 8 + 1 * (d + 1); omega, by show 8 + (2 + 11) + 121 ≤ 142 + 25 * (d + 1); omega⟩ ⟨Nat.le_of_ble_eq_true rfl, Nat.le_of_ble_eq_true rfl⟩ rfl hl.1 rfl (Nat.le_of_ble_eq_true rfl) d_pa_readFactor_94 (fun H locs q ce hW h1 h2 h3 => wo_xout hnt hlk hW h1 h2 h3 (Nat.le_of_ble_eq_true rfl) (Nat.le_of_ble_eq_true rfl))
      clear h
      have h := hnw27
      clear hnw27
      refine cv_pa_108 (As := [.int (91 : Int32)]) (rest := []) hx hb hml hown hts hK hG hW (c_pa_take l D cA base hw27) (kb_pa_take hw27) ⟨by show 7 + 1 ≤ 8 + 1 * (d + 1); omega, by show 8 + (2 + 11) + 121 ≤ 142 + 25 * (d + 1); omega⟩ ⟨Nat.le_of_ble_eq_true rfl, Nat.le_of_ble_eq_true rfl⟩ rfl hl.1 rfl (Nat.le_of_ble_eq_true rfl) d_pa_readFactor_94 (fun H locs hW => ?_)
      refine lv_aload_n hx hb d_pa_readFactor_97 rfl (lv_at hl 4 rfl) ?_
      refine lv_iload_n hx hb d_pa_readFactor_98 rfl (lv_at hl 5 rfl) ?_
      refine lv_iconst (v := (1 : Int32)) hx hb d_pa_readFactor_99 (by decide) ?_
      refine lv_iadd hx hb d_pa_readFactor_100 ?_
      rcases bsy h with hw29 | ⟨x30, w29, hw29, hnw29⟩
      · exact xv_pa_121 (As := [.int (y1 + (1 : Int32))]) (rest := []) hx hb hml hown hts hK hG hW (HX.1 hw29) (HG.1.2 hw29) ⟨by show 8 + 1 * d + 1 ≤ 8 + 1 * (d + 1); omega, by show 8 + (6 + 11) + (142 + 25 * d) ≤ 142 + 25 * (d + 1); omega⟩ ⟨Nat.le_of_ble_eq_true rfl, Nat.le_of_ble_eq_true rfl⟩ rfl hl.1 rfl (Nat.le_of_ble_eq_true rfl) d_pa_readFactor_101 (fun H locs q ce hW h1 h2 h3 => wo_xout hnt hlk hW h1 h2 h3 (Nat.le_of_ble_eq_true rfl) (Nat.le_of_ble_eq_true rfl))
      clear h
      have h := hnw29
      clear hnw29
      refine cv_pa_121 (As := [.int (y1 + (1 : Int32))]) (rest := []) hx hb hml hown hts hK hG hW (HG.1.1 hw29) (HG.1.2 hw29) ⟨by show 8 + 1 * d + 1 ≤ 8 + 1 * (d + 1); omega, by show 8 + (6 + 11) + (142 + 25 * d) ≤ 142 + 25 * (d + 1); omega⟩ ⟨Nat.le_of_ble_eq_true rfl, Nat.le_of_ble_eq_true rfl⟩ rfl hl.1 rfl (Nat.le_of_ble_eq_true rfl) d_pa_readFactor_101 (fun H locs hW => ?_)
      refine lv_istore (lv' := [(5, .int x30), (4, .int x13), (3, .int x9), (2, .int x5), (0, .ref (base + y0)), (1, .int y1)]) hx hb d_pa_readFactor_104 hl (by decide) rfl (fun ls hl => ?_)
      refine lv_aload_n hx hb d_pa_readFactor_106 rfl (lv_at hl 4 rfl) ?_
      refine lv_bipush (v := (93 : Int32)) hx hb d_pa_readFactor_107 (by decide) ?_
      rcases bsy h with hw31 | ⟨x32, w31, hw31, hnw31⟩
      · exact xv_pa_108 (As := [.int (93 : Int32)]) (rest := []) hx hb hml hown hts hK hG hW (x_pa_take l hst D cA base hw31) (kb_pa_take hw31) ⟨by show 7 + 1 ≤ 8 + 1 * (d + 1); omega, by show 8 + (2 + 11) + 121 ≤ 142 + 25 * (d + 1); omega⟩ ⟨Nat.le_of_ble_eq_true rfl, Nat.le_of_ble_eq_true rfl⟩ rfl hl.1 rfl (Nat.le_of_ble_eq_true rfl) d_pa_readFactor_109 (fun H locs q ce hW h1 h2 h3 => wo_xout hnt hlk hW h1 h2 h3 (Nat.le_of_ble_eq_true rfl) (Nat.le_of_ble_eq_true rfl))
      clear h
      have h := hnw31
      clear hnw31
      refine cv_pa_108 (As := [.int (93 : Int32)]) (rest := []) hx hb hml hown hts hK hG hW (c_pa_take l D cA base hw31) (kb_pa_take hw31) ⟨by show 7 + 1 ≤ 8 + 1 * (d + 1); omega, by show 8 + (2 + 11) + 121 ≤ 142 + 25 * (d + 1); omega⟩ ⟨Nat.le_of_ble_eq_true rfl, Nat.le_of_ble_eq_true rfl⟩ rfl hl.1 rfl (Nat.le_of_ble_eq_true rfl) d_pa_readFactor_109 (fun H locs hW => ?_)
      refine lv_goto (tgt := 134) hx hb d_pa_readFactor_112 (by decide) ?_
      exact jx_pa_readFactor_134 C HG HX y0 x5 x9 x13 x30 w31 h _ _ _ hW (lv_sub hl [4, 3, 2, 1, 0] rfl)
  · rw [if_pos c19] at h
    refine lv_aload_n hx hb d_pa_readFactor_65 rfl (lv_at hl 3 rfl) ?_
    refine lv_iload_n hx hb d_pa_readFactor_66 rfl (lv_at hl 4 rfl) ?_
    refine lv_iconst (v := (1 : Int32)) hx hb d_pa_readFactor_67 (by decide) ?_
    refine lv_iadd hx hb d_pa_readFactor_68 ?_
    rcases bsy h with hw33 | ⟨x34, w33, hw33, hnw33⟩
    · exact xv_pa_121 (As := [.int (y1 + (1 : Int32))]) (rest := []) hx hb hml hown hts hK hG hW (HX.1 hw33) (HG.1.2 hw33) ⟨by show 8 + 1 * d + 1 ≤ 8 + 1 * (d + 1); omega, by show 8 + (6 + 11) + (142 + 25 * d) ≤ 142 + 25 * (d + 1); omega⟩ ⟨Nat.le_of_ble_eq_true rfl, Nat.le_of_ble_eq_true rfl⟩ rfl hl.1 rfl (Nat.le_of_ble_eq_true rfl) d_pa_readFactor_69 (fun H locs q ce hW h1 h2 h3 => wo_xout hnt hlk hW h1 h2 h3 (Nat.le_of_ble_eq_true rfl) (Nat.le_of_ble_eq_true rfl))
    clear h
    have h := hnw33
    clear hnw33
    refine cv_pa_121 (As := [.int (y1 + (1 : Int32))]) (rest := []) hx hb hml hown hts hK hG hW (HG.1.1 hw33) (HG.1.2 hw33) ⟨by show 8 + 1 * d + 1 ≤ 8 + 1 * (d + 1); omega, by show 8 + (6 + 11) + (142 + 25 * d) ≤ 142 + 25 * (d + 1); omega⟩ ⟨Nat.le_of_ble_eq_true rfl, Nat.le_of_ble_eq_true rfl⟩ rfl hl.1 rfl (Nat.le_of_ble_eq_true rfl) d_pa_readFactor_69 (fun H locs hW => ?_)
    refine lv_istore (lv' := [(5, .int x34), (4, .int x13), (3, .int x9), (2, .int x5), (0, .ref (base + y0)), (1, .int y1)]) hx hb d_pa_readFactor_72 hl (by decide) rfl (fun ls hl => ?_)
    refine lv_aload_n hx hb d_pa_readFactor_74 rfl (lv_at hl 4 rfl) ?_
    refine lv_bipush (v := (41 : Int32)) hx hb d_pa_readFactor_75 (by decide) ?_
    rcases bsy h with hw35 | ⟨x36, w35, hw35, hnw35⟩
    · exact xv_pa_108 (As := [.int (41 : Int32)]) (rest := []) hx hb hml hown hts hK hG hW (x_pa_take l hst D cA base hw35) (kb_pa_take hw35) ⟨by show 7 + 1 ≤ 8 + 1 * (d + 1); omega, by show 8 + (2 + 11) + 121 ≤ 142 + 25 * (d + 1); omega⟩ ⟨Nat.le_of_ble_eq_true rfl, Nat.le_of_ble_eq_true rfl⟩ rfl hl.1 rfl (Nat.le_of_ble_eq_true rfl) d_pa_readFactor_77 (fun H locs q ce hW h1 h2 h3 => wo_xout hnt hlk hW h1 h2 h3 (Nat.le_of_ble_eq_true rfl) (Nat.le_of_ble_eq_true rfl))
    clear h
    have h := hnw35
    clear hnw35
    refine cv_pa_108 (As := [.int (41 : Int32)]) (rest := []) hx hb hml hown hts hK hG hW (c_pa_take l D cA base hw35) (kb_pa_take hw35) ⟨by show 7 + 1 ≤ 8 + 1 * (d + 1); omega, by show 8 + (2 + 11) + 121 ≤ 142 + 25 * (d + 1); omega⟩ ⟨Nat.le_of_ble_eq_true rfl, Nat.le_of_ble_eq_true rfl⟩ rfl hl.1 rfl (Nat.le_of_ble_eq_true rfl) d_pa_readFactor_77 (fun H locs hW => ?_)
    refine lv_iload hx hb d_pa_readFactor_80 (lv_at hl 0 rfl) ?_
    cases h
set_option maxHeartbeats 4000000 in
set_option maxRecDepth 100000 in
theorem xo_pa_readFactor (l : Launch) (hst : l.stackTraces = false) (D : va_G) (cA : Nat → ClassId) (base : Nat) {d : Nat} {g_pa_readExpr : Nat → Int32 → WW → Option ((Int32 ⊕ String) × WW)} {g_pa_readTerm : Nat → Int32 → WW → Option ((Int32 ⊕ String) × WW)} {g_pa_readFactor : Nat → Int32 → WW → Option ((Int32 ⊕ String) × WW)} (HG : sA_pa3 l D cA base d g_pa_readExpr g_pa_readTerm g_pa_readFactor ) (HX : sX_pa3 l D cA base d g_pa_readExpr g_pa_readTerm g_pa_readFactor ) {a0 : Nat} {a1 : Int32} {w w' : WW} {E : String} (h : fo_pa_readFactor g_pa_readExpr g_pa_readTerm g_pa_readFactor a0 a1 w = some (.inr E, w')) : xt l D cls (wo_tys cA) cA base y_pa_readFactor (Cond.code y_pa_readFactor b_pa_readFactor 6 (some .int) :: gt) (rx_pa_readFactor (d + 1)) [.ref (base + a0), .int a1] w E w' (rx_pa_readFactor (d + 1)).cells (rx_pa_readFactor (d + 1)).slots := by
  refine xt_start (by decide) (Nat.le_of_ble_eq_true rfl) ?_
  intro p e s m below meth c ls hx hb hr hml hown hts hlk hnm hK hG hW hl hnt
  have C : cx b_pa_readFactor (some .int) 6 y_pa_readFactor.cls "readFactor" p s m [.ref (base + a0), .int a1].toArray meth c D cA base ∧ (∀ x ∈ c.exceptionTable.toList, ∀ k : Nat, covers x k = false) ∧ l.stackTraces = false := ⟨⟨hx, hb, hr, hml, hown, hts, hlk, hnm, hK, hG⟩, hnt, hst⟩
  have hl : lv_has ls 6 [(0, .ref (base + a0)), (1, .int a1)] := hl
  unfold fo_pa_readFactor at h
  replace h := its h
  obtain ⟨-, h⟩ := h
  refine lv_aload_n hx hb d_pa_readFactor_0 rfl (lv_at hl 0 rfl) ?_
  refine lv_iload_n hx hb d_pa_readFactor_1 rfl (lv_at hl 1 rfl) ?_
  refine lv_bipush (v := (10 : Int32)) hx hb d_pa_readFactor_2 (by decide) ?_
  refine lv_icmp_gt (tgt := 11) hx hb d_pa_readFactor_4 (by decide) (fun c1 => ?_) (fun c1 => ?_)
  · rw [if_pos c1] at h
    refine lv_iconst (v := (0 : Int32)) hx hb d_pa_readFactor_11 (by decide) ?_
    exact jx_pa_readFactor_12 C HG HX a0 a1 a0 (0 : Int32) w h _ _ _ hW (lv_sub hl [0, 1] rfl)
  · rw [if_neg c1] at h
    refine lv_iconst (v := (1 : Int32)) hx hb d_pa_readFactor_7 (by decide) ?_
    refine lv_goto (tgt := 12) hx hb d_pa_readFactor_8 (by decide) ?_
    exact jx_pa_readFactor_12 C HG HX a0 a1 a0 (1 : Int32) w h _ _ _ hW (lv_sub hl [0, 1] rfl)
theorem sAll_pa3 (l : Launch) (D : va_G) (cA : Nat → ClassId) (base : Nat) : ∀ d : Nat, sA_pa3 l D cA base d (sc_pa3 d).1 (sc_pa3 d).2.1 (sc_pa3 d).2.2 := by
  intro d
  induction d with
  | zero => exact ⟨⟨(fun h => by cases h), (fun h => by cases h)⟩, ⟨(fun h => by cases h), (fun h => by cases h)⟩, ⟨(fun h => by cases h), (fun h => by cases h)⟩⟩
  | succ d ih => exact ⟨⟨fun h => co_pa_readExpr l D cA base ih h, fun h => kbo_pa_readExpr (g_pa_readExpr := (sc_pa3 d).1) (g_pa_readTerm := (sc_pa3 d).2.1) (g_pa_readFactor := (sc_pa3 d).2.2) h⟩, ⟨fun h => co_pa_readTerm l D cA base ih h, fun h => kbo_pa_readTerm (g_pa_readExpr := (sc_pa3 d).1) (g_pa_readTerm := (sc_pa3 d).2.1) (g_pa_readFactor := (sc_pa3 d).2.2) h⟩, ⟨fun h => co_pa_readFactor l D cA base ih h, fun h => kbo_pa_readFactor (g_pa_readExpr := (sc_pa3 d).1) (g_pa_readTerm := (sc_pa3 d).2.1) (g_pa_readFactor := (sc_pa3 d).2.2) h⟩⟩
theorem sXll_pa3 (l : Launch) (hst : l.stackTraces = false) (D : va_G) (cA : Nat → ClassId) (base : Nat) : ∀ d : Nat, sX_pa3 l D cA base d (sc_pa3 d).1 (sc_pa3 d).2.1 (sc_pa3 d).2.2 := by
  intro d
  induction d with
  | zero => exact ⟨(fun h => by cases h), (fun h => by cases h), (fun h => by cases h)⟩
  | succ d ih => exact ⟨fun h => xo_pa_readExpr l hst D cA base (sAll_pa3 l D cA base d) ih h, fun h => xo_pa_readTerm l hst D cA base (sAll_pa3 l D cA base d) ih h, fun h => xo_pa_readFactor l hst D cA base (sAll_pa3 l D cA base d) ih h⟩
theorem c_pa_readExpr (l : Launch) (D : va_G) (cA : Nat → ClassId) (base : Nat) {d : Nat} : ∀ {a0 : Nat} {a1 : Int32} {w w' : WW} {r : Int32}, f_pa_readExpr d a0 a1 w = some (.inl r, w') → mt l D cls (wo_tys cA) cA base y_pa_readExpr (Cond.code y_pa_readExpr b_pa_readExpr 6 (some .int) :: gt) (rm_pa_readExpr d) [.ref (base + a0), .int a1] w (some (.int r)) w' (rm_pa_readExpr d).cells (rm_pa_readExpr d).slots := (sAll_pa3 l D cA base d).1.1
theorem kb_pa_readExpr {d : Nat} : ∀ {a0 : Nat} {a1 : Int32} {w : WW} {r : ((Int32 ⊕ String) × WW)}, f_pa_readExpr d a0 a1 w = some r → kb w a0 2 = true := by
  intro a0 a1 w r h
  cases d with
  | zero => cases h
  | succ d => exact kbo_pa_readExpr (g_pa_readExpr := (sc_pa3 d).1) (g_pa_readTerm := (sc_pa3 d).2.1) (g_pa_readFactor := (sc_pa3 d).2.2) h
theorem x_pa_readExpr (l : Launch) (hst : l.stackTraces = false) (D : va_G) (cA : Nat → ClassId) (base : Nat) {d : Nat} : ∀ {a0 : Nat} {a1 : Int32} {w w' : WW} {E : String}, f_pa_readExpr d a0 a1 w = some (.inr E, w') → xt l D cls (wo_tys cA) cA base y_pa_readExpr (Cond.code y_pa_readExpr b_pa_readExpr 6 (some .int) :: gt) (rx_pa_readExpr d) [.ref (base + a0), .int a1] w E w' (rx_pa_readExpr d).cells (rx_pa_readExpr d).slots := (sXll_pa3 l hst D cA base d).1
theorem c_pa_readTerm (l : Launch) (D : va_G) (cA : Nat → ClassId) (base : Nat) {d : Nat} : ∀ {a0 : Nat} {a1 : Int32} {w w' : WW} {r : Int32}, f_pa_readTerm d a0 a1 w = some (.inl r, w') → mt l D cls (wo_tys cA) cA base y_pa_readTerm (Cond.code y_pa_readTerm b_pa_readTerm 6 (some .int) :: gt) (rm_pa_readTerm d) [.ref (base + a0), .int a1] w (some (.int r)) w' (rm_pa_readTerm d).cells (rm_pa_readTerm d).slots := (sAll_pa3 l D cA base d).2.1.1
theorem kb_pa_readTerm {d : Nat} : ∀ {a0 : Nat} {a1 : Int32} {w : WW} {r : ((Int32 ⊕ String) × WW)}, f_pa_readTerm d a0 a1 w = some r → kb w a0 2 = true := by
  intro a0 a1 w r h
  cases d with
  | zero => cases h
  | succ d => exact kbo_pa_readTerm (g_pa_readExpr := (sc_pa3 d).1) (g_pa_readTerm := (sc_pa3 d).2.1) (g_pa_readFactor := (sc_pa3 d).2.2) h
theorem x_pa_readTerm (l : Launch) (hst : l.stackTraces = false) (D : va_G) (cA : Nat → ClassId) (base : Nat) {d : Nat} : ∀ {a0 : Nat} {a1 : Int32} {w w' : WW} {E : String}, f_pa_readTerm d a0 a1 w = some (.inr E, w') → xt l D cls (wo_tys cA) cA base y_pa_readTerm (Cond.code y_pa_readTerm b_pa_readTerm 6 (some .int) :: gt) (rx_pa_readTerm d) [.ref (base + a0), .int a1] w E w' (rx_pa_readTerm d).cells (rx_pa_readTerm d).slots := (sXll_pa3 l hst D cA base d).2.1
theorem c_pa_readFactor (l : Launch) (D : va_G) (cA : Nat → ClassId) (base : Nat) {d : Nat} : ∀ {a0 : Nat} {a1 : Int32} {w w' : WW} {r : Int32}, f_pa_readFactor d a0 a1 w = some (.inl r, w') → mt l D cls (wo_tys cA) cA base y_pa_readFactor (Cond.code y_pa_readFactor b_pa_readFactor 6 (some .int) :: gt) (rm_pa_readFactor d) [.ref (base + a0), .int a1] w (some (.int r)) w' (rm_pa_readFactor d).cells (rm_pa_readFactor d).slots := (sAll_pa3 l D cA base d).2.2.1
theorem kb_pa_readFactor {d : Nat} : ∀ {a0 : Nat} {a1 : Int32} {w : WW} {r : ((Int32 ⊕ String) × WW)}, f_pa_readFactor d a0 a1 w = some r → kb w a0 2 = true := by
  intro a0 a1 w r h
  cases d with
  | zero => cases h
  | succ d => exact kbo_pa_readFactor (g_pa_readExpr := (sc_pa3 d).1) (g_pa_readTerm := (sc_pa3 d).2.1) (g_pa_readFactor := (sc_pa3 d).2.2) h
theorem x_pa_readFactor (l : Launch) (hst : l.stackTraces = false) (D : va_G) (cA : Nat → ClassId) (base : Nat) {d : Nat} : ∀ {a0 : Nat} {a1 : Int32} {w w' : WW} {E : String}, f_pa_readFactor d a0 a1 w = some (.inr E, w') → xt l D cls (wo_tys cA) cA base y_pa_readFactor (Cond.code y_pa_readFactor b_pa_readFactor 6 (some .int) :: gt) (rx_pa_readFactor d) [.ref (base + a0), .int a1] w E w' (rx_pa_readFactor d).cells (rx_pa_readFactor d).slots := (sXll_pa3 l hst D cA base d).2.2
