/-! The law from its entry (by wip/gen/law.py). -/
theorem lw_C {s : State} {args : Array Value} (hgv : (Jvm.Cond.and given_1 narrow_1).before args s = true) : wo_C s := by
  have hf := flat_of_before _ hgv
  have hm : ∀ E ∈ exn, ∀ N ∈ exn, E ≠ N → Cond.not (.castable E N) ∈ flatC (Jvm.Cond.and given_1 narrow_1) := by decide +kernel
  intro E hE N hN hne
  have hv := Cond.holds_not_iff.mp (hf _ (hm E hE N hN hne))
  simp only [Cond.value] at hv
  split at hv
  · rename_i a b h1 h2
    exact ⟨a, b, h1, h2, Option.some.inj hv⟩
  · cases hv
theorem lw_G {s : State} {args : Array Value} (hts : ∀ w ∈ lw_tbl, w.before args s = true) (hgv : (Jvm.Cond.and given_1 narrow_1).before args s = true) : wo_G s.heap.size s :=
  have h : ∀ w ∈ tables_1, w.before args s = true := fun w hw => hts w (List.mem_append_right _ hw)
  have hf := flat_of_before _ hgv
  ⟨fun w hw hn => va_Nw.of (isNw_on hn) (h w hw), (st_Z (h _ (List.mem_of_getElem? (i := 422) (by decide +kernel))) (hf (.isRef (.static Bundle.tN "UNASSIGNED_STACK" Bundle.steD)) (by decide +kernel))), (st_Z (h _ (List.mem_of_getElem? (i := 424) (by decide +kernel))) (hf (.isRef (.static Bundle.tN "SUPPRESSED_SENTINEL" Bundle.listD)) (by decide +kernel))), (va_AO.of (h _ (List.mem_of_getElem? (i := 255) (by decide +kernel)))), (va_AO.of (h _ (List.mem_of_getElem? (i := 299) (by decide +kernel)))), (va_AO.of (h _ (List.mem_of_getElem? (i := 101) (by decide +kernel)))), lw_C hgv⟩
theorem lw_K {s : State} {args : Array Value} {base : Nat} (hts : ∀ w ∈ gt, w.before args s = true) (hG : wo_G base s) : ∃ (D : va_G) (cA : Nat → ClassId), va_K D cls (wo_tys cA) s := by
  refine st_K (fun k q hq => ?_) (fun k ty hk => ?_)
  · match k, hq with
    | 0, hq => cases hq; exact u_known hts ic_a (hts (.instantiable "AlarmForge" 9) (gt_of (i := 26) (by decide +kernel) (by decide +kernel)))
    | 1, hq => cases hq; exact u_known hts ic_rd (hts (.instantiable "AlarmForge$Reader" 9) (gt_of (i := 40) (by decide +kernel) (by decide +kernel)))
    | 2, hq => cases hq; exact u_known hts ic_pa (hts (.instantiable "AlarmForge$Parser" 4) (gt_of (i := 34) (by decide +kernel) (by decide +kernel)))
    | 3, hq => cases hq; exact u_known hts ic_pg (hts (.instantiable "AlarmForge$Program" 7) (gt_of (i := 95) (by decide +kernel) (by decide +kernel)))
    | 4, hq => cases hq; exact u_known hts ic_st (hts (.instantiable "AlarmForge$Statement" 10) (gt_of (i := 102) (by decide +kernel) (by decide +kernel)))
    | 5, hq => cases hq; exact u_known hts ic_ru (hts (.instantiable "AlarmForge$Runner" 11) (gt_of (i := 195) (by decide +kernel) (by decide +kernel)))
    | 6, hq => cases hq; exact u_known hts ic_an (hts (.instantiable "AlarmForge$Analyser" 11) (gt_of (i := 243) (by decide +kernel) (by decide +kernel)))
    | 7, hq => cases hq; exact u_known hts ic_sa (hts (.instantiable "AlarmForge$State" 3) (gt_of (i := 249) (by decide +kernel) (by decide +kernel)))
    | 8, hq => cases hq; exact u_known hts ic_va (hts (.instantiable "AlarmForge$Value" 5) (gt_of (i := 256) (by decide +kernel) (by decide +kernel)))
    | 9, hq => cases hq; exact u_known hts ic_q (hts (.instantiable "AlarmForgeModel" 68) (gt_of (i := 1154) (by decide +kernel) (by decide +kernel)))
    | k + 10, hq => cases hq
  · match k, hk with
    | 0, hk => cases hk; exact st_tyP (fun _ h => nomatch h) (hts (.arrayClass .int) (gt_of (i := 78) (by decide +kernel) (by decide +kernel)))
    | 1, hk => cases hk; exact st_tyP (fun _ h => nomatch h) (hts (.arrayClass .long) (gt_of (i := 1364) (by decide +kernel) (by decide +kernel)))
    | 2, hk => cases hk; exact st_tyP (fun _ h => nomatch h) (hts (.arrayClass .boolean) (gt_of (i := 241) (by decide +kernel) (by decide +kernel)))
    | 3, hk => cases hk; exact st_tyP (fun _ h => nomatch h) (hts (.arrayClass .char) (gt_of (i := 77) (by decide +kernel) (by decide +kernel)))
    | 4, hk => cases hk; exact st_tyO (va_AO.use hG.2.2.2.1 (A := args))
    | 5, hk => cases hk; exact st_tyO (va_AO.use hG.2.2.2.2.1 (A := args))
    | 6, hk => cases hk; exact st_tyO (va_AO.use hG.2.2.2.2.2.1 (A := args))
    | k + 7, hk => cases hk
theorem d_lw_law_0 : decode code 0 = .ok (.new 8, 3) := by decide +kernel
theorem d_lw_law_3 : decode code 3 = .ok (.dup, 1) := by decide +kernel
theorem d_lw_law_4 : decode code 4 = .ok (.invokespecial 53, 3) := by decide +kernel
theorem d_lw_law_7 : decode code 7 = .ok (.astore_n 1, 1) := by decide +kernel
theorem d_lw_law_8 : decode code 8 = .ok (.new 54, 3) := by decide +kernel
theorem d_lw_law_11 : decode code 11 = .ok (.dup, 1) := by decide +kernel
theorem d_lw_law_12 : decode code 12 = .ok (.invokespecial 56, 3) := by decide +kernel
theorem d_lw_law_15 : decode code 15 = .ok (.astore_n 2, 1) := by decide +kernel
theorem d_lw_law_16 : decode code 16 = .ok (.iconst 1, 1) := by decide +kernel
theorem d_lw_law_17 : decode code 17 = .ok (.newarray .long, 2) := by decide +kernel
theorem d_lw_law_19 : decode code 19 = .ok (.astore_n 3, 1) := by decide +kernel
theorem d_lw_law_20 : decode code 20 = .ok (.iconst 0, 1) := by decide +kernel
theorem d_lw_law_21 : decode code 21 = .ok (.istore 4, 2) := by decide +kernel
set_option maxHeartbeats 40000000 in
set_option maxRecDepth 100000 in
theorem whole_start {p : Program} {e : Env} {s : State} {m : MethodId} {below : List Frame} {meth : Method} {c : Code} (l : Launch) (hst : l.stackTraces = false) {b L : Nat} {xs : Nat → Int32} (hL : L ≤ 3) (C0 : lw_At p s m meth c b L xs) : W p l e room_1 s m #[Value.ref b] below meth c s.heap [] 0 0 (lw_Z below #[Value.ref b] s) (entryFrame m ([Value.ref b] : List Value).toArray 7) := by
  obtain ⟨hx, hb, hr, hml, hown, hts0, hX, hbl, hlk, hgv⟩ := id C0
  have hts : ∀ w ∈ gt, w.before #[Value.ref b] s = true := fun w hw => hts0 w (List.mem_filter.mp hw).1
  have hG := lw_G hts0 hgv
  obtain ⟨D, cA, hK⟩ := lw_K hts hG
  have hZ : wz D cls cA s.heap.size s 0 (fun _ => none) 0 (fun _ => none) s.heap [] := st_wz
  obtain ⟨base, hbase⟩ : ∃ base, base = s.heap.size := ⟨_, rfl⟩
  rw [← hbase] at hG hZ
  have hbb : b < base := by rw [hbase]; exact hbl
  have hbs : s.heap.size ≤ base := by rw [hbase]; exact Nat.le_refl _
  obtain ⟨w', h⟩ := law_true hL xs
  unfold f_lw_law f_lw_pre at h
  have hl := lv_entry ([.ref b]) (n := 7) (Nat.le_of_ble_eq_true rfl)
  rw [lg_entry_eq]
  generalize (lg_sl ([.ref b]) ++ List.replicate (7 - (lg_sl ([.ref b])).length) Slot.unset).toArray = ls at hl ⊢
  have hl : lv_has ls 7 [(0, .ref b)] := hl
  replace h := bs h
  obtain ⟨w, h, hL0⟩ := h
  refine wo_newS (ci := 0) (fs := [.int 0, .int 0, .null, .null, .null, .null, .int 0, .null, .null]) (C := Rc_a) (T := Fc_a) (N := 9) hx hb hts ic_a tc_a tc_a_ok hown (hts (.classLink "AlarmForgeLaw" 8 "AlarmForge") (gt_of (i := 25) (by decide +kernel) (by decide +kernel))) (hts (.instantiable "AlarmForge" 9) (gt_of (i := 26) (by decide +kernel) (by decide +kernel))) (hts (.initialized "AlarmForge") (gt_of (i := 1) (by decide +kernel) (by decide +kernel))) hK hZ.1 hZ.2.1 rfl rfl (by decide +kernel) (Nat.le_of_ble_eq_true rfl) (Nat.le_of_ble_eq_true rfl) d_lw_law_0 (fun H hsn hWn => ?_)
  replace hZ := wz_new hZ hsn hWn
  replace h := bs h
  obtain ⟨w1, hw1, h⟩ := h
  rw [Option.some.inj hw1] at hZ
  refine lv_dup hx hb d_lw_law_3 rfl ?_
  replace h := bs h
  obtain ⟨w2, hw2, h⟩ := h
  refine wo_callK (As := []) (rest := [.ref (base + 0)]) (lc := 373) (n := 0) (y := y_a_init) hx hb hml hown hts hK hG hZ (c_a_init l D cA base hw2) (by decide) (cwI 0 hts (gt_in (gt_of (i := 29) (by decide +kernel) (by decide +kernel))) rfl rfl rfl (hts _ (gt_of (i := 1) (by decide +kernel) (by decide +kernel))) (hts _ (gt_of (i := 27) (by decide +kernel) (by decide +kernel))) (hts _ (gt_of (i := 28) (by decide +kernel) (by decide +kernel))) rfl (by decide +kernel) ⟨(Nat.le_of_ble_eq_true rfl), (Nat.le_of_ble_eq_true rfl)⟩) ⟨by decide +kernel, by decide +kernel⟩ rfl hl.1 rfl (Nat.le_of_ble_eq_true rfl) d_lw_law_4 (fun H locs hZ => ?_)
  refine W.widen (k := 373) (n := 484900) (by decide +kernel) (by decide +kernel) ?_
  refine lv_astore_n (lv' := [(1, .ref (base + 0)), (0, .ref b)]) hx hb d_lw_law_7 rfl hl (by decide) rfl (fun ls hl => ?_)
  refine wo_newS (ci := 9) (fs := [.null, .null, .int 0, .int 0, .int 0, .int 0, .int 0, .int 0, .int 0, .null, .null, .null, .null, .null, .null, .null, .null, .null, .null, .null, .null, .null, .null, .null, .null, .null, .null, .int 0, .int 0, .int 0, .int 0, .int 0, .int 0, .int 0, .int 0, .null, .null, .null, .null, .null, .null, .null, .int 0, .int 0, .int 0, .null, .null, .null, .null, .null, .int 0, .int 0, .int 0, .int 0, .null, .null, .null, .null, .null, .null, .null, .null, .null, .null, .int 0, .int 0, .int 0, .int 0]) (C := Rc_q) (T := Fc_q) (N := 68) hx hb hts ic_q tc_q tc_q_ok hown (hts (.classLink "AlarmForgeLaw" 54 "AlarmForgeModel") (gt_of (i := 1153) (by decide +kernel) (by decide +kernel))) (hts (.instantiable "AlarmForgeModel" 68) (gt_of (i := 1154) (by decide +kernel) (by decide +kernel))) (hts (.initialized "AlarmForgeModel") (gt_of (i := 10) (by decide +kernel) (by decide +kernel))) hK hZ.1 hZ.2.1 rfl rfl (by decide +kernel) (Nat.le_of_ble_eq_true rfl) (Nat.le_of_ble_eq_true rfl) d_lw_law_8 (fun H hsn hWn => ?_)
  replace hZ := wz_new hZ hsn hWn
  replace h := bs h
  obtain ⟨w3, hw3, h⟩ := h
  rw [Option.some.inj hw3] at hZ
  refine lv_dup hx hb d_lw_law_11 rfl ?_
  replace h := bs h
  obtain ⟨w4, hw4, h⟩ := h
  refine wo_callK (As := []) (rest := [.ref (base + 373)]) (lc := 416) (n := 0) (y := y_q_init) hx hb hml hown hts hK hG hZ (c_q_init l D cA base hw4) (by decide) (cwI 0 hts (gt_in (gt_of (i := 1157) (by decide +kernel) (by decide +kernel))) rfl rfl rfl (hts _ (gt_of (i := 10) (by decide +kernel) (by decide +kernel))) (hts _ (gt_of (i := 1155) (by decide +kernel) (by decide +kernel))) (hts _ (gt_of (i := 1156) (by decide +kernel) (by decide +kernel))) rfl (by decide +kernel) ⟨(Nat.le_of_ble_eq_true rfl), (Nat.le_of_ble_eq_true rfl)⟩) ⟨by decide +kernel, by decide +kernel⟩ rfl hl.1 rfl (Nat.le_of_ble_eq_true rfl) d_lw_law_12 (fun H locs hZ => ?_)
  refine W.widen (k := 416) (n := 540800) (by decide +kernel) (by decide +kernel) ?_
  refine lv_astore_n (lv' := [(2, .ref (base + 373)), (1, .ref (base + 0)), (0, .ref b)]) hx hb d_lw_law_15 rfl hl (by decide) rfl (fun ls hl => ?_)
  refine lv_iconst (v := (1 : Int32)) hx hb d_lw_law_16 (by decide) ?_
  refine wo_newaS (t := 1) (ty := .long) (atype := .long) (N' := 1) (a0 := (1, .inr (.inl (fun _ => 0)))) hx hb (hts (.arrayClass .long) (gt_of (i := 1364) (by decide +kernel) (by decide +kernel))) rfl hK hZ.1 hZ.2.1 rfl rfl (na_1 _) (by decide +kernel) (by decide +kernel) (by decide +kernel) (Nat.le_of_ble_eq_true rfl) (Nat.le_of_ble_eq_true rfl) d_lw_law_17 (fun H hsn hWn => ?_)
  replace hZ := wz_new hZ hsn hWn
  cases h
  refine lv_astore_n (lv' := [(3, .ref (base + 416)), (2, .ref (base + 373)), (1, .ref (base + 0)), (0, .ref b)]) hx hb d_lw_law_19 rfl hl (by decide) rfl (fun ls hl => ?_)
  refine lv_iconst (v := (0 : Int32)) hx hb d_lw_law_20 (by decide) ?_
  refine lv_istore (lv' := [(4, .int 0), (3, .ref (base + 416)), (2, .ref (base + 373)), (1, .ref (base + 0)), (0, .ref b)]) hx hb d_lw_law_21 hl (by decide) rfl (fun ls hl => ?_)
  refine W.widen (k := 417 + 0) (n := 542100 + 6 * 0) (by decide +kernel) (by decide +kernel) ?_
  exact j_lw_loop hst C0 hbb hbs hK hG 2 0 373 416 0 _ hL0 0 _ _ _ hZ.1 (lv_sub hl [4, 3, 2, 1, 0] rfl) (by decide)
