/-! The law from its entry (by wip/gen/law.py). -/
theorem lw_C {s : State} {args : Array Value} (hgv : (Jvm.Cond.and given_1 narrow_1).before args s = true) : wo_C s := by
  have hf := flat_of_before _ hgv
  have hm : ∀ E ∈ exn, ∀ N ∈ exn, E ≠ N → Cond.not (.castable E N) ∈ flatC (Jvm.Cond.and given_1 narrow_1) := by decide +kernel
  intro E hE N hN hne
  have hv := Cond.holds_not_iff.mp (hf _ (hm E hE N hN hne))
  simp only [Cond.value] at hv
  split at hv
  · rename_i a b h1 h2
    exact ⟨a, b, h1, h2, Option.some.inj hv⟩
  · cases hv
theorem lw_hA {s : State} : ∀ a : Nat, a < s.heap.size → ¬ wo_B s.heap.size a := fun a h1 h2 => absurd h1 (Nat.not_lt.mpr h2)
theorem lw_W {s : State} {args : Array Value} (h : ∀ w ∈ tables_1, w.before args s = true) (hgv : (Jvm.Cond.and given_1 narrow_1).before args s = true) : wo_W s.heap.size s := by
  have hf := flat_of_before _ hgv
  have hel : ∀ j : Nat, j < 7 → (Term.elem (.static "AlarmForge" "WIDE_STEPS" "[I") (.int (Int32.ofNat j))).eval args s none [] s = some (.int (wsv.getD j 0)) := by
    have hm : ∀ j : Nat, j < 7 → Cond.eq (.elem (.static "AlarmForge" "WIDE_STEPS" "[I") (.int (Int32.ofNat j))) (.int (wsv.getD j 0)) ∈ flatC (Jvm.Cond.and given_1 narrow_1) := by decide +kernel
    exact fun j hj => va_eqt (hf _ (hm j hj))
  obtain ⟨t, ht, hT⟩ := va_Tof (tm := .static "AlarmForge" "WIDE_STEPS" "[I") (ty := .int) (N := 7) (f := fun j => .int (wsv.getD j 0)) (A := wo_B s.heap.size) (by decide) (hf (.arrayOf (.static "AlarmForge" "WIDE_STEPS" "[I") .int) (by decide +kernel)) (va_eqt (z := Int32.ofNat 7) (hf (.eq (.length (.static "AlarmForge" "WIDE_STEPS" "[I")) (.int (Int32.ofNat 7))) (by decide +kernel))) hel lw_hA
  exact ⟨t, va_Zof (h _ (List.mem_of_getElem? (i := 1082) (by decide +kernel))) (h _ (List.mem_of_getElem? (i := 1) (by decide +kernel))) ht lw_hA, hT⟩
def sTm (i : Nat) : Term := .string "AlarmForge$Reader" (sKx.getD i 0)
theorem lw_S {s : State} {args : Array Value} (hgv : (Jvm.Cond.and given_1 narrow_1).before args s = true) : ∃ adK adV : Nat → Nat, vk_S 6 sLn sBy adK adV (wo_B s.heap.size) s s.heap ∧ ∀ i : Nat, i < 6 → (sTm i).eval args s none [] s = some (.ref (adK i)) := by
  have hf := flat_of_before _ hgv
  have m1 : ∀ i : Nat, i < 6 → Cond.exactly (sTm i) "java/lang/String" ∈ flatC (Jvm.Cond.and given_1 narrow_1) := by decide +kernel
  have m2 : ∀ i : Nat, i < 6 → Cond.eq (.field (sTm i) "java/lang/String" "coder" "B") (.int 0) ∈ flatC (Jvm.Cond.and given_1 narrow_1) := by decide +kernel
  have m3 : ∀ i : Nat, i < 6 → Cond.arrayOf (.field (sTm i) "java/lang/String" "value" "[B") .byte ∈ flatC (Jvm.Cond.and given_1 narrow_1) := by decide +kernel
  have m4 : ∀ i : Nat, i < 6 → Cond.eq (.length (.field (sTm i) "java/lang/String" "value" "[B")) (.int (Int32.ofNat (sLn.getD i 0))) ∈ flatC (Jvm.Cond.and given_1 narrow_1) := by decide +kernel
  have m5 : ∀ i : Nat, i < 6 → ∀ j : Nat, j < sLn.getD i 0 → Cond.eq (.elem (.field (sTm i) "java/lang/String" "value" "[B") (.int (Int32.ofNat j))) (.int ((sBy.getD i []).getD j 0)) ∈ flatC (Jvm.Cond.and given_1 narrow_1) := by decide +kernel
  have m6 : ∀ i : Nat, i < 6 → ∀ j : Nat, j < 6 → i ≠ j → Cond.not (Cond.eq (sTm i) (sTm j)) ∈ flatC (Jvm.Cond.and given_1 narrow_1) ∨ Cond.not (Cond.eq (sTm j) (sTm i)) ∈ flatC (Jvm.Cond.and given_1 narrow_1) := by decide +kernel
  exact vk_Sof (tm := sTm) (by decide +kernel) (fun i hi => hf _ (m1 i hi)) (fun i hi => hf _ (m2 i hi)) (fun i hi => hf _ (m3 i hi)) (fun i hi => hf _ (m4 i hi)) (fun i hi j hj => hf _ (m5 i hi j hj)) (fun i j hi hj hne => by
    rcases m6 i hi j hj hne with h | h
    · exact Or.inl (hf _ h)
    · exact Or.inr (hf _ h)) lw_hA
theorem vk_S_eq {N : Nat} {len : List Nat} {byt : List (List Int32)} {adK adV adK2 adV2 : Nat → Nat} {A : Nat → Prop} {U : State} {H : Heap} (h : vk_S N len byt adK adV A U H) (e : ∀ i : Nat, i < N → adK2 i = adK i ∧ adV2 i = adV i) : vk_S N len byt adK2 adV2 A U H := by
  refine ⟨fun i hi => ?_, fun i j hi hj hij => ?_⟩
  · rw [(e i hi).1, (e i hi).2]; exact h.1 i hi
  · rw [(e i hi).1, (e j hj).1] at hij; exact h.2 i j hi hj hij
def lw_cA (g adK adV : Nat → Nat) : Nat → ClassId := fun k => if k < 100 then g k else if k < 200 then adK (k - 100) else adV (k - 200)
theorem lw_cK (g adK adV : Nat → Nat) {i : Nat} (h : i < 6) : lw_cA g adK adV (100 + i) = adK i ∧ lw_cA g adK adV (200 + i) = adV i := by
  unfold lw_cA
  rw [if_neg (by omega), if_pos (by omega), if_neg (by omega), if_neg (by omega), Nat.add_sub_cancel_left, Nat.add_sub_cancel_left]
  exact ⟨rfl, rfl⟩
theorem lw_R {s : State} {args : Array Value} (h : ∀ w ∈ tables_1, w.before args s = true) : ∀ i : Nat, i < 6 → (Cond.stringRef "AlarmForge$Reader" (sKx.getD i 0) (sTx.getD i "")).before args s = true := by
  intro i hi
  match i, hi with
  | 0, _ => exact (h _ (List.mem_of_getElem? (i := 520) (by decide +kernel)))
  | 1, _ => exact (h _ (List.mem_of_getElem? (i := 573) (by decide +kernel)))
  | 2, _ => exact (h _ (List.mem_of_getElem? (i := 574) (by decide +kernel)))
  | 3, _ => exact (h _ (List.mem_of_getElem? (i := 575) (by decide +kernel)))
  | 4, _ => exact (h _ (List.mem_of_getElem? (i := 576) (by decide +kernel)))
  | 5, _ => exact (h _ (List.mem_of_getElem? (i := 581) (by decide +kernel)))
  | k + 6, hk => omega
theorem lw_T {s : State} {args : Array Value} (h : ∀ w ∈ tables_1, w.before args s = true) (hgv : (Jvm.Cond.and given_1 narrow_1).before args s = true) (g : Nat → Nat) : ∃ adK adV : Nat → Nat, wo_T (lw_cA g adK adV) s.heap.size s := by
  have hf := flat_of_before _ hgv
  obtain ⟨adK, adV, hS, hE⟩ := lw_S hgv
  refine ⟨adK, adV, vk_S_eq hS (fun i hi => lw_cK g adK adV hi), fun i hi => ?_, ?_, ?_⟩
  · rw [(lw_cK g adK adV hi).1]
    exact vk_R.of (A := args) (lw_R h i hi) (hE i hi)
  · exact va_Zof (h _ (List.mem_of_getElem? (i := 534) (by decide +kernel))) (h _ (List.mem_of_getElem? (i := 16) (by decide +kernel))) (va_eqi (hf (.eq (.static "java/lang/String" "COMPACT_STRINGS" "Z") (.int 1)) (by decide +kernel))) lw_hA
  · exact va_Zqof (h _ (List.mem_of_getElem? (i := 550) (by decide +kernel))) (h _ (List.mem_of_getElem? (i := 18) (by decide +kernel))) (hf (.isRef (.static "jdk/internal/util/Preconditions" "SIOOBE_FORMATTER" "Ljava/util/function/BiFunction;")) (by decide +kernel)) lw_hA
theorem lw_K0 {s : State} {args : Array Value} (hts : ∀ w ∈ gt, w.before args s = true) (h4 : va_AO "AlarmForge$Value" s) (h5 : va_AO "AlarmForge$State" s) (h6 : va_AO "AlarmForge$Statement" s) : ∃ (D : va_G) (cA : Nat → ClassId), va_K D cls (wo_tys cA) s := by
  refine st_K (fun k q hq => ?_) (fun k ty hk => ?_)
  · match k, hq with
    | 0, hq => cases hq; exact u_known hts ic_a (hts (.instantiable "AlarmForge" 9) (gt_of (i := 26) (by decide +kernel) (by decide +kernel)))
    | 1, hq => cases hq; exact u_known hts ic_rd (hts (.instantiable "AlarmForge$Reader" 9) (gt_of (i := 40) (by decide +kernel) (by decide +kernel)))
    | 2, hq => cases hq; exact u_known hts ic_pa (hts (.instantiable "AlarmForge$Parser" 4) (gt_of (i := 34) (by decide +kernel) (by decide +kernel)))
    | 3, hq => cases hq; exact u_known hts ic_pg (hts (.instantiable "AlarmForge$Program" 7) (gt_of (i := 95) (by decide +kernel) (by decide +kernel)))
    | 4, hq => cases hq; exact u_known hts ic_st (hts (.instantiable "AlarmForge$Statement" 10) (gt_of (i := 102) (by decide +kernel) (by decide +kernel)))
    | 5, hq => cases hq; exact u_known hts ic_ru (hts (.instantiable "AlarmForge$Runner" 11) (gt_of (i := 195) (by decide +kernel) (by decide +kernel)))
    | 6, hq => cases hq; exact u_known hts ic_an (hts (.instantiable "AlarmForge$Analyser" 11) (gt_of (i := 243) (by decide +kernel) (by decide +kernel)))
    | 7, hq => cases hq; exact u_known hts ic_sa (hts (.instantiable "AlarmForge$State" 3) (gt_of (i := 249) (by decide +kernel) (by decide +kernel)))
    | 8, hq => cases hq; exact u_known hts ic_va (hts (.instantiable "AlarmForge$Value" 5) (gt_of (i := 256) (by decide +kernel) (by decide +kernel)))
    | 9, hq => cases hq; exact u_known hts ic_q (hts (.instantiable "AlarmForgeModel" 68) (gt_of (i := 1154) (by decide +kernel) (by decide +kernel)))
    | k + 10, hq => cases hq
  · match k, hk with
    | 0, hk => cases hk; exact st_tyP (fun _ h => nomatch h) (hts (.arrayClass .int) (gt_of (i := 78) (by decide +kernel) (by decide +kernel)))
    | 1, hk => cases hk; exact st_tyP (fun _ h => nomatch h) (hts (.arrayClass .long) (gt_of (i := 1364) (by decide +kernel) (by decide +kernel)))
    | 2, hk => cases hk; exact st_tyP (fun _ h => nomatch h) (hts (.arrayClass .boolean) (gt_of (i := 241) (by decide +kernel) (by decide +kernel)))
    | 3, hk => cases hk; exact st_tyP (fun _ h => nomatch h) (hts (.arrayClass .char) (gt_of (i := 77) (by decide +kernel) (by decide +kernel)))
    | 4, hk => cases hk; exact st_tyO (va_AO.use h4 (A := args))
    | 5, hk => cases hk; exact st_tyO (va_AO.use h5 (A := args))
    | 6, hk => cases hk; exact st_tyO (va_AO.use h6 (A := args))
    | k + 7, hk => cases hk
theorem lw_all {s : State} {args : Array Value} (hts0 : ∀ w ∈ lw_tbl, w.before args s = true) (hgv : (Jvm.Cond.and given_1 narrow_1).before args s = true) : ∃ (D : va_G) (cA : Nat → ClassId), va_K D cls (wo_tys cA) s ∧ wo_G cA s.heap.size s := by
  have hts : ∀ w ∈ gt, w.before args s = true := fun w hw => hts0 w (List.mem_filter.mp hw).1
  have h : ∀ w ∈ tables_1, w.before args s = true := fun w hw => hts0 w (List.mem_append_right _ hw)
  have hf := flat_of_before _ hgv
  have h4 : va_AO "AlarmForge$Value" s := (va_AO.of (h _ (List.mem_of_getElem? (i := 255) (by decide +kernel))))
  have h5 : va_AO "AlarmForge$State" s := (va_AO.of (h _ (List.mem_of_getElem? (i := 299) (by decide +kernel))))
  have h6 : va_AO "AlarmForge$Statement" s := (va_AO.of (h _ (List.mem_of_getElem? (i := 101) (by decide +kernel))))
  obtain ⟨D, g, hK⟩ := lw_K0 hts h4 h5 h6
  obtain ⟨adK, adV, hT⟩ := lw_T h hgv g
  have he : wo_tys (lw_cA g adK adV) = wo_tys g := rfl
  exact ⟨D, lw_cA g adK adV, by rw [he]; exact hK, fun w hw hn => va_Nw.of (isNw_on hn) (h w hw), (st_Z (h _ (List.mem_of_getElem? (i := 422) (by decide +kernel))) (hf (.isRef (.static Bundle.tN "UNASSIGNED_STACK" Bundle.steD)) (by decide +kernel))), (st_Z (h _ (List.mem_of_getElem? (i := 424) (by decide +kernel))) (hf (.isRef (.static Bundle.tN "SUPPRESSED_SENTINEL" Bundle.listD)) (by decide +kernel))), h4, h5, h6, lw_C hgv, lw_W h hgv, hT⟩
theorem d_lw_law_0 : decode code 0 = .ok (.new 8, 3) := by decide +kernel
theorem d_lw_law_3 : decode code 3 = .ok (.dup, 1) := by decide +kernel
theorem d_lw_law_4 : decode code 4 = .ok (.invokespecial 53, 3) := by decide +kernel
theorem d_lw_law_7 : decode code 7 = .ok (.astore_n 1, 1) := by decide +kernel
theorem d_lw_law_8 : decode code 8 = .ok (.new 54, 3) := by decide +kernel
theorem d_lw_law_11 : decode code 11 = .ok (.dup, 1) := by decide +kernel
theorem d_lw_law_12 : decode code 12 = .ok (.invokespecial 56, 3) := by decide +kernel
theorem d_lw_law_15 : decode code 15 = .ok (.astore_n 2, 1) := by decide +kernel
theorem d_lw_law_16 : decode code 16 = .ok (.iconst 1, 1) := by decide +kernel
theorem d_lw_law_17 : decode code 17 = .ok (.newarray .long, 2) := by decide +kernel
theorem d_lw_law_19 : decode code 19 = .ok (.astore_n 3, 1) := by decide +kernel
theorem d_lw_law_20 : decode code 20 = .ok (.iconst 0, 1) := by decide +kernel
theorem d_lw_law_21 : decode code 21 = .ok (.istore 4, 2) := by decide +kernel
set_option maxHeartbeats 40000000 in
set_option maxRecDepth 100000 in
theorem whole_start {p : Program} {e : Env} {s : State} {m : MethodId} {below : List Frame} {meth : Method} {c : Code} (l : Launch) (hst : l.stackTraces = false) {b L : Nat} {xs : Nat → Int32} (hL : L ≤ 1536) (C0 : lw_At p s m meth c b L xs) : W p l e room_1 s m #[Value.ref b] below meth c s.heap [] 0 0 (lw_Z below #[Value.ref b] s) (entryFrame m ([Value.ref b] : List Value).toArray 7) := by
  obtain ⟨hx, hb, hr, hml, hown, hts0, hX, hbl, hlk, hgv⟩ := id C0
  have hts : ∀ w ∈ gt, w.before #[Value.ref b] s = true := fun w hw => hts0 w (List.mem_filter.mp hw).1
  obtain ⟨D, cA, hK, hG⟩ := lw_all hts0 hgv
  have hZ : wz D cls cA s.heap.size s 0 (fun _ => none) 0 (fun _ => none) s.heap [] := st_wz
  obtain ⟨base, hbase⟩ : ∃ base, base = s.heap.size := ⟨_, rfl⟩
  rw [← hbase] at hG hZ
  have hbb : b < base := by rw [hbase]; exact hbl
  have hbs : s.heap.size ≤ base := by rw [hbase]; exact Nat.le_refl _
  obtain ⟨w', h⟩ := law_true hL xs
  unfold f_lw_law f_lw_pre at h
  have hl := lv_entry ([.ref b]) (n := 7) (Nat.le_of_ble_eq_true rfl)
  rw [lg_entry_eq]
  generalize (lg_sl ([.ref b]) ++ List.replicate (7 - (lg_sl ([.ref b])).length) Slot.unset).toArray = ls at hl ⊢
  have hl : lv_has ls 7 [(0, .ref b)] := hl
  replace h := bs h
  obtain ⟨w, h, hL0⟩ := h
  refine wo_newS (ci := 0) (fs := [.int 0, .int 0, .null, .null, .null, .null, .int 0, .null, .null]) (C := Rc_a) (T := Fc_a) (N := 9) hx hb hts ic_a tc_a tc_a_ok hown (hts (.classLink "AlarmForgeLaw" 8 "AlarmForge") (gt_of (i := 25) (by decide +kernel) (by decide +kernel))) (hts (.instantiable "AlarmForge" 9) (gt_of (i := 26) (by decide +kernel) (by decide +kernel))) (hts (.initialized "AlarmForge") (gt_of (i := 1) (by decide +kernel) (by decide +kernel))) hK hZ.1 hZ.2.1 rfl rfl (by decide +kernel) (Nat.le_of_ble_eq_true rfl) (Nat.le_of_ble_eq_true rfl) d_lw_law_0 (fun H hsn hWn => ?_)
  replace hZ := wz_new hZ hsn hWn
  replace h := bs h
  obtain ⟨w1, hw1, h⟩ := h
  rw [Option.some.inj hw1] at hZ
  refine lv_dup hx hb d_lw_law_3 rfl ?_
  replace h := bs h
  obtain ⟨w2, hw2, h⟩ := h
  refine wo_callK (As := []) (rest := [.ref (base + 0)]) (lc := 373) (n := 0) (y := y_a_init) hx hb hml hown hts hK hG hZ (c_a_init l D cA base hw2) (by decide) (cwI 0 hts (gt_in (gt_of (i := 29) (by decide +kernel) (by decide +kernel))) rfl rfl rfl (hts _ (gt_of (i := 1) (by decide +kernel) (by decide +kernel))) (hts _ (gt_of (i := 27) (by decide +kernel) (by decide +kernel))) (hts _ (gt_of (i := 28) (by decide +kernel) (by decide +kernel))) rfl (by decide +kernel) ⟨(Nat.le_of_ble_eq_true rfl), (Nat.le_of_ble_eq_true rfl)⟩) ⟨by decide +kernel, by decide +kernel⟩ rfl hl.1 rfl (Nat.le_of_ble_eq_true rfl) d_lw_law_4 (fun H locs hZ => ?_)
  refine W.widen (k := 373) (n := 484900) (by decide +kernel) (by decide +kernel) ?_
  refine lv_astore_n (lv' := [(1, .ref (base + 0)), (0, .ref b)]) hx hb d_lw_law_7 rfl hl (by decide) rfl (fun ls hl => ?_)
  refine wo_newS (ci := 9) (fs := [.null, .null, .int 0, .int 0, .int 0, .int 0, .int 0, .int 0, .int 0, .null, .null, .null, .null, .null, .null, .null, .null, .null, .null, .null, .null, .null, .null, .null, .null, .null, .null, .int 0, .int 0, .int 0, .int 0, .int 0, .int 0, .int 0, .int 0, .null, .null, .null, .null, .null, .null, .null, .int 0, .int 0, .int 0, .null, .null, .null, .null, .null, .int 0, .int 0, .int 0, .int 0, .null, .null, .null, .null, .null, .null, .null, .null, .null, .null, .int 0, .int 0, .int 0, .int 0]) (C := Rc_q) (T := Fc_q) (N := 68) hx hb hts ic_q tc_q tc_q_ok hown (hts (.classLink "AlarmForgeLaw" 54 "AlarmForgeModel") (gt_of (i := 1153) (by decide +kernel) (by decide +kernel))) (hts (.instantiable "AlarmForgeModel" 68) (gt_of (i := 1154) (by decide +kernel) (by decide +kernel))) (hts (.initialized "AlarmForgeModel") (gt_of (i := 10) (by decide +kernel) (by decide +kernel))) hK hZ.1 hZ.2.1 rfl rfl (by decide +kernel) (Nat.le_of_ble_eq_true rfl) (Nat.le_of_ble_eq_true rfl) d_lw_law_8 (fun H hsn hWn => ?_)
  replace hZ := wz_new hZ hsn hWn
  replace h := bs h
  obtain ⟨w3, hw3, h⟩ := h
  rw [Option.some.inj hw3] at hZ
  refine lv_dup hx hb d_lw_law_11 rfl ?_
  replace h := bs h
  obtain ⟨w4, hw4, h⟩ := h
  refine wo_callK (As := []) (rest := [.ref (base + 373)]) (lc := 416) (n := 0) (y := y_q_init) hx hb hml hown hts hK hG hZ (c_q_init l D cA base hw4) (by decide) (cwI 0 hts (gt_in (gt_of (i := 1157) (by decide +kernel) (by decide +kernel))) rfl rfl rfl (hts _ (gt_of (i := 10) (by decide +kernel) (by decide +kernel))) (hts _ (gt_of (i := 1155) (by decide +kernel) (by decide +kernel))) (hts _ (gt_of (i := 1156) (by decide +kernel) (by decide +kernel))) rfl (by decide +kernel) ⟨(Nat.le_of_ble_eq_true rfl), (Nat.le_of_ble_eq_true rfl)⟩) ⟨by decide +kernel, by decide +kernel⟩ rfl hl.1 rfl (Nat.le_of_ble_eq_true rfl) d_lw_law_12 (fun H locs hZ => ?_)
  refine W.widen (k := 416) (n := 540800) (by decide +kernel) (by decide +kernel) ?_
  refine lv_astore_n (lv' := [(2, .ref (base + 373)), (1, .ref (base + 0)), (0, .ref b)]) hx hb d_lw_law_15 rfl hl (by decide) rfl (fun ls hl => ?_)
  refine lv_iconst (v := (1 : Int32)) hx hb d_lw_law_16 (by decide) ?_
  refine wo_newaS (t := 1) (ty := .long) (atype := .long) (N' := 1) (a0 := (1, .inr (.inl (fun _ => 0)))) hx hb (hts (.arrayClass .long) (gt_of (i := 1364) (by decide +kernel) (by decide +kernel))) rfl hK hZ.1 hZ.2.1 rfl rfl (na_1 _) (by decide +kernel) (by decide +kernel) (by decide +kernel) (Nat.le_of_ble_eq_true rfl) (Nat.le_of_ble_eq_true rfl) d_lw_law_17 (fun H hsn hWn => ?_)
  replace hZ := wz_new hZ hsn hWn
  cases h
  refine lv_astore_n (lv' := [(3, .ref (base + 416)), (2, .ref (base + 373)), (1, .ref (base + 0)), (0, .ref b)]) hx hb d_lw_law_19 rfl hl (by decide) rfl (fun ls hl => ?_)
  refine lv_iconst (v := (0 : Int32)) hx hb d_lw_law_20 (by decide) ?_
  refine lv_istore (lv' := [(4, .int 0), (3, .ref (base + 416)), (2, .ref (base + 373)), (1, .ref (base + 0)), (0, .ref b)]) hx hb d_lw_law_21 hl (by decide) rfl (fun ls hl => ?_)
  refine W.widen (k := 417 + 0) (n := 542100 + 6 * 0) (by decide +kernel) (by decide +kernel) ?_
  exact j_lw_loop hst C0 hbb hbs hK hG 513 0 373 416 0 _ hL0 0 _ _ _ hZ.1 (lv_sub hl [4, 3, 2, 1, 0] rfl) (by decide)
