/-! Rows over the map: one for each instruction that reads or writes cells; starts, ends and calls of methods. -/
/-- the tables' words that stay good in every later state -/
def gt : List Cond := lw_tbl.filter goodWord
theorem gt_of {i : Nat} {w : Cond} (h : tables_1[i]? = some w) (hg : goodWord w = true) : w ∈ gt := List.mem_filter.mpr ⟨List.mem_append_right _ (List.mem_of_getElem? h), hg⟩
theorem gt_sel {i : Nat} {w : Cond} (h : (k2_sels lw_privs)[i]? = some w) (hg : goodWord w = true) : w ∈ gt := List.mem_filter.mpr ⟨List.mem_append_left _ (List.mem_of_getElem? h), hg⟩
theorem gt_good {w : Cond} (h : w ∈ gt) : goodWord w = true := (List.mem_filter.mp h).2
theorem gt_in {b : Cond} (hb : b ∈ gt) : GoodIn gt (b :: gt) := fun w hw => by
  rcases List.mem_cons.mp hw with h | h
  · rw [h]; exact ⟨hb, good_of_word (gt_good hb)⟩
  · exact ⟨h, good_of_word (gt_good h)⟩
theorem gt_cons {b : Cond} {ws : List Cond} (hb : b ∈ gt) (h : GoodIn gt ws) : GoodIn gt (b :: ws) := fun w hw => by
  rcases List.mem_cons.mp hw with h1 | h1
  · rw [h1]; exact ⟨hb, good_of_word (gt_good hb)⟩
  · exact h w h1
def wo_S (D : va_G) (cl : List vw_C) (cA : Nat → ClassId) (base : Nat) (s : State) (w : WW) (H : Heap) (locs : List Loc) : Prop := wo_R D cl cA base w H ∧ va_S (wo_B base) s.heap H locs ∧ base ≤ s.heap.size
def wo_Q (D : va_G) (cl : List vw_C) (cA : Nat → ClassId) (base : Nat) (ov : Option Value) (w' : WW) : Array Value → State → Outcome → State → Prop := fun _ st o t => o = .returned ov ∧ wo_R D cl cA base w' t.heap ∧ va_F (wo_B base) st t
/-- words that no list of good words holds: those of nest mates' private members -/
def isNw : Cond → Bool
  | .fieldLinkNest .. => true
  | .methodLinkNest .. => true
  | .castable .. => true
  | .declares .. => true
  | _ => false
def wo_N (U : State) : Prop := ∀ w ∈ tables_1, isNw w = true → va_Nw w U
theorem wo_N.warm {s U : State} (hW : s.WarmedH U.vm) (h : wo_N s) : wo_N U := by
  intro w hw hn
  have h1 := h w hw hn
  unfold isNw at hn
  split at hn
  · exact va_Nw.warmF hW h1
  · exact va_Nw.warmM hW h1
  · exact va_Nw.warmC hW h1
  · exact va_Nw.warmD hW h1
  · cases hn
theorem wo_N.same {s U : State} (hv : s.vm = U.vm) (h : wo_N s) : wo_N U := by
  intro w hw hn
  have h1 := h w hw hn
  unfold isNw at hn
  split at hn
  · exact va_Nw.same rfl hv h1
  · exact va_Nw.same rfl hv h1
  · exact va_Nw.same rfl hv h1
  · exact va_Nw.same rfl hv h1
  · cases hn
/-- a static field below the ground: where it lies, and that it holds a reference or null -/
def wo_Z (C n d : String) (base : Nat) (U : State) : Prop := ∃ (cf : ClassId) (k : Class) (i : Nat) (f : Field) (a : Nat) (cell : Cell) (v : Value), U.vm.findClass C = some cf ∧ U.fieldFound? C n d = some (cf, k, i, f) ∧ f.isStatic = true ∧ k.statics = some a ∧ U.heap[a]? = some cell ∧ cell.vm.isStatics = true ∧ cell.cls = cf ∧ f.slot < cell.slots.size ∧ k.staticTypes[f.slot]? = some f.type ∧ a < base ∧ cell.slots[f.slot]? = some v ∧ v.isRef = true
theorem wo_Z.keep {C n d : String} {base : Nat} {s U : State} (hv : s.vm.Alike U.vm) (hH : ∀ q : Nat, q < base → U.heap[q]? = s.heap[q]?) (h : wo_Z C n d base s) : wo_Z C n d base U := by
  obtain ⟨cf, k, i, f, a, cell, v, h1, h2, h3, h4, h5, h6, h7, h8, h9, h10, h11, h12⟩ := h
  obtain ⟨k2, g1, g2⟩ := State.fieldFound?_setVm hv h2
  exact ⟨cf, k2, i, f, a, cell, v, by rw [hv.findClass]; exact h1, g1, h3, by rw [g2]; exact h4, by rw [hH a h10]; exact h5, h6, h7, h8, by rw [g2]; exact h9, h10, h11, h12⟩
theorem wo_Z.lays {C n d : String} {base : Nat} {s : State} {args : Array Value} (h : wo_Z C n d base s) : (Cond.laysStatic C n d).before args s = true := by
  obtain ⟨cf, k, i, f, a, cell, v, h1, h2, h3, h4, h5, h6, h7, h8, h9, -, -, -⟩ := h
  exact Cond.laysStatic_of h1 h2 h3 h4 h5 h6 h7 h8 h9
theorem wo_Z.ref {C n d : String} {base : Nat} {s : State} {args : Array Value} (h : wo_Z C n d base s) : (Cond.isRef (.static C n d)).before args s = true := by
  obtain ⟨cf, k, i, f, a, cell, v, h1, h2, h3, h4, h5, h6, h7, h8, h9, h10, h11, h12⟩ := h
  have he : (Term.static C n d).eval args s none [] s = some v := by simp [Term.eval, State.fieldNamed?, h2, h3, h4, h5, h6, h11]
  simp only [Cond.before, Cond.holds, Cond.value, he]
  cases v <;> simp_all [Value.isRef]
/-- what a state's tables say of two classes of exceptions -/
def wo_no (E N : String) (U : State) : Prop := ∃ (a b : ClassId), U.vm.findClass E = some a ∧ U.vm.findClass N = some b ∧ U.vm.assignable a b = false
theorem wo_no.keep {E N : String} {s U : State} (hv : s.vm.Alike U.vm) (h : wo_no E N s) : wo_no E N U := by
  obtain ⟨a, b, h1, h2, h3⟩ := h
  exact ⟨a, b, by rw [hv.findClass]; exact h1, by rw [hv.findClass]; exact h2, by rw [hv.assignable]; exact h3⟩
def exn : List String := ["java/lang/IllegalArgumentException", "java/lang/IllegalStateException", "java/lang/IndexOutOfBoundsException", "java/lang/ArithmeticException", "java/lang/UnsupportedOperationException"]
def wo_C (U : State) : Prop := ∀ E ∈ exn, ∀ N ∈ exn, E ≠ N → wo_no E N U
theorem wo_C.keep {s U : State} (hv : s.vm.Alike U.vm) (h : wo_C s) : wo_C U := fun E hE N hN hne => (h E hE N hN hne).keep hv
/-- the table of thresholds, and the text constants, below the ground -/
def wsv : List Int32 := [-100, -10, -1, 0, 1, 10, 100]
def wo_W (base : Nat) (U : State) : Prop := ∃ t : Nat, va_Z "AlarmForge" "WIDE_STEPS" "[I" (.ref t) (wo_B base) U U.heap ∧ va_T .int t 7 (fun j => .int (wsv.getD j 0)) (wo_B base) U U.heap
def sKx : List Nat := [64, 70, 72, 74, 76, 86]
def sTx : List String := ["if", "else", "while", "assert", "in", "+-*/%()[]{};=<"]
def sLn : List Nat := [2, 4, 5, 6, 2, 14]
def sBy : List (List Int32) := [[105, 102], [101, 108, 115, 101], [119, 104, 105, 108, 101], [97, 115, 115, 101, 114, 116], [105, 110], [43, 45, 42, 47, 37, 40, 41, 91, 93, 123, 125, 59, 61, 60]]
def wo_T (cA : Nat → ClassId) (base : Nat) (U : State) : Prop := vk_S 6 sLn sBy (fun i => cA (100 + i)) (fun i => cA (200 + i)) (wo_B base) U U.heap ∧ (∀ i : Nat, i < 6 → vk_R "AlarmForge$Reader" (sKx.getD i 0) (sTx.getD i "") (cA (100 + i)) U) ∧ va_Z "java/lang/String" "COMPACT_STRINGS" "Z" (.int 1) (wo_B base) U U.heap ∧ va_Zq "jdk/internal/util/Preconditions" "SIOOBE_FORMATTER" "Ljava/util/function/BiFunction;" (wo_B base) U U.heap
theorem wo_W.keep {base : Nat} {s U : State} (hv : s.vm.Alike U.vm) (hq : ∀ a : Nat, a < s.heap.size → ¬ wo_B base a → U.heap[a]? = s.heap[a]?) (h : wo_W base s) : wo_W base U := by
  obtain ⟨t, h1, h2⟩ := h
  exact ⟨t, (va_Z.moved hv h1).kept hq, (va_T.moved hv h2).kept hq⟩
theorem wo_T.keep {cA : Nat → ClassId} {base : Nat} {s U : State} (hR : ∀ (k a : Nat) (tx : String), vk_R "AlarmForge$Reader" k tx a s → vk_R "AlarmForge$Reader" k tx a U) (hv : s.vm.Alike U.vm) (hq : ∀ a : Nat, a < s.heap.size → ¬ wo_B base a → U.heap[a]? = s.heap[a]?) (h : wo_T cA base s) : wo_T cA base U :=
  ⟨(vk_S.moved hv h.1).kept hq, fun i hi => hR _ _ _ (h.2.1 i hi), (va_Z.moved hv h.2.2.1).kept hq, (va_Zq.moved hv h.2.2.2).kept hq⟩
def wo_G (cA : Nat → ClassId) (base : Nat) (U : State) : Prop := wo_N U ∧ wo_Z Bundle.tN "UNASSIGNED_STACK" Bundle.steD base U ∧ wo_Z Bundle.tN "SUPPRESSED_SENTINEL" Bundle.listD base U ∧ va_AO "AlarmForge$Value" U ∧ va_AO "AlarmForge$State" U ∧ va_AO "AlarmForge$Statement" U ∧ wo_C U ∧ wo_W base U ∧ wo_T cA base U
theorem wo_G.keep {cA : Nat → ClassId} {base : Nat} {s U : State} (hW : s.WarmedH U.vm) (hH : ∀ q : Nat, q < base → U.heap[q]? = s.heap[q]?) (h : wo_G cA base s) : wo_G cA base U := have hq : ∀ a : Nat, a < s.heap.size → ¬ wo_B base a → U.heap[a]? = s.heap[a]? := fun a _ h => hH a (Nat.not_le.mp h)
  ⟨wo_N.warm hW h.1, h.2.1.keep hW.alike hH, h.2.2.1.keep hW.alike hH, va_AO.moved hW.alike h.2.2.2.1, va_AO.moved hW.alike h.2.2.2.2.1, va_AO.moved hW.alike h.2.2.2.2.2.1, h.2.2.2.2.2.2.1.keep hW.alike, h.2.2.2.2.2.2.2.1.keep hW.alike hq, h.2.2.2.2.2.2.2.2.keep (fun _ _ _ h => vk_R.warm hW h) hW.alike hq⟩
theorem wo_G.same {cA : Nat → ClassId} {base : Nat} {s U : State} (hv : s.vm = U.vm) (hH : ∀ q : Nat, q < base → U.heap[q]? = s.heap[q]?) (h : wo_G cA base s) : wo_G cA base U := have hA : s.vm.Alike U.vm := by rw [hv]; exact Vm.Alike.refl _
  have hq : ∀ a : Nat, a < s.heap.size → ¬ wo_B base a → U.heap[a]? = s.heap[a]? := fun a _ h => hH a (Nat.not_le.mp h)
  ⟨wo_N.same hv h.1, h.2.1.keep hA hH, h.2.2.1.keep hA hH, va_AO.moved hA h.2.2.2.1, va_AO.moved hA h.2.2.2.2.1, va_AO.moved hA h.2.2.2.2.2.1, h.2.2.2.2.2.2.1.keep hA, h.2.2.2.2.2.2.2.1.keep hA hq, h.2.2.2.2.2.2.2.2.keep (fun _ _ _ h => vk_R.same hv.symm h) hA hq⟩
def wo_P (D : va_G) (cl : List vw_C) (tys : List (ClassId × FieldType)) (cA : Nat → ClassId) (base : Nat) (av : List Value) (w : WW) : Array Value → State → Prop := va_Pc av (fun U => base ≤ U.heap.size ∧ wo_R D cl cA base w U.heap ∧ va_K D cl tys U ∧ wo_G cA base U)
/-- method y, called with av in the world w, returns ov and leaves w' -/
def mt (l : Launch) (D : va_G) (cl : List vw_C) (tys : List (ClassId × FieldType)) (cA : Nat → ClassId) (base : Nat) (y : MethodName) (ws : List Cond) (rm : Room) (av : List Value) (w : WW) (ov : Option Value) (w' : WW) (mc ms : Nat) : Prop :=
  Met l y ws rm (wo_P D cl tys cA base av w) (wo_Q D cl cA base ov w') mc ms (wo_B base)
theorem wo_blind {D : va_G} {cl : List vw_C} {tys : List (ClassId × FieldType)} {cA : Nat → ClassId} {base : Nat} {av : List Value} {w : WW} : FrameBlind (wo_P D cl tys cA base av w) := fun a U g mk h => by
  obtain ⟨h1, h2, h3, h4, h5⟩ := h
  exact ⟨h1, h2, h3, va_K.moved (u := U) (U := U.calling g mk a) (Vm.Alike.refl U.vm) h4, wo_G.same (s := U) (U := U.calling g mk a) rfl (fun _ _ => rfl) h5⟩
theorem rf_n (C : String) (base : Nat) (r : Option Nat) : narrow (.object C) (rb base r) = rb base r := by cases r <;> rfl
theorem rf_f (C : String) (base : Nat) (r : Option Nat) : fits (.object C) (rb base r) = true := by cases r <;> rfl
theorem rf_nA (t : FieldType) (base : Nat) (r : Option Nat) : narrow (.array t) (rb base r) = rb base r := by cases r <;> rfl
theorem rf_fA (t : FieldType) (base : Nat) (r : Option Nat) : fits (.array t) (rb base r) = true := by cases r <;> rfl
theorem z_n {x : Int32} (h : x = 0 ∨ x = 1) : narrow .boolean (.int x) = .int x := by rcases h with rfl | rfl <;> decide +kernel
theorem z_f {x : Int32} (h : x = 0 ∨ x = 1) : fits .boolean (.int x) = true := by rcases h with rfl | rfl <;> decide +kernel
section WOR
variable {p : Program} {l : Launch} {e : Env} {R : Room} {s : State} {m : MethodId} {args : Array Value} {below : List Frame} {meth : Method} {c : Code} {H : Heap} {locs : List Loc} {cells slots : Nat} {Q : State → Prop}
variable {D : va_G} {cl : List vw_C} {tys : List (ClassId × FieldType)} {cA : Nat → ClassId} {base : Nat} {w w' : WW} {cc : ByteArray} {pc : Nat} {ls : Array Slot} {rest : List Value} {a : Nat}
theorem wo_get (hexec : p.tables.exec = Jvm.exec) (hb : c.code = cc) {own ref C : String} {T : u_T} {N ci index : Nat} {Ts : List Cond} (hts : ∀ w ∈ Ts, w.before args s = true) (hin : ∀ w ∈ u_ws C T N, w ∈ Ts) (hown : s.vm.findClass own = some m.cls) (hK : va_K D cl tys s) (hW : wo_S D cl cA base s w H locs) (hc : cl[ci]? = some (C, T, N)) (k : Nat) (hk : k < N) (hlink : (Cond.fieldLink own index ref (T k).2.1 (T k).2.2.1).before args s = true) (hsame : ∀ x, s.fieldFound? (T k).1 (T k).2.1 (T k).2.2.1 = some x → s.fieldFound? ref (T k).2.1 (T k).2.2.1 = some x) {v : Value} (hv : gb base w a ci k = some v) (hdg : decode cc pc = .ok (.getfield index, 3))
    (kk : W p l e R s m args below meth c H locs cells slots Q (F0 m (pc + 3) ls (v :: rest))) : W p l e R s m args below meth c H locs cells slots Q (F0 m pc ls (.ref (base + a) :: rest)) := by
  obtain ⟨fs, h1, h2⟩ := gb_s hv
  obtain ⟨L, q0, -, hP, -, he⟩ := hW.1.at h1
  exact va_get (D := D) hexec hb hts hin hown hK hP q0 he hc k hk hlink hsame h2 hdg kk
theorem wo_getN (hexec : p.tables.exec = Jvm.exec) (hb : c.code = cc) {own ref C host : String} {T : u_T} {N ci index : Nat} {Ts : List Cond} (hts : ∀ w ∈ Ts, w.before args s = true) (hin : ∀ w ∈ u_ws C T N, w ∈ Ts) (hown : s.vm.findClass own = some m.cls) (hK : va_K D cl tys s) (hW : wo_S D cl cA base s w H locs) (hc : cl[ci]? = some (C, T, N)) (k : Nat) (hk : k < N) (hlink : (Cond.fieldLinkNest own index ref (T k).2.1 (T k).2.2.1 host).before args s = true) (hsame : ∀ x, s.fieldFound? (T k).1 (T k).2.1 (T k).2.2.1 = some x → s.fieldFound? ref (T k).2.1 (T k).2.2.1 = some x) {v : Value} (hv : gb base w a ci k = some v) (hdg : decode cc pc = .ok (.getfield index, 3))
    (kk : W p l e R s m args below meth c H locs cells slots Q (F0 m (pc + 3) ls (v :: rest))) : W p l e R s m args below meth c H locs cells slots Q (F0 m pc ls (.ref (base + a) :: rest)) := by
  obtain ⟨fs, h1, h2⟩ := gb_s hv
  obtain ⟨L, q0, -, hP, -, he⟩ := hW.1.at h1
  exact va_getN (D := D) hexec hb hts hin hown hK hP q0 he hc k hk hlink hsame h2 hdg kk
theorem wo_put (hexec : p.tables.exec = Jvm.exec) (hb : c.code = cc) {own ref C : String} {T : u_T} {N ci index : Nat} {Ts : List Cond} (hts : ∀ w ∈ Ts, w.before args s = true) (hin : ∀ w ∈ u_ws C T N, w ∈ Ts) (ty0 : Nat → FieldType) (hty : ∀ k, k < N → parseFieldDescriptor (T k).2.2.1 = some (ty0 k)) (hnm : ∀ a, a < N → ∀ b, b < N → a ≠ b → (T a).2.1 ≠ (T b).2.1) (hown : s.vm.findClass own = some m.cls) (hK : va_K D cl tys s) (hW : wo_S D cl cA base s w H locs) (hc : cl[ci]? = some (C, T, N)) (k : Nat) (hk : k < N) (hlink : (Cond.fieldLink own index ref (T k).2.1 (T k).2.2.1).before args s = true) (hsame : ∀ x, s.fieldFound? (T k).1 (T k).2.1 (T k).2.2.1 = some x → s.fieldFound? ref (T k).2.1 (T k).2.2.1 = some x) (hfin : (T k).2.2.2 = false) {v : Value} (hn : narrow (ty0 k) v = v) (hfit : fits (ty0 k) v = true) (hv : pb base w w' a ci k v)
    (hdg : decode cc pc = .ok (.putfield index, 3)) (kk : ∀ (H1 : Heap) (locs1 : List Loc), wo_S D cl cA base s w' H1 locs1 → W p l e R s m args below meth c H1 locs1 cells slots Q (F0 m (pc + 3) ls rest)) : W p l e R s m args below meth c H locs cells slots Q (F0 m pc ls (v :: .ref (base + a) :: rest)) := by
  obtain ⟨fs, v0, h1, h2, rfl, rfl⟩ := pb_s hv
  obtain ⟨L, q0, hL, hP, hD, he⟩ := hW.1.at h1
  exact va_put (D := D) hexec hb hts hin ty0 hty hnm hown hK hP hD hW.2.1 q0 he hc k hk hlink hsame hfin (hty k hk) hn hfit h2 hdg (fun H1 locs1 hP1 hD1 hS1 => kk H1 locs1 ⟨wo_R.upd (e := .inr (ci, fs.set k v0)) hL hD h1 he (by rw [wo_e_set]; exact hP1) (by rw [wo_e_set]; exact hD1), hS1, hW.2.2⟩)
theorem wo_putN (hexec : p.tables.exec = Jvm.exec) (hb : c.code = cc) {own ref C host : String} {T : u_T} {N ci index : Nat} {Ts : List Cond} (hts : ∀ w ∈ Ts, w.before args s = true) (hin : ∀ w ∈ u_ws C T N, w ∈ Ts) (ty0 : Nat → FieldType) (hty : ∀ k, k < N → parseFieldDescriptor (T k).2.2.1 = some (ty0 k)) (hnm : ∀ a, a < N → ∀ b, b < N → a ≠ b → (T a).2.1 ≠ (T b).2.1) (hown : s.vm.findClass own = some m.cls) (hK : va_K D cl tys s) (hW : wo_S D cl cA base s w H locs) (hc : cl[ci]? = some (C, T, N)) (k : Nat) (hk : k < N) (hlink : (Cond.fieldLinkNest own index ref (T k).2.1 (T k).2.2.1 host).before args s = true) (hsame : ∀ x, s.fieldFound? (T k).1 (T k).2.1 (T k).2.2.1 = some x → s.fieldFound? ref (T k).2.1 (T k).2.2.1 = some x) (hfin : (T k).2.2.2 = false) {v : Value} (hn : narrow (ty0 k) v = v) (hfit : fits (ty0 k) v = true) (hv : pb base w w' a ci k v)
    (hdg : decode cc pc = .ok (.putfield index, 3)) (kk : ∀ (H1 : Heap) (locs1 : List Loc), wo_S D cl cA base s w' H1 locs1 → W p l e R s m args below meth c H1 locs1 cells slots Q (F0 m (pc + 3) ls rest)) : W p l e R s m args below meth c H locs cells slots Q (F0 m pc ls (v :: .ref (base + a) :: rest)) := by
  obtain ⟨fs, v0, h1, h2, rfl, rfl⟩ := pb_s hv
  obtain ⟨L, q0, hL, hP, hD, he⟩ := hW.1.at h1
  exact va_putN (D := D) hexec hb hts hin ty0 hty hnm hown hK hP hD hW.2.1 q0 he hc k hk hlink hsame hfin (hty k hk) hn hfit h2 hdg (fun H1 locs1 hP1 hD1 hS1 => kk H1 locs1 ⟨wo_R.upd (e := .inr (ci, fs.set k v0)) hL hD h1 he (by rw [wo_e_set]; exact hP1) (by rw [wo_e_set]; exact hD1), hS1, hW.2.2⟩)
theorem wo_putF (hexec : p.tables.exec = Jvm.exec) (hb : c.code = cc) {own ref C : String} {T : u_T} {N ci index : Nat} {Ts : List Cond} (hts : ∀ w ∈ Ts, w.before args s = true) (hin : ∀ w ∈ u_ws C T N, w ∈ Ts) (ty0 : Nat → FieldType) (hty : ∀ k, k < N → parseFieldDescriptor (T k).2.2.1 = some (ty0 k)) (hnm : ∀ a, a < N → ∀ b, b < N → a ≠ b → (T a).2.1 ≠ (T b).2.1) (hown : s.vm.findClass own = some m.cls) (hK : va_K D cl tys s) (hW : wo_S D cl cA base s w H locs) (hc : cl[ci]? = some (C, T, N)) (k : Nat) (hk : k < N) (hlink : (Cond.fieldLink own index ref (T k).2.1 (T k).2.2.1).before args s = true) (hsame : ∀ x, s.fieldFound? (T k).1 (T k).2.1 (T k).2.2.1 = some x → s.fieldFound? ref (T k).2.1 (T k).2.2.1 = some x) (hfin : (T k).2.2.2 = true) (hin2 : meth.name = "<init>") (hdecl : (T k).1 = own) {v : Value} (hn : narrow (ty0 k) v = v) (hfit : fits (ty0 k) v = true) (hv : pb base w w' a ci k v)
    (hdg : decode cc pc = .ok (.putfield index, 3)) (kk : ∀ (H1 : Heap) (locs1 : List Loc), wo_S D cl cA base s w' H1 locs1 → W p l e R s m args below meth c H1 locs1 cells slots Q (F0 m (pc + 3) ls rest)) : W p l e R s m args below meth c H locs cells slots Q (F0 m pc ls (v :: .ref (base + a) :: rest)) := by
  obtain ⟨fs, v0, h1, h2, rfl, rfl⟩ := pb_s hv
  obtain ⟨L, q0, hL, hP, hD, he⟩ := hW.1.at h1
  exact va_putF (D := D) hexec hb hts hin ty0 hty hnm hown hK hP hD hW.2.1 q0 he hc k hk hlink hsame hfin hin2 hdecl (hty k hk) hn hfit h2 hdg (fun H1 locs1 hP1 hD1 hS1 => kk H1 locs1 ⟨wo_R.upd (e := .inr (ci, fs.set k v0)) hL hD h1 he (by rw [wo_e_set]; exact hP1) (by rw [wo_e_set]; exact hD1), hS1, hW.2.2⟩)
theorem wo_iald (hexec : p.tables.exec = Jvm.exec) (hb : c.code = cc) (hK : va_K D cl tys s) (hW : wo_S D cl cA base s w H locs) {t : Nat} (ht : tys[t]? = some (cA t, .int)) {i x : Int32} (hv : rI w a t i = some x) (hdg : decode cc pc = .ok (.iaload, 1))
    (kk : W p l e R s m args below meth c H locs cells slots Q (F0 m (pc + 1) ls (.int x :: rest))) : W p l e R s m args below meth c H locs cells slots Q (F0 m pc ls (.int i :: .ref (base + a) :: rest)) := by
  obtain ⟨n, f, h1, h2, rfl⟩ := rI_s hv
  obtain ⟨L, q0, -, hP, -, he⟩ := hW.1.at h1
  exact va_iald (D := D) hexec hb hK hP q0 t he ht h2 hdg kk
theorem wo_zald (hexec : p.tables.exec = Jvm.exec) (hb : c.code = cc) (hK : va_K D cl tys s) (hW : wo_S D cl cA base s w H locs) {t : Nat} (ht : tys[t]? = some (cA t, .boolean)) {i x : Int32} (hv : rI w a t i = some x) (hdg : decode cc pc = .ok (.baload, 1))
    (kk : W p l e R s m args below meth c H locs cells slots Q (F0 m (pc + 1) ls (.int x :: rest))) : W p l e R s m args below meth c H locs cells slots Q (F0 m pc ls (.int i :: .ref (base + a) :: rest)) := by
  obtain ⟨n, f, h1, h2, rfl⟩ := rI_s hv
  obtain ⟨L, q0, -, hP, -, he⟩ := hW.1.at h1
  exact va_zald (D := D) hexec hb hK hP q0 t he ht h2 hdg kk
theorem wo_cald (hexec : p.tables.exec = Jvm.exec) (hb : c.code = cc) (hK : va_K D cl tys s) (hW : wo_S D cl cA base s w H locs) {t : Nat} (ht : tys[t]? = some (cA t, .char)) {i x : Int32} (hv : rI w a t i = some x) (hdg : decode cc pc = .ok (.caload, 1))
    (kk : W p l e R s m args below meth c H locs cells slots Q (F0 m (pc + 1) ls (.int x :: rest))) : W p l e R s m args below meth c H locs cells slots Q (F0 m pc ls (.int i :: .ref (base + a) :: rest)) := by
  obtain ⟨n, f, h1, h2, rfl⟩ := rI_s hv
  obtain ⟨L, q0, -, hP, -, he⟩ := hW.1.at h1
  exact va_cald (D := D) hexec hb hK hP q0 t he ht h2 hdg kk
theorem wo_lald (hexec : p.tables.exec = Jvm.exec) (hb : c.code = cc) (hK : va_K D cl tys s) (hW : wo_S D cl cA base s w H locs) {t : Nat} (ht : tys[t]? = some (cA t, .long)) {i : Int32} {x : Int64} (hv : rL w a t i = some x) (hdg : decode cc pc = .ok (.laload, 1))
    (kk : W p l e R s m args below meth c H locs cells slots Q (F0 m (pc + 1) ls (.long x :: rest))) : W p l e R s m args below meth c H locs cells slots Q (F0 m pc ls (.int i :: .ref (base + a) :: rest)) := by
  obtain ⟨n, f, h1, h2, rfl⟩ := rL_s hv
  obtain ⟨L, q0, -, hP, -, he⟩ := hW.1.at h1
  exact va_lald (D := D) hexec hb hK hP q0 t he ht h2 hdg kk
theorem wo_aald (hexec : p.tables.exec = Jvm.exec) (hb : c.code = cc) (hK : va_K D cl tys s) (hW : wo_S D cl cA base s w H locs) {t : Nat} {C : String} (ht : tys[t]? = some (cA t, .object C)) {i : Int32} {x : Nat} (hv : rR w a t i = some (some x)) (hdg : decode cc pc = .ok (.aaload, 1))
    (kk : W p l e R s m args below meth c H locs cells slots Q (F0 m (pc + 1) ls (.ref (base + x) :: rest))) : W p l e R s m args below meth c H locs cells slots Q (F0 m pc ls (.int i :: .ref (base + a) :: rest)) := by
  obtain ⟨n, f, h1, h2, h3⟩ := rR_s hv
  obtain ⟨L, q0, -, hP, -, he⟩ := hW.1.at h1
  have he' : (va_pl L (wo_f cA base w))[q0]? = some (base + a, .inl (cA t, n, .inr (.inr (.inr (.inr (fun i => (f i).map (fun x => base + x))))))) := he
  refine va_aldq (D := D) hexec hb hK hP q0 t he' ht h2 hdg ?_
  show W p l e R s m args below meth c H locs cells slots Q (F0 m (pc + 1) ls (va_rf ((f i.toNatClampNeg).map (fun x => base + x)) :: rest))
  rw [← h3]
  exact kk
theorem wo_iast (hexec : p.tables.exec = Jvm.exec) (hb : c.code = cc) (hK : va_K D cl tys s) (hW : wo_S D cl cA base s w H locs) {t : Nat} (ht : tys[t]? = some (cA t, .int)) {i x : Int32} (hv : sI w a t i x = some w') (hdg : decode cc pc = .ok (.iastore, 1))
    (kk : ∀ (H1 : Heap) (locs1 : List Loc), wo_S D cl cA base s w' H1 locs1 → W p l e R s m args below meth c H1 locs1 cells slots Q (F0 m (pc + 1) ls rest)) : W p l e R s m args below meth c H locs cells slots Q (F0 m pc ls (.int x :: .int i :: .ref (base + a) :: rest)) := by
  obtain ⟨n, f, h1, h2, rfl⟩ := sI_s hv
  obtain ⟨L, q0, hL, hP, hD, he⟩ := hW.1.at h1
  exact va_iast (D := D) hexec hb hK hP hD hW.2.1 q0 t he ht h2 hdg (fun H1 locs1 hP1 hD1 hS1 => kk H1 locs1 ⟨wo_R.upd (e := .inl (t, n, .inl (upd f i.toNatClampNeg x))) hL hD h1 he hP1 hD1, hS1, hW.2.2⟩)
theorem wo_zast (hexec : p.tables.exec = Jvm.exec) (hb : c.code = cc) (hK : va_K D cl tys s) (hW : wo_S D cl cA base s w H locs) {t : Nat} (ht : tys[t]? = some (cA t, .boolean)) {i x : Int32} (hv : sI w a t i (vp_nar .boolean x) = some w') (hdg : decode cc pc = .ok (.bastore, 1))
    (kk : ∀ (H1 : Heap) (locs1 : List Loc), wo_S D cl cA base s w' H1 locs1 → W p l e R s m args below meth c H1 locs1 cells slots Q (F0 m (pc + 1) ls rest)) : W p l e R s m args below meth c H locs cells slots Q (F0 m pc ls (.int x :: .int i :: .ref (base + a) :: rest)) := by
  obtain ⟨n, f, h1, h2, rfl⟩ := sI_s hv
  obtain ⟨L, q0, hL, hP, hD, he⟩ := hW.1.at h1
  exact va_zast (D := D) hexec hb hK hP hD hW.2.1 q0 t he ht h2 hdg (fun H1 locs1 hP1 hD1 hS1 => kk H1 locs1 ⟨wo_R.upd (e := .inl (t, n, .inl (upd f i.toNatClampNeg (vp_nar .boolean x)))) hL hD h1 he hP1 hD1, hS1, hW.2.2⟩)
theorem wo_cast (hexec : p.tables.exec = Jvm.exec) (hb : c.code = cc) (hK : va_K D cl tys s) (hW : wo_S D cl cA base s w H locs) {t : Nat} (ht : tys[t]? = some (cA t, .char)) {i x : Int32} (hv : sI w a t i (vp_nar .char x) = some w') (hdg : decode cc pc = .ok (.castore, 1))
    (kk : ∀ (H1 : Heap) (locs1 : List Loc), wo_S D cl cA base s w' H1 locs1 → W p l e R s m args below meth c H1 locs1 cells slots Q (F0 m (pc + 1) ls rest)) : W p l e R s m args below meth c H locs cells slots Q (F0 m pc ls (.int x :: .int i :: .ref (base + a) :: rest)) := by
  obtain ⟨n, f, h1, h2, rfl⟩ := sI_s hv
  obtain ⟨L, q0, hL, hP, hD, he⟩ := hW.1.at h1
  exact va_cast (D := D) hexec hb hK hP hD hW.2.1 q0 t he ht h2 hdg (fun H1 locs1 hP1 hD1 hS1 => kk H1 locs1 ⟨wo_R.upd (e := .inl (t, n, .inl (upd f i.toNatClampNeg (vp_nar .char x)))) hL hD h1 he hP1 hD1, hS1, hW.2.2⟩)
theorem wo_last (hexec : p.tables.exec = Jvm.exec) (hb : c.code = cc) (hK : va_K D cl tys s) (hW : wo_S D cl cA base s w H locs) {t : Nat} (ht : tys[t]? = some (cA t, .long)) {i : Int32} {x : Int64} (hv : sL w a t i x = some w') (hdg : decode cc pc = .ok (.lastore, 1))
    (kk : ∀ (H1 : Heap) (locs1 : List Loc), wo_S D cl cA base s w' H1 locs1 → W p l e R s m args below meth c H1 locs1 cells slots Q (F0 m (pc + 1) ls rest)) : W p l e R s m args below meth c H locs cells slots Q (F0 m pc ls (.long x :: .int i :: .ref (base + a) :: rest)) := by
  obtain ⟨n, f, h1, h2, rfl⟩ := sL_s hv
  obtain ⟨L, q0, hL, hP, hD, he⟩ := hW.1.at h1
  exact va_last (D := D) hexec hb hK hP hD hW.2.1 q0 t he ht h2 hdg (fun H1 locs1 hP1 hD1 hS1 => kk H1 locs1 ⟨wo_R.upd (e := .inl (t, n, .inr (.inl (vp_updL f i.toNatClampNeg x)))) hL hD h1 he hP1 hD1, hS1, hW.2.2⟩)
theorem wo_alen (hexec : p.tables.exec = Jvm.exec) (hb : c.code = cc) (hK : va_K D cl tys s) (hW : wo_S D cl cA base s w H locs) {t : Nat} {ty : FieldType} (ht : tys[t]? = some (cA t, ty)) {x : Int32} (hv : al w a t = some x) (hdg : decode cc pc = .ok (.arraylength, 1))
    (kk : W p l e R s m args below meth c H locs cells slots Q (F0 m (pc + 1) ls (.int x :: rest))) : W p l e R s m args below meth c H locs cells slots Q (F0 m pc ls (.ref (base + a) :: rest)) := by
  obtain ⟨y, h1, h2⟩ := al_s hv
  obtain ⟨L, q0, -, hP, -, he⟩ := hW.1.at h1
  exact va_alen (D := D) hexec hb hK hP q0 t he ht ((congrArg Int32.ofNat (ubA_len base y)).trans h2) hdg kk
/-! ends -/
theorem wo_end (hW : wo_S D cl cA base s w H locs) {ov : Option Value} (t : State) (ht : t.heap = H) : wo_Q D cl cA base ov w args s (.returned ov) t := ⟨rfl, by rw [ht]; exact hW.1, hW.2.1.F ht⟩
theorem wo_iret (hexec : p.tables.exec = Jvm.exec) (hb : c.code = cc) (hr : meth.sig.returnType = some .int) (hlk : meth.locks = false) (hW : wo_S D cl cA base s w H locs) {v : Int32} (hdg : decode cc pc = .ok (.ireturn, 1)) : W p l e R s m args below meth c H locs cells slots (MQ below (wo_Q D cl cA base (some (.int v)) w) args s cells slots (wo_B base)) (F0 m pc ls [.int v]) :=
  W.iret hexec hb hr (fun t ht _ => wo_end hW t ht) hW.2.1.2.2 hdg hlk
theorem wo_zret (hexec : p.tables.exec = Jvm.exec) (hb : c.code = cc) (hr : meth.sig.returnType = some .boolean) (hlk : meth.locks = false) (hW : wo_S D cl cA base s w H locs) {v : Int32} (hz : v = 0 ∨ v = 1) (hdg : decode cc pc = .ok (.ireturn, 1)) : W p l e R s m args below meth c H locs cells slots (MQ below (wo_Q D cl cA base (some (.int v)) w) args s cells slots (wo_B base)) (F0 m pc ls [.int v]) :=
  W.zret hexec hb hr (z_n hz) (fun t ht _ => wo_end hW t ht) hW.2.1.2.2 hdg hlk
theorem wo_lret (hexec : p.tables.exec = Jvm.exec) (hb : c.code = cc) (hr : meth.sig.returnType = some .long) (hlk : meth.locks = false) (hW : wo_S D cl cA base s w H locs) {v : Int64} (hdg : decode cc pc = .ok (.lreturn, 1)) : W p l e R s m args below meth c H locs cells slots (MQ below (wo_Q D cl cA base (some (.long v)) w) args s cells slots (wo_B base)) (F0 m pc ls [.long v]) :=
  W.lret hexec hb hr (fun t ht _ => wo_end hW t ht) hW.2.1.2.2 hdg hlk
theorem wo_vret (hexec : p.tables.exec = Jvm.exec) (hb : c.code = cc) (hr : meth.sig.returnType = none) (hlk : meth.locks = false) (hW : wo_S D cl cA base s w H locs) (hdg : decode cc pc = .ok (.return_, 1)) : W p l e R s m args below meth c H locs cells slots (MQ below (wo_Q D cl cA base none w) args s cells slots (wo_B base)) (F0 m pc ls []) :=
  W.vret hexec hb hr (fun t ht _ => wo_end hW t ht) hW.2.1.2.2 hdg hlk
theorem wo_aret (hexec : p.tables.exec = Jvm.exec) (hb : c.code = cc) {C : String} (hr : meth.sig.returnType = some (.object C)) (hlk : meth.locks = false) (hW : wo_S D cl cA base s w H locs) {r : Option Nat} (hdg : decode cc pc = .ok (.areturn, 1)) : W p l e R s m args below meth c H locs cells slots (MQ below (wo_Q D cl cA base (some (rb base r)) w) args s cells slots (wo_B base)) (F0 m pc ls [rb base r]) := by
  rw [rb_rf]
  exact W.aret hexec hb hr (Or.inl ⟨C, rfl⟩) (va_rf_or _) (fun t ht _ => wo_end hW t ht) hW.2.1.2.2 hdg hlk
end WOR
/-! a method's start -/
theorem mt_start {l : Launch} {D : va_G} {cl : List vw_C} {tys : List (ClassId × FieldType)} {cA : Nat → ClassId} {base : Nat} {y : MethodName} {ws' : List Cond} {rm : Room} {av : List Value} {w w' : WW} {ov : Option Value} {mc ms : Nat} {cc : ByteArray} {maxL : Nat} {ret : Option FieldType}
    (hy : plainName y.cls = true) (hn : (lg_sl av).length ≤ maxL)
    (body : ∀ (p : Program) (e : Env) (s : State) (m : MethodId) (below : List Frame) (meth : Method) (c : Code) (ls : Array Slot), p.tables.exec = Jvm.exec → c.code = cc → meth.sig.returnType = ret → c.maxLocals = maxL → s.vm.findClass y.cls = some m.cls → (∀ w ∈ ws', w.before av.toArray s = true) → meth.locks = false → meth.name = y.name → va_K D cl tys s → wo_G cA base s → wo_S D cl cA base s w s.heap [] → lv_has ls maxL (lv_args 0 av) →
      W p l e rm s m av.toArray below meth c s.heap [] 0 0 (MQ below (wo_Q D cl cA base ov w') av.toArray s mc ms (wo_B base)) (F0 m 0 ls [])) :
    mt l D cl tys cA base y (Cond.code y cc maxL ret :: ws') rm av w ov w' mc ms := by
  refine Met.ofW (cc := cc) (maxL := maxL) (ret := ret) hy rfl ?_
  intro p e s m args below meth c s₁ B hml hv
  obtain ⟨rfl, h1, h2, h3, h4⟩ := hv
  have hts := atoms_spec (ws := Cond.code y cc maxL ret :: ws') B.pre
  have hown : s.vm.findClass y.cls = some m.cls := findClass_of_methodNamed B.named
  have hnm : meth.name = y.name := (name_of_methodNamed B.named B.method).1
  have hl := lv_entry av (n := maxL) hn
  rw [lg_entry_eq]
  exact body p e s m below meth c _ B.exec B.bytes B.returns hml hown (fun w hw => hts w (List.mem_cons_of_mem _ hw)) B.notSynchronized hnm h3 h4 ⟨h2, va_S.rf, h1⟩ hl
