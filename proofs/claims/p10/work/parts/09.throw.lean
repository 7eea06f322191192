/-! Exceptions. -/
section ST0
variable {p : Program} {l : Launch} {e : Env} {R : Room} {s : State} {m : MethodId} {args : Array Value} {below : List Frame} {meth : Method} {c : Code} {T : State} {locs : List Loc} {cells slots : Nat}
/-- the state that an invocation of the same method would begin in, were it made now -/
def st_now (s T : State) (m : MethodId) (args : Array Value) (below : List Frame) : State := (T.setVm s.vm).setFrames (.invoking m args :: below)
theorem st_now_room (X : Stand p l e R s m args below meth c T locs cells slots) (hc : cells ≤ R.cells) (hs : slots ≤ R.slots) : (st_now s T m args below).hasRoom e.platform { frames := R.frames, locals := R.locals, cells := R.cells - cells, slots := R.slots - slots } = true := by
  have ht : (T.setVm s.vm).topJava?.isSome := X.here.top
  have hfr : (st_now s T m args below).frames = .invoking m args :: below := State.frames_setFrames _ (State.cur_lt_of_top ht)
  have hlo : (st_now s T m args below).localsInUse = s.localsInUse := by
    rw [State.localsInUse_invoking hfr X.method X.code, State.localsInUse_invoking X.frames X.method X.code]
  have hli : e.platform.stackLimits (st_now s T m args below).me = e.platform.stackLimits s.me := (State.stackLimits_setFrames _ _ _).trans X.limits
  have hby : (st_now s T m args below).me.stackBytes = s.me.stackBytes := (State.stackBytes_setFrames _ _).trans X.bytes
  have hsz : (st_now s T m args below).heap.size ≤ s.heap.size + cells := X.heapSize
  have hus : (st_now s T m args below).slotsUsed ≤ s.slotsUsed + slots := X.used
  have hbk : (st_now s T m args below).slotsTrue = true := X.book
  have h := X.room
  unfold State.hasRoom at h ⊢
  rw [hlo, hfr, hli, hby, hbk]
  rw [X.frames] at h
  simp only [Bool.and_eq_true, decide_eq_true_eq] at h ⊢
  obtain ⟨⟨⟨⟨h1, h2⟩, h3⟩, h4⟩, h5⟩ := h
  exact ⟨⟨⟨⟨h1, h2⟩, by omega⟩, by omega⟩, trivial⟩
theorem st_now_stand (X : Stand p l e R s m args below meth c T locs cells slots) (hc : cells ≤ R.cells) (hs : slots ≤ R.slots) : Stand p l e { frames := R.frames, locals := R.locals, cells := R.cells - cells, slots := R.slots - slots } (st_now s T m args below) m args below meth c T [] 0 0 := by
  have ht : (T.setVm s.vm).topJava?.isSome := X.here.top
  obtain ⟨g0, hg0⟩ := Option.isSome_iff_exists.mp ht
  obtain ⟨r, hr⟩ := State.topJava?_eq_some.mp hg0
  obtain ⟨th, hth, -⟩ := State.frames_cons hr
  have hz : (T.heap.toList.drop T.heap.size) = [] := List.drop_eq_nil_of_le (Nat.le_of_eq Array.length_toList)
  refine { admits := X.admits, cas := X.cas, clock := X.clock, frames := State.frames_setFrames _ (State.cur_lt_of_top ht), room := st_now_room X hc hs, hears := X.hears, method := X.method, code := X.code, here := X.here, tail := X.tail, warmed := X.warmed, limits := ?_, bytes := ?_, same := ⟨?_, Nat.le_refl _, Nat.le_refl _, ?_, ?_, fun a c9 h9 => ⟨c9, h9, rfl, rfl, fun _ _ => rfl⟩⟩ }
  · exact (State.stackLimits_setFrames _ (T.setVm s.vm) _).symm
  · exact (State.stackBytes_setFrames (T.setVm s.vm) _).symm
  · show T.setVm s.vm = { ((T.setVm s.vm).setFrames (.invoking m args :: below)).setFrames (T.setVm s.vm).frames with heap := T.heap, slotsUsed := T.slotsUsed }
    rw [State.setFrames_setFrames, State.setFrames_self hth]
    rfl
  · show T.slotsUsed = T.slotsUsed + ((T.heap.toList.drop T.heap.size).map (·.slots.size)).sum
    rw [hz]; rfl
  · show ((T.heap.toList.drop T.heap.size).map (·.slots.size)).sum ≤ 0
    rw [hz]; exact Nat.le_refl _
end ST0
/-- how a method ends that throws an E and leaves w' -/
def wo_X (D : va_G) (cl : List vw_C) (cA : Nat → ClassId) (base : Nat) (E : String) (w' : WW) (mc ms : Nat) : Array Value → State → Outcome → State → Prop := fun _ st o t =>
  ∃ (q : Addr) (ce : Cell) (L : List Loc), o = .threw q ∧ t.heap[q]? = some ce ∧ ce.vm = .none ∧ st.vm.findClass E = some ce.cls ∧ wo_R D cl cA base w' t.heap ∧ va_F (wo_B base) st t ∧ st.WarmedH t.vm ∧ st.sameButNew ({ t with vm := st.vm } : State) L mc ms ∧ ∀ z ∈ L, wo_B base z.base
def xt (l : Launch) (D : va_G) (cl : List vw_C) (tys : List (ClassId × FieldType)) (cA : Nat → ClassId) (base : Nat) (y : MethodName) (ws : List Cond) (rm : Room) (av : List Value) (w : WW) (E : String) (w' : WW) (mc ms : Nat) : Prop :=
  MetFree l y (headSpec ws rm) (wo_P D cl tys cA base av w) (fun _ _ _ _ _ => True) (wo_X D cl cA base E w' mc ms)
def XQ (below : List Frame) (Qx : Array Value → State → Outcome → State → Prop) (a : Array Value) (s : State) : State → Prop := fun t => ∃ o, t.status = .running ∧ Ended t below o ∧ Qx a s o t
/-- the words of 'new E()' that a caller must hold -/
def ow_ok (w : Cond) : Bool := (decide (w ∈ tables_1) && (goodWord w || isNw w)) || decide (w = .laysStatic Bundle.tN "UNASSIGNED_STACK" Bundle.steD) || decide (w = .laysStatic Bundle.tN "SUPPRESSED_SENTINEL" Bundle.listD) || decide (w = .isRef (.static Bundle.tN "UNASSIGNED_STACK" Bundle.steD)) || decide (w = .isRef (.static Bundle.tN "SUPPRESSED_SENTINEL" Bundle.listD))
theorem ow_at {cA : Nat → ClassId} {base : Nat} {s U : State} {args a2 : Array Value} {ws : List Cond} (hvm : s.vm = U.vm) (hts : ∀ w ∈ gt, w.before args s = true) (hG : wo_G cA base U) (h : ws.all ow_ok = true) : ∀ w ∈ ws, w.before a2 U = true := by
  intro w hw
  have h1 := List.all_eq_true.mp h w hw
  unfold ow_ok at h1
  simp only [Bool.or_eq_true, Bool.and_eq_true, decide_eq_true_eq] at h1
  rcases h1 with (((⟨h2, h3 | h3⟩ | h2) | h2) | h2) | h2
  · exact word_at (s := s) (by rw [← hvm]; exact State.WarmedH.refl s) (good_of_word h3) (hts w (List.mem_filter.mpr ⟨List.mem_append_right _ h2, h3⟩))
  · have h4 := hG.1 w h2 h3
    unfold isNw at h3
    split at h3
    · exact va_Nw.use rfl h4
    · exact va_Nw.use rfl h4
    · exact va_Nw.use rfl h4
    · exact va_Nw.use rfl h4
    · cases h3
  · rw [h2]; exact hG.2.1.lays
  · rw [h2]; exact hG.2.2.1.lays
  · rw [h2]; exact hG.2.1.ref
  · rw [h2]; exact hG.2.2.1.ref
section WOX
variable {p : Program} {l : Launch} {e : Env} {R : Room} {s : State} {m : MethodId} {args : Array Value} {below : List Frame} {meth : Method} {c : Code} {H : Heap} {locs : List Loc} {cells slots : Nat}
variable {D : va_G} {cl : List vw_C} {cA : Nat → ClassId} {base : Nat} {w w' : WW} {cc : ByteArray} {pc : Nat} {ls : Array Slot} {rest : List Value}
theorem wo_R.kept {H1 : Heap} (h : wo_R D cl cA base w H) (hH : ∀ q : Nat, q < H.size → H1[q]? = H[q]?) : wo_R D cl cA base w H1 := by
  obtain ⟨L, h1, h2, h3⟩ := h
  exact ⟨L, h1, h2.kept (fun k q hk => hH q.1 (h2 k q hk).lt), h3⟩
/-- throw new E() -/
theorem wo_throw {own E : String} {names : List String} {ik ic mc ms : Nat} (hx : p.tables.exec = Jvm.exec) (hb : c.code = cc) (hst : l.stackTraces = false) (hown : s.vm.findClass own = some m.cls) (hts : ∀ w ∈ gt, w.before args s = true) (hG : wo_G cA base s) (hW : wo_S D cl cA base s w H locs)
    (hnt : ∀ x ∈ c.exceptionTable.toList, ∀ k : Nat, covers x k = false) (hlk : meth.locks = false) (hE : Bundle.fit E = true) (hn : ∀ n ∈ names, Bundle.fit n = true) (hk : Cond.classLink own ik E ∈ gt) (hi : Cond.initialized E ∈ gt) (hok : (Bundle.ownAtoms0 own ic E names).all ow_ok = true) (hsz : ls.size = c.maxLocals)
    (d0 : decode cc pc = .ok (.new ik, 3)) (d3 : decode cc (pc + 3) = .ok (.dup, 1)) (d4 : decode cc (pc + 4) = .ok (.invokespecial ic, 3)) (d7 : decode cc (pc + 7) = .ok (.athrow, 1))
    (hRf : names.length + 3 < R.frames) (hRl : (rest.map fun v => v.category).sum + (13 * (names.length + 1) + 42) ≤ R.locals) (hRc : cells + 1 ≤ R.cells) (hRs : slots + 6 ≤ R.slots) (hc : cells + 1 ≤ mc) (hs : slots + 6 ≤ ms) :
    W p l e R s m args below meth c H locs cells slots (XQ below (wo_X D cl cA base E w mc ms) args s) (F0 m pc ls rest) := by
  intro T hT X
  have htr : e.platform.stackTraces = false := by rw [X.admits.platform]; exact hst
  have Y := st_now_stand X (by omega) (by omega)
  have hvm : s.vm = (st_now s T m args below).vm := rfl
  have hhp : (st_now s T m args below).heap = H := hT
  have hGn : wo_G cA base (st_now s T m args below) := wo_G.same hvm (fun q hq => by rw [hhp]; exact hW.2.1.2.1 q (Nat.lt_of_lt_of_le hq hW.2.2) (Nat.not_le.mpr hq)) hG
  have hat := ow_at (a2 := args) hvm hts hGn hok
  have hk' : (Cond.classLink own ik E).before args (st_now s T m args below) = true := word_at (s := s) (U := st_now s T m args below) (a' := args) (show s.WarmedH (st_now s T m args below).vm from State.WarmedH.refl s) (good_of_word (gt_good hk)) (hts _ hk)
  have hi' : (Cond.initialized E).before args (st_now s T m args below) = true := word_at (s := s) (U := st_now s T m args below) (a' := args) (show s.WarmedH (st_now s T m args below).vm from State.WarmedH.refl s) (good_of_word (gt_good hi)) (hts _ hi)
  have hown' : (st_now s T m args below).vm.findClass own = some m.cls := hown
  have hins : (Cond.instantiable E 6).before args (st_now s T m args below) = true := hat _ (by simp [Bundle.ownAtoms0])
  obtain ⟨vm1, cX, kX, hfX, hkX, -, -, X1, st1⟩ := Y.newCold hx (own := own) (C := E) (index := ik) (n := 6) hown' hk' hins hi' (g := F0 m pc ls rest) rfl (by rw [hb]; exact d0) (by show 0 + 1 ≤ R.cells - cells; omega) (by show 0 + 6 ≤ R.slots - slots; omega)
  generalize hT1 : (T.setVm vm1).pushCell { cls := cX, slots := kX.instanceTypes.map defaultValue, vm := .none } = T1 at X1 st1
  have hfresh : T1.heap[T.heap.size]? = some (freshCell cX kX) := by rw [← hT1]; exact State.heap_pushCell_size _ _
  have hcat : (Value.ref T.heap.size).category = 1 := rfl
  obtain ⟨U, a1, a2, a3, a4, a5, ce, a6, a7⟩ := X1.ctorThrow0 hx htr (own := own) (cls := E) (names := names) (ic := ic) hown' hE hn hat (fun x hx => nomatch hx) hfX hkX hfresh (by rw [hhp, hT]; exact Nat.le_refl _)
    (g := F0 m (pc + 4) ls (.ref T.heap.size :: .ref T.heap.size :: rest)) rfl hsz rfl rfl (rest := rest) rfl (by rw [hb]; exact d4) (by rw [hb]; exact d7) (fun x hx => hnt x hx _) hRf (by simp only [List.map_cons, List.sum_cons, hcat, JFrame.monitorRoom]; first | omega | (simp; omega)) hlk
  have hWs : s.WarmedH U.vm := a4
  have hcl : s.vm.findClass E = some ce.cls := a7.cls
  have hall : s.sameButNew ({ U with vm := s.vm } : State) locs mc ms := by
    obtain ⟨e1, e2⟩ := a5
    have e1' : ({ U with vm := s.vm } : State) = { (T.setVm s.vm).setFrames U.frames with heap := U.heap, slotsUsed := U.slotsUsed } := by
      have e3 := e1
      unfold st_now at e3
      rw [State.setFrames_setFrames] at e3
      exact e3
    have h2 : (T.setVm s.vm).sameButNew ({ U with vm := s.vm } : State) [] (0 + 1) (0 + 6) := ⟨e1', e2⟩
    have h3 := X.same.trans h2
    rw [List.append_nil] at h3
    exact h3.mono hc hs
  have hold : ∀ q : Nat, q < H.size → U.heap[q]? = H[q]? := by
    intro q hq
    have hq2 : q < (st_now s T m args below).heap.size := by rw [hhp]; exact hq
    obtain ⟨c9, b1, b2, b3, b4⟩ := a5.2.2.2.2.2 q _ (Array.getElem?_eq_getElem hq2)
    have hs9 : c9.slots = ((st_now s T m args below).heap[q]).slots := Array.ext_getElem? (fun i => b4 i (fun z => nomatch z))
    have h9 : c9 = (st_now s T m args below).heap[q] := by rw [hs9] at b2; exact b2
    have b5 : U.heap[q]? = some c9 := b1
    rw [b5, h9]
    exact (Array.getElem?_eq_getElem hq2).symm.trans (congrArg (fun z : Heap => z[q]?) hhp)
  have hge : H.size ≤ U.heap.size := by rw [← hT]; exact a5.2.1
  have hF : va_F (wo_B base) s U := ⟨Nat.le_trans hW.2.1.1 hge, fun q h1 h2 => by rw [hold q (Nat.lt_of_lt_of_le h1 hW.2.1.1)]; exact hW.2.1.2.1 q h1 h2⟩
  refine ⟨U, ?_, .threw T.heap.size, a2, a3, T.heap.size, ce, locs, rfl, a6, a7.vm, hcl, hW.1.kept hold, hF, hWs, hall, hW.2.1.2.2⟩
  refine st1 _ ?_
  have d3' : decode c.code (pc + 3) = .ok (.dup, 1) := by rw [hb]; exact d3
  show Steps p.tables e below (T1.setTop { method := m, pc := pc + 3, locals := ls, stack := .ref T.heap.size :: rest, locked := none }) _
  jvm_step X1.here [X1.here.top, hx, d3', Value.category]
  exact a1
end WOX
