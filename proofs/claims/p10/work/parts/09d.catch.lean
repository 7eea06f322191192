/-! Methods with an exception table: their start, a static call of one, and an exception that is caught. -/
theorem mtW_start {l : Launch} {D : va_G} {cl : List vw_C} {tys : List (ClassId × FieldType)} {cA : Nat → ClassId} {base : Nat} {y : MethodName} {ws' : List Cond} {rm : Room} {av : List Value} {w w' : WW} {ov : Option Value} {mc ms : Nat} {cc : ByteArray} {maxL : Nat} {ret : Option FieldType} {hh : List (Nat × Nat × Nat × Nat)}
    (hy : plainName y.cls = true) (hn : (lg_sl av).length ≤ maxL)
    (body : ∀ (p : Program) (e : Env) (s : State) (m : MethodId) (below : List Frame) (meth : Method) (c : Code) (ls : Array Slot), p.tables.exec = Jvm.exec → c.code = cc → meth.sig.returnType = ret → c.maxLocals = maxL → s.vm.findClass y.cls = some m.cls → (∀ w ∈ ws', w.before av.toArray s = true) → meth.locks = false → meth.name = y.name → va_K D cl tys s → wo_G cA base s → wo_S D cl cA base s w s.heap [] → lv_has ls maxL (lv_args 0 av) → c.exceptionTable.toList = tableOf hh →
      W p l e rm s m av.toArray below meth c s.heap [] 0 0 (MQ below (wo_Q D cl cA base ov w') av.toArray s mc ms (wo_B base)) (F0 m 0 ls [])) :
    mt l D cl tys cA base y (Cond.codeWith y cc maxL ret hh :: ws') rm av w ov w' mc ms := by
  refine va_MetW (cc := cc) (maxL := maxL) (ret := ret) (hh := hh) hy rfl ?_
  intro p e s m args below meth c s₁ B hml hv
  obtain ⟨rfl, h1, h2, h3, h4⟩ := hv
  have hts := atoms_spec (ws := Cond.codeWith y cc maxL ret hh :: ws') B.pre
  have X0 := Stand.of_body B
  obtain ⟨m9, meth2, c2, gn, g1, g2, -, -, g7, -⟩ := Cond.codeWith_spec (hts _ List.mem_cons_self)
  cases B.named.symm.trans gn
  cases B.method.symm.trans g1
  cases X0.code.symm.trans g2
  have htab : c.exceptionTable.toList = tableOf hh := by rw [← g7, table_eq]
  have hown : s.vm.findClass y.cls = some m.cls := findClass_of_methodNamed B.named
  have hnm : meth.name = y.name := (name_of_methodNamed B.named B.method).1
  have hl := lv_entry av (n := maxL) hn
  rw [lg_entry_eq]
  exact body p e s m below meth c _ B.exec B.bytes B.returns hml hown (fun w hw => hts w (List.mem_cons_of_mem _ hw)) B.notSynchronized hnm h3 h4 ⟨h2, va_S.rf, h1⟩ hl htab
section WOH
variable {p : Program} {l : Launch} {e : Env} {R : Room} {s : State} {m : MethodId} {args : Array Value} {below : List Frame} {meth : Method} {c : Code} {H : Heap} {locs : List Loc} {cells slots : Nat} {Q : State → Prop}
variable {D : va_G} {cl : List vw_C} {tys : List (ClassId × FieldType)} {cA : Nat → ClassId} {base : Nat} {w w' : WW} {cc : ByteArray} {pc : Nat} {ls : Array Slot} {rest st0 : List Value}
theorem wo_callSW {own : String} {index nL maxL n : Nat} {y : MethodName} {bytes : ByteArray} {ret : Option FieldType} {hh : List (Nat × Nat × Nat × Nat)} {rm : Room} {As : List Value} {ov : Option Value}
    (hx : p.tables.exec = Jvm.exec) (hb : c.code = cc) (hml : c.maxLocals = nL) (hown : s.vm.findClass own = some m.cls) (hts : ∀ w ∈ gt, w.before args s = true) (hK : va_K D cl tys s) (hG : wo_G cA base s) (hW : wo_S D cl cA base s w H locs)
    (hM : mt l D cl tys cA base y (Cond.codeWith y bytes maxL ret hh :: gt) rm As w ov w' rm.cells rm.slots)
    (w1 : Cond.methodLink own index y ∈ gt) (w2 : Cond.static y ∈ gt) (w3 : Cond.initialized y.cls ∈ gt) (w5 : Cond.codeWith y bytes maxL ret hh ∈ gt)
    (hd : y.cls ≠ "java/lang/invoke/MethodHandle" ∧ y.cls ≠ "java/lang/invoke/VarHandle" ∧ (parseMethodDescriptor y.desc).map (fun d => d.parameters.length) = some n)
    (hR : rm.frames + 1 ≤ R.frames ∧ 8 + (maxL + 11) + rm.locals ≤ R.locals) (hf : cells + rm.cells ≤ R.cells ∧ slots + rm.slots ≤ R.slots) (hn : As.length = n) (hsz : ls.size = nL) (hst : st0 = As.reverse ++ rest) (hcat : (rest.map fun v => v.category).sum ≤ 8) (hdg : decode cc pc = .ok (.invokestatic index, 3))
    (kk : ∀ (H1 : Heap) (locs1 : List Loc), wo_S D cl cA base s w' H1 locs1 → W p l e R s m args below meth c H1 locs1 (cells + rm.cells) (slots + rm.slots) Q (F0 m (pc + 3) ls (ov.toList ++ rest))) : W p l e R s m args below meth c H locs cells slots Q (F0 m pc ls st0) := by
  have hB : Back l R p e below s args y 3 8 (PreOf R rm.cells rm.slots (wo_P D cl tys cA base As w)) (PostOf (wo_Q D cl cA base ov w') rm.cells rm.slots (wo_B base)) :=
    va_backW (hh := hh) (bytes := bytes) (maxL := maxL) (ret := ret) hM wo_blind rfl rfl hR.1 hR.2 (pay_in hts (gt_in w5)) List.mem_cons_self (fun a' U hU => word_at hU (good_of_word (gt_good w3)) (hts _ w3))
  refine wo_after (ov := ov) (av := As.toArray) (mc := rm.cells) (ms := rm.slots) ?_ hW kk
  intro T hT X
  obtain ⟨mk, methM, cM, hnamed, hmethM, -, -, -, -, -, -, hsigM⟩ := Cond.codeWith_spec (hts _ w5)
  have hstatic : methM.isStatic = true := Cond.static_spec hnamed hmethM (hts _ w2)
  obtain ⟨kP, hkP, -⟩ := className_of_methodNamed hnamed
  have hinitP : kP.init = .initialized := Cond.initialized_spec (findClass_of_methodNamed hnamed) hkP (hts _ w3)
  have hl2 : As.length = methM.sig.parameters.length := by
    have h9 := hd.2.2
    rw [hsigM] at h9
    exact hn.trans (Option.some.inj h9).symm
  obtain ⟨vm₁, X₁, hstep₁⟩ := X.invokestatic hx hown (hts _ w1) hnamed hmethM hstatic hkP hinitP ⟨hd.1, hd.2.1⟩ (g := F0 m pc ls st0) rfl (argsL := As) (rest := rest) hl2 hst (by rw [hb]; exact hdg)
  obtain ⟨v, ⟨U', l2, c2, s2⟩, X', ⟨g', mk', t, L, e1, e2, hq, h1, hL, h2, h3⟩, hsteps⟩ := hB m meth c ⟨T.setVm vm₁, locs, cells, slots⟩ { F0 m pc ls st0 with stack := rest } (.invokestatic index) mk As.toArray X₁ rfl (hsz.trans hml.symm) (by rw [hb]; exact hdg) (lv_room hcat) (X₁.named hnamed) ⟨hf.1, hf.2, wo_pre hK hG hW (T.setVm vm₁) hT X₁.warmed⟩
  dsimp only [Pt.U, Pt.locs, Pt.cells, Pt.slots] at X' e1 e2 h1 h2 h3 hsteps
  subst h1; subst h2; subst h3
  exact ⟨v, (T.setVm vm₁).calling g' mk' As.toArray, t, U', L, hT, X', hL, e1, e2, hq, fun target h => hstep₁ _ fun acts => by rw [doInvoke_state]; exact hsteps.trans h⟩
theorem wo_no_of {E N : String} (hG : wo_G cA base s) (h : (E ∈ exn ∧ N ∈ exn) ∧ E ≠ N) : wo_no E N s := hG.2.2.2.2.2.2.1 E h.1.1 N h.1.2 h.2
/-- one row that covers the place, whether its name is resolved yet or not -/
theorem fh_row {f : JFrame} {a : Addr} {S : State} {y : ExceptionTableEntry} {t : List ExceptionTableEntry} {cy : ClassId} {cell : Cell} {Qh : Handler → Pre} {Eh : CtlPost} {d : Bool} {acts : List Action} (hy : covers y f.pc = true) (h0 : y.catchType ≠ 0)
    (hl : S.vm.ClassLinks e.platform f.method.cls y.catchType cy) (hcell : S.heap[a]? = some cell) (hobj : ∀ k, cell.vm ≠ .statics k) (hk : ∃ k, S.vm.classes[cell.cls]? = some k) (hc : ∃ k, S.vm.classes[cy]? = some k) {r : Bool} (hr : S.vm.assignable cell.cls cy = r) :
    wp (findHandler.go f a (y :: t)) Qh Eh e d acts S ↔ (match r with
      | true => Qh (.found y.handlerPc) d acts (S.setVm (S.vm.noted f.method.cls y.catchType (.cls cy)))
      | false => wp (findHandler.go f a t) Qh Eh e d acts (S.setVm (S.vm.noted f.method.cls y.catchType (.cls cy)))) := by
  simp only [covers] at hy
  obtain ⟨g1, g2⟩ := (resolveClass_links e.toSetting hl).op (op := VmOp.resolveClass f.method.cls y.catchType) rfl
  have hal : S.vm.Alike (S.vm.noted f.method.cls y.catchType (.cls cy)) := (Vm.Alike.refl S.vm).noted _ _ _
  obtain ⟨k1, hk1⟩ := hk
  obtain ⟨k2, hk2⟩ := hc
  obtain ⟨j1, hj1, -⟩ := hal.2.2 _ _ hk1
  obtain ⟨j2, hj2, -⟩ := hal.2.2 _ _ hk2
  have hr2 : (S.vm.noted f.method.cls y.catchType (.cls cy)).assignable cell.cls cy = r := by rw [hal.assignable]; exact hr
  cases r <;> simp [findHandler.go, hy, h0, g1, g2, hcell, hobj, hj1, hj2, hr2, VmOp.dirties, VmOp.acts]
/-- a search: rows that name other kinds first, then one that takes it -/
theorem fh_go {f : JFrame} {a : Addr} {cell : Cell} {k0 : Class} (hobj : ∀ k, cell.vm ≠ .statics k) (hk0 : s.vm.classes[cell.cls]? = some k0) {x : ExceptionTableEntry} {cx : ClassId} (hx : covers x f.pc = true) (h0 : x.catchType ≠ 0) (hl : s.vm.ClassLinks e.platform f.method.cls x.catchType cx) (hfit : s.vm.assignable cell.cls cx = true) (post : List ExceptionTableEntry) :
    ∀ (pre : List ExceptionTableEntry) (S : State), s.WarmedH S.vm → S.heap[a]? = some cell → (∀ y ∈ pre, covers y f.pc = true ∧ y.catchType ≠ 0 ∧ ∃ cy, s.vm.ClassLinks e.platform f.method.cls y.catchType cy ∧ s.vm.assignable cell.cls cy = false) →
      ∃ vm', s.WarmedH vm' ∧ ∀ (Qh : Handler → Pre) (Eh : CtlPost) (d : Bool) (acts : List Action), wp (findHandler.go f a (pre ++ x :: post)) Qh Eh e d acts S ↔ Qh (.found x.handlerPc) d acts (S.setVm vm') := by
  intro pre
  induction pre with
  | nil =>
    intro S hS hcell _
    obtain ⟨j0, hj0, -⟩ := hS.alike.2.2 _ _ hk0
    obtain ⟨dk, _, _, kt, hd, _, _, _, _, hkt, _, hopen⟩ := hl.here
    obtain ⟨jt, hjt, -⟩ := hS.alike.2.2 _ _ hkt
    exact ⟨_, hS.noted hd hopen (State.rightAt_cls hl), fun Qh Eh d acts => fh_row (r := true) hx h0 (hS.classLinks hl) hcell hobj ⟨j0, hj0⟩ ⟨jt, hjt⟩ (by rw [hS.alike.assignable]; exact hfit)⟩
  | cons y ys ih =>
    intro S hS hcell hp
    obtain ⟨j0, hj0, -⟩ := hS.alike.2.2 _ _ hk0
    obtain ⟨hy, hy0, cy, hly, hno⟩ := hp y List.mem_cons_self
    obtain ⟨dk, _, _, kt, hd, _, _, _, _, hkt, _, hopen⟩ := hly.here
    obtain ⟨jt, hjt, -⟩ := hS.alike.2.2 _ _ hkt
    obtain ⟨vm', hS', hq⟩ := ih (S.setVm (S.vm.noted f.method.cls y.catchType (.cls cy))) (hS.noted hd hopen (State.rightAt_cls hly)) hcell (fun z hz => hp z (List.mem_cons_of_mem _ hz))
    refine ⟨vm', hS', fun Qh Eh d acts => ?_⟩
    rw [List.cons_append]
    exact (fh_row (r := false) hy hy0 (hS.classLinks hly) hcell hobj ⟨j0, hj0⟩ ⟨jt, hjt⟩ (by rw [hS.alike.assignable]; exact hno)).trans (hq Qh Eh d acts)
theorem fh_step {S : State} {a : Addr} {f : JFrame} {r : List Frame} {pc2 : Nat} {vm' : Vm} (hf : ∀ (Qh : Handler → Pre) (Eh : CtlPost) (d : Bool) (acts : List Action), wp (findHandler f a) Qh Eh e d acts S ↔ Qh (.found pc2) d acts (S.setVm vm')) :
    (stepThrowing e S a (.java f :: r)).1 = (S.setVm vm').setFrames (.java { f with pc := pc2, stack := [.ref a] } :: r) := by
  simp only [stepThrowing, searchFrame, vmDo]
  generalize hr : Sem.go _ e false [] S = res
  obtain ⟨as, rfl, ha⟩ := Sem.eq_ok_of hr (a := Handler.found pc2) (s' := S.setVm vm') (acts' := []) (by simp [hf _ _ _ _])
  rfl
/-- an exception over the frame is caught by the row x of the method's own table -/
theorem wo_catch {own E name : String} {q : Addr} {ce : Cell} {hh pre post : List (Nat × Nat × Nat × Nat)} {x : Nat × Nat × Nat × Nat} (hown : s.vm.findClass own = some m.cls) (htab : c.exceptionTable.toList = tableOf hh) (hsp : hh = pre ++ x :: post)
    (h1 : H[q]? = some ce) (h2 : ce.vm = .none) (h3 : s.vm.findClass E = some ce.cls)
    (hpass : ∀ y ∈ pre, (y.1 ≤ pc ∧ pc < y.2.1) ∧ y.2.2.2 ≠ 0 ∧ ∃ N : String, (Cond.classLink own y.2.2.2 N).before args s = true ∧ wo_no E N s)
    (hx : x.1 ≤ pc ∧ pc < x.2.1) (h0 : x.2.2.2 ≠ 0) (hlink : (Cond.classLink own x.2.2.2 name).before args s = true) (hcast : (Cond.castable E name).before args s = true)
    (kk : W p l e R s m args below meth c H locs cells slots Q (F0 m x.2.2.1 ls [.ref q])) : XW p l e R s m args below meth c H locs cells slots Q (F0 m pc ls rest) q := by
  intro T hT X
  subst hT
  obtain ⟨c3, cT, hc3, hcT, hasg⟩ := Cond.castable_spec hcast
  cases h3.symm.trans hc3
  have hpl : e.platform.magicAccessors = ({} : Platform).magicAccessors := by rw [X.admits.platform]
  obtain ⟨cx, hcx, hcl⟩ := Cond.classLink_spec hown hlink e.platform hpl
  cases hcT.symm.trans hcx
  obtain ⟨k0, hk0⟩ := Vm.classAt_of_findClass h3
  have hsplit : c.exceptionTable.toList = tableOf pre ++ (⟨x.1, x.2.1, x.2.2.1, x.2.2.2⟩ : ExceptionTableEntry) :: tableOf post := by
    rw [htab, hsp]
    simp [tableOf]
  have hcov : ∀ z : Nat × Nat × Nat × Nat, z.1 ≤ pc ∧ pc < z.2.1 → covers ⟨z.1, z.2.1, z.2.2.1, z.2.2.2⟩ pc = true := fun z hz => by
    show (decide (z.1 ≤ pc) && decide (pc < z.2.1)) = true
    simp [hz.1, hz.2]
  have hvm : ((T.setTop (F0 m pc ls rest)).pushFrame (.throwing q)).vm = T.vm := Stand.throwing_vm T _ q
  have hhp : ((T.setTop (F0 m pc ls rest)).pushFrame (.throwing q)).heap = T.heap := Stand.throwing_heap T _ q
  obtain ⟨vm', hS', hq⟩ := fh_go (e := e) (f := F0 m pc ls rest) (a := q) (cell := ce) (fun k hk => by rw [h2] at hk; cases hk) hk0 (x := ⟨x.1, x.2.1, x.2.2.1, x.2.2.2⟩) (hcov x hx) h0 hcl hasg (tableOf post) (tableOf pre) ((T.setTop (F0 m pc ls rest)).pushFrame (.throwing q)) (by rw [hvm]; exact X.warmed) (by rw [hhp]; exact h1) (fun y hy => by
    obtain ⟨z, hz, rfl⟩ := List.mem_map.mp hy
    obtain ⟨gc, g0, N, g1, a, b, g2, g3, g4⟩ := hpass z hz
    obtain ⟨c', hc', hcl'⟩ := Cond.classLink_spec hown g1 e.platform hpl
    cases g3.symm.trans hc'
    cases h3.symm.trans g2
    exact ⟨hcov z gc, g0, _, hcl', g4⟩)
  have XV := X.noted hS'
  obtain ⟨t, a1, a2⟩ := kk (T.setVm vm') rfl XV
  refine ⟨t, ?_, a2⟩
  obtain ⟨hgo, hw⟩ := At.throwing (g := F0 m pc ls rest) X.here q
  refine Steps.head hgo hw ?_
  have hmeth : ((T.setTop (F0 m pc ls rest)).pushFrame (.throwing q)).vm.method? m = some meth := by rw [hvm]; exact X.method'
  rw [stepThread_throwing (frames_entered X.here.top _), fh_step (pc2 := x.2.2.1) (vm' := vm') (fun Qh Eh d acts => by rw [W.findHandler_eq hmeth X.code, hsplit]; exact hq Qh Eh d acts)]
  obtain ⟨g₀, hg⟩ := Option.isSome_iff_exists.mp X.here.top
  obtain ⟨rr, hrr⟩ := State.topJava?_eq_some.mp hg
  have hrr' : (T.setVm vm').frames = .java g₀ :: rr := hrr
  rw [State.setTop_of_frames _ hrr'] at a1
  have he : (((T.setTop (F0 m pc ls rest)).pushFrame (.throwing q)).setVm vm').setFrames (.java { F0 m pc ls rest with pc := x.2.2.1, stack := [.ref q] } :: T.frames.tail) = (T.setVm vm').setFrames (.java (F0 m x.2.2.1 ls [.ref q]) :: rr) := by
    rw [hrr, List.tail_cons, State.pushFrame, State.setTop_of_frames _ hrr]
    show (((T.setVm vm').setFrames _).setFrames _).setFrames _ = _
    rw [State.setFrames_setFrames, State.setFrames_setFrames]
  rw [he]
  exact a1
end WOH
def bdh {α γ : Type} (o : Option ((α ⊕ String) × WW)) (f : α → WW → Option γ) (g : String → WW → Option γ) : Option γ := match o with
  | some (.inl v, w) => f v w
  | some (.inr E, w) => g E w
  | none => none
theorem bhs {α γ : Type} {o : Option ((α ⊕ String) × WW)} {f : α → WW → Option γ} {g : String → WW → Option γ} {r : γ} (h : bdh o f g = some r) : (∃ v w1, o = some (.inl v, w1) ∧ f v w1 = some r) ∨ (∃ E w1, o = some (.inr E, w1) ∧ g E w1 = some r) := by
  unfold bdh at h
  split at h
  · rename_i v w1; exact Or.inl ⟨v, w1, rfl, h⟩
  · rename_i E w1; exact Or.inr ⟨E, w1, rfl, h⟩
  · cases h
