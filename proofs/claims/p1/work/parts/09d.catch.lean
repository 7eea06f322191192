/-! Methods with an exception table: their start, a static call of one, and an exception that is caught. -/
theorem mtW_start {l : Launch} {D : va_G} {cl : List vw_C} {tys : List (ClassId × FieldType)} {cA : Nat → ClassId} {base : Nat} {y : MethodName} {ws' : List Cond} {rm : Room} {av : List Value} {w w' : WW} {ov : Option Value} {mc ms : Nat} {cc : ByteArray} {maxL : Nat} {ret : Option FieldType} {hh : List (Nat × Nat × Nat × Nat)}
    (hy : plainName y.cls = true) (hn : (lg_sl av).length ≤ maxL)
    (body : ∀ (p : Program) (e : Env) (s : State) (m : MethodId) (below : List Frame) (meth : Method) (c : Code) (ls : Array Slot), p.tables.exec = Jvm.exec → c.code = cc → meth.sig.returnType = ret → c.maxLocals = maxL → s.vm.findClass y.cls = some m.cls → (∀ w ∈ ws', w.before av.toArray s = true) → meth.locks = false → meth.name = y.name → va_K D cl tys s → wo_G base s → wo_S D cl cA base s w s.heap [] → lv_has ls maxL (lv_args 0 av) → c.exceptionTable.toList = tableOf hh →
      W p l e rm s m av.toArray below meth c s.heap [] 0 0 (MQ below (wo_Q D cl cA base ov w') av.toArray s mc ms (wo_B base)) (F0 m 0 ls [])) :
    mt l D cl tys cA base y (Cond.codeWith y cc maxL ret hh :: ws') rm av w ov w' mc ms := by
  refine va_MetW (cc := cc) (maxL := maxL) (ret := ret) (hh := hh) hy rfl ?_
  intro p e s m args below meth c s₁ B hml hv
  obtain ⟨rfl, h1, h2, h3, h4⟩ := hv
  have hts := atoms_spec (ws := Cond.codeWith y cc maxL ret hh :: ws') B.pre
  have X0 := Stand.of_body B
  obtain ⟨m9, meth2, c2, gn, g1, g2, -, -, g7, -⟩ := Cond.codeWith_spec (hts _ List.mem_cons_self)
  cases B.named.symm.trans gn
  cases B.method.symm.trans g1
  cases X0.code.symm.trans g2
  have htab : c.exceptionTable.toList = tableOf hh := by rw [← g7, table_eq]
  have hown : s.vm.findClass y.cls = some m.cls := findClass_of_methodNamed B.named
  have hnm : meth.name = y.name := (name_of_methodNamed B.named B.method).1
  have hl := lv_entry av (n := maxL) hn
  rw [lg_entry_eq]
  exact body p e s m below meth c _ B.exec B.bytes B.returns hml hown (fun w hw => hts w (List.mem_cons_of_mem _ hw)) B.notSynchronized hnm h3 h4 ⟨h2, va_S.rf, h1⟩ hl htab
section WOH
variable {p : Program} {l : Launch} {e : Env} {R : Room} {s : State} {m : MethodId} {args : Array Value} {below : List Frame} {meth : Method} {c : Code} {H : Heap} {locs : List Loc} {cells slots : Nat} {Q : State → Prop}
variable {D : va_G} {cl : List vw_C} {tys : List (ClassId × FieldType)} {cA : Nat → ClassId} {base : Nat} {w w' : WW} {cc : ByteArray} {pc : Nat} {ls : Array Slot} {rest st0 : List Value}
theorem wo_callSW {own : String} {index nL maxL n : Nat} {y : MethodName} {bytes : ByteArray} {ret : Option FieldType} {hh : List (Nat × Nat × Nat × Nat)} {rm : Room} {As : List Value} {ov : Option Value}
    (hx : p.tables.exec = Jvm.exec) (hb : c.code = cc) (hml : c.maxLocals = nL) (hown : s.vm.findClass own = some m.cls) (hts : ∀ w ∈ gt, w.before args s = true) (hK : va_K D cl tys s) (hG : wo_G base s) (hW : wo_S D cl cA base s w H locs)
    (hM : mt l D cl tys cA base y (Cond.codeWith y bytes maxL ret hh :: gt) rm As w ov w' rm.cells rm.slots)
    (w1 : Cond.methodLink own index y ∈ gt) (w2 : Cond.static y ∈ gt) (w3 : Cond.initialized y.cls ∈ gt) (w5 : Cond.codeWith y bytes maxL ret hh ∈ gt)
    (hd : y.cls ≠ "java/lang/invoke/MethodHandle" ∧ y.cls ≠ "java/lang/invoke/VarHandle" ∧ (parseMethodDescriptor y.desc).map (fun d => d.parameters.length) = some n)
    (hR : rm.frames + 1 ≤ R.frames ∧ 8 + (maxL + 11) + rm.locals ≤ R.locals) (hf : cells + rm.cells ≤ R.cells ∧ slots + rm.slots ≤ R.slots) (hn : As.length = n) (hsz : ls.size = nL) (hst : st0 = As.reverse ++ rest) (hcat : (rest.map fun v => v.category).sum ≤ 8) (hdg : decode cc pc = .ok (.invokestatic index, 3))
    (kk : ∀ (H1 : Heap) (locs1 : List Loc), wo_S D cl cA base s w' H1 locs1 → W p l e R s m args below meth c H1 locs1 (cells + rm.cells) (slots + rm.slots) Q (F0 m (pc + 3) ls (ov.toList ++ rest))) : W p l e R s m args below meth c H locs cells slots Q (F0 m pc ls st0) := by
  have hB : Back l R p e below s args y 3 8 (PreOf R rm.cells rm.slots (wo_P D cl tys cA base As w)) (PostOf (wo_Q D cl cA base ov w') rm.cells rm.slots (wo_B base)) :=
    va_backW (hh := hh) (bytes := bytes) (maxL := maxL) (ret := ret) hM wo_blind rfl rfl hR.1 hR.2 (pay_in hts (gt_in w5)) List.mem_cons_self (fun a' U hU => word_at hU (good_of_word (gt_good w3)) (hts _ w3))
  refine wo_after (ov := ov) (av := As.toArray) (mc := rm.cells) (ms := rm.slots) ?_ hW kk
  intro T hT X
  obtain ⟨mk, methM, cM, hnamed, hmethM, -, -, -, -, -, -, hsigM⟩ := Cond.codeWith_spec (hts _ w5)
  have hstatic : methM.isStatic = true := Cond.static_spec hnamed hmethM (hts _ w2)
  obtain ⟨kP, hkP, -⟩ := className_of_methodNamed hnamed
  have hinitP : kP.init = .initialized := Cond.initialized_spec (findClass_of_methodNamed hnamed) hkP (hts _ w3)
  have hl2 : As.length = methM.sig.parameters.length := by
    have h9 := hd.2.2
    rw [hsigM] at h9
    exact hn.trans (Option.some.inj h9).symm
  obtain ⟨vm₁, X₁, hstep₁⟩ := X.invokestatic hx hown (hts _ w1) hnamed hmethM hstatic hkP hinitP ⟨hd.1, hd.2.1⟩ (g := F0 m pc ls st0) rfl (argsL := As) (rest := rest) hl2 hst (by rw [hb]; exact hdg)
  obtain ⟨v, ⟨U', l2, c2, s2⟩, X', ⟨g', mk', t, L, e1, e2, hq, h1, hL, h2, h3⟩, hsteps⟩ := hB m meth c ⟨T.setVm vm₁, locs, cells, slots⟩ { F0 m pc ls st0 with stack := rest } (.invokestatic index) mk As.toArray X₁ rfl (hsz.trans hml.symm) (by rw [hb]; exact hdg) (lv_room hcat) (X₁.named hnamed) ⟨hf.1, hf.2, wo_pre hK hG hW (T.setVm vm₁) hT X₁.warmed⟩
  dsimp only [Pt.U, Pt.locs, Pt.cells, Pt.slots] at X' e1 e2 h1 h2 h3 hsteps
  subst h1; subst h2; subst h3
  exact ⟨v, (T.setVm vm₁).calling g' mk' As.toArray, t, U', L, hT, X', hL, e1, e2, hq, fun target h => hstep₁ _ fun acts => by rw [doInvoke_state]; exact hsteps.trans h⟩
theorem wo_no_of {E N : String} (hG : wo_G base s) (h : (E ∈ exn ∧ N ∈ exn) ∧ E ≠ N) : wo_no E N s := hG.2.2.2.2.2.2 E h.1.1 N h.1.2 h.2
/-- an exception over the frame is caught by the row x of the method's own table -/
theorem wo_catch {own E name : String} {q : Addr} {ce : Cell} {hh pre post : List (Nat × Nat × Nat × Nat)} {x : Nat × Nat × Nat × Nat} (hown : s.vm.findClass own = some m.cls) (htab : c.exceptionTable.toList = tableOf hh) (hsp : hh = pre ++ x :: post)
    (h1 : H[q]? = some ce) (h2 : ce.vm = .none) (h3 : s.vm.findClass E = some ce.cls)
    (hpass : ∀ y ∈ pre, y.2.2.2 ≠ 0 ∧ ∃ N : String, (Cond.classLink own y.2.2.2 N).before args s = true ∧ wo_no E N s)
    (hx : x.1 ≤ pc ∧ pc < x.2.1) (h0 : x.2.2.2 ≠ 0) (hlink : (Cond.classLink own x.2.2.2 name).before args s = true) (hcast : (Cond.castable E name).before args s = true)
    (kk : W p l e R s m args below meth c H locs cells slots Q (F0 m x.2.2.1 ls [.ref q])) : XW p l e R s m args below meth c H locs cells slots Q (F0 m pc ls rest) q := by
  intro T hT X
  subst hT
  obtain ⟨c3, cT, hc3, hcT, hasg⟩ := Cond.castable_spec hcast
  cases h3.symm.trans hc3
  obtain ⟨hend, hk0⟩ := X.catches_of_link (x := ⟨x.1, x.2.1, x.2.2.1, x.2.2.2⟩) hown h0 hlink hcT hasg
  have hpl : e.platform.magicAccessors = ({} : Platform).magicAccessors := by rw [X.admits.platform]
  have hsplit : c.exceptionTable.toList = tableOf pre ++ (⟨x.1, x.2.1, x.2.2.1, x.2.2.2⟩ : ExceptionTableEntry) :: tableOf post := by
    rw [htab, hsp]
    simp [tableOf]
  obtain ⟨vm', XV, st⟩ := X.caughtThrough q (g := F0 m pc ls rest) rfl h1 (by rw [h2]; rfl) hk0 (tableOf pre) ⟨x.1, x.2.1, x.2.2.1, x.2.2.2⟩ (tableOf post) hsplit (fun y hy => by
    obtain ⟨z, hz, rfl⟩ := List.mem_map.mp hy
    obtain ⟨g0, N, g1, a, b, g2, g3, g4⟩ := hpass z hz
    obtain ⟨c', hc', hcl⟩ := Cond.classLink_spec hown g1 e.platform hpl
    cases g3.symm.trans hc'
    cases h3.symm.trans g2
    exact Or.inr ⟨g0, _, hcl, g4⟩) (by
    show (decide (x.1 ≤ pc) && decide (pc < x.2.1)) = true
    simp [hx.1, hx.2]) hend
  obtain ⟨t, a1, a2⟩ := kk (T.setVm vm') rfl XV
  refine ⟨t, ?_, a2⟩
  rw [X.pushThrowing_eq]
  exact st _ a1
end WOH
def bdh {α γ : Type} (o : Option ((α ⊕ String) × WW)) (f : α → WW → Option γ) (g : String → WW → Option γ) : Option γ := match o with
  | some (.inl v, w) => f v w
  | some (.inr E, w) => g E w
  | none => none
theorem bhs {α γ : Type} {o : Option ((α ⊕ String) × WW)} {f : α → WW → Option γ} {g : String → WW → Option γ} {r : γ} (h : bdh o f g = some r) : (∃ v w1, o = some (.inl v, w1) ∧ f v w1 = some r) ∨ (∃ E w1, o = some (.inr E, w1) ∧ g E w1 = some r) := by
  unfold bdh at h
  split at h
  · rename_i v w1; exact Or.inl ⟨v, w1, rfl, h⟩
  · rename_i E w1; exact Or.inr ⟨E, w1, rfl, h⟩
  · cases h
