/-! A callee that throws: the caller's frame with the exception over it; out of a method that has no handlers. -/
theorem xt_start {l : Launch} {D : va_G} {cl : List vw_C} {tys : List (ClassId × FieldType)} {cA : Nat → ClassId} {base : Nat} {y : MethodName} {ws' : List Cond} {rm : Room} {av : List Value} {w w' : WW} {E : String} {mc ms : Nat} {cc : ByteArray} {maxL : Nat} {ret : Option FieldType}
    (hy : plainName y.cls = true) (hn : (lg_sl av).length ≤ maxL)
    (body : ∀ (p : Program) (e : Env) (s : State) (m : MethodId) (below : List Frame) (meth : Method) (c : Code) (ls : Array Slot), p.tables.exec = Jvm.exec → c.code = cc → meth.sig.returnType = ret → c.maxLocals = maxL → s.vm.findClass y.cls = some m.cls → (∀ w ∈ ws', w.before av.toArray s = true) → meth.locks = false → meth.name = y.name → va_K D cl tys s → wo_G cA base s → wo_S D cl cA base s w s.heap [] → lv_has ls maxL (lv_args 0 av) → (∀ x ∈ c.exceptionTable.toList, ∀ k : Nat, covers x k = false) →
      W p l e rm s m av.toArray below meth c s.heap [] 0 0 (XQ below (wo_X D cl cA base E w' mc ms) av.toArray s) (F0 m 0 ls [])) :
    xt l D cl tys cA base y (Cond.code y cc maxL ret :: ws') rm av w E w' mc ms := by
  refine MetFree.of_bodyS (code := cc) (maxLocals := maxL) (ret := ret) hy ?_ ?_
  · intro args s m h hn
    obtain ⟨meth, c, h1, h2, h3, h4, h5, h6, -, -⟩ := Cond.code_spec hn (atoms_spec (ws := Cond.code y cc maxL ret :: ws') h _ List.mem_cons_self)
    exact ⟨meth, c, h1, h2, h3, h4, h5, h6⟩
  · intro p e s m args below meth c s₁ B hml hv _
    obtain ⟨rfl, h1, h2, h3, h4⟩ := hv
    have hts := atoms_spec (ws := Cond.code y cc maxL ret :: ws') B.pre
    have X0 := Stand.of_body B
    obtain ⟨meth2, c2, g1, g2, -, -, -, -, g7, -⟩ := Cond.code_spec B.named (hts _ List.mem_cons_self)
    cases B.method.symm.trans g1
    cases X0.code.symm.trans g2
    have hnt : ∀ x ∈ c.exceptionTable.toList, ∀ k : Nat, covers x k = false := by
      intro x hx
      have hz : c.exceptionTable.toList = [] := by
        have : c.exceptionTable = #[] := Array.isEmpty_iff.mp g7
        rw [this]
      rw [hz] at hx
      exact nomatch hx
    have hown : s.vm.findClass y.cls = some m.cls := findClass_of_methodNamed B.named
    have hnm : meth.name = y.name := (name_of_methodNamed B.named B.method).1
    have hl := lv_entry av (n := maxL) hn
    have hh0 : s₁.heap = s.heap := by rw [B.state]; rfl
    have hbody := body p e s m below meth c _ B.exec B.bytes B.returns hml hown (fun w hw => hts w (List.mem_cons_of_mem _ hw)) B.notSynchronized hnm h3 h4 ⟨h2, va_S.rf, h1⟩ hl hnt
    rw [← lg_entry_eq] at hbody
    obtain ⟨t, a1, o, b1, b2, b3⟩ := hbody s₁ hh0 X0
    exact ⟨t, o, a1, b1, b2, b3⟩
/-- the frame g, and q thrown over it -/
def XW (p : Program) (l : Launch) (e : Env) (R : Room) (s : State) (m : MethodId) (args : Array Value) (below : List Frame) (meth : Method) (c : Code) (H : Heap) (locs : List Loc) (cells slots : Nat) (Q : State → Prop) (g : JFrame) (q : Addr) : Prop :=
  ∀ T : State, T.heap = H → Stand p l e R s m args below meth c T locs cells slots → ∃ t, Steps p.tables e below ((T.setTop g).pushFrame (.throwing q)) t ∧ Q t
section WXC
variable {p : Program} {l : Launch} {e : Env} {R : Room} {s : State} {m : MethodId} {args : Array Value} {below : List Frame} {meth : Method} {c : Code} {H : Heap} {locs : List Loc} {cells slots : Nat} {Q : State → Prop}
variable {D : va_G} {cl : List vw_C} {tys : List (ClassId × FieldType)} {cA : Nat → ClassId} {base : Nat} {w w' : WW} {cc : ByteArray} {pc : Nat} {ls : Array Slot} {rest st0 : List Value}
/-- no handler here: the exception goes on to the caller -/
theorem wo_xout {E : String} {q : Addr} {ce : Cell} {mc ms : Nat} (hnt : ∀ x ∈ c.exceptionTable.toList, ∀ k : Nat, covers x k = false) (hlk : meth.locks = false) (hW : wo_S D cl cA base s w H locs) (h1 : H[q]? = some ce) (h2 : ce.vm = .none) (h3 : s.vm.findClass E = some ce.cls) (hc : cells ≤ mc) (hs : slots ≤ ms) :
    XW p l e R s m args below meth c H locs cells slots (XQ below (wo_X D cl cA base E w mc ms) args s) (F0 m pc ls rest) q := by
  intro T hT X
  obtain ⟨a1, a2, a3, a4, a5⟩ := X.leaveThrown q (g := F0 m pc ls rest) rfl rfl rfl (fun x hx => hnt x hx _) hlk
  have hh : (T.setFrames (.throwing q :: below)).heap = H := hT
  exact ⟨_, a1, .threw q, a2, a3, q, ce, locs, rfl, by rw [hh]; exact h1, h2, h3, by rw [hh]; exact hW.1, hW.2.1.F hh, a4, a5.mono hc hs, hW.2.1.2.2⟩
/-- the call itself, seen from the caller's frame -/
theorem wo_xback {y : MethodName} {bytes : ByteArray} {maxL : Nat} {ret : Option FieldType} {rm : Room} {av : List Value} {E : String} {T : State} {g : JFrame} {ig : Instr} {mk : MethodId} {len : Nat}
    (hM : xt l D cl tys cA base y (Cond.code y bytes maxL ret :: gt) rm av w E w' rm.cells rm.slots) (hts : ∀ w ∈ gt, w.before args s = true) (w5 : Cond.code y bytes maxL ret ∈ gt) (w4 : Cond.initialized y.cls ∈ gt)
    (hK : va_K D cl tys s) (hG : wo_G cA base s) (X : Stand p l e R s m args below meth c T locs cells slots) (hW : wo_S D cl cA base s w T.heap locs)
    (hR : rm.frames + 1 ≤ R.frames ∧ 8 + (maxL + 11) + rm.locals ≤ R.locals) (hf : cells + rm.cells ≤ R.cells ∧ slots + rm.slots ≤ R.slots)
    (hg : g.method = m) (hsz : g.locals.size = c.maxLocals) (hdg : decode c.code g.pc = .ok (ig, len)) (hcat : 2 * g.monitorRoom + (g.stack.map fun v => v.category).sum ≤ 8) (hn : T.methodNamed? y = some mk) :
    ∃ (q : Addr) (ce : Cell) (T' : State) (L : List Loc), Stand p l e R s m args below meth c T' (locs ++ L) (cells + rm.cells) (slots + rm.slots) ∧ wo_S D cl cA base s w' T'.heap (locs ++ L) ∧ T'.heap[q]? = some ce ∧ ce.vm = .none ∧ s.vm.findClass E = some ce.cls ∧
      Steps p.tables e below (doInvoke e (T.setTop g) [] mk av.toArray).1 ((T'.setTop g).pushFrame (.throwing q)) := by
  have hw : ∀ w ∈ (Cond.code y bytes maxL ret :: gt), w.before av.toArray T = true := fun z hz => word_at X.warmed ((gt_in w5) z hz).2 (hts z ((gt_in w5) z hz).1)
  have h1 : (headSpec (Cond.code y bytes maxL ret :: gt) rm).pre.before av.toArray T = true := atoms_intro hw
  have h2 := hw _ List.mem_cons_self
  have h3 : (Cond.initialized y.cls).before av.toArray T = true := hw _ (List.mem_cons_of_mem _ w4)
  obtain ⟨methY, cY, hmY, hcY, -, hlY, -, -, -, -⟩ := Cond.code_spec hn h2
  obtain ⟨kY, hkY, -⟩ := className_of_methodNamed hn
  have hiY : kY.init = .initialized := Cond.initialized_spec (findClass_of_methodNamed hn) hkY h3
  have h : At T g.method c below := by rw [hg]; exact X.here
  have hap : (headSpec (Cond.code y bytes maxL ret :: gt) rm).appliesLoose y e.platform (T.calling g mk av.toArray) = true :=
    Spec.appliesLoose_calling (g := g) h hdg hn hkY hiY (X.room_calling (g := g) (R' := rm) hsz hmY hcY hR.1 (by rw [hlY]; have := hR.2; omega) hf.1 hf.2) h1
  obtain ⟨mid, hmid⟩ := h.above
  have hfr : (T.setTop g).frames = (.java g :: mid) ++ below := by rw [State.frames_setTop' g h.top, hmid]; rfl
  have hP : wo_P D cl tys cA base av w av.toArray (T.calling g mk av.toArray) := wo_blind _ _ g mk (wo_pre hK hG hW T rfl X.warmed)
  obtain ⟨o, s2, hst, -, hend, q, ce, L, ho, b1, b2, b3, b4, b5, b6, b7, b8⟩ := Steps.callFree hM p X.admits X.cas X.clock (acts := []) hfr hap hP trivial
  subst ho
  rw [State.frames_setTop' g h.top] at hend
  obtain ⟨g0, hg0⟩ := Option.isSome_iff_exists.mp h.top
  obtain ⟨r, hr⟩ := State.topJava?_eq_some.mp hg0
  have hr' : (({ T with heap := s2.heap, slotsUsed := s2.slotsUsed } : State).setVm s2.vm).frames = .java g0 :: r := hr
  have hW' : T.WarmedH s2.vm := b6
  have hf2 : s2.frames = .throwing q :: .java g :: T.frames.tail := hend
  have es : s2 = ({ (T.calling g mk av.toArray).setFrames s2.frames with heap := s2.heap, slotsUsed := s2.slotsUsed } : State).setVm s2.vm := by
    have e1 : s2 = ({ s2 with vm := (T.calling g mk av.toArray).vm } : State).setVm s2.vm := rfl
    have e2 := b7.1
    have e3 : ({ s2 with vm := (T.calling g mk av.toArray).vm } : State) = { (T.calling g mk av.toArray).setFrames s2.frames with heap := s2.heap, slotsUsed := s2.slotsUsed } := e2
    rw [e3] at e1
    exact e1
  have hs2 : s2 = ((({ T with heap := s2.heap, slotsUsed := s2.slotsUsed } : State).setVm s2.vm).setTop g).pushFrame (.throwing q) := by
    refine es.trans ?_
    rw [hf2, State.calling_eq h.top, State.setFrames_setFrames, State.pushFrame, State.frames_setTop _ hr', State.setTop_of_frames _ hr', State.setFrames_setFrames, hr]
    rfl
  have hsame : T.sameButNew ({ T with heap := s2.heap, slotsUsed := s2.slotsUsed } : State) L rm.cells rm.slots := by
    obtain ⟨-, q2, q3, q4, q5, q6⟩ := b7
    refine ⟨?_, q2, q3, q4, q5, q6⟩
    obtain ⟨t, ht, -⟩ := State.frames_cons hr
    show ({ T with heap := s2.heap, slotsUsed := s2.slotsUsed } : State) = { T.setFrames T.frames with heap := s2.heap, slotsUsed := s2.slotsUsed }
    rw [State.setFrames_self ht]
  have hSn : va_S (wo_B base) s.heap s2.heap (locs ++ L) := by
    refine ⟨Nat.le_trans hW.2.1.1 b5.1, fun z h1 h2 => ?_, fun z hz => ?_⟩
    · rw [b5.2 z (Nat.lt_of_lt_of_le h1 hW.2.1.1) h2]
      exact hW.2.1.2.1 z h1 h2
    · rcases List.mem_append.mp hz with h9 | h9
      · exact hW.2.1.2.2 z h9
      · exact b8 z h9
  refine ⟨q, ce, (({ T with heap := s2.heap, slotsUsed := s2.slotsUsed } : State).setVm s2.vm), L, ?_, ⟨b4, hSn, hW.2.2⟩, b1, b2, ?_, ?_⟩
  · subst hg
    exact ⟨X.admits, X.cas, X.clock, X.frames, X.room, X.hears, X.method, X.code, (X.here.setHeapUsed s2.heap s2.slotsUsed).setVm hW'.alike, X.tail, State.WarmedH.trans X.warmed hW', X.limits, X.bytes, X.same.trans (hsame.setVm s.vm)⟩
  · have b9 : T.vm.findClass E = some ce.cls := b3
    rw [X.warmed.alike.findClass] at b9
    exact b9
  · rw [← hs2]
    exact hst
theorem wo_xcallV {own C : String} {index nL maxL N ci b n : Nat} {T : u_T} {y : MethodName} {bytes : ByteArray} {ret : Option FieldType} {rm : Room} {As : List Value} {E : String}
    (hx : p.tables.exec = Jvm.exec) (hb : c.code = cc) (hml : c.maxLocals = nL) (hown : s.vm.findClass own = some m.cls) (hts : ∀ w ∈ gt, w.before args s = true) (hK : va_K D cl tys s) (hG : wo_G cA base s) (hW : wo_S D cl cA base s w H locs)
    (hM : xt l D cl tys cA base y (Cond.code y bytes maxL ret :: gt) rm (.ref (base + b) :: As) w E w' rm.cells rm.slots) (hkb : kb w b ci = true) (hc : cl[ci]? = some (C, T, N))
    (w1 : Cond.methodLink own index y ∈ gt) (w2 : Cond.instanceMethod y ∈ gt) (w3 : Cond.selects C y y ∈ gt) (w4 : Cond.initialized C ∈ gt) (w5 : Cond.code y bytes maxL ret ∈ gt)
    (hd : y.cls = C ∧ y.cls ≠ "java/lang/invoke/MethodHandle" ∧ y.cls ≠ "java/lang/invoke/VarHandle" ∧ (parseMethodDescriptor y.desc).map (fun d => d.parameters.length) = some n)
    (hR : rm.frames + 1 ≤ R.frames ∧ 8 + (maxL + 11) + rm.locals ≤ R.locals) (hf : cells + rm.cells ≤ R.cells ∧ slots + rm.slots ≤ R.slots) (hn : As.length = n) (hsz : ls.size = nL) (hst : st0 = As.reverse ++ .ref (base + b) :: rest) (hcat : (rest.map fun v => v.category).sum ≤ 8) (hdg : decode cc pc = .ok (.invokevirtual index, 3))
    (kk : ∀ (H1 : Heap) (locs1 : List Loc) (q : Addr) (ce : Cell), wo_S D cl cA base s w' H1 locs1 → H1[q]? = some ce → ce.vm = .none → s.vm.findClass E = some ce.cls → XW p l e R s m args below meth c H1 locs1 (cells + rm.cells) (slots + rm.slots) Q (F0 m pc ls rest) q) : W p l e R s m args below meth c H locs cells slots Q (F0 m pc ls st0) := by
  obtain ⟨fs, hfs⟩ := kb_s hkb
  obtain ⟨L0, q0, -, hP, -, he⟩ := hW.1.at hfs
  obtain ⟨cellB, hcB, hoB, hclB⟩ := va_recv hK hP hc he
  obtain ⟨rfl, hy1, hy2, hlen⟩ := hd
  intro T0 hT X
  subst hT
  obtain ⟨mk, methM, hnamed, hmethM, hstM, habM⟩ := Cond.instanceMethod_spec (hts _ w2)
  obtain ⟨methM', cM, hmethM', -, -, -, -, -, -, hsigM⟩ := Cond.code_spec hnamed (hts _ w5)
  cases hmethM.symm.trans hmethM'
  obtain ⟨c2, r2, m2, q1, q2, q3, q4, kP, hkP, hkPi⟩ := Cond.selects_spec (hts _ w3)
  cases hclB.symm.trans q1
  cases (State.methodFound?_of_named hnamed ⟨hy1, hy2⟩).symm.trans q2
  cases hnamed.symm.trans q3
  have hselP : selectMethod e.platform s.vm cellB.cls mk = .method mk := by rw [Launch.admits_selectMethod X.admits]; exact q4
  have hl2 : As.length = methM.sig.parameters.length := by
    rw [hsigM] at hlen
    exact hn.trans (Option.some.inj hlen).symm
  obtain ⟨vm1, X1, hstep⟩ := X.invokevirtual hx hown (hts _ w1) hnamed hmethM hstM hkP hkPi ⟨hy1, hy2⟩ (a := base + b) (cell := cellB) hcB (fun z h => by rw [h] at hoB; cases hoB) hselP hmethM habM hkP hkPi (g := F0 m pc ls st0) rfl (argsL := As) (rest := rest) hl2 hst (by rw [hb]; exact hdg)
  obtain ⟨q, ce, T', L, X', hW', h1, h2, h3, hs⟩ := wo_xback (T := T0.setVm vm1) (g := F0 m pc ls rest) hM hts w5 w4 hK hG X1 hW hR hf rfl (hsz.trans hml.symm) (by rw [hb]; exact hdg) (lv_room hcat) (X1.named hnamed)
  obtain ⟨t, a1, a2⟩ := kk T'.heap (locs ++ L) q ce hW' h1 h2 h3 T' rfl X'
  exact ⟨t, hstep _ (fun acts => by rw [doInvoke_state]; exact hs.trans a1), a2⟩
end WXC
def bdx {α γ : Type} (o : Option ((α ⊕ String) × WW)) (f : α → WW → Option ((γ ⊕ String) × WW)) : Option ((γ ⊕ String) × WW) := match o with
  | some (.inl v, w) => f v w
  | some (.inr E, w) => some (.inr E, w)
  | none => none
theorem bsx {α γ : Type} {o : Option ((α ⊕ String) × WW)} {f : α → WW → Option ((γ ⊕ String) × WW)} {r : γ} {w' : WW} (h : bdx o f = some (.inl r, w')) : ∃ v w1, o = some (.inl v, w1) ∧ f v w1 = some (.inl r, w') := by
  unfold bdx at h
  split at h
  · rename_i v w1; exact ⟨v, w1, rfl, h⟩
  · cases h
  · cases h
theorem bsy {α γ : Type} {o : Option ((α ⊕ String) × WW)} {f : α → WW → Option ((γ ⊕ String) × WW)} {E : String} {w' : WW} (h : bdx o f = some (.inr E, w')) : o = some (.inr E, w') ∨ ∃ v w1, o = some (.inl v, w1) ∧ f v w1 = some (.inr E, w') := by
  unfold bdx at h
  split at h
  · rename_i v w1; exact Or.inr ⟨v, w1, rfl, h⟩
  · rename_i E2 w2; cases h; exact Or.inl rfl
  · cases h
