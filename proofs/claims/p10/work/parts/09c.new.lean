/-! New cells: the address of a new cell is the heap's size, which a constructor's contract carries. -/
section WON
variable {p : Program} {l : Launch} {e : Env} {R : Room} {s : State} {m : MethodId} {args : Array Value} {below : List Frame} {meth : Method} {c : Code} {H : Heap} {locs : List Loc} {cells slots : Nat} {Q : State → Prop}
variable {D : va_G} {cl : List vw_C} {tys : List (ClassId × FieldType)} {cA : Nat → ClassId} {base sz : Nat} {w w' : WW} {cc : ByteArray} {pc : Nat} {ls : Array Slot} {rest : List Value} {a : Nat}
theorem wo_R.free (h : wo_R D cl cA base w H) {q : Nat} (hq : H.size ≤ base + q) : w q = none := by
  cases he : w q with
  | none => rfl
  | some z =>
    obtain ⟨L, k, -, h2, -, hk⟩ := h.at he
    have := (h2 k _ hk).lt
    dsimp only at this
    omega
/-- one more cell, at the end of the heap -/
theorem wo_S.push {H1 : Heap} {z : WE} (hW : wo_S D cl cA base s w H locs) (hsz : H.size = base + sz) (z1 : H1.size = base + sz + 1) (o1 : ∀ q : Nat, q < base + sz → H1[q]? = H[q]?) (hz : va_at D cl (base + sz, wo_e cA base z) H1) : wo_S D cl cA base s (wo_up w sz z) H1 locs := by
  have hf : w sz = none := hW.1.free (by omega)
  obtain ⟨⟨L, h1, h2, h3⟩, hS, hB⟩ := hW
  have hk : ∀ (k : Nat) (x : Nat × va_E), (va_pl L (wo_f cA base w))[k]? = some x → H1[x.1]? = H[x.1]? := fun k x hx => o1 x.1 (by rw [← hsz]; exact (h2 k x hx).lt)
  refine ⟨wo_R.push (e := z) h1 hf ((h2.kept hk).app (fun k x hx => ?_)) (h3.push h2 hsz.symm (Nat.le_add_right _ _)), ⟨Nat.le_trans hS.1 (by omega), fun x g1 g2 => (o1 x (by rw [← hsz]; exact Nat.lt_of_lt_of_le g1 hS.1)).trans (hS.2.1 x g1 g2), hS.2.2⟩, hB⟩
  have hk0 : k < 1 := (List.getElem?_eq_some_iff.mp hx).1
  rw [show k = 0 by omega] at hx
  cases hx
  exact hz
theorem wo_newS (hexec : p.tables.exec = Jvm.exec) (hb : c.code = cc) {own C : String} {T : u_T} {N ci index : Nat} {Ts : List Cond} (hts : ∀ w ∈ Ts, w.before args s = true) (hin : ∀ w ∈ u_ws C T N, w ∈ Ts) (ty : Nat → FieldType) (hty : ∀ k, k < N → parseFieldDescriptor (T k).2.2.1 = some (ty k)) (hown : s.vm.findClass own = some m.cls) (hcl : (Cond.classLink own index C).before args s = true) (hinst : (Cond.instantiable C N).before args s = true) (hini : (Cond.initialized C).before args s = true)
    (hK : va_K D cl tys s) (hW : wo_S D cl cA base s w H locs) (hsz : H.size = base + sz) (hc : cl[ci]? = some (C, T, N)) {fs : List Value} (hub : fs.map (ub base) = fs) (hfs : ∀ j, j < N → defaultValue (ty j) = vp_V fs j) (hcells : cells + 1 ≤ R.cells) (hslots : slots + N ≤ R.slots) (hdg : decode cc pc = .ok (.new index, 3))
    (kk : ∀ H1 : Heap, H1.size = base + (sz + 1) → wo_S D cl cA base s (wo_up w sz (.inr (ci, fs))) H1 locs → W p l e R s m args below meth c H1 locs (cells + 1) (slots + N) Q (F0 m (pc + 3) ls (.ref (base + sz) :: rest))) : W p l e R s m args below meth c H locs cells slots Q (F0 m pc ls rest) := by
  have hKn := hK.1 ci _ hc
  refine W.newcK hexec hb hown hcl hinst hini rfl hdg hcells hslots hKn.2.1 hsz fun H1 kC hkC e1 z1 o1 => ?_
  refine kk H1 z1 (hW.push hsz z1 o1 ?_)
  show va_at D cl (base + sz, .inr (ci, fs.map (ub base))) H1
  rw [hub]
  exact ⟨_, hc, (u_born ty hts hin hKn hkC e1 hty).to hfs⟩
theorem wo_newaS (hexec : p.tables.exec = Jvm.exec) (hb : c.code = cc) {atype : ArrayType} (harr : (Cond.arrayClass (newarray.typeOf atype)).before args s = true) {ty : FieldType} (hty : newarray.typeOf atype = ty) (hK : va_K D cl tys s) (hW : wo_S D cl cA base s w H locs) (hsz : H.size = base + sz) {t : Nat} (ht : tys[t]? = some (cA t, ty))
    {n : Int32} {N' : Nat} {a0 : vp_A} (hub : ubA base a0 = a0) (ha : ∀ cB : ClassId, vp_cell cB a0 = arrV cB N' (fun _ => defaultValue ty)) (hn : ¬ n < 0) (hN : n.toNatClampNeg = N') (hbytes : N' * componentBytes ty ≤ 536870912) (hcells : cells + 1 ≤ R.cells) (hslots : slots + N' ≤ R.slots) (hdg : decode cc pc = .ok (.newarray atype, 2))
    (kk : ∀ H1 : Heap, H1.size = base + (sz + 1) → wo_S D cl cA base s (wo_up w sz (.inl (t, a0))) H1 locs → W p l e R s m args below meth c H1 locs (cells + 1) (slots + N') Q (F0 m (pc + 2) ls (.ref (base + sz) :: rest))) : W p l e R s m args below meth c H locs cells slots Q (F0 m pc ls (.int n :: rest)) := by
  subst hty
  refine va_newaK hexec hb harr rfl hdg rfl hn hN hbytes hcells hslots hsz fun H1 cB e1 z1 o1 hAr hNm => ?_
  have hc2 : cB = cA t := by
    have h9 := (hK.2 t _ ht).2
    cases atype <;> exact Option.some.inj (hNm.symm.trans h9)
  subst hc2
  refine kk H1 z1 (hW.push hsz z1 o1 ?_)
  show va_at D cl (base + sz, .inl (cA t, ubA base a0)) H1
  rw [hub]
  show H1[base + sz]? = some (vp_cell _ _)
  rw [ha]
  exact e1
theorem wo_anewS (hexec : p.tables.exec = Jvm.exec) (hb : c.code = cc) {own C : String} {index : Nat} (hown : s.vm.findClass own = some m.cls) (hclink : (Cond.classLink own index C).before args s = true) (hover : (Cond.arrayOver (.object C)).before args s = true) (hK : va_K D cl tys s) (hW : wo_S D cl cA base s w H locs) (hsz : H.size = base + sz) {t : Nat} (ht : tys[t]? = some (cA t, .object C))
    {n : Int32} {N' : Nat} (hn : ¬ n < 0) (hN : n.toNatClampNeg = N') (hbytes : N' * 4 ≤ 536870912) (hcells : cells + 1 ≤ R.cells) (hslots : slots + N' ≤ R.slots) (hdg : decode cc pc = .ok (.anewarray index, 3))
    (kk : ∀ H1 : Heap, H1.size = base + (sz + 1) → wo_S D cl cA base s (wo_up w sz (.inl (t, N', .inr (.inr (.inr (.inr (fun _ => none))))))) H1 locs → W p l e R s m args below meth c H1 locs (cells + 1) (slots + N') Q (F0 m (pc + 3) ls (.ref (base + sz) :: rest))) : W p l e R s m args below meth c H locs cells slots Q (F0 m pc ls (.int n :: rest)) := by
  subst hN
  refine W.anew hexec hb hown hclink hover rfl hdg rfl hn hbytes hcells hslots fun cB kA comp f1 f2 f3 f4 => ?_
  obtain ⟨kB, comp2, g1, g2, g3, g4⟩ := (hK.2 t _ ht).2
  have hc2 : cB = cA t := Option.some.inj (f1.symm.trans g4)
  subst hc2
  have hs1 : ∀ z, (Array.push H z).size = base + sz + 1 := fun z => by rw [Array.size_push, hsz]
  refine W.eq (g2 := F0 m (pc + 3) ls (.ref (base + sz) :: rest)) (by rw [hsz]) ?_
  refine kk _ (hs1 _) (hW.push hsz (hs1 _) (fun q hq => by rw [Array.getElem?_push, if_neg (Nat.ne_of_lt (by rw [hsz]; exact hq))]) ?_)
  show (Array.push H _)[base + sz]? = some (vp_cell (cA t) (n.toNatClampNeg, .inr (.inr (.inr (.inr (fun _ => none))))))
  rw [← hsz, vp_cell_q, Array.getElem?_push_size, ← arrV_new]
  rfl
def sR (w : WW) (a t ci : Nat) (i : Int32) (v : Nat) : Option WW := match ga w a t with
  | some (n, .inr (.inr (.inr (.inr f)))) => if ¬ (i < 0 ∨ n ≤ i.toNatClampNeg) ∧ kb w v ci = true then some (wo_up w a (.inl (t, n, .inr (.inr (.inr (.inr (va_up f i.toNatClampNeg (some v)))))))) else none
  | _ => none
theorem sR_s {a t ci : Nat} {i : Int32} {v : Nat} (h : sR w a t ci i v = some w') : ∃ (n : Nat) (f : Nat → Option Nat), w a = some (.inl (t, n, .inr (.inr (.inr (.inr f))))) ∧ vp_in i n ∧ kb w v ci = true ∧ w' = wo_up w a (.inl (t, n, .inr (.inr (.inr (.inr (va_up f i.toNatClampNeg (some v))))))) := by
  unfold sR at h
  split at h
  · rename_i n f hy
    split at h
    · rename_i hc; cases h; exact ⟨n, f, ga_s hy, hc.1, hc.2, rfl⟩
    · cases h
  · cases h
theorem wo_aast (hexec : p.tables.exec = Jvm.exec) (hb : c.code = cc) (hK : va_K D cl tys s) (hW : wo_S D cl cA base s w H locs) {t ci v : Nat} {r : vw_C} (ht : tys[t]? = some (cA t, .object r.1)) (hc : cl[ci]? = some r) {i : Int32} (hv : sR w a t ci i v = some w') (hdg : decode cc pc = .ok (.aastore, 1))
    (kk : ∀ (H1 : Heap) (locs1 : List Loc), wo_S D cl cA base s w' H1 locs1 → W p l e R s m args below meth c H1 locs1 cells slots Q (F0 m (pc + 1) ls rest)) : W p l e R s m args below meth c H locs cells slots Q (F0 m pc ls (.ref (base + v) :: .int i :: .ref (base + a) :: rest)) := by
  obtain ⟨n, f, h1, h2, h3, rfl⟩ := sR_s hv
  obtain ⟨fs, h4⟩ := kb_s h3
  obtain ⟨L, hL, hP, hD⟩ := hW.1
  obtain ⟨q0, he0⟩ := va_pl_get (X := []) (f := wo_f cA base w) (hL.mem h1)
  obtain ⟨qk, hek⟩ := va_pl_get (X := []) (f := wo_f cA base w) (hL.mem h4)
  rw [wo_f_at h1] at he0
  rw [wo_f_at h4] at hek
  have he0' : (va_pl L (wo_f cA base w))[q0]? = some (base + a, .inl (cA t, n, .inr (.inr (.inr (.inr (fun i => (f i).map (fun x => base + x))))))) := he0
  have hek' : (va_pl L (wo_f cA base w))[qk]? = some (base + v, .inr (ci, fs.map (ub base))) := hek
  have hf : wo_e cA base (.inl (t, n, .inr (.inr (.inr (.inr (va_up f i.toNatClampNeg (some v))))))) = .inl (cA t, n, .inr (.inr (.inr (.inr (va_up (fun i => (f i).map (fun x => base + x)) i.toNatClampNeg (some (base + v))))))) := by
    show Sum.inl (cA t, n, Sum.inr (Sum.inr (Sum.inr (Sum.inr (fun j => (va_up f i.toNatClampNeg (some v) j).map (fun x => base + x)))))) = _
    congr 7
    funext j
    by_cases hj : j = i.toNatClampNeg
    · simp [va_up, hj]
    · simp [va_up, hj]
  exact va_astq (D := D) hexec hb hK hP hD hW.2.1 q0 t qk ci he0' ht hek' hc h2 hdg (fun H1 locs1 hP1 hD1 hS1 => kk H1 locs1 ⟨wo_R.upd (e := .inl (t, n, .inr (.inr (.inr (.inr (va_up f i.toNatClampNeg (some v))))))) hL hD h1 he0 (by rw [hf]; exact hP1) (by rw [hf]; exact hD1), hS1, hW.2.2⟩)
theorem up_dom {q : Nat} {z : WE} (h : w q ≠ none) : wo_up w a z q ≠ none := by
  by_cases hq : q = a
  · rw [hq, wo_up_self]; exact (fun z => nomatch z)
  · rw [wo_up_ne w z hq]; exact h
theorem pv_dom {ci k : Nat} {v : Value} (h : pv w a ci k v = some w') {q : Nat} (hq : w q ≠ none) : w' q ≠ none := by
  obtain ⟨fs, -, -, rfl⟩ := pv_s h
  exact up_dom hq
theorem sI_dom {t : Nat} {i x : Int32} (h : sI w a t i x = some w') {q : Nat} (hq : w q ≠ none) : w' q ≠ none := by
  obtain ⟨n, f, -, -, rfl⟩ := sI_s h
  exact up_dom hq
theorem sR_dom {t ci v : Nat} {i : Int32} (h : sR w a t ci i v = some w') {q : Nat} (hq : w q ≠ none) : w' q ≠ none := by
  obtain ⟨n, f, -, -, -, rfl⟩ := sR_s h
  exact up_dom hq
/-- the world, and the heap's size: all cells from z0 on are in the map -/
def wz (D : va_G) (cl : List vw_C) (cA : Nat → ClassId) (base : Nat) (s : State) (z0 : Nat) (w0 : WW) (sz : Nat) (w : WW) (H : Heap) (locs : List Loc) : Prop := wo_S D cl cA base s w H locs ∧ H.size = base + sz ∧ (∀ q : Nat, z0 ≤ q → q < sz → w q ≠ none) ∧ s.heap.size = base + z0 ∧ z0 ≤ sz ∧ ∀ q : Nat, w0 q ≠ none → w q ≠ none
theorem wz_back {z0 : Nat} {w0 : WW} {g : JFrame} {wb : WW} {Hb : Heap} {lb : List Loc} (hB : wz D cl cA base s z0 w0 sz wb Hb lb) (hdm : ∀ q : Nat, wb q ≠ none → w q ≠ none) (hW : wo_S D cl cA base s w H locs) (kk : wz D cl cA base s z0 w0 sz w H locs → W p l e R s m args below meth c H locs (sz - z0) slots Q g) : W p l e R s m args below meth c H locs (sz - z0) slots Q g := by
  obtain ⟨-, -, hd, h0, hle, hd0⟩ := hB
  have hdom : ∀ q : Nat, z0 ≤ q → q < sz → w q ≠ none := fun q g1 g2 => hdm q (hd q g1 g2)
  intro T hT X
  have hup : H.size ≤ base + sz := by
    have h1 := X.heapSize
    rw [hT, h0] at h1
    omega
  have hlo : base + sz ≤ H.size := by
    by_cases hz : z0 = sz
    · have h1 := hW.2.1.1
      rw [h0] at h1
      omega
    · have h1 := hdom (sz - 1) (by omega) (by omega)
      cases he : w (sz - 1) with
      | none => exact absurd he h1
      | some x =>
        obtain ⟨L, k, -, h2, -, hk⟩ := hW.1.at he
        have h3 := (h2 k _ hk).lt
        dsimp only at h3
        omega
  exact kk ⟨hW, by omega, hdom, h0, hle, fun q g => hdm q (hd0 q g)⟩ T hT X
theorem wz_new {z0 : Nat} {w0 : WW} {H1 : Heap} {z : WE} (hZ : wz D cl cA base s z0 w0 sz w H locs) (h1 : H1.size = base + (sz + 1)) (hW : wo_S D cl cA base s (wo_up w sz z) H1 locs) : wz D cl cA base s z0 w0 (sz + 1) (wo_up w sz z) H1 locs := by
  refine ⟨hW, h1, fun q g1 g2 => ?_, hZ.2.2.2.1, Nat.le_succ_of_le hZ.2.2.2.2.1, fun q g => up_dom (hZ.2.2.2.2.2 q g)⟩
  by_cases hq : q = sz
  · rw [hq, wo_up_self]; exact (fun z => nomatch z)
  · rw [wo_up_ne w z hq]; exact hZ.2.2.1 q g1 (by omega)
end WON
/-- a constructor's contract: from a heap of sz cells to one of lc cells -/
def kt (l : Launch) (D : va_G) (cl : List vw_C) (tys : List (ClassId × FieldType)) (cA : Nat → ClassId) (base : Nat) (y : MethodName) (ws : List Cond) (rm : Room) (av : List Value) (sz lc : Nat) (w w' : WW) : Prop :=
  Met l y ws rm (fun a U => wo_P D cl tys cA base av w a U ∧ U.heap.size = base + sz) (fun a st o t => wo_Q D cl cA base none w' a st o t ∧ t.heap.size = base + lc ∧ (∀ q : Nat, sz ≤ q → q < lc → w' q ≠ none) ∧ ∀ q : Nat, w q ≠ none → w' q ≠ none) rm.cells rm.slots (wo_B base)
theorem kt_start {l : Launch} {D : va_G} {cl : List vw_C} {tys : List (ClassId × FieldType)} {cA : Nat → ClassId} {base : Nat} {y : MethodName} {ws' : List Cond} {rm : Room} {av : List Value} {sz lc : Nat} {w w' : WW} {cc : ByteArray} {maxL : Nat}
    (hy : plainName y.cls = true) (hn : (lg_sl av).length ≤ maxL)
    (body : ∀ (p : Program) (e : Env) (s : State) (m : MethodId) (below : List Frame) (meth : Method) (c : Code) (ls : Array Slot), p.tables.exec = Jvm.exec → c.code = cc → meth.sig.returnType = none → c.maxLocals = maxL → s.vm.findClass y.cls = some m.cls → (∀ w ∈ ws', w.before av.toArray s = true) → meth.locks = false → meth.name = y.name → va_K D cl tys s → wo_G cA base s → wz D cl cA base s sz w sz w s.heap [] → lv_has ls maxL (lv_args 0 av) →
      W p l e rm s m av.toArray below meth c s.heap [] (sz - sz) 0 (MQ below (fun a st o t => wo_Q D cl cA base none w' a st o t ∧ t.heap.size = base + lc ∧ (∀ q : Nat, sz ≤ q → q < lc → w' q ≠ none) ∧ ∀ q : Nat, w q ≠ none → w' q ≠ none) av.toArray s rm.cells rm.slots (wo_B base)) (F0 m 0 ls [])) :
    kt l D cl tys cA base y (Cond.code y cc maxL none :: ws') rm av sz lc w w' := by
  refine Met.ofW (cc := cc) (maxL := maxL) (ret := none) hy rfl ?_
  intro p e s m args below meth c s₁ B hml hv
  obtain ⟨⟨rfl, h1, h2, h3, h4⟩, h5⟩ := hv
  have hts := atoms_spec (ws := Cond.code y cc maxL none :: ws') B.pre
  have hown : s.vm.findClass y.cls = some m.cls := findClass_of_methodNamed B.named
  have hnm : meth.name = y.name := (name_of_methodNamed B.named B.method).1
  have hl := lv_entry av (n := maxL) hn
  rw [lg_entry_eq]
  have hb := body p e s m below meth c _ B.exec B.bytes B.returns hml hown (fun w hw => hts w (List.mem_cons_of_mem _ hw)) B.notSynchronized hnm h3 h4 ⟨⟨h2, va_S.rf, h1⟩, h5, fun q g1 g2 => absurd g1 (Nat.not_le.mpr g2), h5, Nat.le_refl _, fun _ g => g⟩ hl
  rw [Nat.sub_self] at hb
  exact hb
section WOK
variable {p : Program} {l : Launch} {e : Env} {R : Room} {s : State} {m : MethodId} {args : Array Value} {below : List Frame} {meth : Method} {c : Code} {H : Heap} {locs : List Loc} {cells slots : Nat} {Q : State → Prop}
variable {D : va_G} {cl : List vw_C} {tys : List (ClassId × FieldType)} {cA : Nat → ClassId} {base sz lc : Nat} {w w' : WW} {cc : ByteArray} {pc : Nat} {ls : Array Slot} {rest st0 : List Value}
theorem wo_kret (hexec : p.tables.exec = Jvm.exec) (hb : c.code = cc) (hr : meth.sig.returnType = none) (hlk : meth.locks = false) {z0 : Nat} {w0 : WW} (hZ : wz D cl cA base s z0 w0 sz w H locs) (hdg : decode cc pc = .ok (.return_, 1)) : W p l e R s m args below meth c H locs cells slots (MQ below (fun a st o t => wo_Q D cl cA base none w a st o t ∧ t.heap.size = base + sz ∧ (∀ q : Nat, z0 ≤ q → q < sz → w q ≠ none) ∧ ∀ q : Nat, w0 q ≠ none → w q ≠ none) args s cells slots (wo_B base)) (F0 m pc ls []) :=
  W.vret hexec hb hr (fun t ht _ => ⟨wo_end hZ.1 t ht, by rw [ht]; exact hZ.2.1, hZ.2.2.1, hZ.2.2.2.2.2⟩) hZ.1.2.1.2.2 hdg hlk
/-- a constructor called from a constructor -/
theorem wo_callK {own : String} {index nL maxL b n z0 : Nat} {w0 : WW} {y : MethodName} {bytes : ByteArray} {rm : Room} {As : List Value}
    (hx : p.tables.exec = Jvm.exec) (hb : c.code = cc) (hml : c.maxLocals = nL) (hown : s.vm.findClass own = some m.cls) (hts : ∀ w ∈ gt, w.before args s = true) (hK : va_K D cl tys s) (hG : wo_G cA base s) (hZ : wz D cl cA base s z0 w0 sz w H locs)
    (hM : kt l D cl tys cA base y (Cond.code y bytes maxL none :: gt) rm (.ref (base + b) :: As) sz lc w w') (hlc : sz ≤ lc)
    (cw : CallB R s args own index y bytes maxL none (Cond.code y bytes maxL none :: gt) rm rm.cells rm.slots n ∧ y.name = "<init>" ∧ (Cond.instanceMethod y).before args s = true)
    (hf : cells + rm.cells ≤ R.cells ∧ slots + rm.slots ≤ R.slots) (hn : As.length = n) (hsz : ls.size = nL) (hst : st0 = As.reverse ++ .ref (base + b) :: rest) (hcat : (rest.map fun v => v.category).sum ≤ 8) (hdg : decode cc pc = .ok (.invokespecial index, 3))
    (kk : ∀ (H1 : Heap) (locs1 : List Loc), wz D cl cA base s z0 w0 lc w' H1 locs1 → W p l e R s m args below meth c H1 locs1 (cells + rm.cells) (slots + rm.slots) Q (F0 m (pc + 3) ls rest)) : W p l e R s m args below meth c H locs cells slots Q (F0 m pc ls st0) := by
  have hr := va_runI (As := As) (rest := rest) (H := H) (locs := locs) (cells := cells) (slots := slots) (g := F0 m pc ls st0) (e := e) (below := below) (meth := meth) ⟨hx, hb, hml, hown, hts⟩ hM cw ⟨fun a U g mk q => ⟨wo_blind a U g mk q.1, q.2⟩, fun U hU hm => ⟨wo_pre hK hG hZ.1 U hU hm, by rw [hU]; exact hZ.2.1⟩⟩ rfl hn hsz hst (lv_room hcat) hdg hf
  intro T hT X
  obtain ⟨v, st₀, t, T', L, h0, X', hL, e1, e2, ⟨⟨hv, hR, hF1, hF2⟩, hz, hnew, hdom⟩, st⟩ := hr T hT X
  cases hv
  rw [h0] at hF1 hF2
  have hW := hZ.1
  have hS : va_S (wo_B base) s.heap t.heap (locs ++ L) := by
    refine ⟨Nat.le_trans hW.2.1.1 hF1, fun q h1 h2 => ?_, fun q hq => ?_⟩
    · rw [hF2 q (Nat.lt_of_lt_of_le h1 hW.2.1.1) h2]
      exact hW.2.1.2.1 q h1 h2
    · rcases List.mem_append.mp hq with h | h
      · exact hW.2.1.2.2 q h
      · exact hL q h
  obtain ⟨t2, a1, b1⟩ := kk t.heap (locs ++ L) ⟨⟨hR, hS, hW.2.2⟩, hz, fun q g1 g2 => by
    by_cases hq : q < sz
    · exact hdom q (hZ.2.2.1 q g1 hq)
    · exact hnew q (Nat.le_of_not_lt hq) g2, hZ.2.2.2.1, Nat.le_trans hZ.2.2.2.2.1 hlc, fun q g => hdom q (hZ.2.2.2.2.2 q g)⟩ T' e1 X'
  exact ⟨t2, st t2 a1, b1⟩
/-- .. a private one of a nest mate -/
theorem wo_callKN {own host : String} {index nL maxL b n z0 : Nat} {w0 : WW} {y : MethodName} {bytes : ByteArray} {rm : Room} {As : List Value}
    (hx : p.tables.exec = Jvm.exec) (hb : c.code = cc) (hml : c.maxLocals = nL) (hown : s.vm.findClass own = some m.cls) (hts : ∀ w ∈ gt, w.before args s = true) (hK : va_K D cl tys s) (hG : wo_G cA base s) (hZ : wz D cl cA base s z0 w0 sz w H locs)
    (hM : kt l D cl tys cA base y (Cond.code y bytes maxL none :: gt) rm (.ref (base + b) :: As) sz lc w w') (hlc : sz ≤ lc)
    (cw : va_CN R s args own index y host bytes maxL none (Cond.code y bytes maxL none :: gt) rm rm.cells rm.slots n ∧ y.name = "<init>" ∧ (Cond.instanceMethod y).before args s = true)
    (hf : cells + rm.cells ≤ R.cells ∧ slots + rm.slots ≤ R.slots) (hn : As.length = n) (hsz : ls.size = nL) (hst : st0 = As.reverse ++ .ref (base + b) :: rest) (hcat : (rest.map fun v => v.category).sum ≤ 8) (hdg : decode cc pc = .ok (.invokespecial index, 3))
    (kk : ∀ (H1 : Heap) (locs1 : List Loc), wz D cl cA base s z0 w0 lc w' H1 locs1 → W p l e R s m args below meth c H1 locs1 (cells + rm.cells) (slots + rm.slots) Q (F0 m (pc + 3) ls rest)) : W p l e R s m args below meth c H locs cells slots Q (F0 m pc ls st0) := by
  have hr := va_runIN (As := As) (rest := rest) (H := H) (locs := locs) (cells := cells) (slots := slots) (g := F0 m pc ls st0) (e := e) (below := below) (meth := meth) ⟨hx, hb, hml, hown, hts⟩ hM cw ⟨fun a U g mk q => ⟨wo_blind a U g mk q.1, q.2⟩, fun U hU hm => ⟨wo_pre hK hG hZ.1 U hU hm, by rw [hU]; exact hZ.2.1⟩⟩ rfl hn hsz hst (lv_room hcat) hdg hf
  intro T hT X
  obtain ⟨v, st₀, t, T', L, h0, X', hL, e1, e2, ⟨⟨hv, hR, hF1, hF2⟩, hz, hnew, hdom⟩, st⟩ := hr T hT X
  cases hv
  rw [h0] at hF1 hF2
  have hW := hZ.1
  have hS : va_S (wo_B base) s.heap t.heap (locs ++ L) := by
    refine ⟨Nat.le_trans hW.2.1.1 hF1, fun q h1 h2 => ?_, fun q hq => ?_⟩
    · rw [hF2 q (Nat.lt_of_lt_of_le h1 hW.2.1.1) h2]
      exact hW.2.1.2.1 q h1 h2
    · rcases List.mem_append.mp hq with h | h
      · exact hW.2.1.2.2 q h
      · exact hL q h
  obtain ⟨t2, a1, b1⟩ := kk t.heap (locs ++ L) ⟨⟨hR, hS, hW.2.2⟩, hz, fun q g1 g2 => by
    by_cases hq : q < sz
    · exact hdom q (hZ.2.2.1 q g1 hq)
    · exact hnew q (Nat.le_of_not_lt hq) g2, hZ.2.2.2.1, Nat.le_trans hZ.2.2.2.2.1 hlc, fun q g => hdom q (hZ.2.2.2.2.2 q g)⟩ T' e1 X'
  exact ⟨t2, st t2 a1, b1⟩
end WOK
/-- slots enough for k cells -/
def kS (k : Nat) : Nat := 1300 * k
theorem kS_new {sz z0 lc N : Nat} (h : z0 ≤ sz) (h2 : sz + 1 ≤ lc) (hN : N ≤ 1300) : kS (sz - z0) + N ≤ kS (lc - z0) := by unfold kS; omega
theorem kS_step {sz z0 N : Nat} (h : z0 ≤ sz) (hN : N ≤ 1300) : kS (sz - z0) + N ≤ kS (sz + 1 - z0) := by unfold kS; omega
theorem kS_call {sz z0 lc k : Nat} (h : z0 ≤ sz) (h2 : sz + k ≤ lc) : kS (sz - z0) + kS (sz + k - sz) ≤ kS (lc - z0) := by unfold kS; omega
theorem kS_past {sz z0 k : Nat} (h : z0 ≤ sz) : kS (sz - z0) + kS (sz + k - sz) ≤ kS (sz + k - z0) := by unfold kS; omega
theorem kC_new {sz z0 lc : Nat} (h : z0 ≤ sz) (h2 : sz + 1 ≤ lc) : sz - z0 + 1 ≤ lc - z0 := by omega
theorem kC_step {sz z0 : Nat} (h : z0 ≤ sz) : sz - z0 + 1 ≤ sz + 1 - z0 := by omega
theorem kC_call {sz z0 lc k : Nat} (h : z0 ≤ sz) (h2 : sz + k ≤ lc) : sz - z0 + (sz + k - sz) ≤ lc - z0 := by omega
theorem kC_past {sz z0 k : Nat} (h : z0 ≤ sz) : sz - z0 + (sz + k - sz) ≤ sz + k - z0 := by omega
/-! new arrays hold their defaults -/
theorem na_0 (n : Nat) (cB : ClassId) : vp_cell cB (n, .inl (fun _ => 0)) = arrV cB n (fun _ => defaultValue .int) := rfl
theorem na_1 (n : Nat) (cB : ClassId) : vp_cell cB (n, .inr (.inl (fun _ => 0))) = arrV cB n (fun _ => defaultValue .long) := rfl
theorem na_2 (n : Nat) (cB : ClassId) : vp_cell cB (n, .inl (fun _ => 0)) = arrV cB n (fun _ => defaultValue .boolean) := rfl
theorem na_3 (n : Nat) (cB : ClassId) : vp_cell cB (n, .inl (fun _ => 0)) = arrV cB n (fun _ => defaultValue .char) := rfl
