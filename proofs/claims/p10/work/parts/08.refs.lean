/-! References that may be null, arrays of references, switches. -/
def nl {β : Type} (t : Option Nat) (A : Option β) (B : Nat → Option β) : Option β := match t with
  | none => A
  | some a => B a
def rN (w : WW) (a t : Nat) (i : Int32) : Option Nat := match rR w a t i with
  | some (some x) => some x
  | _ => none
theorem rN_s {w : WW} {a t x : Nat} {i : Int32} (h : rN w a t i = some x) : rR w a t i = some (some x) := by
  unfold rN at h
  split at h
  · rename_i y hy; cases h; exact hy
  · cases h
theorem lv_args_rf (base i : Nat) (r : Option Nat) (vs : List Value) : lv_args i (rb base r :: vs) = (i, rb base r) :: lv_args (i + 1) vs := by cases r <;> rfl
theorem lv_args_0 (i : Nat) : lv_args i [] = [] := rfl
theorem lv_args_1 (i a : Nat) (vs : List Value) : lv_args i (Value.ref a :: vs) = (i, Value.ref a) :: lv_args (i + 1) vs := rfl
theorem lv_args_2 (i : Nat) (x : Int32) (vs : List Value) : lv_args i (Value.int x :: vs) = (i, Value.int x) :: lv_args (i + 1) vs := rfl
theorem lv_args_3 (i : Nat) (x : Int64) (vs : List Value) : lv_args i (Value.long x :: vs) = (i, Value.long x) :: lv_args (i + 2) vs := rfl
theorem lg_sl_0 : (lg_sl []).length = 0 := rfl
theorem lg_sl_rf (base : Nat) (r : Option Nat) (vs : List Value) : (lg_sl (rb base r :: vs)).length = (lg_sl vs).length + 1 := by cases r <;> simp [lg_sl, rb, Value.category] <;> omega
theorem lg_sl_1 (a : Nat) (vs : List Value) : (lg_sl (Value.ref a :: vs)).length = (lg_sl vs).length + 1 := by simp [lg_sl, Value.category]
theorem lg_sl_2 (x : Int32) (vs : List Value) : (lg_sl (Value.int x :: vs)).length = (lg_sl vs).length + 1 := by simp [lg_sl, Value.category]
theorem lg_sl_3 (x : Int64) (vs : List Value) : (lg_sl (Value.long x :: vs)).length = (lg_sl vs).length + 2 := by simp [lg_sl, Value.category]
section RFS
variable {p : Program} {l : Launch} {e : Env} {R : Room} {s : State} {m : MethodId} {args : Array Value} {below : List Frame} {meth : Method} {c : Code} {H : Heap} {locs : List Loc} {cells slots : Nat} {Q : State → Prop} {cc : ByteArray} {pc : Nat} {ls : Array Slot} {rest : List Value}
theorem wo_aload_n (hx : p.tables.exec = Jvm.exec) (hb : c.code = cc) {k : Fin 4} {base i : Nat} {r : Option Nat} (hdg : decode cc pc = .ok (.aload_n k, 1)) (hi : (k : Nat) = i) (hl : ls[i]? = some (.val (rb base r)))
    (kk : W p l e R s m args below meth c H locs cells slots Q (F0 m (pc + 1) ls (rb base r :: rest))) : W p l e R s m args below meth c H locs cells slots Q (F0 m pc ls (rest)) := by
  cases r with
  | none => exact lv_aload_nN hx hb hdg hi hl kk
  | some a => exact lv_aload_n hx hb hdg hi hl kk
theorem wo_aload (hx : p.tables.exec = Jvm.exec) (hb : c.code = cc) {base i : Nat} {r : Option Nat} (hdg : decode cc pc = .ok (.aload i, 2)) (hl : ls[i]? = some (.val (rb base r)))
    (kk : W p l e R s m args below meth c H locs cells slots Q (F0 m (pc + 2) ls (rb base r :: rest))) : W p l e R s m args below meth c H locs cells slots Q (F0 m pc ls (rest)) := by
  cases r with
  | none => exact lv_aloadN hx hb hdg hl kk
  | some a => exact lv_aload hx hb hdg hl kk
theorem wo_astore_n (hx : p.tables.exec = Jvm.exec) (hb : c.code = cc) {k : Fin 4} {base i nL : Nat} {r : Option Nat} {lv lv' : List (Nat × Value)} (hdg : decode cc pc = .ok (.astore_n k, 1)) (hi : (k : Nat) = i) (h : lv_has ls nL lv) (hn : i < nL) (hl : (i, rb base r) :: lv.filter (fun q => !(q.1 == i) && !(q.1 + 1 == i && q.2.category == 2)) = lv')
    (kk : ∀ ls' : Array Slot, lv_has ls' nL lv' → W p l e R s m args below meth c H locs cells slots Q (F0 m (pc + 1) ls' rest)) : W p l e R s m args below meth c H locs cells slots Q (F0 m pc ls (rb base r :: rest)) := by
  cases r with
  | none => exact lv_astore_nN hx hb hdg hi h hn hl kk
  | some a => exact lv_astore_n hx hb hdg hi h hn hl kk
theorem wo_astore (hx : p.tables.exec = Jvm.exec) (hb : c.code = cc) {base i nL : Nat} {r : Option Nat} {lv lv' : List (Nat × Value)} (hdg : decode cc pc = .ok (.astore i, 2)) (h : lv_has ls nL lv) (hn : i < nL) (hl : (i, rb base r) :: lv.filter (fun q => !(q.1 == i) && !(q.1 + 1 == i && q.2.category == 2)) = lv')
    (kk : ∀ ls' : Array Slot, lv_has ls' nL lv' → W p l e R s m args below meth c H locs cells slots Q (F0 m (pc + 2) ls' rest)) : W p l e R s m args below meth c H locs cells slots Q (F0 m pc ls (rb base r :: rest)) := by
  cases r with
  | none => exact lv_astoreN hx hb hdg h hn hl kk
  | some a => exact lv_astore hx hb hdg h hn hl kk
theorem wo_null {base : Nat} (hx : p.tables.exec = Jvm.exec) (hb : c.code = cc) (hdg : decode cc pc = .ok (.aconst_null, 1)) (kk : W p l e R s m args below meth c H locs cells slots Q (F0 m (pc + 1) ls (rb base none :: rest))) : W p l e R s m args below meth c H locs cells slots Q (F0 m pc ls rest) := lv_null hx hb hdg kk
theorem wo_ifnull (hx : p.tables.exec = Jvm.exec) (hb : c.code = cc) {base : Nat} {r : Option Nat} {off : Int} {tgt : Nat} (hdg : decode cc pc = .ok (.ifnull off, 3)) (ht : (pc : Int) + off = (tgt : Int)) (kt : r = none → W p l e R s m args below meth c H locs cells slots Q (F0 m tgt ls rest)) (kf : ∀ a : Nat, r = some a → W p l e R s m args below meth c H locs cells slots Q (F0 m (pc + 3) ls rest)) : W p l e R s m args below meth c H locs cells slots Q (F0 m pc ls (rb base r :: rest)) := by
  cases r with
  | none => exact lv_ifnullN hx hb hdg ht (kt rfl)
  | some a => exact lv_ifnull hx hb hdg (kf a rfl)
theorem wo_ifnonnull (hx : p.tables.exec = Jvm.exec) (hb : c.code = cc) {base : Nat} {r : Option Nat} {off : Int} {tgt : Nat} (hdg : decode cc pc = .ok (.ifnonnull off, 3)) (ht : (pc : Int) + off = (tgt : Int)) (kt : ∀ a : Nat, r = some a → W p l e R s m args below meth c H locs cells slots Q (F0 m tgt ls rest)) (kf : r = none → W p l e R s m args below meth c H locs cells slots Q (F0 m (pc + 3) ls rest)) : W p l e R s m args below meth c H locs cells slots Q (F0 m pc ls (rb base r :: rest)) := by
  cases r with
  | none => exact lv_ifnonnullN hx hb hdg (kf rfl)
  | some a => exact lv_ifnonnull hx hb hdg ht (kt a rfl)
end RFS
theorem mt_startF {l : Launch} {D : va_G} {cl : List vw_C} {tys : List (ClassId × FieldType)} {cA : Nat → ClassId} {base : Nat} {y : MethodName} {ws' : List Cond} {rm : Room} {av : List Value} {w w' : WW} {ov : Option Value} {mc ms : Nat} {cc : ByteArray} {maxL : Nat} {ret : Option FieldType}
    (hy : plainFor y = true) (hn : (lg_sl av).length ≤ maxL)
    (body : ∀ (p : Program) (e : Env) (s : State) (m : MethodId) (below : List Frame) (meth : Method) (c : Code) (ls : Array Slot), p.tables.exec = Jvm.exec → c.code = cc → meth.sig.returnType = ret → c.maxLocals = maxL → s.vm.findClass y.cls = some m.cls → (∀ w ∈ ws', w.before av.toArray s = true) → meth.locks = false → meth.name = y.name → va_K D cl tys s → wo_G cA base s → wo_S D cl cA base s w s.heap [] → lv_has ls maxL (lv_args 0 av) →
      W p l e rm s m av.toArray below meth c s.heap [] 0 0 (MQ below (wo_Q D cl cA base ov w') av.toArray s mc ms (wo_B base)) (F0 m 0 ls [])) :
    mt l D cl tys cA base y (Cond.code y cc maxL ret :: ws') rm av w ov w' mc ms := by
  refine va_MetF (cc := cc) (maxL := maxL) (ret := ret) hy rfl ?_
  intro p e s m args below meth c s₁ B hml hv
  obtain ⟨rfl, h1, h2, h3, h4⟩ := hv
  have hts := atoms_spec (ws := Cond.code y cc maxL ret :: ws') B.pre
  have hown : s.vm.findClass y.cls = some m.cls := findClass_of_methodNamed B.named
  have hnm : meth.name = y.name := (name_of_methodNamed B.named B.method).1
  have hl := lv_entry av (n := maxL) hn
  rw [lg_entry_eq]
  exact body p e s m below meth c _ B.exec B.bytes B.returns hml hown (fun w hw => hts w (List.mem_cons_of_mem _ hw)) B.notSynchronized hnm h3 h4 ⟨h2, va_S.rf, h1⟩ hl
