/-! What holds at the law's entry; the law's own script. -/
theorem isNw_on {w : Cond} (h : isNw w = true) : w.onTables = true := by
  unfold isNw at h
  split at h
  · rfl
  · rfl
  · rfl
  · rfl
  · cases h
theorem st_Z {C n d : String} {s : State} {args : Array Value} (h : (Cond.laysStatic C n d).before args s = true) (hr : (Cond.isRef (.static C n d)).before args s = true) : wo_Z C n d s.heap.size s := by
  obtain ⟨cf, k, i, f, a, cell, h1, h2, h3, h4, h5, h6, h7, h8, h9⟩ := Cond.laysStatic_spec h
  have hv : cell.slots[f.slot]? = some cell.slots[f.slot] := Array.getElem?_eq_getElem h8
  have he : (Term.static C n d).eval args s none [] s = some cell.slots[f.slot] := by simp [Term.eval, State.fieldNamed?, h2, h3, h4, h5, h6, hv]
  refine ⟨cf, k, i, f, a, cell, cell.slots[f.slot], h1, h2, h3, h4, h5, h6, h7, h8, h9, (Array.getElem?_eq_some_iff.mp h5).1, hv, ?_⟩
  simp only [Cond.before, Cond.holds, Cond.value, he] at hr
  cases hq : cell.slots[f.slot] <;> simp_all [Value.isRef]
theorem st_tyP {s : State} {args : Array Value} {ty : FieldType} (hp : ∀ C, ty ≠ .object C) (h : (Cond.arrayClass ty).before args s = true) : ∃ c : ClassId, ArrOfT s c ty ∧ va_RA s c ty := by
  obtain ⟨c, k, comp, h1, h2, h3⟩ := Cond.arrayClass_spec h
  refine ⟨c, fun n z => ⟨fun k h => (by cases h), k, h2, comp, h3⟩, ?_⟩
  cases ty with
  | object C => exact absurd rfl (hp C)
  | _ => exact h1
theorem st_tyO {s : State} {args : Array Value} {C : String} (h : (Cond.arrayOver (.object C)).before args s = true) : ∃ c : ClassId, ArrOfT s c (.object C) ∧ va_RA s c (.object C) := by
  obtain ⟨comp, c, k, h1, h2, h3, h4, h5⟩ := Cond.arrayOver_spec h
  exact ⟨c, fun n z => ⟨fun k h => (by cases h), k, h3, comp, h4⟩, k, comp, h3, h4, h1, h5⟩
theorem st_K {s : State} (hc : ∀ (k : Nat) (q : vw_C), cls[k]? = some q → ∃ (c : ClassId) (iS : Nat → Nat), u_Kn s q.1 q.2.1 q.2.2 c iS) (ht : ∀ (k : Nat) (ty : FieldType), ((wo_tys (fun _ => 0))[k]?).map (fun q => q.2) = some ty → ∃ c : ClassId, ArrOfT s c ty ∧ va_RA s c ty) : ∃ (D : va_G) (cA : Nat → ClassId), va_K D cls (wo_tys cA) s := by
  have h1 : ∀ k : Nat, ∃ y : ClassId × (Nat → Nat), ∀ q : vw_C, cls[k]? = some q → u_Kn s q.1 q.2.1 q.2.2 y.1 y.2 := by
    intro k
    cases hk : cls[k]? with
    | none => exact ⟨(0, fun _ => 0), fun q hq => by cases hq⟩
    | some q0 =>
      obtain ⟨c, iS, h⟩ := hc k q0 hk
      exact ⟨(c, iS), fun q hq => by cases hq; exact h⟩
  obtain ⟨f, hf⟩ := Classical.axiomOfChoice h1
  have h2 : ∀ k : Nat, ∃ c : ClassId, ∀ ty : FieldType, ((wo_tys (fun _ => 0))[k]?).map (fun q => q.2) = some ty → ArrOfT s c ty ∧ va_RA s c ty := by
    intro k
    cases hk : ((wo_tys (fun _ => 0))[k]?).map (fun q => q.2) with
    | none => exact ⟨0, fun q hq => by cases hq⟩
    | some t0 =>
      obtain ⟨c, h⟩ := ht k t0 hk
      exact ⟨c, fun q hq => by cases hq; exact h⟩
  obtain ⟨g, hg⟩ := Classical.axiomOfChoice h2
  refine ⟨(fun k => (f k).1, fun k => (f k).2), g, fun k q hq => hf k q hq, fun k q hq => ?_⟩
  have h3 : q.1 = g k ∧ ((wo_tys (fun _ => 0))[k]?).map (fun q => q.2) = some q.2 := by
    match k, hq with
    | 0, hq => cases hq; exact ⟨rfl, rfl⟩
    | 1, hq => cases hq; exact ⟨rfl, rfl⟩
    | 2, hq => cases hq; exact ⟨rfl, rfl⟩
    | 3, hq => cases hq; exact ⟨rfl, rfl⟩
    | 4, hq => cases hq; exact ⟨rfl, rfl⟩
    | 5, hq => cases hq; exact ⟨rfl, rfl⟩
    | 6, hq => cases hq; exact ⟨rfl, rfl⟩
    | k + 7, hq => cases hq
  rw [h3.1]
  exact hg k q.2 h3.2
/-- the world at the law's entry: nothing yet -/
theorem st_wz {D : va_G} {cl : List vw_C} {cA : Nat → ClassId} {s : State} : wz D cl cA s.heap.size s 0 (fun _ => none) 0 (fun _ => none) s.heap [] := by
  have h0 : va_pl [] (wo_f cA s.heap.size (fun _ => none)) = [] := rfl
  have hR : wo_R D cl cA s.heap.size (fun _ => none) s.heap := by
    refine ⟨[], fun a => ?_, ?_, ?_⟩
    · constructor
      · intro h; exact absurd h List.not_mem_nil
      · intro h; exact absurd rfl h.2
    · rw [h0]; intro k q h; simp at h
    · rw [h0]
      refine ⟨?_, ?_⟩
      · intro i j p q h; simp at h
      · intro k q h; simp at h
  exact ⟨⟨hR, va_S.rf, Nat.le_refl _⟩, rfl, fun q h1 h2 => absurd h2 (Nat.not_lt_zero _), rfl, Nat.le_refl _, fun q h => h⟩
/-- reading the script -/
def sc (L : Nat) (xs : Nat → Int32) (i : Int32) : Option Int32 := if ¬ (i < 0 ∨ L ≤ i.toNatClampNeg) then some (xs i.toNatClampNeg) else none
section SCR
variable {p : Program} {l : Launch} {e : Env} {R : Room} {s : State} {m : MethodId} {args : Array Value} {below : List Frame} {meth : Method} {c : Code} {H : Heap} {locs : List Loc} {cells slots : Nat} {Q : State → Prop}
variable {D : va_G} {cl : List vw_C} {cA : Nat → ClassId} {base : Nat} {w : WW} {cc : ByteArray} {pc : Nat} {ls : Array Slot} {rest : List Value} {b L : Nat} {xs : Nat → Int32}
theorem wo_sld (hexec : p.tables.exec = Jvm.exec) (hb : c.code = cc) (hX : va_X b L xs s s.heap) (hbl : b < s.heap.size) (hbb : b < base) (hW : wo_S D cl cA base s w H locs) {i x : Int32} (hv : sc L xs i = some x) (hdg : decode cc pc = .ok (.iaload, 1))
    (kk : W p l e R s m args below meth c H locs cells slots Q (F0 m (pc + 1) ls (.int x :: rest))) : W p l e R s m args below meth c H locs cells slots Q (F0 m pc ls (.int i :: .ref b :: rest)) := by
  obtain ⟨h1, h2⟩ := its hv
  cases h2
  exact va_sld hexec hb hX hbl (Nat.not_le.mpr hbb) hW.2.1 h1 hdg kk
theorem wo_slen (hexec : p.tables.exec = Jvm.exec) (hb : c.code = cc) (hX : va_X b L xs s s.heap) (hbl : b < s.heap.size) (hbb : b < base) (hW : wo_S D cl cA base s w H locs) (hdg : decode cc pc = .ok (.arraylength, 1))
    (kk : W p l e R s m args below meth c H locs cells slots Q (F0 m (pc + 1) ls (.int (Int32.ofNat L) :: rest))) : W p l e R s m args below meth c H locs cells slots Q (F0 m pc ls (.ref b :: rest)) :=
  va_slen hexec hb hX hbl (Nat.not_le.mpr hbb) hW.2.1 hdg kk
end SCR
