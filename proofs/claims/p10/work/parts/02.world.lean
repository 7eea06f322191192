/-! The world as ONE map: cells by their addresses; a method's contract speaks of the whole map. -/
/-- a cell: an array by the number of its type among wo_tys, an object by the number of its class -/
abbrev WE : Type := (Nat × vp_A) ⊕ (Nat × List Value)
abbrev WW : Type := Nat → Option WE
/-- a value of the map as the machine holds it: the map's addresses count from base -/
def ub (base : Nat) (v : Value) : Value := match v with
  | .ref a => .ref (base + a)
  | v => v
def rb (base : Nat) (r : Option Nat) : Value := match r with
  | none => .null
  | some a => .ref (base + a)
theorem ub_rf (base : Nat) (r : Option Nat) : ub base (va_rf r) = rb base r := by cases r <;> rfl
theorem rb_rf (base : Nat) (r : Option Nat) : rb base r = va_rf (r.map fun x => base + x) := by cases r <;> rfl
def ubA (base : Nat) (a : vp_A) : vp_A := match a with
  | (n, .inr (.inr (.inr (.inr f)))) => (n, .inr (.inr (.inr (.inr (fun i => (f i).map (fun x => base + x))))))
  | a => a
theorem ubA_len (base : Nat) (a : vp_A) : (ubA base a).1 = a.1 := by
  unfold ubA
  split <;> rfl
def wo_e (cA : Nat → ClassId) (base : Nat) (e : WE) : va_E := match e with
  | .inl a => .inl (cA a.1, ubA base a.2)
  | .inr o => .inr (o.1, o.2.map (ub base))
def wo_f (cA : Nat → ClassId) (base : Nat) (w : WW) (a : Nat) : va_E := if base ≤ a then (match w (a - base) with
  | some e => wo_e cA base e
  | none => .inr (0, [])) else .inr (0, [])
def wo_up (w : WW) (a : Nat) (e : WE) : WW := fun b => if b = a then some e else w b
def wo_B (base : Nat) : Nat → Prop := fun q => base ≤ q
theorem wo_up_self (w : WW) (a : Nat) (e : WE) : wo_up w a e a = some e := by simp [wo_up]
theorem wo_up_ne (w : WW) {a b : Nat} (e : WE) (h : b ≠ a) : wo_up w a e b = w b := by simp [wo_up, h]
theorem wo_up_up (w : WW) (a : Nat) (e e2 : WE) : wo_up (wo_up w a e) a e2 = wo_up w a e2 := by
  funext b
  by_cases h : b = a <;> simp [wo_up, h]
def wo_D (base : Nat) (w : WW) (L : List Nat) : Prop := ∀ a : Nat, a ∈ L ↔ (base ≤ a ∧ w (a - base) ≠ none)
def wo_R (D : va_G) (cl : List vw_C) (cA : Nat → ClassId) (base : Nat) (w : WW) (H : Heap) : Prop :=
  ∃ L : List Nat, wo_D base w L ∧ va_P D cl (va_pl L (wo_f cA base w)) H ∧ va_D (wo_B base) (va_pl L (wo_f cA base w))
theorem wo_f_up (cA : Nat → ClassId) (base : Nat) (w : WW) (a : Nat) (e : WE) : wo_f cA base (wo_up w a e) = va_up (wo_f cA base w) (base + a) (wo_e cA base e) := by
  funext b
  by_cases h : b = base + a
  · subst h; simp [wo_f, wo_up, va_up]
  · by_cases hb : base ≤ b
    · have h2 : ¬ b - base = a := by omega
      simp [wo_f, wo_up, va_up, h, hb, h2]
    · simp [wo_f, va_up, h, hb]
theorem wo_f_at {cA : Nat → ClassId} {base : Nat} {w : WW} {a : Nat} {e : WE} (h : w a = some e) : wo_f cA base w (base + a) = wo_e cA base e := by simp [wo_f, h]
theorem wo_D.mem {base : Nat} {w : WW} {L : List Nat} (h : wo_D base w L) {a : Nat} {e : WE} (ha : w a = some e) : base + a ∈ L :=
  (h (base + a)).mpr ⟨Nat.le_add_right _ _, by rw [Nat.add_sub_cancel_left, ha]; exact fun z => nomatch z⟩
theorem wo_R.at {D : va_G} {cl : List vw_C} {cA : Nat → ClassId} {base : Nat} {w : WW} {H : Heap} (h : wo_R D cl cA base w H) {a : Nat} {e : WE} (ha : w a = some e) :
    ∃ (L : List Nat) (k : Nat), wo_D base w L ∧ va_P D cl (va_pl L (wo_f cA base w)) H ∧ va_D (wo_B base) (va_pl L (wo_f cA base w)) ∧ (va_pl L (wo_f cA base w))[k]? = some (base + a, wo_e cA base e) := by
  obtain ⟨L, h1, h2, h3⟩ := h
  obtain ⟨k, hk⟩ := va_pl_get (X := []) (f := wo_f cA base w) (h1.mem ha)
  rw [wo_f_at ha] at hk
  exact ⟨L, k, h1, h2, h3, hk⟩
theorem wo_R.upd {D : va_G} {cl : List vw_C} {cA : Nat → ClassId} {base : Nat} {w : WW} {H1 : Heap} {L : List Nat} {a k : Nat} {e0 e : WE} (hL : wo_D base w L) (hD : va_D (wo_B base) (va_pl L (wo_f cA base w))) (ha : w a = some e0) (hk : (va_pl L (wo_f cA base w))[k]? = some (base + a, wo_e cA base e0))
    (hP1 : va_P D cl ((va_pl L (wo_f cA base w)).set k (base + a, wo_e cA base e)) H1) (hD1 : va_D (wo_B base) ((va_pl L (wo_f cA base w)).set k (base + a, wo_e cA base e))) : wo_R D cl cA base (wo_up w a e) H1 := by
  have hm : base + a ∈ L := hL.mem ha
  have he : (va_pl L (wo_f cA base w)).set k (base + a, wo_e cA base e) = va_pl L (wo_f cA base (wo_up w a e)) := by
    rw [wo_f_up]
    have hk' : (([] : va_W) ++ va_pl L (wo_f cA base w))[k]? = some (base + a, wo_f cA base w (base + a)) := by rw [wo_f_at ha]; exact hk
    exact va_pl_set (X := []) hD hm hk'
  rw [he] at hP1 hD1
  refine ⟨L, fun b => ?_, hP1, hD1⟩
  by_cases hb : b = base + a
  · subst hb
    exact ⟨fun _ => ⟨Nat.le_add_right _ _, by rw [Nat.add_sub_cancel_left, wo_up_self]; exact (fun z => nomatch z)⟩, fun _ => hm⟩
  · by_cases hb2 : base ≤ b
    · have h3 : b - base ≠ a := by omega
      rw [wo_up_ne w e h3]; exact hL b
    · exact ⟨fun z => absurd ((hL b).mp z).1 hb2, fun z => absurd z.1 hb2⟩
/-- a cell of no world becomes one -/
theorem wo_R.push {D : va_G} {cl : List vw_C} {cA : Nat → ClassId} {base : Nat} {w : WW} {H1 : Heap} {L : List Nat} {q : Nat} {e : WE} (hL : wo_D base w L) (hq : w q = none)
    (hP1 : va_P D cl (va_pl L (wo_f cA base w) ++ [(base + q, wo_e cA base e)]) H1) (hD1 : va_D (wo_B base) (va_pl L (wo_f cA base w) ++ [(base + q, wo_e cA base e)])) : wo_R D cl cA base (wo_up w q e) H1 := by
  have hn : base + q ∉ L := fun z => ((hL (base + q)).mp z).2 (by rw [Nat.add_sub_cancel_left]; exact hq)
  rw [va_pl_push hn] at hP1 hD1
  rw [← wo_f_up] at hP1 hD1
  refine ⟨L ++ [base + q], fun b => ?_, hP1, hD1⟩
  by_cases hb : b = base + q
  · subst hb
    exact ⟨fun _ => ⟨Nat.le_add_right _ _, by rw [Nat.add_sub_cancel_left, wo_up_self]; exact (fun z => nomatch z)⟩, fun _ => List.mem_append_right _ List.mem_cons_self⟩
  · have hm : b ∈ L ++ [base + q] ↔ b ∈ L := by
      constructor
      · intro hm
        rcases List.mem_append.mp hm with h | h
        · exact h
        · exact absurd (List.mem_singleton.mp h) hb
      · exact fun h => List.mem_append_left _ h
    rw [hm]
    by_cases hb2 : base ≤ b
    · have h3 : b - base ≠ q := by omega
      rw [wo_up_ne w e h3]; exact hL b
    · exact ⟨fun z => absurd ((hL b).mp z).1 hb2, fun z => absurd z.1 hb2⟩
/-! Reading and writing the map. -/
def gv (w : WW) (a ci k : Nat) : Option Value := match w a with
  | some (.inr o) => if o.1 = ci then o.2[k]? else none
  | _ => none
def gI (w : WW) (a ci k : Nat) : Option Int32 := match gv w a ci k with
  | some (.int x) => some x
  | _ => none
def gL (w : WW) (a ci k : Nat) : Option Int64 := match gv w a ci k with
  | some (.long x) => some x
  | _ => none
def gR (w : WW) (a ci k : Nat) : Option (Option Nat) := match gv w a ci k with
  | some (.ref x) => some (some x)
  | some .null => some none
  | _ => none
def pv (w : WW) (a ci k : Nat) (v : Value) : Option WW := match w a with
  | some (.inr o) => if o.1 = ci ∧ k < o.2.length then some (wo_up w a (.inr (ci, o.2.set k v))) else none
  | _ => none
def ga (w : WW) (a t : Nat) : Option vp_A := match w a with
  | some (.inl x) => if x.1 = t then some x.2 else none
  | _ => none
def rI (w : WW) (a t : Nat) (i : Int32) : Option Int32 := match ga w a t with
  | some (n, .inl f) => if ¬ (i < 0 ∨ n ≤ i.toNatClampNeg) then some (f i.toNatClampNeg) else none
  | _ => none
def rL (w : WW) (a t : Nat) (i : Int32) : Option Int64 := match ga w a t with
  | some (n, .inr (.inl f)) => if ¬ (i < 0 ∨ n ≤ i.toNatClampNeg) then some (f i.toNatClampNeg) else none
  | _ => none
def rR (w : WW) (a t : Nat) (i : Int32) : Option (Option Nat) := match ga w a t with
  | some (n, .inr (.inr (.inr (.inr f)))) => if ¬ (i < 0 ∨ n ≤ i.toNatClampNeg) then some (f i.toNatClampNeg) else none
  | _ => none
def sI (w : WW) (a t : Nat) (i x : Int32) : Option WW := match ga w a t with
  | some (n, .inl f) => if ¬ (i < 0 ∨ n ≤ i.toNatClampNeg) then some (wo_up w a (.inl (t, n, .inl (upd f i.toNatClampNeg x)))) else none
  | _ => none
def sL (w : WW) (a t : Nat) (i : Int32) (x : Int64) : Option WW := match ga w a t with
  | some (n, .inr (.inl f)) => if ¬ (i < 0 ∨ n ≤ i.toNatClampNeg) then some (wo_up w a (.inl (t, n, .inr (.inl (vp_updL f i.toNatClampNeg x))))) else none
  | _ => none
def al (w : WW) (a t : Nat) : Option Int32 := match ga w a t with
  | some x => some (Int32.ofNat x.1)
  | none => none
theorem gv_s {w : WW} {a ci k : Nat} {v : Value} (h : gv w a ci k = some v) : ∃ fs : List Value, w a = some (.inr (ci, fs)) ∧ fs[k]? = some v := by
  unfold gv at h
  split at h
  · rename_i o ho
    split at h
    · rename_i hc
      obtain ⟨c, fs⟩ := o
      cases hc
      exact ⟨fs, ho, h⟩
    · cases h
  · cases h
/-- what the machine holds where the map holds gv -/
def gb (base : Nat) (w : WW) (a ci k : Nat) : Option Value := (gv w a ci k).map (ub base)
theorem gb_s {base : Nat} {w : WW} {a ci k : Nat} {v : Value} (h : gb base w a ci k = some v) : ∃ fs : List Value, w a = some (.inr (ci, fs)) ∧ (fs.map (ub base))[k]? = some v := by
  unfold gb at h
  cases hg : gv w a ci k with
  | none => rw [hg] at h; cases h
  | some v0 =>
    rw [hg] at h
    obtain ⟨fs, h1, h2⟩ := gv_s hg
    refine ⟨fs, h1, ?_⟩
    rw [List.getElem?_map, h2]
    exact h
theorem gI_s {base : Nat} {w : WW} {a ci k : Nat} {x : Int32} (h : gI w a ci k = some x) : gb base w a ci k = some (.int x) := by
  unfold gI at h
  split at h
  · rename_i y hy; cases h; rw [gb, hy]; rfl
  · cases h
theorem gL_s {base : Nat} {w : WW} {a ci k : Nat} {x : Int64} (h : gL w a ci k = some x) : gb base w a ci k = some (.long x) := by
  unfold gL at h
  split at h
  · rename_i y hy; cases h; rw [gb, hy]; rfl
  · cases h
theorem gR_s {base : Nat} {w : WW} {a ci k : Nat} {r : Option Nat} (h : gR w a ci k = some r) : gb base w a ci k = some (rb base r) := by
  unfold gR at h
  split at h
  · rename_i y hy; cases h; rw [gb, hy]; rfl
  · rename_i hy; cases h; rw [gb, hy]; rfl
  · cases h
theorem pv_s {w w' : WW} {a ci k : Nat} {v : Value} (h : pv w a ci k v = some w') : ∃ fs : List Value, w a = some (.inr (ci, fs)) ∧ k < fs.length ∧ w' = wo_up w a (.inr (ci, fs.set k v)) := by
  unfold pv at h
  split at h
  · rename_i o ho
    split at h
    · rename_i hc
      obtain ⟨c, fs⟩ := o
      obtain ⟨h1, h2⟩ := hc
      cases h1
      cases h
      exact ⟨fs, ho, h2, rfl⟩
    · cases h
  · cases h
def pb (base : Nat) (w w' : WW) (a ci k : Nat) (v : Value) : Prop := ∃ v0 : Value, pv w a ci k v0 = some w' ∧ ub base v0 = v
theorem pbi {base : Nat} {w w' : WW} {a ci k : Nat} {v v0 : Value} (h : pv w a ci k v0 = some w') (h2 : ub base v0 = v) : pb base w w' a ci k v := ⟨v0, h, h2⟩
theorem pb_s {base : Nat} {w w' : WW} {a ci k : Nat} {v : Value} (h : pb base w w' a ci k v) : ∃ (fs : List Value) (v0 : Value), w a = some (.inr (ci, fs)) ∧ k < (fs.map (ub base)).length ∧ w' = wo_up w a (.inr (ci, fs.set k v0)) ∧ ub base v0 = v := by
  obtain ⟨v0, h1, h2⟩ := h
  obtain ⟨fs, g1, g2, g3⟩ := pv_s h1
  exact ⟨fs, v0, g1, by rw [List.length_map]; exact g2, g3, h2⟩
theorem wo_e_set {cA : Nat → ClassId} {base ci k : Nat} {fs : List Value} {v0 : Value} : wo_e cA base (.inr (ci, fs.set k v0)) = .inr (ci, (fs.map (ub base)).set k (ub base v0)) := by simp [wo_e, List.map_set]
theorem ga_s {w : WW} {a t : Nat} {x : vp_A} (h : ga w a t = some x) : w a = some (.inl (t, x)) := by
  unfold ga at h
  split at h
  · rename_i o ho
    split at h
    · rename_i hc
      obtain ⟨c, y⟩ := o
      cases hc
      cases h
      exact ho
    · cases h
  · cases h
theorem rI_s {w : WW} {a t : Nat} {i x : Int32} (h : rI w a t i = some x) : ∃ (n : Nat) (f : Nat → Int32), w a = some (.inl (t, n, .inl f)) ∧ vp_in i n ∧ x = f i.toNatClampNeg := by
  unfold rI at h
  split at h
  · rename_i n f hy
    split at h
    · rename_i hc; cases h; exact ⟨n, f, ga_s hy, hc, rfl⟩
    · cases h
  · cases h
theorem rL_s {w : WW} {a t : Nat} {i : Int32} {x : Int64} (h : rL w a t i = some x) : ∃ (n : Nat) (f : Nat → Int64), w a = some (.inl (t, n, .inr (.inl f))) ∧ vp_in i n ∧ x = f i.toNatClampNeg := by
  unfold rL at h
  split at h
  · rename_i n f hy
    split at h
    · rename_i hc; cases h; exact ⟨n, f, ga_s hy, hc, rfl⟩
    · cases h
  · cases h
theorem rR_s {w : WW} {a t : Nat} {i : Int32} {x : Option Nat} (h : rR w a t i = some x) : ∃ (n : Nat) (f : Nat → Option Nat), w a = some (.inl (t, n, .inr (.inr (.inr (.inr f))))) ∧ vp_in i n ∧ x = f i.toNatClampNeg := by
  unfold rR at h
  split at h
  · rename_i n f hy
    split at h
    · rename_i hc; cases h; exact ⟨n, f, ga_s hy, hc, rfl⟩
    · cases h
  · cases h
theorem sI_s {w w' : WW} {a t : Nat} {i x : Int32} (h : sI w a t i x = some w') : ∃ (n : Nat) (f : Nat → Int32), w a = some (.inl (t, n, .inl f)) ∧ vp_in i n ∧ w' = wo_up w a (.inl (t, n, .inl (upd f i.toNatClampNeg x))) := by
  unfold sI at h
  split at h
  · rename_i n f hy
    split at h
    · rename_i hc; cases h; exact ⟨n, f, ga_s hy, hc, rfl⟩
    · cases h
  · cases h
theorem sL_s {w w' : WW} {a t : Nat} {i : Int32} {x : Int64} (h : sL w a t i x = some w') : ∃ (n : Nat) (f : Nat → Int64), w a = some (.inl (t, n, .inr (.inl f))) ∧ vp_in i n ∧ w' = wo_up w a (.inl (t, n, .inr (.inl (vp_updL f i.toNatClampNeg x)))) := by
  unfold sL at h
  split at h
  · rename_i n f hy
    split at h
    · rename_i hc; cases h; exact ⟨n, f, ga_s hy, hc, rfl⟩
    · cases h
  · cases h
theorem al_s {w : WW} {a t : Nat} {x : Int32} (h : al w a t = some x) : ∃ y : vp_A, w a = some (.inl (t, y)) ∧ Int32.ofNat y.1 = x := by
  unfold al at h
  split at h
  · rename_i y hy; cases h; exact ⟨y, ga_s hy, rfl⟩
  · cases h
