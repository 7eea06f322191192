/-! The world as ONE map: cells by their addresses; a method's contract speaks of the whole map. -/
/-- a cell: an array by the number of its type among wo_tys, an object by the number of its class -/
abbrev WE : Type := (Nat × vp_A) ⊕ (Nat × List Value)
abbrev WW : Type := Nat → Option WE
def wo_e (cA : Nat → ClassId) (e : WE) : va_E := match e with
  | .inl a => .inl (cA a.1, a.2)
  | .inr o => .inr o
def wo_f (cA : Nat → ClassId) (w : WW) (a : Nat) : va_E := match w a with
  | some e => wo_e cA e
  | none => .inr (0, [])
def wo_up (w : WW) (a : Nat) (e : WE) : WW := fun b => if b = a then some e else w b
def wo_B (base : Nat) : Nat → Prop := fun q => base ≤ q
theorem wo_up_self (w : WW) (a : Nat) (e : WE) : wo_up w a e a = some e := by simp [wo_up]
theorem wo_up_ne (w : WW) {a b : Nat} (e : WE) (h : b ≠ a) : wo_up w a e b = w b := by simp [wo_up, h]
theorem wo_up_up (w : WW) (a : Nat) (e e2 : WE) : wo_up (wo_up w a e) a e2 = wo_up w a e2 := by
  funext b
  by_cases h : b = a <;> simp [wo_up, h]
def wo_R (D : va_G) (cl : List vw_C) (cA : Nat → ClassId) (base : Nat) (w : WW) (H : Heap) : Prop :=
  ∃ L : List Nat, (∀ a : Nat, a ∈ L ↔ w a ≠ none) ∧ va_P D cl (va_pl L (wo_f cA w)) H ∧ va_D (wo_B base) (va_pl L (wo_f cA w))
theorem wo_f_up (cA : Nat → ClassId) (w : WW) (a : Nat) (e : WE) : wo_f cA (wo_up w a e) = va_up (wo_f cA w) a (wo_e cA e) := by
  funext b
  by_cases h : b = a
  · subst h; simp [wo_f, wo_up, va_up]
  · simp [wo_f, wo_up, va_up, h]
theorem wo_f_at {cA : Nat → ClassId} {w : WW} {a : Nat} {e : WE} (h : w a = some e) : wo_f cA w a = wo_e cA e := by simp [wo_f, h]
theorem wo_R.at {D : va_G} {cl : List vw_C} {cA : Nat → ClassId} {base : Nat} {w : WW} {H : Heap} (h : wo_R D cl cA base w H) {a : Nat} {e : WE} (ha : w a = some e) :
    ∃ (L : List Nat) (k : Nat), (∀ a : Nat, a ∈ L ↔ w a ≠ none) ∧ va_P D cl (va_pl L (wo_f cA w)) H ∧ va_D (wo_B base) (va_pl L (wo_f cA w)) ∧ (va_pl L (wo_f cA w))[k]? = some (a, wo_e cA e) := by
  obtain ⟨L, h1, h2, h3⟩ := h
  obtain ⟨k, hk⟩ := va_pl_get (X := []) (f := wo_f cA w) ((h1 a).mpr (by rw [ha]; exact fun z => nomatch z))
  rw [wo_f_at ha] at hk
  exact ⟨L, k, h1, h2, h3, hk⟩
theorem wo_R.upd {D : va_G} {cl : List vw_C} {cA : Nat → ClassId} {base : Nat} {w : WW} {H1 : Heap} {L : List Nat} {a k : Nat} {e0 e : WE} (hL : ∀ a : Nat, a ∈ L ↔ w a ≠ none) (hD : va_D (wo_B base) (va_pl L (wo_f cA w))) (ha : w a = some e0) (hk : (va_pl L (wo_f cA w))[k]? = some (a, wo_e cA e0))
    (hP1 : va_P D cl ((va_pl L (wo_f cA w)).set k (a, wo_e cA e)) H1) (hD1 : va_D (wo_B base) ((va_pl L (wo_f cA w)).set k (a, wo_e cA e))) : wo_R D cl cA base (wo_up w a e) H1 := by
  have hm : a ∈ L := (hL a).mpr (by rw [ha]; exact fun z => nomatch z)
  have he : (va_pl L (wo_f cA w)).set k (a, wo_e cA e) = va_pl L (wo_f cA (wo_up w a e)) := by
    rw [wo_f_up]
    have hk' : (([] : va_W) ++ va_pl L (wo_f cA w))[k]? = some (a, wo_f cA w a) := by rw [wo_f_at ha]; exact hk
    exact va_pl_set (X := []) hD hm hk'
  rw [he] at hP1 hD1
  refine ⟨L, fun b => ?_, hP1, hD1⟩
  by_cases hb : b = a
  · subst hb
    exact ⟨fun _ => by rw [wo_up_self]; exact (fun z => nomatch z), fun _ => hm⟩
  · rw [wo_up_ne w e hb]; exact hL b
/-- a cell of no world becomes one -/
theorem wo_R.push {D : va_G} {cl : List vw_C} {cA : Nat → ClassId} {base : Nat} {w : WW} {H1 : Heap} {L : List Nat} {q : Nat} {e : WE} (hL : ∀ a : Nat, a ∈ L ↔ w a ≠ none) (hq : w q = none)
    (hP1 : va_P D cl (va_pl L (wo_f cA w) ++ [(q, wo_e cA e)]) H1) (hD1 : va_D (wo_B base) (va_pl L (wo_f cA w) ++ [(q, wo_e cA e)])) : wo_R D cl cA base (wo_up w q e) H1 := by
  have hn : q ∉ L := fun z => (hL q).mp z hq
  rw [va_pl_push hn] at hP1 hD1
  rw [← wo_f_up] at hP1 hD1
  refine ⟨L ++ [q], fun b => ?_, hP1, hD1⟩
  by_cases hb : b = q
  · subst hb
    exact ⟨fun _ => by rw [wo_up_self]; exact (fun z => nomatch z), fun _ => List.mem_append_right _ List.mem_cons_self⟩
  · rw [wo_up_ne w e hb]
    constructor
    · intro hm
      rcases List.mem_append.mp hm with h | h
      · exact (hL b).mp h
      · exact absurd (List.mem_singleton.mp h) hb
    · exact fun hm => List.mem_append_left _ ((hL b).mpr hm)
/-! Reading and writing the map. -/
def gv (w : WW) (a ci k : Nat) : Option Value := match w a with
  | some (.inr o) => if o.1 = ci then o.2[k]? else none
  | _ => none
def gI (w : WW) (a ci k : Nat) : Option Int32 := match gv w a ci k with
  | some (.int x) => some x
  | _ => none
def gL (w : WW) (a ci k : Nat) : Option Int64 := match gv w a ci k with
  | some (.long x) => some x
  | _ => none
def gR (w : WW) (a ci k : Nat) : Option (Option Nat) := match gv w a ci k with
  | some (.ref x) => some (some x)
  | some .null => some none
  | _ => none
def pv (w : WW) (a ci k : Nat) (v : Value) : Option WW := match w a with
  | some (.inr o) => if o.1 = ci ∧ k < o.2.length then some (wo_up w a (.inr (ci, o.2.set k v))) else none
  | _ => none
def ga (w : WW) (a t : Nat) : Option vp_A := match w a with
  | some (.inl x) => if x.1 = t then some x.2 else none
  | _ => none
def rI (w : WW) (a t : Nat) (i : Int32) : Option Int32 := match ga w a t with
  | some (n, .inl f) => if ¬ (i < 0 ∨ n ≤ i.toNatClampNeg) then some (f i.toNatClampNeg) else none
  | _ => none
def rL (w : WW) (a t : Nat) (i : Int32) : Option Int64 := match ga w a t with
  | some (n, .inr (.inl f)) => if ¬ (i < 0 ∨ n ≤ i.toNatClampNeg) then some (f i.toNatClampNeg) else none
  | _ => none
def rR (w : WW) (a t : Nat) (i : Int32) : Option (Option Nat) := match ga w a t with
  | some (n, .inr (.inr (.inr (.inr f)))) => if ¬ (i < 0 ∨ n ≤ i.toNatClampNeg) then some (f i.toNatClampNeg) else none
  | _ => none
def sI (w : WW) (a t : Nat) (i x : Int32) : Option WW := match ga w a t with
  | some (n, .inl f) => if ¬ (i < 0 ∨ n ≤ i.toNatClampNeg) then some (wo_up w a (.inl (t, n, .inl (upd f i.toNatClampNeg x)))) else none
  | _ => none
def sL (w : WW) (a t : Nat) (i : Int32) (x : Int64) : Option WW := match ga w a t with
  | some (n, .inr (.inl f)) => if ¬ (i < 0 ∨ n ≤ i.toNatClampNeg) then some (wo_up w a (.inl (t, n, .inr (.inl (vp_updL f i.toNatClampNeg x))))) else none
  | _ => none
def al (w : WW) (a t : Nat) : Option Int32 := match ga w a t with
  | some x => some (Int32.ofNat x.1)
  | none => none
theorem gv_s {w : WW} {a ci k : Nat} {v : Value} (h : gv w a ci k = some v) : ∃ fs : List Value, w a = some (.inr (ci, fs)) ∧ fs[k]? = some v := by
  unfold gv at h
  split at h
  · rename_i o ho
    split at h
    · rename_i hc
      obtain ⟨c, fs⟩ := o
      cases hc
      exact ⟨fs, ho, h⟩
    · cases h
  · cases h
theorem gI_s {w : WW} {a ci k : Nat} {x : Int32} (h : gI w a ci k = some x) : gv w a ci k = some (.int x) := by
  unfold gI at h
  split at h
  · rename_i y hy; cases h; exact hy
  · cases h
theorem gL_s {w : WW} {a ci k : Nat} {x : Int64} (h : gL w a ci k = some x) : gv w a ci k = some (.long x) := by
  unfold gL at h
  split at h
  · rename_i y hy; cases h; exact hy
  · cases h
theorem gR_s {w : WW} {a ci k : Nat} {r : Option Nat} (h : gR w a ci k = some r) : gv w a ci k = some (va_rf r) := by
  unfold gR at h
  split at h
  · rename_i y hy; cases h; exact hy
  · rename_i hy; cases h; exact hy
  · cases h
theorem pv_s {w w' : WW} {a ci k : Nat} {v : Value} (h : pv w a ci k v = some w') : ∃ fs : List Value, w a = some (.inr (ci, fs)) ∧ k < fs.length ∧ w' = wo_up w a (.inr (ci, fs.set k v)) := by
  unfold pv at h
  split at h
  · rename_i o ho
    split at h
    · rename_i hc
      obtain ⟨c, fs⟩ := o
      obtain ⟨h1, h2⟩ := hc
      cases h1
      cases h
      exact ⟨fs, ho, h2, rfl⟩
    · cases h
  · cases h
theorem ga_s {w : WW} {a t : Nat} {x : vp_A} (h : ga w a t = some x) : w a = some (.inl (t, x)) := by
  unfold ga at h
  split at h
  · rename_i o ho
    split at h
    · rename_i hc
      obtain ⟨c, y⟩ := o
      cases hc
      cases h
      exact ho
    · cases h
  · cases h
theorem rI_s {w : WW} {a t : Nat} {i x : Int32} (h : rI w a t i = some x) : ∃ (n : Nat) (f : Nat → Int32), w a = some (.inl (t, n, .inl f)) ∧ vp_in i n ∧ x = f i.toNatClampNeg := by
  unfold rI at h
  split at h
  · rename_i n f hy
    split at h
    · rename_i hc; cases h; exact ⟨n, f, ga_s hy, hc, rfl⟩
    · cases h
  · cases h
theorem rL_s {w : WW} {a t : Nat} {i : Int32} {x : Int64} (h : rL w a t i = some x) : ∃ (n : Nat) (f : Nat → Int64), w a = some (.inl (t, n, .inr (.inl f))) ∧ vp_in i n ∧ x = f i.toNatClampNeg := by
  unfold rL at h
  split at h
  · rename_i n f hy
    split at h
    · rename_i hc; cases h; exact ⟨n, f, ga_s hy, hc, rfl⟩
    · cases h
  · cases h
theorem rR_s {w : WW} {a t : Nat} {i : Int32} {x : Option Nat} (h : rR w a t i = some x) : ∃ (n : Nat) (f : Nat → Option Nat), w a = some (.inl (t, n, .inr (.inr (.inr (.inr f))))) ∧ vp_in i n ∧ x = f i.toNatClampNeg := by
  unfold rR at h
  split at h
  · rename_i n f hy
    split at h
    · rename_i hc; cases h; exact ⟨n, f, ga_s hy, hc, rfl⟩
    · cases h
  · cases h
theorem sI_s {w w' : WW} {a t : Nat} {i x : Int32} (h : sI w a t i x = some w') : ∃ (n : Nat) (f : Nat → Int32), w a = some (.inl (t, n, .inl f)) ∧ vp_in i n ∧ w' = wo_up w a (.inl (t, n, .inl (upd f i.toNatClampNeg x))) := by
  unfold sI at h
  split at h
  · rename_i n f hy
    split at h
    · rename_i hc; cases h; exact ⟨n, f, ga_s hy, hc, rfl⟩
    · cases h
  · cases h
theorem sL_s {w w' : WW} {a t : Nat} {i : Int32} {x : Int64} (h : sL w a t i x = some w') : ∃ (n : Nat) (f : Nat → Int64), w a = some (.inl (t, n, .inr (.inl f))) ∧ vp_in i n ∧ w' = wo_up w a (.inl (t, n, .inr (.inl (vp_updL f i.toNatClampNeg x)))) := by
  unfold sL at h
  split at h
  · rename_i n f hy
    split at h
    · rename_i hc; cases h; exact ⟨n, f, ga_s hy, hc, rfl⟩
    · cases h
  · cases h
theorem al_s {w : WW} {a t : Nat} {x : Int32} (h : al w a t = some x) : ∃ y : vp_A, w a = some (.inl (t, y)) ∧ Int32.ofNat y.1 = x := by
  unfold al at h
  split at h
  · rename_i y hy; cases h; exact ⟨y, ga_s hy, rfl⟩
  · cases h
