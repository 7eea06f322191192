/-! Pure rows: how reading and writing the map go together. -/
theorem pv_gv {w w' : WW} {a ci k : Nat} {v : Value} (h : pv w a ci k v = some w') : gv w' a ci k = some v := by
  obtain ⟨fs, h1, h2, rfl⟩ := pv_s h
  simp [gv, wo_up_self, h2]
theorem pv_gv_ne {w w' : WW} {a ci k : Nat} {v : Value} (h : pv w a ci k v = some w') {b cj j : Nat} (hne : b ≠ a ∨ j ≠ k) : gv w' b cj j = gv w b cj j := by
  obtain ⟨fs, h1, h2, rfl⟩ := pv_s h
  by_cases hb : b = a
  · subst hb
    have hj : j ≠ k := by rcases hne with z | z; exact absurd rfl z; exact z
    simp only [gv, wo_up_self, h1]
    by_cases hc : ci = cj
    · simp [hc, List.getElem?_set_ne (Ne.symm hj)]
    · simp [hc]
  · simp only [gv, wo_up_ne w _ hb]
theorem pv_ga {w w' : WW} {a ci k : Nat} {v : Value} (h : pv w a ci k v = some w') (b t : Nat) : ga w' b t = ga w b t := by
  obtain ⟨fs, h1, h2, rfl⟩ := pv_s h
  by_cases hb : b = a
  · subst hb; simp only [ga, wo_up_self, h1]
  · simp only [ga, wo_up_ne w _ hb]
theorem pv_kb {w w' : WW} {a ci k : Nat} {v : Value} (h : pv w a ci k v = some w') (b cj : Nat) : kb w' b cj = kb w b cj := by
  obtain ⟨fs, h1, h2, rfl⟩ := pv_s h
  by_cases hb : b = a
  · subst hb; simp only [kb, wo_up_self, h1]
  · simp only [kb, wo_up_ne w _ hb]
theorem pv_at {w w' : WW} {a ci k : Nat} {v : Value} (h : pv w a ci k v = some w') {b : Nat} (hb : b ≠ a) : w' b = w b := by
  obtain ⟨fs, h1, h2, rfl⟩ := pv_s h
  exact wo_up_ne w _ hb
theorem pv_do {w : WW} {a ci k : Nat} {v0 : Value} (h : gv w a ci k = some v0) (v : Value) : ∃ w', pv w a ci k v = some w' := by
  obtain ⟨fs, h1, h2⟩ := gv_s h
  have hk : k < fs.length := (List.getElem?_eq_some_iff.mp h2).1
  exact ⟨wo_up w a (.inr (ci, fs.set k v)), by simp [pv, h1, hk]⟩
theorem sI_gv {w w' : WW} {a t : Nat} {i x : Int32} (h : sI w a t i x = some w') (b cj j : Nat) : gv w' b cj j = gv w b cj j := by
  obtain ⟨n, f, h1, h2, rfl⟩ := sI_s h
  by_cases hb : b = a
  · subst hb; simp only [gv, wo_up_self, h1]
  · simp only [gv, wo_up_ne w _ hb]
theorem sI_kb {w w' : WW} {a t : Nat} {i x : Int32} (h : sI w a t i x = some w') (b cj : Nat) : kb w' b cj = kb w b cj := by
  obtain ⟨n, f, h1, h2, rfl⟩ := sI_s h
  by_cases hb : b = a
  · subst hb; simp only [kb, wo_up_self, h1]
  · simp only [kb, wo_up_ne w _ hb]
theorem sI_at {w w' : WW} {a t : Nat} {i x : Int32} (h : sI w a t i x = some w') {b : Nat} (hb : b ≠ a) : w' b = w b := by
  obtain ⟨n, f, h1, h2, rfl⟩ := sI_s h
  exact wo_up_ne w _ hb
/-- the length of a row of ints (or booleans, or characters) -/
def lnI (w : WW) (a t : Nat) : Option Nat := match ga w a t with
  | some (n, .inl _) => some n
  | _ => none
def lnL (w : WW) (a t : Nat) : Option Nat := match ga w a t with
  | some (n, .inr (.inl _)) => some n
  | _ => none
theorem lnI_s {w : WW} {a t n : Nat} (h : lnI w a t = some n) : ∃ f : Nat → Int32, ga w a t = some (n, .inl f) := by
  unfold lnI at h
  split at h
  · rename_i n f hy; cases h; exact ⟨f, hy⟩
  · cases h
theorem lnL_s {w : WW} {a t n : Nat} (h : lnL w a t = some n) : ∃ f : Nat → Int64, ga w a t = some (n, .inr (.inl f)) := by
  unfold lnL at h
  split at h
  · rename_i n f hy; cases h; exact ⟨f, hy⟩
  · cases h
theorem sI_do {w : WW} {a t n : Nat} (h : lnI w a t = some n) {i : Int32} (hi : ¬ (i < 0 ∨ n ≤ i.toNatClampNeg)) (x : Int32) : ∃ w', sI w a t i x = some w' := by
  obtain ⟨f, h1⟩ := lnI_s h
  exact ⟨_, by simp only [sI, h1]; rw [if_pos hi]⟩
theorem sI_lnI {w w' : WW} {a t : Nat} {i x : Int32} (h : sI w a t i x = some w') (b t2 : Nat) : lnI w' b t2 = lnI w b t2 := by
  obtain ⟨n, f, h1, h2, rfl⟩ := sI_s h
  by_cases hb : b = a
  · subst hb
    by_cases ht : t = t2
    · simp [lnI, ga, wo_up_self, h1, ht]
    · simp [lnI, ga, wo_up_self, h1, ht]
  · simp only [lnI, ga, wo_up_ne w _ hb]
theorem pv_lnI {w w' : WW} {a ci k : Nat} {v : Value} (h : pv w a ci k v = some w') (b t : Nat) : lnI w' b t = lnI w b t := by
  simp only [lnI, pv_ga h]
theorem sL_do {w : WW} {a t n : Nat} (h : lnL w a t = some n) {i : Int32} (hi : ¬ (i < 0 ∨ n ≤ i.toNatClampNeg)) (x : Int64) : ∃ w', sL w a t i x = some w' := by
  obtain ⟨f, h1⟩ := lnL_s h
  exact ⟨_, by simp only [sL, h1]; rw [if_pos hi]⟩
theorem sL_rL {w w' : WW} {a t : Nat} {i : Int32} {x : Int64} (h : sL w a t i x = some w') : rL w' a t i = some x := by
  obtain ⟨n, f, h1, h2, rfl⟩ := sL_s h
  simp only [rL, ga, wo_up_self]
  simp only [if_true]
  have h3 : ¬ (i < 0 ∨ n ≤ i.toNatClampNeg) := h2
  rw [if_pos h3]
  simp [vp_updL]
theorem sL_at {w w' : WW} {a t : Nat} {i : Int32} {x : Int64} (h : sL w a t i x = some w') {b : Nat} (hb : b ≠ a) : w' b = w b := by
  obtain ⟨n, f, h1, h2, rfl⟩ := sL_s h
  exact wo_up_ne w _ hb
theorem gI_of {w : WW} {a ci k : Nat} {x : Int32} (h : gv w a ci k = some (.int x)) : gI w a ci k = some x := by simp [gI, h]
theorem gv_of {w : WW} {a ci k : Nat} {x : Int32} (h : gI w a ci k = some x) : gv w a ci k = some (.int x) := by
  unfold gI at h
  split at h
  · rename_i y hy; cases h; exact hy
  · cases h
