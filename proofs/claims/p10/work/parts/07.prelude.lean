/-! What the program's functions are made of (wip/gen/core.py). -/
/-- more than any loop ever goes through -/
def KK : Nat := 1000000000000000000000000000000
theorem bs {α β : Type} {o : Option α} {f : α → Option β} {r : β} (h : o.bind f = some r) : ∃ a, o = some a ∧ f a = some r := by
  cases o with
  | none => cases h
  | some a => exact ⟨a, rfl, h⟩
def bd2 {α β γ : Type} (o : Option (α × β)) (f : α → β → Option γ) : Option γ := match o with
  | some p => f p.1 p.2
  | none => none
theorem bs2 {α β γ : Type} {o : Option (α × β)} {f : α → β → Option γ} {r : γ} (h : bd2 o f = some r) : ∃ a b, o = some (a, b) ∧ f a b = some r := by
  cases o with
  | none => cases h
  | some p => exact ⟨p.1, p.2, rfl, h⟩
theorem its {c : Prop} {d : Decidable c} {α : Type} {x : Option α} {r : α} (h : @ite _ c d x none = some r) : c ∧ x = some r := by
  by_cases hc : c
  · rw [if_pos hc] at h; exact ⟨hc, h⟩
  · rw [if_neg hc] at h; cases h
def gN (w : WW) (a ci k : Nat) : Option Nat := match gv w a ci k with
  | some (.ref x) => some x
  | _ => none
theorem gN_s {base : Nat} {w : WW} {a ci k x : Nat} (h : gN w a ci k = some x) : gb base w a ci k = some (.ref (base + x)) := by
  unfold gN at h
  split at h
  · rename_i y hy; cases h; rw [gb, hy]; rfl
  · cases h
theorem rf_cat (base : Nat) (r : Option Nat) : (rb base r).category = 1 := by cases r <;> rfl
def cx (cc : ByteArray) (ret : Option FieldType) (maxL : Nat) (own nm : String) (p : Program) (s : State) (m : MethodId) (args : Array Value) (meth : Method) (c : Code) (D : va_G) (cA : Nat → ClassId) (base : Nat) : Prop :=
  p.tables.exec = Jvm.exec ∧ c.code = cc ∧ meth.sig.returnType = ret ∧ c.maxLocals = maxL ∧ s.vm.findClass own = some m.cls ∧ (∀ w ∈ gt, w.before args s = true) ∧ meth.locks = false ∧ meth.name = nm ∧ va_K D cls (wo_tys cA) s ∧ wo_G cA base s
section LC
variable {p : Program} {l : Launch} {e : Env} {R : Room} {s : State} {m : MethodId} {args : Array Value} {below : List Frame} {meth : Method} {c : Code} {H : Heap} {locs : List Loc} {cells slots : Nat} {Q : State → Prop} {cc : ByteArray} {pc : Nat} {ls : Array Slot} {rest : List Value}
theorem lcp_eq {x y : Int64} : (lg_cmp x y = 0) ↔ (x = y) := by
  unfold lg_cmp
  have h1 := @Int64.lt_iff_toInt_lt
  have h2 := @Int64.le_iff_toInt_le
  have h3 := @Int64.toInt_inj
  by_cases a : y < x
  · rw [if_pos a]; rw [h1] at a; simp only [h1, h2, ← h3]; first | (constructor <;> intro q <;> first | omega | (exact absurd q (by decide)) | decide) | (simp; omega)
  · rw [if_neg a]; rw [h1] at a
    by_cases b : x = y
    · rw [if_pos b]; subst b; simp
    · rw [if_neg b]; rw [← h3] at b; simp only [h1, h2, ← h3]; first | (constructor <;> intro q <;> first | omega | (exact absurd q (by decide)) | decide) | (simp; omega)
theorem lc_eq (hx : p.tables.exec = Jvm.exec) (hb : c.code = cc) {x y : Int64} {off : Int} {tgt : Nat} (d1 : decode cc pc = .ok (.lcmp, 1)) (d2 : decode cc (pc + 1) = .ok (.ifCond .eq off, 3)) (ht : ((pc + 1 : Nat) : Int) + off = (tgt : Int)) (kt : x = y → W p l e R s m args below meth c H locs cells slots Q (F0 m tgt ls rest)) (kf : ¬ (x = y) → W p l e R s m args below meth c H locs cells slots Q (F0 m (pc + 1 + 3) ls rest)) : W p l e R s m args below meth c H locs cells slots Q (F0 m pc ls (.long y :: .long x :: rest)) :=
  W.lcmp hx hb d1 (lv_if_eq hx hb d2 ht (fun q => kt (lcp_eq.mp q)) (fun q => kf (fun z => q (lcp_eq.mpr z))))
theorem lcp_ne {x y : Int64} : (¬ lg_cmp x y = 0) ↔ (¬ x = y) := by
  unfold lg_cmp
  have h1 := @Int64.lt_iff_toInt_lt
  have h2 := @Int64.le_iff_toInt_le
  have h3 := @Int64.toInt_inj
  by_cases a : y < x
  · rw [if_pos a]; rw [h1] at a; simp only [h1, h2, ← h3]; first | (constructor <;> intro q <;> first | omega | (exact absurd q (by decide)) | decide) | (simp; omega)
  · rw [if_neg a]; rw [h1] at a
    by_cases b : x = y
    · rw [if_pos b]; subst b; simp
    · rw [if_neg b]; rw [← h3] at b; simp only [h1, h2, ← h3]; first | (constructor <;> intro q <;> first | omega | (exact absurd q (by decide)) | decide) | (simp; omega)
theorem lc_ne (hx : p.tables.exec = Jvm.exec) (hb : c.code = cc) {x y : Int64} {off : Int} {tgt : Nat} (d1 : decode cc pc = .ok (.lcmp, 1)) (d2 : decode cc (pc + 1) = .ok (.ifCond .ne off, 3)) (ht : ((pc + 1 : Nat) : Int) + off = (tgt : Int)) (kt : ¬ x = y → W p l e R s m args below meth c H locs cells slots Q (F0 m tgt ls rest)) (kf : x = y → W p l e R s m args below meth c H locs cells slots Q (F0 m (pc + 1 + 3) ls rest)) : W p l e R s m args below meth c H locs cells slots Q (F0 m pc ls (.long y :: .long x :: rest)) :=
  W.lcmp hx hb d1 (lv_if_ne hx hb d2 ht (fun q => kt (lcp_ne.mp q)) (fun q => kf (lcp_eq.mp q)))
theorem lcp_lt {x y : Int64} : (lg_cmp x y < 0) ↔ (x < y) := by
  unfold lg_cmp
  have h1 := @Int64.lt_iff_toInt_lt
  have h2 := @Int64.le_iff_toInt_le
  have h3 := @Int64.toInt_inj
  by_cases a : y < x
  · rw [if_pos a]; rw [h1] at a; simp only [h1, h2, ← h3]; first | (constructor <;> intro q <;> first | omega | (exact absurd q (by decide)) | decide) | (simp; omega)
  · rw [if_neg a]; rw [h1] at a
    by_cases b : x = y
    · rw [if_pos b]; subst b; simp
    · rw [if_neg b]; rw [← h3] at b; simp only [h1, h2, ← h3]; first | (constructor <;> intro q <;> first | omega | (exact absurd q (by decide)) | decide) | (simp; omega)
theorem lc_lt (hx : p.tables.exec = Jvm.exec) (hb : c.code = cc) {x y : Int64} {off : Int} {tgt : Nat} (d1 : decode cc pc = .ok (.lcmp, 1)) (d2 : decode cc (pc + 1) = .ok (.ifCond .lt off, 3)) (ht : ((pc + 1 : Nat) : Int) + off = (tgt : Int)) (kt : x < y → W p l e R s m args below meth c H locs cells slots Q (F0 m tgt ls rest)) (kf : ¬ (x < y) → W p l e R s m args below meth c H locs cells slots Q (F0 m (pc + 1 + 3) ls rest)) : W p l e R s m args below meth c H locs cells slots Q (F0 m pc ls (.long y :: .long x :: rest)) :=
  W.lcmp hx hb d1 (lv_if_lt hx hb d2 ht (fun q => kt (lcp_lt.mp q)) (fun q => kf (fun z => q (lcp_lt.mpr z))))
theorem lcp_ge {x y : Int64} : (0 ≤ lg_cmp x y) ↔ (y ≤ x) := by
  unfold lg_cmp
  have h1 := @Int64.lt_iff_toInt_lt
  have h2 := @Int64.le_iff_toInt_le
  have h3 := @Int64.toInt_inj
  by_cases a : y < x
  · rw [if_pos a]; rw [h1] at a; simp only [h1, h2, ← h3]; first | (constructor <;> intro q <;> first | omega | (exact absurd q (by decide)) | decide) | (simp; omega)
  · rw [if_neg a]; rw [h1] at a
    by_cases b : x = y
    · rw [if_pos b]; subst b; simp
    · rw [if_neg b]; rw [← h3] at b; simp only [h1, h2, ← h3]; first | (constructor <;> intro q <;> first | omega | (exact absurd q (by decide)) | decide) | (simp; omega)
theorem lc_ge (hx : p.tables.exec = Jvm.exec) (hb : c.code = cc) {x y : Int64} {off : Int} {tgt : Nat} (d1 : decode cc pc = .ok (.lcmp, 1)) (d2 : decode cc (pc + 1) = .ok (.ifCond .ge off, 3)) (ht : ((pc + 1 : Nat) : Int) + off = (tgt : Int)) (kt : y ≤ x → W p l e R s m args below meth c H locs cells slots Q (F0 m tgt ls rest)) (kf : ¬ (y ≤ x) → W p l e R s m args below meth c H locs cells slots Q (F0 m (pc + 1 + 3) ls rest)) : W p l e R s m args below meth c H locs cells slots Q (F0 m pc ls (.long y :: .long x :: rest)) :=
  W.lcmp hx hb d1 (lv_if_ge hx hb d2 ht (fun q => kt (lcp_ge.mp q)) (fun q => kf (fun z => q (lcp_ge.mpr z))))
theorem lcp_gt {x y : Int64} : (0 < lg_cmp x y) ↔ (y < x) := by
  unfold lg_cmp
  have h1 := @Int64.lt_iff_toInt_lt
  have h2 := @Int64.le_iff_toInt_le
  have h3 := @Int64.toInt_inj
  by_cases a : y < x
  · rw [if_pos a]; rw [h1] at a; simp only [h1, h2, ← h3]; first | (constructor <;> intro q <;> first | omega | (exact absurd q (by decide)) | decide) | (simp; omega)
  · rw [if_neg a]; rw [h1] at a
    by_cases b : x = y
    · rw [if_pos b]; subst b; simp
    · rw [if_neg b]; rw [← h3] at b; simp only [h1, h2, ← h3]; first | (constructor <;> intro q <;> first | omega | (exact absurd q (by decide)) | decide) | (simp; omega)
theorem lc_gt (hx : p.tables.exec = Jvm.exec) (hb : c.code = cc) {x y : Int64} {off : Int} {tgt : Nat} (d1 : decode cc pc = .ok (.lcmp, 1)) (d2 : decode cc (pc + 1) = .ok (.ifCond .gt off, 3)) (ht : ((pc + 1 : Nat) : Int) + off = (tgt : Int)) (kt : y < x → W p l e R s m args below meth c H locs cells slots Q (F0 m tgt ls rest)) (kf : ¬ (y < x) → W p l e R s m args below meth c H locs cells slots Q (F0 m (pc + 1 + 3) ls rest)) : W p l e R s m args below meth c H locs cells slots Q (F0 m pc ls (.long y :: .long x :: rest)) :=
  W.lcmp hx hb d1 (lv_if_gt hx hb d2 ht (fun q => kt (lcp_gt.mp q)) (fun q => kf (fun z => q (lcp_gt.mpr z))))
theorem lcp_le {x y : Int64} : (lg_cmp x y ≤ 0) ↔ (x ≤ y) := by
  unfold lg_cmp
  have h1 := @Int64.lt_iff_toInt_lt
  have h2 := @Int64.le_iff_toInt_le
  have h3 := @Int64.toInt_inj
  by_cases a : y < x
  · rw [if_pos a]; rw [h1] at a; simp only [h1, h2, ← h3]; first | (constructor <;> intro q <;> first | omega | (exact absurd q (by decide)) | decide) | (simp; omega)
  · rw [if_neg a]; rw [h1] at a
    by_cases b : x = y
    · rw [if_pos b]; subst b; simp
    · rw [if_neg b]; rw [← h3] at b; simp only [h1, h2, ← h3]; first | (constructor <;> intro q <;> first | omega | (exact absurd q (by decide)) | decide) | (simp; omega)
theorem lc_le (hx : p.tables.exec = Jvm.exec) (hb : c.code = cc) {x y : Int64} {off : Int} {tgt : Nat} (d1 : decode cc pc = .ok (.lcmp, 1)) (d2 : decode cc (pc + 1) = .ok (.ifCond .le off, 3)) (ht : ((pc + 1 : Nat) : Int) + off = (tgt : Int)) (kt : x ≤ y → W p l e R s m args below meth c H locs cells slots Q (F0 m tgt ls rest)) (kf : ¬ (x ≤ y) → W p l e R s m args below meth c H locs cells slots Q (F0 m (pc + 1 + 3) ls rest)) : W p l e R s m args below meth c H locs cells slots Q (F0 m pc ls (.long y :: .long x :: rest)) :=
  W.lcmp hx hb d1 (lv_if_le hx hb d2 ht (fun q => kt (lcp_le.mp q)) (fun q => kf (fun z => q (lcp_le.mpr z))))
end LC
