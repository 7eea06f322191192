/-! What the class keeps at all times: each cell in its range, references of their kinds, and three facts that join cells. -/
abbrev B01 (x : Int32) : Prop := x = 0 ∨ x = 1
abbrev rg (l h : Int) (x : Int32) : Prop := l ≤ x.toInt ∧ x.toInt ≤ h
def isP (p : Nat) : Prop := p = 7 ∨ p = 62
def TO (c k : Nat) (x : Int32) : Prop :=
  if c = 8 then B01 x else if c = 7 then B01 x
  else if c = 4 then (if k = 1 then rg 0 199 x else if k = 2 then rg 0 5 x else if k = 3 then rg 0 200 x else if k = 4 then rg 0 200 x else if k = 5 then rg 0 200 x else True)
  else if c = 3 then (if k = 1 then rg 0 50 x else if k = 5 then rg 0 200 x else True)
  else if c = 2 then (if k = 1 then rg 0 200 x else True)
  else if c = 1 then (if k = 4 then rg 0 200 x else if k = 5 then rg 0 200 x else if k = 7 then rg 0 200 x else True)
  else if c = 5 then (if k = 5 then rg 0 8 x else if k = 7 then rg 0 500 x else if k = 8 then rg 0 500 x else if k = 9 then rg 0 8 x else True)
  else if c = 6 then (if k = 6 then rg 0 5 x else if k = 7 then B01 x else if k = 8 then B01 x else True)
  else if c = 0 then (if k = 0 then rg 0 5 x else if k = 1 then rg 0 5 x else if k = 6 then B01 x else True)
  else True
def TA (a : Nat) (x : Int32) : Prop := if a = 61 then rg 0 199 x else if a = 116 then rg 0 199 x else if a = 5 then rg 0 200 x else True
def TI (a k : Nat) (x : Int32) : Prop := match LT a with
  | some (.inr (c, _)) => TO c k x
  | some (.inl (t, _, _)) => if t = 2 then B01 x else TA a x
  | none => True
def lenT (a : Nat) : Nat := match LT a with
  | some (.inr (_, ts)) => ts.length
  | some (.inl (_, n, _)) => n
  | none => 0
/-- cells that no joining fact speaks of -/
def rfq (a k : Nat) : Bool := a != 4 && a != 5 && a != 6 && a != 59 && a != 60 && a != 114 && a != 115 && !(decide (LT a = some oT) && (k == 0 || k == 2))
def rfr (a k : Nat) : Bool := (rfq a k && !(a == 117 && k == 5)) && !(a == 2 && k == 4)
def mutR (a k : Nat) : Bool := (a == 0 && (k == 4 || k == 5)) || (a == 1 && k == 2) || ((a == 7 || a == 62) && k == 6) || (a == 117 && k == 6) || (a == 123 && k == 4) || (decide (LT a = some oT) && decide (7 ≤ k))
/-- a reference to a STATEMENT, or none -/
def OT (r : Option Nat) : Prop := ∀ x, r = some x → LT x = some oT
def OP (r : Option Nat) : Prop := ∀ x, r = some x → isP x
def TKS (I : IM) : Prop := ∀ j, j < 201 → (I 4 j ≠ 0 → (I 5 j).toInt < 200) ∧ (I 4 j ≠ 1 → 0 ≤ (I 6 j).toInt ∧ (I 6 j).toInt ≤ 5) ∧ (I 4 j = 3 → (I 6 j).toInt ≤ 4)
def STP (I : IM) : Prop := ∀ p, isP p → ∀ j, j < 200 → (I (p + 52) j = 2 → 0 ≤ (I (p + 53) j).toInt ∧ (I (p + 53) j).toInt ≤ 5) ∧ (I (p + 52) j = 3 → 0 ≤ (I (p + 53) j).toInt ∧ (I (p + 53) j).toInt ≤ 4)
def STM (I : IM) : Prop := ∀ x, LT x = some oT → I x 0 = 3 → (I x 2).toInt ≤ 4
def TYI (I : IM) : Prop := ∀ a k, a < 373 → k < lenT a → TI a k (I a k)
def FXR (R : RM) : Prop := ∀ a k, a < 417 → k < 100 → mutR a k = false → R a k = Rw W5 a k
def isP2 (r : Option Nat) : Prop := r = some 7 ∨ r = some 62
def TYR (R : RM) : Prop := isP2 (R 0 4) ∧ isP2 (R 0 5) ∧ OP (R 1 2) ∧ OP (R 117 6) ∧ OP (R 123 4) ∧ (∀ p, isP p → OT (R p 6)) ∧ (∀ x, LT x = some oT → OT (R x 7) ∧ OT (R x 8) ∧ OT (R x 9) ∧ ∀ y, R x 9 = some y → x < y)
def CI (m : Nat) (I0 : IM) (J0 : JM) (I : IM) (J : JM) (R : RM) : Prop := (∀ a k, (a < m ∨ 373 ≤ a ∨ (a = 117 ∧ k = 5) ∨ (a = 2 ∧ k = 4)) → I a k = I0 a k) ∧ (∀ a k, (a < m ∨ 373 ≤ a) → J a k = J0 a k) ∧ TYI I ∧ TKS I ∧ STP I ∧ STM I ∧ FXR R ∧ TYR R

set_option maxRecDepth 100000 in
theorem allb {n : Nat} {f : Nat → Bool} (h : (List.range n).all f = true) {a : Nat} (ha : a < n) : f a = true := by
  rw [List.all_eq_true] at h
  exact h a (List.mem_range.mpr ha)
set_option maxRecDepth 100000 in
theorem orb {p q : Prop} {dp : Decidable p} {dq : Decidable q} (h : (!decide p || decide q) = true) (hp : p) : q := by
  rw [Bool.or_eq_true, Bool.not_eq_true', decide_eq_false_iff_not, decide_eq_true_eq] at h
  exact h.resolve_left (fun z => z hp)
set_option maxRecDepth 100000 in
theorem LT_oV (a : Nat) (h : a < 417) (h2 : LT a = some oV) : 126 ≤ a ∧ a < 372 := by
  have q : (List.range 417).all (fun a => !decide (LT a = some oV) || decide (126 ≤ a ∧ a < 372)) = true := by decide +kernel
  exact orb (allb q h) h2
set_option maxRecDepth 100000 in
theorem LT_oS (a : Nat) (h : a < 417) (h2 : LT a = some oS) : 124 ≤ a ∧ a < 330 ∧ LT (a + 1) = some (.inl (4, 14, 2)) ∧ LT (a + 16) = some (.inl (2, 6, 0)) ∧ Rw W5 a 1 = some (a + 1) ∧ Rw W5 a 2 = some (a + 16) := by
  have q : (List.range 417).all (fun a => !decide (LT a = some oS) || decide (124 ≤ a ∧ a < 330 ∧ LT (a + 1) = some (.inl (4, 14, 2)) ∧ LT (a + 16) = some (.inl (2, 6, 0)) ∧ Rw W5 a 1 = some (a + 1) ∧ Rw W5 a 2 = some (a + 16))) = true := by decide +kernel
  exact orb (allb q h) h2
set_option maxRecDepth 100000 in
theorem LT_oSv (a : Nat) (h : a < 417) (h2 : LT a = some oS) : ∀ k, k < 14 → Rw W5 (a + 1) k = some (a + 2 + k) ∧ LT (a + 2 + k) = some oV := by
  have q : (List.range 417).all (fun a => !decide (LT a = some oS) || (List.range 14).all (fun k => decide (Rw W5 (a + 1) k = some (a + 2 + k) ∧ LT (a + 2 + k) = some oV))) = true := by decide +kernel
  intro k hk
  have q2 := allb q h
  rw [Bool.or_eq_true, Bool.not_eq_true', decide_eq_false_iff_not] at q2
  exact of_decide_eq_true (allb (q2.resolve_left (fun z => z h2)) hk)
set_option maxRecDepth 100000 in
theorem LT_oT (a : Nat) (h : a < 417) (h2 : LT a = some oT) : 9 ≤ a ∧ a < 114 ∧ (a < 59 ∨ 64 ≤ a) := by
  have q : (List.range 417).all (fun a => !decide (LT a = some oT) || decide (9 ≤ a ∧ a < 114 ∧ (a < 59 ∨ 64 ≤ a))) = true := by decide +kernel
  exact orb (allb q h) h2
set_option maxRecDepth 100000 in
theorem LT_bo (a : Nat) (h : a < 373) (h2 : LT a = some (.inl (2, 6, 0))) : 119 ≤ a ∧ a < 346 ∧ a ≠ 123 := by
  have q : (List.range 373).all (fun a => !decide (LT a = some (.inl (2, 6, 0))) || decide (119 ≤ a ∧ a < 346 ∧ a ≠ 123)) = true := by decide +kernel
  exact orb (allb q h) h2
set_option maxRecDepth 100000 in
theorem LT_st {x : Nat} (h1 : 9 ≤ x) (h2 : x < 114) (h3 : x < 59 ∨ 64 ≤ x) : LT x = some oT := by
  have q : (List.range 114).all (fun x => !decide (9 ≤ x ∧ (x < 59 ∨ 64 ≤ x)) || decide (LT x = some oT)) = true := by decide +kernel
  exact orb (allb q h2) ⟨h1, h3⟩
set_option maxRecDepth 100000 in
theorem isP_lt {p : Nat} (h : isP p) : LT p = some oP ∧ LT (p + 1) = some (.inl (6, 50, 2)) ∧ LT (p + 52) = some (.inl (0, 200, 0)) ∧ LT (p + 53) = some (.inl (0, 200, 0)) ∧ LT (p + 54) = some (.inl (0, 200, 0)) := by
  rcases h with rfl | rfl <;> exact ⟨rfl, rfl, rfl, rfl, rfl⟩
set_option maxRecDepth 100000 in
theorem and1 (x : Int32) : B01 (x &&& 1) := by
  have h : (x &&& 1).toBitVec.toNat = x.toBitVec.toNat % 2 := by
    rw [Int32.toBitVec_and, BitVec.toNat_and]
    exact Nat.and_one_is_mod _
  have q : x.toBitVec.toNat % 2 = 0 ∨ x.toBitVec.toNat % 2 = 1 := by omega
  rcases q with q | q
  · left
    rw [← Int32.toBitVec_inj]
    apply BitVec.eq_of_toNat_eq
    rw [h, q]; rfl
  · right
    rw [← Int32.toBitVec_inj]
    apply BitVec.eq_of_toNat_eq
    rw [h, q]; rfl
set_option maxRecDepth 100000 in
theorem nb01 (x : Int32) : B01 (vp_nar .boolean x) := and1 x
section CI
variable {m : Nat} {I0 : IM} {J0 : JM} {I : IM} {J : JM} {R : RM} {a k : Nat} {β : Type} {Q : β → Prop}
set_option maxRecDepth 100000 in
theorem CI.ty (h : CI m I0 J0 I J R) (ha : a < 373) (hk : k < lenT a) : TI a k (I a k) := h.2.2.1 a k ha hk
set_option maxRecDepth 100000 in
theorem CI.wI (h : CI m I0 J0 I J R) {x : Int32} (ha : m ≤ a ∧ a < 373) (ht : TI a k x) (hr : rfr a k = true) : CI m I0 J0 (up2 I a k x) J R := by
  obtain ⟨h1, h2, h3, h4, h5, h6, h7, h8⟩ := h
  have hr' : a ≠ 4 ∧ a ≠ 5 ∧ a ≠ 6 ∧ a ≠ 59 ∧ a ≠ 60 ∧ a ≠ 114 ∧ a ≠ 115 ∧ ¬ (LT a = some oT ∧ (k = 0 ∨ k = 2)) := by
    have hr1 : rfq a k = true := by
      have hr2 := hr
      simp only [rfr, Bool.and_eq_true] at hr2
      exact hr2.1.1
    simp only [rfq, Bool.and_eq_true, bne_iff_ne, ne_eq, Bool.not_eq_true', Bool.and_eq_false_iff, Bool.or_eq_false_iff, beq_eq_false_iff_ne, beq_iff_eq, decide_eq_false_iff_not] at hr1
    obtain ⟨⟨⟨⟨⟨⟨⟨q1, q2⟩, q3⟩, q4⟩, q5⟩, q6⟩, q7⟩, q8⟩ := hr1
    refine ⟨q1, q2, q3, q4, q5, q6, q7, fun z => ?_⟩
    rcases q8 with q | ⟨q, q'⟩
    · exact q z.1
    · rcases z.2 with z | z
      · exact q z
      · exact q' z
  have hz : (a ≠ 117 ∨ k ≠ 5) ∧ (a ≠ 2 ∨ k ≠ 4) := by
    have hr2 := hr
    simp only [rfr, Bool.and_eq_true, Bool.not_eq_true', Bool.and_eq_false_iff, beq_eq_false_iff_ne] at hr2
    exact ⟨hr2.1.2, hr2.2⟩
  obtain ⟨q1, q2, q3, q4, q5, q6, q7, q8⟩ := hr'
  refine ⟨fun b j hb => ?_, h2, fun b j hb hj => ?_, fun j hj => ?_, fun p hp j hj => ?_, fun y hy => ?_, h7, h8⟩
  · rw [up2_ne I x (by omega)]; exact h1 b j hb
  · by_cases c : b = a ∧ j = k
    · obtain ⟨rfl, rfl⟩ := c
      rw [up2_self]; exact ht
    · rw [up2_ne I x (by omega)]; exact h3 b j hb hj
  · rw [up2_ne I x (Or.inl (Ne.symm q1)), up2_ne I x (Or.inl (Ne.symm q2)), up2_ne I x (Or.inl (Ne.symm q3))]; exact h4 j hj
  · have e1 : p + 52 ≠ a := by rcases hp with rfl | rfl <;> omega
    have e2 : p + 53 ≠ a := by rcases hp with rfl | rfl <;> omega
    rw [up2_ne I x (Or.inl e1), up2_ne I x (Or.inl e2)]; exact h5 p hp j hj
  · have e1 : y ≠ a ∨ 0 ≠ k := by
      by_cases c : y = a
      · subst c; right; intro z; exact q8 ⟨hy, Or.inl z.symm⟩
      · exact Or.inl c
    have e2 : y ≠ a ∨ 2 ≠ k := by
      by_cases c : y = a
      · subst c; right; intro z; exact q8 ⟨hy, Or.inr z.symm⟩
      · exact Or.inl c
    rw [up2_ne I x e1, up2_ne I x e2]; exact h6 y hy
set_option maxRecDepth 100000 in
theorem CI.re (h : CI 0 I J I J R) {x : Int32} (ha : a < 373) (ht : TI a k x) (hr : rfq a k = true) : CI 0 (up2 I a k x) J (up2 I a k x) J R := by
  obtain ⟨_, _, h3, h4, h5, h6, h7, h8⟩ := h
  have hr' : a ≠ 4 ∧ a ≠ 5 ∧ a ≠ 6 ∧ a ≠ 59 ∧ a ≠ 60 ∧ a ≠ 114 ∧ a ≠ 115 ∧ ¬ (LT a = some oT ∧ (k = 0 ∨ k = 2)) := by
    simp only [rfq, Bool.and_eq_true, bne_iff_ne, ne_eq, Bool.not_eq_true', Bool.and_eq_false_iff, Bool.or_eq_false_iff, beq_eq_false_iff_ne, beq_iff_eq, decide_eq_false_iff_not] at hr
    obtain ⟨⟨⟨⟨⟨⟨⟨q1, q2⟩, q3⟩, q4⟩, q5⟩, q6⟩, q7⟩, q8⟩ := hr
    refine ⟨q1, q2, q3, q4, q5, q6, q7, fun z => ?_⟩
    rcases q8 with q | ⟨q, q'⟩
    · exact q z.1
    · rcases z.2 with z | z
      · exact q z
      · exact q' z
  obtain ⟨q1, q2, q3, q4, q5, q6, q7, q8⟩ := hr'
  refine ⟨fun _ _ _ => rfl, fun _ _ _ => rfl, fun b j hb hj => ?_, fun j hj => ?_, fun p hp j hj => ?_, fun y hy => ?_, h7, h8⟩
  · by_cases c : b = a ∧ j = k
    · obtain ⟨rfl, rfl⟩ := c
      rw [up2_self]; exact ht
    · rw [up2_ne I x (by omega)]; exact h3 b j hb hj
  · rw [up2_ne I x (Or.inl (Ne.symm q1)), up2_ne I x (Or.inl (Ne.symm q2)), up2_ne I x (Or.inl (Ne.symm q3))]; exact h4 j hj
  · have e1 : p + 52 ≠ a := by rcases hp with rfl | rfl <;> omega
    have e2 : p + 53 ≠ a := by rcases hp with rfl | rfl <;> omega
    rw [up2_ne I x (Or.inl e1), up2_ne I x (Or.inl e2)]; exact h5 p hp j hj
  · have e1 : y ≠ a ∨ 0 ≠ k := by
      by_cases c : y = a
      · subst c; right; intro z; exact q8 ⟨hy, Or.inl z.symm⟩
      · exact Or.inl c
    have e2 : y ≠ a ∨ 2 ≠ k := by
      by_cases c : y = a
      · subst c; right; intro z; exact q8 ⟨hy, Or.inr z.symm⟩
      · exact Or.inl c
    rw [up2_ne I x e1, up2_ne I x e2]; exact h6 y hy
set_option maxRecDepth 100000 in
theorem CI.wJ (h : CI m I0 J0 I J R) {x : Int64} (ha : m ≤ a ∧ a < 373) : CI m I0 J0 I (up2 J a k x) R := by
  obtain ⟨h1, h2, h3, h4, h5, h6, h7, h8⟩ := h
  refine ⟨h1, fun b j hb => ?_, h3, h4, h5, h6, h7, h8⟩
  rw [up2_ne J x (Or.inl (by omega))]; exact h2 b j hb
def WT (m a k : Nat) (x : Int32) : Prop := (m ≤ a ∧ a < 373) ∧ TI a k x ∧ rfr a k = true
set_option maxRecDepth 100000 in
theorem sw_I (h : CI m I0 J0 I J R) {ci : Nat} {ts : List Nat} {f : WW → Option β} {x : Int32} (hl : LT a = some (.inr (ci, ts))) (hk : ts[k]? = some 0) (hw : WT m a k x) (K : CI m I0 J0 (up2 I a k x) J R → wp (f (mk (up2 I a k x) J R)) Q) : wp ((pv (mk I J R) a ci k (.int x)).bind f) Q :=
  st_pI hl hk (K (h.wI hw.1 hw.2.1 hw.2.2))
set_option maxRecDepth 100000 in
theorem sw_J (h : CI m I0 J0 I J R) {ci : Nat} {ts : List Nat} {f : WW → Option β} {x : Int64} (hl : LT a = some (.inr (ci, ts))) (hk : ts[k]? = some 1) (ha : m ≤ a ∧ a < 373) (K : CI m I0 J0 I (up2 J a k x) R → wp (f (mk I (up2 J a k x) R)) Q) : wp ((pv (mk I J R) a ci k (.long x)).bind f) Q :=
  st_pJ hl hk (K (h.wJ ha))
set_option maxRecDepth 100000 in
theorem sw_A (h : CI m I0 J0 I J R) {t n : Nat} {f : WW → Option β} {i x : Int32} (hl : LT a = some (.inl (t, n, 0))) (hi : 0 ≤ i.toInt ∧ i.toInt < n) (hw : WT m a i.toInt.toNat x) (K : CI m I0 J0 (up2 I a i.toInt.toNat x) J R → wp (f (mk (up2 I a i.toInt.toNat x) J R)) Q) : wp ((sI (mk I J R) a t i x).bind f) Q :=
  st_sI hl hi (K (h.wI hw.1 hw.2.1 hw.2.2))
set_option maxRecDepth 100000 in
theorem ti_r {c : Nat} {ts : List Nat} {x : Int32} (hl : LT a = some (.inr (c, ts))) : TI a k x ↔ TO c k x := by unfold TI; rw [hl]
set_option maxRecDepth 100000 in
theorem ti_l {t n m : Nat} {x : Int32} (hl : LT a = some (.inl (t, n, m))) : TI a k x ↔ (if t = 2 then B01 x else TA a x) := by unfold TI; rw [hl]
set_option maxRecDepth 100000 in
theorem len_r {c : Nat} {ts : List Nat} (hl : LT a = some (.inr (c, ts))) : lenT a = ts.length := by unfold lenT; rw [hl]
set_option maxRecDepth 100000 in
theorem len_l {t n m : Nat} (hl : LT a = some (.inl (t, n, m))) : lenT a = n := by unfold lenT; rw [hl]
set_option maxRecDepth 100000 in
theorem lt373V {v : Nat} (hv : LT v = some oV) : v < 373 := by have := LT_oV v (LT_bound hv) hv; omega
set_option maxRecDepth 100000 in
theorem lt373S {v : Nat} (hv : LT v = some oS) : v < 373 := by have := LT_oS v (LT_bound hv) hv; omega
set_option maxRecDepth 100000 in
theorem lt373T {v : Nat} (hv : LT v = some oT) : v < 373 := by have := LT_oT v (LT_bound hv) hv; omega
set_option maxRecDepth 100000 in
theorem rfrN (h : LT a ≠ some oT) (h2 : 116 ≤ a) (h3 : a ≠ 117) : rfr a k = true := by
  have : decide (LT a = some oT) = false := decide_eq_false h
  simp only [rfr, rfq, this, Bool.false_and, Bool.not_false, Bool.and_true, Bool.and_eq_true, bne_iff_ne, ne_eq, Bool.not_eq_true', Bool.and_eq_false_iff, beq_eq_false_iff_ne]
  omega
set_option maxRecDepth 100000 in
theorem rfrV {v : Nat} (hv : LT v = some oV) : rfr v k = true := rfrN (by rw [hv]; intro z; cases z) (by have := LT_oV v (LT_bound hv) hv; omega) (by have := LT_oV v (LT_bound hv) hv; omega)
set_option maxRecDepth 100000 in
theorem rfrS {v : Nat} (hv : LT v = some oS) : rfr v k = true := rfrN (by rw [hv]; intro z; cases z) (by have := LT_oS v (LT_bound hv) hv; omega) (by have := LT_oS v (LT_bound hv) hv; omega)
set_option maxRecDepth 100000 in
theorem rfrT {v : Nat} (hv : LT v = some oT) (hk : k ≠ 0 ∧ k ≠ 2) : rfr v k = true := by
  have := LT_oT v (LT_bound hv) hv
  have e : decide (LT v = some oT) = true := decide_eq_true hv
  simp only [rfr, rfq, e, Bool.true_and, Bool.and_eq_true, bne_iff_ne, ne_eq, Bool.not_eq_true', Bool.or_eq_false_iff, Bool.and_eq_false_iff, beq_eq_false_iff_ne]
  omega
set_option maxRecDepth 100000 in
theorem rfrB {v : Nat} (hv : LT v = some (.inl (2, 6, 0))) (h2 : v < 373) : rfr v k = true := rfrN (by rw [hv]; intro z; cases z) (by have := LT_bo v h2 hv; omega) (by have := LT_bo v h2 hv; omega)
set_option maxRecDepth 100000 in
theorem okVa {v : Nat} (hm : m ≤ 123) (hv : LT v = some oV) : m ≤ v ∧ v < 373 := by have := LT_oV v (LT_bound hv) hv; omega
set_option maxRecDepth 100000 in
theorem okSt {v : Nat} (hm : m ≤ 123) (hv : LT v = some oS) : m ≤ v ∧ v < 373 := by have := LT_oS v (LT_bound hv) hv; omega
set_option maxRecDepth 100000 in
theorem okTa {v : Nat} (hm : m ≤ 9) (hv : LT v = some oT) : m ≤ v ∧ v < 373 := by have := LT_oT v (LT_bound hv) hv; omega
set_option maxRecDepth 100000 in
theorem wt_V0 {v : Nat} {x : Int32} (hm : m ≤ 123) (hv : LT v = some oV) (hx : B01 x) : WT m v 0 x := ⟨okVa hm hv, (ti_r hv).mpr hx, rfrV hv⟩
set_option maxRecDepth 100000 in
theorem wt_S0 {v : Nat} {x : Int32} (hm : m ≤ 123) (hv : LT v = some oS) (hx : B01 x) : WT m v 0 x := ⟨okSt hm hv, (ti_r hv).mpr hx, rfrS hv⟩
set_option maxRecDepth 100000 in
theorem wt_SB {s : Nat} {i : Nat} {x : Int32} (hm : m ≤ 123) (hv : LT s = some oS) (hx : B01 x) : WT m (s + 16) i x := by
  have q := LT_oS s (LT_bound hv) hv
  exact ⟨⟨by omega, by omega⟩, (ti_l q.2.2.2.1).mpr (by rw [if_pos rfl]; exact hx), rfrB q.2.2.2.1 (by omega)⟩
set_option maxRecDepth 100000 in
theorem sg_V0 (h : CI m I0 J0 I J R) {v : Nat} {f : Int32 → Option β} {x : Int32} (hv : LT v = some oV) (hx : I v 0 = x) (K : B01 x → wp (f x) Q) : wp ((gI (mk I J R) v 8 0).bind f) Q :=
  st_gI hv rfl hx (K (by rw [← hx]; exact (ti_r (k := 0) hv).mp (h.ty (k := 0) (lt373V hv) (by rw [len_r hv]; decide))))
set_option maxRecDepth 100000 in
theorem sg_S0 (h : CI m I0 J0 I J R) {v : Nat} {f : Int32 → Option β} {x : Int32} (hv : LT v = some oS) (hx : I v 0 = x) (K : B01 x → wp (f x) Q) : wp ((gI (mk I J R) v 7 0).bind f) Q :=
  st_gI hv rfl hx (K (by rw [← hx]; exact (ti_r (k := 0) hv).mp (h.ty (k := 0) (lt373S hv) (by rw [len_r hv]; decide))))
set_option maxRecDepth 100000 in
theorem sr_SB (h : CI m I0 J0 I J R) {s : Nat} {i : Int32} {f : Int32 → Option β} (hv : LT s = some oS) (hi : 0 ≤ i.toInt ∧ i.toInt < 6) (K : B01 (I (s + 16) i.toInt.toNat) → wp (f (I (s + 16) i.toInt.toNat)) Q) : wp ((rI (mk I J R) (s + 16) 2 i).bind f) Q := by
  have q := LT_oS s (LT_bound hv) hv
  refine st_rI q.2.2.2.1 hi rfl (K ?_)
  have := (ti_l q.2.2.2.1).mp (h.ty (a := s + 16) (k := i.toInt.toNat) (by omega) (by rw [len_l q.2.2.2.1]; omega))
  rwa [if_pos rfl] at this
set_option maxRecDepth 100000 in
theorem ss_SB (h : CI m I0 J0 I J R) {s : Nat} {i x : Int32} {f : WW → Option β} (hm : m ≤ 123) (hv : LT s = some oS) (hi : 0 ≤ i.toInt ∧ i.toInt < 6) (hx : B01 x) (K : CI m I0 J0 (up2 I (s + 16) i.toInt.toNat x) J R → wp (f (mk (up2 I (s + 16) i.toInt.toNat x) J R)) Q) : wp ((sI (mk I J R) (s + 16) 2 i x).bind f) Q :=
  sw_A h (LT_oS s (LT_bound hv) hv).2.2.2.1 hi (wt_SB hm hv hx) K
set_option maxRecDepth 100000 in
theorem CI.fx (h : CI m I0 J0 I J R) (ha : a < 417) (hk : k < 100) (hm : mutR a k = false) : R a k = Rw W5 a k := h.2.2.2.2.2.2.1 a k ha hk hm
set_option maxRecDepth 100000 in
theorem mutN (h : LT a ≠ some oT) (h1 : 123 < a) : mutR a k = false := by
  have : decide (LT a = some oT) = false := decide_eq_false h
  have e0 : (a == 0) = false := by rw [beq_eq_false_iff_ne]; omega
  have e1 : (a == 1) = false := by rw [beq_eq_false_iff_ne]; omega
  have e2 : (a == 7) = false := by rw [beq_eq_false_iff_ne]; omega
  have e3 : (a == 62) = false := by rw [beq_eq_false_iff_ne]; omega
  have e4 : (a == 117) = false := by rw [beq_eq_false_iff_ne]; omega
  have e5 : (a == 123) = false := by rw [beq_eq_false_iff_ne]; omega
  simp [mutR, this, e0, e1, e2, e3, e4, e5]
set_option maxRecDepth 100000 in
theorem sn_S1 (h : CI m I0 J0 I J R) {s : Nat} {f : Nat → Option β} (hv : LT s = some oS) (K : wp (f (s + 1)) Q) : wp ((gN (mk I J R) s 7 1).bind f) Q := by
  have q := LT_oS s (LT_bound hv) hv
  exact st_gN hv rfl ((h.fx (by omega) (by omega) (mutN (by rw [hv]; intro z; cases z) (by omega))).trans q.2.2.2.2.1) K
set_option maxRecDepth 100000 in
theorem sn_S2 (h : CI m I0 J0 I J R) {s : Nat} {f : Nat → Option β} (hv : LT s = some oS) (K : wp (f (s + 16)) Q) : wp ((gN (mk I J R) s 7 2).bind f) Q := by
  have q := LT_oS s (LT_bound hv) hv
  exact st_gN hv rfl ((h.fx (by omega) (by omega) (mutN (by rw [hv]; intro z; cases z) (by omega))).trans q.2.2.2.2.2) K
set_option maxRecDepth 100000 in
theorem sn_Sv (h : CI m I0 J0 I J R) {s : Nat} {i : Int32} {f : Nat → Option β} (hv : LT s = some oS) (hi : 0 ≤ i.toInt ∧ i.toInt < 14) (K : ∀ v, LT v = some oV → wp (f v) Q) : wp ((rN (mk I J R) (s + 1) 4 i).bind f) Q := by
  have q := LT_oS s (LT_bound hv) hv
  have q2 := LT_oSv s (LT_bound hv) hv i.toInt.toNat (by omega)
  exact st_rN q.2.2.1 hi ((h.fx (by omega) (by omega) (mutN (by rw [q.2.2.1]; intro z; cases z) (by omega))).trans q2.1) (K _ q2.2)
set_option maxRecDepth 100000 in
theorem rw346 : ∀ k, k < 25 → Rw W5 346 k = some (347 + k) ∧ LT (347 + k) = some oV := by decide +kernel
set_option maxRecDepth 100000 in
theorem rw141 : ∀ k, k < 12 → Rw W5 141 k = some (142 + 17 * k) ∧ LT (142 + 17 * k) = some oS := by decide +kernel
set_option maxRecDepth 100000 in
theorem sn_346 (h : CI m I0 J0 I J R) {i : Int32} {f : Nat → Option β} (hi : 0 ≤ i.toInt ∧ i.toInt < 25) (K : ∀ v, LT v = some oV → wp (f v) Q) : wp ((rN (mk I J R) 346 4 i).bind f) Q := by
  have q2 := rw346 i.toInt.toNat (by omega)
  exact st_rN (n := 25) rfl hi ((h.fx (by decide) (by omega) (mutN (by intro z; cases z) (by decide))).trans q2.1) (K _ q2.2)
set_option maxRecDepth 100000 in
theorem sn_141 (h : CI m I0 J0 I J R) {i : Int32} {f : Nat → Option β} (hi : 0 ≤ i.toInt ∧ i.toInt < 12) (K : ∀ v, LT v = some oS → wp (f v) Q) : wp ((rN (mk I J R) 141 5 i).bind f) Q := by
  have q2 := rw141 i.toInt.toNat (by omega)
  exact st_rN (n := 12) rfl hi ((h.fx (by decide) (by omega) (mutN (by intro z; cases z) (by decide))).trans q2.1) (K _ q2.2)
set_option maxRecDepth 100000 in
theorem rwP8 (k : Nat) (hk : k < 50) : (Rw W5 8 k = some (9 + k) ∧ LT (9 + k) = some oT) ∧ (Rw W5 63 k = some (64 + k) ∧ LT (64 + k) = some oT) := by
  have q : (List.range 50).all (fun k => decide ((Rw W5 8 k = some (9 + k) ∧ LT (9 + k) = some oT) ∧ (Rw W5 63 k = some (64 + k) ∧ LT (64 + k) = some oT))) = true := by decide +kernel
  exact of_decide_eq_true (allb q hk)
set_option maxRecDepth 100000 in
theorem sn_Ps (h : CI m I0 J0 I J R) {p : Nat} {i : Int32} {f : Nat → Option β} (hp : isP p) (hi : 0 ≤ i.toInt ∧ i.toInt < 50) (K : LT (p + 2 + i.toInt.toNat) = some oT → wp (f (p + 2 + i.toInt.toNat)) Q) : wp ((rN (mk I J R) (p + 1) 6 i).bind f) Q := by
  have q2 := rwP8 i.toInt.toNat (by omega)
  rcases hp with rfl | rfl
  · exact st_rN (n := 50) rfl hi ((h.fx (by decide) (by omega) (by simp [mutR, LT, lt0])).trans q2.1.1) (K q2.1.2)
  · exact st_rN (n := 50) rfl hi ((h.fx (by decide) (by omega) (by simp [mutR, LT, lt1])).trans q2.2.1) (K q2.2.2)

set_option maxRecDepth 100000 in
theorem sn_0_2 (h : CI m I0 J0 I J R) {f : Nat → Option β} (K : wp (f 1) Q) : wp ((gN (mk I J R) 0 0 2).bind f) Q := st_gN rfl rfl ((h.fx (by decide) (by decide) (by decide +kernel)).trans (by decide +kernel)) K
set_option maxRecDepth 100000 in
theorem sn_0_3 (h : CI m I0 J0 I J R) {f : Nat → Option β} (K : wp (f 2) Q) : wp ((gN (mk I J R) 0 0 3).bind f) Q := st_gN rfl rfl ((h.fx (by decide) (by decide) (by decide +kernel)).trans (by decide +kernel)) K
set_option maxRecDepth 100000 in
theorem sn_0_7 (h : CI m I0 J0 I J R) {f : Nat → Option β} (K : wp (f 117) Q) : wp ((gN (mk I J R) 0 0 7).bind f) Q := st_gN rfl rfl ((h.fx (by decide) (by decide) (by decide +kernel)).trans (by decide +kernel)) K
set_option maxRecDepth 100000 in
theorem sn_0_8 (h : CI m I0 J0 I J R) {f : Nat → Option β} (K : wp (f 123) Q) : wp ((gN (mk I J R) 0 0 8).bind f) Q := st_gN rfl rfl ((h.fx (by decide) (by decide) (by decide +kernel)).trans (by decide +kernel)) K
set_option maxRecDepth 100000 in
theorem sn_1_0 (h : CI m I0 J0 I J R) {f : Nat → Option β} (K : wp (f 2) Q) : wp ((gN (mk I J R) 1 2 0).bind f) Q := st_gN rfl rfl ((h.fx (by decide) (by decide) (by decide +kernel)).trans (by decide +kernel)) K
set_option maxRecDepth 100000 in
theorem sn_2_0 (h : CI m I0 J0 I J R) {f : Nat → Option β} (K : wp (f 3) Q) : wp ((gN (mk I J R) 2 1 0).bind f) Q := st_gN rfl rfl ((h.fx (by decide) (by decide) (by decide +kernel)).trans (by decide +kernel)) K
set_option maxRecDepth 100000 in
theorem sn_2_1 (h : CI m I0 J0 I J R) {f : Nat → Option β} (K : wp (f 4) Q) : wp ((gN (mk I J R) 2 1 1).bind f) Q := st_gN rfl rfl ((h.fx (by decide) (by decide) (by decide +kernel)).trans (by decide +kernel)) K
set_option maxRecDepth 100000 in
theorem sn_2_2 (h : CI m I0 J0 I J R) {f : Nat → Option β} (K : wp (f 5) Q) : wp ((gN (mk I J R) 2 1 2).bind f) Q := st_gN rfl rfl ((h.fx (by decide) (by decide) (by decide +kernel)).trans (by decide +kernel)) K
set_option maxRecDepth 100000 in
theorem sn_2_3 (h : CI m I0 J0 I J R) {f : Nat → Option β} (K : wp (f 6) Q) : wp ((gN (mk I J R) 2 1 3).bind f) Q := st_gN rfl rfl ((h.fx (by decide) (by decide) (by decide +kernel)).trans (by decide +kernel)) K
set_option maxRecDepth 100000 in
theorem sn_117_0 (h : CI m I0 J0 I J R) {f : Nat → Option β} (K : wp (f 118) Q) : wp ((gN (mk I J R) 117 5 0).bind f) Q := st_gN rfl rfl ((h.fx (by decide) (by decide) (by decide +kernel)).trans (by decide +kernel)) K
set_option maxRecDepth 100000 in
theorem sn_117_1 (h : CI m I0 J0 I J R) {f : Nat → Option β} (K : wp (f 119) Q) : wp ((gN (mk I J R) 117 5 1).bind f) Q := st_gN rfl rfl ((h.fx (by decide) (by decide) (by decide +kernel)).trans (by decide +kernel)) K
set_option maxRecDepth 100000 in
theorem sn_117_2 (h : CI m I0 J0 I J R) {f : Nat → Option β} (K : wp (f 120) Q) : wp ((gN (mk I J R) 117 5 2).bind f) Q := st_gN rfl rfl ((h.fx (by decide) (by decide) (by decide +kernel)).trans (by decide +kernel)) K
set_option maxRecDepth 100000 in
theorem sn_117_3 (h : CI m I0 J0 I J R) {f : Nat → Option β} (K : wp (f 121) Q) : wp ((gN (mk I J R) 117 5 3).bind f) Q := st_gN rfl rfl ((h.fx (by decide) (by decide) (by decide +kernel)).trans (by decide +kernel)) K
set_option maxRecDepth 100000 in
theorem sn_117_4 (h : CI m I0 J0 I J R) {f : Nat → Option β} (K : wp (f 122) Q) : wp ((gN (mk I J R) 117 5 4).bind f) Q := st_gN rfl rfl ((h.fx (by decide) (by decide) (by decide +kernel)).trans (by decide +kernel)) K
set_option maxRecDepth 100000 in
theorem sn_123_0 (h : CI m I0 J0 I J R) {f : Nat → Option β} (K : wp (f 124) Q) : wp ((gN (mk I J R) 123 6 0).bind f) Q := st_gN rfl rfl ((h.fx (by decide) (by decide) (by decide +kernel)).trans (by decide +kernel)) K
set_option maxRecDepth 100000 in
theorem sn_123_1 (h : CI m I0 J0 I J R) {f : Nat → Option β} (K : wp (f 141) Q) : wp ((gN (mk I J R) 123 6 1).bind f) Q := st_gN rfl rfl ((h.fx (by decide) (by decide) (by decide +kernel)).trans (by decide +kernel)) K
set_option maxRecDepth 100000 in
theorem sn_123_2 (h : CI m I0 J0 I J R) {f : Nat → Option β} (K : wp (f 346) Q) : wp ((gN (mk I J R) 123 6 2).bind f) Q := st_gN rfl rfl ((h.fx (by decide) (by decide) (by decide +kernel)).trans (by decide +kernel)) K
set_option maxRecDepth 100000 in
theorem sn_123_3 (h : CI m I0 J0 I J R) {f : Nat → Option β} (K : wp (f 372) Q) : wp ((gN (mk I J R) 123 6 3).bind f) Q := st_gN rfl rfl ((h.fx (by decide) (by decide) (by decide +kernel)).trans (by decide +kernel)) K
set_option maxRecDepth 100000 in
theorem sn_P0 (h : CI m I0 J0 I J R) {p : Nat} {f : Nat → Option β} (hp : isP p) (K : wp (f (p + 1)) Q) : wp ((gN (mk I J R) p 3 0).bind f) Q := by
  rcases hp with rfl | rfl
  · exact st_gN rfl rfl ((h.fx (by decide) (by decide) (by decide +kernel)).trans (by decide +kernel)) K
  · exact st_gN rfl rfl ((h.fx (by decide) (by decide) (by decide +kernel)).trans (by decide +kernel)) K
set_option maxRecDepth 100000 in
theorem sn_P2 (h : CI m I0 J0 I J R) {p : Nat} {f : Nat → Option β} (hp : isP p) (K : wp (f (p + 52)) Q) : wp ((gN (mk I J R) p 3 2).bind f) Q := by
  rcases hp with rfl | rfl
  · exact st_gN rfl rfl ((h.fx (by decide) (by decide) (by decide +kernel)).trans (by decide +kernel)) K
  · exact st_gN rfl rfl ((h.fx (by decide) (by decide) (by decide +kernel)).trans (by decide +kernel)) K
set_option maxRecDepth 100000 in
theorem sn_P3 (h : CI m I0 J0 I J R) {p : Nat} {f : Nat → Option β} (hp : isP p) (K : wp (f (p + 53)) Q) : wp ((gN (mk I J R) p 3 3).bind f) Q := by
  rcases hp with rfl | rfl
  · exact st_gN rfl rfl ((h.fx (by decide) (by decide) (by decide +kernel)).trans (by decide +kernel)) K
  · exact st_gN rfl rfl ((h.fx (by decide) (by decide) (by decide +kernel)).trans (by decide +kernel)) K
set_option maxRecDepth 100000 in
theorem sn_P4 (h : CI m I0 J0 I J R) {p : Nat} {f : Nat → Option β} (hp : isP p) (K : wp (f (p + 54)) Q) : wp ((gN (mk I J R) p 3 4).bind f) Q := by
  rcases hp with rfl | rfl
  · exact st_gN rfl rfl ((h.fx (by decide) (by decide) (by decide +kernel)).trans (by decide +kernel)) K
  · exact st_gN rfl rfl ((h.fx (by decide) (by decide) (by decide +kernel)).trans (by decide +kernel)) K
set_option maxRecDepth 100000 in
theorem sg_0_0 (h : CI m I0 J0 I J R) {f : Int32 → Option β} {x : Int32} (hx : I 0 0 = x) (K : 0 ≤ x.toInt ∧ x.toInt ≤ 5 → wp (f x) Q) : wp ((gI (mk I J R) 0 0 0).bind f) Q := st_gI rfl rfl hx (K (by rw [← hx]; exact (ti_r (a := 0) (k := 0) rfl).mp (h.ty (a := 0) (k := 0) (by decide) (by decide +kernel))))
set_option maxRecDepth 100000 in
theorem wt_0_0 {x : Int32} (hm : m ≤ 0) (hx : 0 ≤ x.toInt ∧ x.toInt ≤ 5) : WT m 0 0 x := ⟨⟨hm, by decide⟩, (ti_r (a := 0) (k := 0) rfl).mpr hx, by decide +kernel⟩
set_option maxRecDepth 100000 in
theorem sg_0_1 (h : CI m I0 J0 I J R) {f : Int32 → Option β} {x : Int32} (hx : I 0 1 = x) (K : 0 ≤ x.toInt ∧ x.toInt ≤ 5 → wp (f x) Q) : wp ((gI (mk I J R) 0 0 1).bind f) Q := st_gI rfl rfl hx (K (by rw [← hx]; exact (ti_r (a := 0) (k := 1) rfl).mp (h.ty (a := 0) (k := 1) (by decide) (by decide +kernel))))
set_option maxRecDepth 100000 in
theorem wt_0_1 {x : Int32} (hm : m ≤ 0) (hx : 0 ≤ x.toInt ∧ x.toInt ≤ 5) : WT m 0 1 x := ⟨⟨hm, by decide⟩, (ti_r (a := 0) (k := 1) rfl).mpr hx, by decide +kernel⟩
set_option maxRecDepth 100000 in
theorem sg_0_6 (h : CI m I0 J0 I J R) {f : Int32 → Option β} {x : Int32} (hx : I 0 6 = x) (K : B01 x → wp (f x) Q) : wp ((gI (mk I J R) 0 0 6).bind f) Q := st_gI rfl rfl hx (K (by rw [← hx]; exact (ti_r (a := 0) (k := 6) rfl).mp (h.ty (a := 0) (k := 6) (by decide) (by decide +kernel))))
set_option maxRecDepth 100000 in
theorem wt_0_6 {x : Int32} (hm : m ≤ 0) (hx : B01 x) : WT m 0 6 x := ⟨⟨hm, by decide⟩, (ti_r (a := 0) (k := 6) rfl).mpr hx, by decide +kernel⟩
set_option maxRecDepth 100000 in
theorem sg_2_4 (h : CI m I0 J0 I J R) {f : Int32 → Option β} {x : Int32} (hx : I 2 4 = x) (K : 0 ≤ x.toInt ∧ x.toInt ≤ 200 → wp (f x) Q) : wp ((gI (mk I J R) 2 1 4).bind f) Q := st_gI rfl rfl hx (K (by rw [← hx]; exact (ti_r (a := 2) (k := 4) rfl).mp (h.ty (a := 2) (k := 4) (by decide) (by decide +kernel))))
set_option maxRecDepth 100000 in
theorem sg_2_5 (h : CI m I0 J0 I J R) {f : Int32 → Option β} {x : Int32} (hx : I 2 5 = x) (K : 0 ≤ x.toInt ∧ x.toInt ≤ 200 → wp (f x) Q) : wp ((gI (mk I J R) 2 1 5).bind f) Q := st_gI rfl rfl hx (K (by rw [← hx]; exact (ti_r (a := 2) (k := 5) rfl).mp (h.ty (a := 2) (k := 5) (by decide) (by decide +kernel))))
set_option maxRecDepth 100000 in
theorem wt_2_5 {x : Int32} (hm : m ≤ 2) (hx : 0 ≤ x.toInt ∧ x.toInt ≤ 200) : WT m 2 5 x := ⟨⟨hm, by decide⟩, (ti_r (a := 2) (k := 5) rfl).mpr hx, by decide +kernel⟩
set_option maxRecDepth 100000 in
theorem sg_2_7 (h : CI m I0 J0 I J R) {f : Int32 → Option β} {x : Int32} (hx : I 2 7 = x) (K : 0 ≤ x.toInt ∧ x.toInt ≤ 200 → wp (f x) Q) : wp ((gI (mk I J R) 2 1 7).bind f) Q := st_gI rfl rfl hx (K (by rw [← hx]; exact (ti_r (a := 2) (k := 7) rfl).mp (h.ty (a := 2) (k := 7) (by decide) (by decide +kernel))))
set_option maxRecDepth 100000 in
theorem wt_2_7 {x : Int32} (hm : m ≤ 2) (hx : 0 ≤ x.toInt ∧ x.toInt ≤ 200) : WT m 2 7 x := ⟨⟨hm, by decide⟩, (ti_r (a := 2) (k := 7) rfl).mpr hx, by decide +kernel⟩
set_option maxRecDepth 100000 in
theorem sg_1_1 (h : CI m I0 J0 I J R) {f : Int32 → Option β} {x : Int32} (hx : I 1 1 = x) (K : 0 ≤ x.toInt ∧ x.toInt ≤ 200 → wp (f x) Q) : wp ((gI (mk I J R) 1 2 1).bind f) Q := st_gI rfl rfl hx (K (by rw [← hx]; exact (ti_r (a := 1) (k := 1) rfl).mp (h.ty (a := 1) (k := 1) (by decide) (by decide +kernel))))
set_option maxRecDepth 100000 in
theorem wt_1_1 {x : Int32} (hm : m ≤ 1) (hx : 0 ≤ x.toInt ∧ x.toInt ≤ 200) : WT m 1 1 x := ⟨⟨hm, by decide⟩, (ti_r (a := 1) (k := 1) rfl).mpr hx, by decide +kernel⟩
set_option maxRecDepth 100000 in
theorem sg_117_5 (h : CI m I0 J0 I J R) {f : Int32 → Option β} {x : Int32} (hx : I 117 5 = x) (K : 0 ≤ x.toInt ∧ x.toInt ≤ 8 → wp (f x) Q) : wp ((gI (mk I J R) 117 5 5).bind f) Q := st_gI rfl rfl hx (K (by rw [← hx]; exact (ti_r (a := 117) (k := 5) rfl).mp (h.ty (a := 117) (k := 5) (by decide) (by decide +kernel))))
set_option maxRecDepth 100000 in
theorem sg_117_7 (h : CI m I0 J0 I J R) {f : Int32 → Option β} {x : Int32} (hx : I 117 7 = x) (K : 0 ≤ x.toInt ∧ x.toInt ≤ 500 → wp (f x) Q) : wp ((gI (mk I J R) 117 5 7).bind f) Q := st_gI rfl rfl hx (K (by rw [← hx]; exact (ti_r (a := 117) (k := 7) rfl).mp (h.ty (a := 117) (k := 7) (by decide) (by decide +kernel))))
set_option maxRecDepth 100000 in
theorem wt_117_7 {x : Int32} (hm : m ≤ 117) (hx : 0 ≤ x.toInt ∧ x.toInt ≤ 500) : WT m 117 7 x := ⟨⟨hm, by decide⟩, (ti_r (a := 117) (k := 7) rfl).mpr hx, by decide +kernel⟩
set_option maxRecDepth 100000 in
theorem sg_117_8 (h : CI m I0 J0 I J R) {f : Int32 → Option β} {x : Int32} (hx : I 117 8 = x) (K : 0 ≤ x.toInt ∧ x.toInt ≤ 500 → wp (f x) Q) : wp ((gI (mk I J R) 117 5 8).bind f) Q := st_gI rfl rfl hx (K (by rw [← hx]; exact (ti_r (a := 117) (k := 8) rfl).mp (h.ty (a := 117) (k := 8) (by decide) (by decide +kernel))))
set_option maxRecDepth 100000 in
theorem wt_117_8 {x : Int32} (hm : m ≤ 117) (hx : 0 ≤ x.toInt ∧ x.toInt ≤ 500) : WT m 117 8 x := ⟨⟨hm, by decide⟩, (ti_r (a := 117) (k := 8) rfl).mpr hx, by decide +kernel⟩
set_option maxRecDepth 100000 in
theorem sg_117_9 (h : CI m I0 J0 I J R) {f : Int32 → Option β} {x : Int32} (hx : I 117 9 = x) (K : 0 ≤ x.toInt ∧ x.toInt ≤ 8 → wp (f x) Q) : wp ((gI (mk I J R) 117 5 9).bind f) Q := st_gI rfl rfl hx (K (by rw [← hx]; exact (ti_r (a := 117) (k := 9) rfl).mp (h.ty (a := 117) (k := 9) (by decide) (by decide +kernel))))
set_option maxRecDepth 100000 in
theorem wt_117_9 {x : Int32} (hm : m ≤ 117) (hx : 0 ≤ x.toInt ∧ x.toInt ≤ 8) : WT m 117 9 x := ⟨⟨hm, by decide⟩, (ti_r (a := 117) (k := 9) rfl).mpr hx, by decide +kernel⟩
set_option maxRecDepth 100000 in
theorem sg_123_6 (h : CI m I0 J0 I J R) {f : Int32 → Option β} {x : Int32} (hx : I 123 6 = x) (K : 0 ≤ x.toInt ∧ x.toInt ≤ 5 → wp (f x) Q) : wp ((gI (mk I J R) 123 6 6).bind f) Q := st_gI rfl rfl hx (K (by rw [← hx]; exact (ti_r (a := 123) (k := 6) rfl).mp (h.ty (a := 123) (k := 6) (by decide) (by decide +kernel))))
set_option maxRecDepth 100000 in
theorem wt_123_6 {x : Int32} (hm : m ≤ 123) (hx : 0 ≤ x.toInt ∧ x.toInt ≤ 5) : WT m 123 6 x := ⟨⟨hm, by decide⟩, (ti_r (a := 123) (k := 6) rfl).mpr hx, by decide +kernel⟩
set_option maxRecDepth 100000 in
theorem sg_123_7 (h : CI m I0 J0 I J R) {f : Int32 → Option β} {x : Int32} (hx : I 123 7 = x) (K : B01 x → wp (f x) Q) : wp ((gI (mk I J R) 123 6 7).bind f) Q := st_gI rfl rfl hx (K (by rw [← hx]; exact (ti_r (a := 123) (k := 7) rfl).mp (h.ty (a := 123) (k := 7) (by decide) (by decide +kernel))))
set_option maxRecDepth 100000 in
theorem wt_123_7 {x : Int32} (hm : m ≤ 123) (hx : B01 x) : WT m 123 7 x := ⟨⟨hm, by decide⟩, (ti_r (a := 123) (k := 7) rfl).mpr hx, by decide +kernel⟩
set_option maxRecDepth 100000 in
theorem sg_123_8 (h : CI m I0 J0 I J R) {f : Int32 → Option β} {x : Int32} (hx : I 123 8 = x) (K : B01 x → wp (f x) Q) : wp ((gI (mk I J R) 123 6 8).bind f) Q := st_gI rfl rfl hx (K (by rw [← hx]; exact (ti_r (a := 123) (k := 8) rfl).mp (h.ty (a := 123) (k := 8) (by decide) (by decide +kernel))))
set_option maxRecDepth 100000 in
theorem wt_123_8 {x : Int32} (hm : m ≤ 123) (hx : B01 x) : WT m 123 8 x := ⟨⟨hm, by decide⟩, (ti_r (a := 123) (k := 8) rfl).mpr hx, by decide +kernel⟩
set_option maxRecDepth 100000 in
theorem wt_2_6 {x : Int32} (hm : m ≤ 2) : WT m 2 6 x := ⟨⟨hm, by decide⟩, (ti_r (a := 2) (k := 6) rfl).mpr trivial, by decide +kernel⟩
set_option maxRecDepth 100000 in
theorem wt_2_8 {x : Int32} (hm : m ≤ 2) : WT m 2 8 x := ⟨⟨hm, by decide⟩, (ti_r (a := 2) (k := 8) rfl).mpr trivial, by decide +kernel⟩
set_option maxRecDepth 100000 in
theorem wt_1_3 {x : Int32} (hm : m ≤ 1) : WT m 1 3 x := ⟨⟨hm, by decide⟩, (ti_r (a := 1) (k := 3) rfl).mpr trivial, by decide +kernel⟩
set_option maxRecDepth 100000 in
theorem wt_117_10 {x : Int32} (hm : m ≤ 117) : WT m 117 10 x := ⟨⟨hm, by decide⟩, (ti_r (a := 117) (k := 10) rfl).mpr trivial, by decide +kernel⟩
set_option maxRecDepth 100000 in
theorem wt_123_5 {x : Int32} (hm : m ≤ 123) : WT m 123 5 x := ⟨⟨hm, by decide⟩, (ti_r (a := 123) (k := 5) rfl).mpr trivial, by decide +kernel⟩
set_option maxRecDepth 100000 in
theorem wt_123_9 {x : Int32} (hm : m ≤ 123) : WT m 123 9 x := ⟨⟨hm, by decide⟩, (ti_r (a := 123) (k := 9) rfl).mpr trivial, by decide +kernel⟩
set_option maxRecDepth 100000 in
theorem wt_123_10 {x : Int32} (hm : m ≤ 123) : WT m 123 10 x := ⟨⟨hm, by decide⟩, (ti_r (a := 123) (k := 10) rfl).mpr trivial, by decide +kernel⟩
set_option maxRecDepth 100000 in
theorem sg_P1 (h : CI m I0 J0 I J R) {p : Nat} {f : Int32 → Option β} {x : Int32} (hp : isP p) (hx : I p 1 = x) (K : 0 ≤ x.toInt ∧ x.toInt ≤ 50 → wp (f x) Q) : wp ((gI (mk I J R) p 3 1).bind f) Q := by
  subst hx
  rcases hp with rfl | rfl
  · exact st_gI rfl rfl rfl (K ((ti_r (a := 7) (k := 1) rfl).mp (h.ty (a := 7) (k := 1) (by decide) (by decide +kernel))))
  · exact st_gI rfl rfl rfl (K ((ti_r (a := 62) (k := 1) rfl).mp (h.ty (a := 62) (k := 1) (by decide) (by decide +kernel))))
set_option maxRecDepth 100000 in
theorem wt_P1 {p : Nat} {x : Int32} (hm : m ≤ 7) (hp : isP p) (hx : 0 ≤ x.toInt ∧ x.toInt ≤ 50) : WT m p 1 x := by
  rcases hp with rfl | rfl
  · exact ⟨⟨by omega, by decide⟩, (ti_r (a := 7) (k := 1) rfl).mpr hx, by decide +kernel⟩
  · exact ⟨⟨by omega, by decide⟩, (ti_r (a := 62) (k := 1) rfl).mpr hx, by decide +kernel⟩
set_option maxRecDepth 100000 in
theorem sg_P5 (h : CI m I0 J0 I J R) {p : Nat} {f : Int32 → Option β} {x : Int32} (hp : isP p) (hx : I p 5 = x) (K : 0 ≤ x.toInt ∧ x.toInt ≤ 200 → wp (f x) Q) : wp ((gI (mk I J R) p 3 5).bind f) Q := by
  subst hx
  rcases hp with rfl | rfl
  · exact st_gI rfl rfl rfl (K ((ti_r (a := 7) (k := 5) rfl).mp (h.ty (a := 7) (k := 5) (by decide) (by decide +kernel))))
  · exact st_gI rfl rfl rfl (K ((ti_r (a := 62) (k := 5) rfl).mp (h.ty (a := 62) (k := 5) (by decide) (by decide +kernel))))
set_option maxRecDepth 100000 in
theorem wt_P5 {p : Nat} {x : Int32} (hm : m ≤ 7) (hp : isP p) (hx : 0 ≤ x.toInt ∧ x.toInt ≤ 200) : WT m p 5 x := by
  rcases hp with rfl | rfl
  · exact ⟨⟨by omega, by decide⟩, (ti_r (a := 7) (k := 5) rfl).mpr hx, by decide +kernel⟩
  · exact ⟨⟨by omega, by decide⟩, (ti_r (a := 62) (k := 5) rfl).mpr hx, by decide +kernel⟩
set_option maxRecDepth 100000 in
theorem sg_T1 (h : CI m I0 J0 I J R) {x : Nat} {f : Int32 → Option β} {y : Int32} (hx : LT x = some oT) (hy : I x 1 = y) (K : 0 ≤ y.toInt ∧ y.toInt ≤ 199 → wp (f y) Q) : wp ((gI (mk I J R) x 4 1).bind f) Q := st_gI hx rfl hy (K (by rw [← hy]; exact (ti_r (k := 1) hx).mp (h.ty (k := 1) (lt373T hx) (by rw [len_r hx]; decide))))
set_option maxRecDepth 100000 in
theorem wt_T1 {y : Nat} {x : Int32} (hm : m ≤ 9) (hy : LT y = some oT) (hx : 0 ≤ x.toInt ∧ x.toInt ≤ 199) : WT m y 1 x := ⟨okTa hm hy, (ti_r hy).mpr hx, rfrT hy (by decide)⟩
set_option maxRecDepth 100000 in
theorem sg_T2 (h : CI m I0 J0 I J R) {x : Nat} {f : Int32 → Option β} {y : Int32} (hx : LT x = some oT) (hy : I x 2 = y) (K : 0 ≤ y.toInt ∧ y.toInt ≤ 5 → wp (f y) Q) : wp ((gI (mk I J R) x 4 2).bind f) Q := st_gI hx rfl hy (K (by rw [← hy]; exact (ti_r (k := 2) hx).mp (h.ty (k := 2) (lt373T hx) (by rw [len_r hx]; decide))))
set_option maxRecDepth 100000 in
theorem sg_T3 (h : CI m I0 J0 I J R) {x : Nat} {f : Int32 → Option β} {y : Int32} (hx : LT x = some oT) (hy : I x 3 = y) (K : 0 ≤ y.toInt ∧ y.toInt ≤ 200 → wp (f y) Q) : wp ((gI (mk I J R) x 4 3).bind f) Q := st_gI hx rfl hy (K (by rw [← hy]; exact (ti_r (k := 3) hx).mp (h.ty (k := 3) (lt373T hx) (by rw [len_r hx]; decide))))
set_option maxRecDepth 100000 in
theorem wt_T3 {y : Nat} {x : Int32} (hm : m ≤ 9) (hy : LT y = some oT) (hx : 0 ≤ x.toInt ∧ x.toInt ≤ 200) : WT m y 3 x := ⟨okTa hm hy, (ti_r hy).mpr hx, rfrT hy (by decide)⟩
set_option maxRecDepth 100000 in
theorem sg_T4 (h : CI m I0 J0 I J R) {x : Nat} {f : Int32 → Option β} {y : Int32} (hx : LT x = some oT) (hy : I x 4 = y) (K : 0 ≤ y.toInt ∧ y.toInt ≤ 200 → wp (f y) Q) : wp ((gI (mk I J R) x 4 4).bind f) Q := st_gI hx rfl hy (K (by rw [← hy]; exact (ti_r (k := 4) hx).mp (h.ty (k := 4) (lt373T hx) (by rw [len_r hx]; decide))))
set_option maxRecDepth 100000 in
theorem wt_T4 {y : Nat} {x : Int32} (hm : m ≤ 9) (hy : LT y = some oT) (hx : 0 ≤ x.toInt ∧ x.toInt ≤ 200) : WT m y 4 x := ⟨okTa hm hy, (ti_r hy).mpr hx, rfrT hy (by decide)⟩
set_option maxRecDepth 100000 in
theorem sg_T5 (h : CI m I0 J0 I J R) {x : Nat} {f : Int32 → Option β} {y : Int32} (hx : LT x = some oT) (hy : I x 5 = y) (K : 0 ≤ y.toInt ∧ y.toInt ≤ 200 → wp (f y) Q) : wp ((gI (mk I J R) x 4 5).bind f) Q := st_gI hx rfl hy (K (by rw [← hy]; exact (ti_r (k := 5) hx).mp (h.ty (k := 5) (lt373T hx) (by rw [len_r hx]; decide))))
set_option maxRecDepth 100000 in
theorem wt_T5 {y : Nat} {x : Int32} (hm : m ≤ 9) (hy : LT y = some oT) (hx : 0 ≤ x.toInt ∧ x.toInt ≤ 200) : WT m y 5 x := ⟨okTa hm hy, (ti_r hy).mpr hx, rfrT hy (by decide)⟩
set_option maxRecDepth 100000 in
theorem wt_T6 {y : Nat} {x : Int32} (hm : m ≤ 9) (hy : LT y = some oT) : WT m y 6 x := ⟨okTa hm hy, (ti_r hy).mpr trivial, rfrT hy (by decide)⟩
set_option maxRecDepth 100000 in
theorem CI.pr (h : CI m I0 J0 I J R) (ha : a < m) : I a k = I0 a k := h.1 a k (Or.inl ha)
set_option maxRecDepth 100000 in
theorem sg_T2k (h : CI m I0 J0 I J R) {x : Nat} {f : Int32 → Option β} {y : Int32} (hm : 114 ≤ m) (hx : LT x = some oT) (h3 : I0 x 0 = 3) (hy : I x 2 = y) (K : 0 ≤ y.toInt ∧ y.toInt ≤ 4 → wp (f y) Q) : wp ((gI (mk I J R) x 4 2).bind f) Q := by
  refine sg_T2 h hx hy (fun q => K ⟨q.1, ?_⟩)
  rw [← hy]
  exact h.2.2.2.2.2.1 x hx ((h.pr (by have := LT_oT x (LT_bound hx) hx; omega)).trans h3)
set_option maxRecDepth 100000 in
theorem CI.stm (h : CI m I0 J0 I J R) {x : Nat} (hx : LT x = some oT) (h3 : I x 0 = 3) : (I x 2).toInt ≤ 4 := h.2.2.2.2.2.1 x hx h3
set_option maxRecDepth 100000 in
theorem CI.stp (h : CI m I0 J0 I J R) {p j : Nat} (hp : isP p) (hj : j < 200) : (I (p + 52) j = 2 → 0 ≤ (I (p + 53) j).toInt ∧ (I (p + 53) j).toInt ≤ 5) ∧ (I (p + 52) j = 3 → 0 ≤ (I (p + 53) j).toInt ∧ (I (p + 53) j).toInt ≤ 4) := h.2.2.2.2.1 p hp j hj
set_option maxRecDepth 100000 in
theorem CI.tks (h : CI m I0 J0 I J R) {j : Nat} (hj : j < 201) : (I 4 j ≠ 0 → (I 5 j).toInt < 200) ∧ (I 4 j ≠ 1 → 0 ≤ (I 6 j).toInt ∧ (I 6 j).toInt ≤ 5) ∧ (I 4 j = 3 → (I 6 j).toInt ≤ 4) := h.2.2.2.1 j hj
set_option maxRecDepth 100000 in
theorem CI.tyr (h : CI m I0 J0 I J R) : TYR R := h.2.2.2.2.2.2.2
set_option maxRecDepth 100000 in
theorem st_P52 {p : Nat} {i : Int32} {f : Int32 → Option β} (hp : isP p) (hi : 0 ≤ i.toInt ∧ i.toInt < 200) (K : wp (f (I (p + 52) i.toInt.toNat)) Q) : wp ((rI (mk I J R) (p + 52) 0 i).bind f) Q := st_rI (isP_lt hp).2.2.1 hi rfl K
set_option maxRecDepth 100000 in
theorem st_P53 {p : Nat} {i : Int32} {f : Int32 → Option β} (hp : isP p) (hi : 0 ≤ i.toInt ∧ i.toInt < 200) (K : wp (f (I (p + 53) i.toInt.toNat)) Q) : wp ((rI (mk I J R) (p + 53) 0 i).bind f) Q := st_rI (isP_lt hp).2.2.2.1 hi rfl K
set_option maxRecDepth 100000 in
theorem st_P54 (h : CI m I0 J0 I J R) {p : Nat} {i : Int32} {f : Int32 → Option β} (hp : isP p) (hi : 0 ≤ i.toInt ∧ i.toInt < 200) (K : 0 ≤ (I (p + 54) i.toInt.toNat).toInt ∧ (I (p + 54) i.toInt.toNat).toInt ≤ 199 → wp (f (I (p + 54) i.toInt.toNat)) Q) : wp ((rI (mk I J R) (p + 54) 0 i).bind f) Q := by
  refine st_rI (isP_lt hp).2.2.2.2 hi rfl (K ?_)
  have := (ti_l (isP_lt hp).2.2.2.2).mp (h.ty (a := p + 54) (k := i.toInt.toNat) (by rcases hp with rfl | rfl <;> decide) (by rw [len_l (isP_lt hp).2.2.2.2]; omega))
  rw [if_neg (by decide)] at this
  rcases hp with rfl | rfl
  · exact this
  · exact this
set_option maxRecDepth 100000 in
theorem sr_119 (h : CI m I0 J0 I J R) {i : Int32} {f : Int32 → Option β} (hi : 0 ≤ i.toInt ∧ i.toInt < 6) (K : B01 (I 119 i.toInt.toNat) → wp (f (I 119 i.toInt.toNat)) Q) : wp ((rI (mk I J R) 119 2 i).bind f) Q :=
  st_rI (n := 6) rfl hi rfl (K ((ti_l (a := 119) (k := i.toInt.toNat) rfl).mp (h.ty (a := 119) (k := i.toInt.toNat) (by decide) (by show _ < 6; omega))))
set_option maxRecDepth 100000 in
theorem wt_119 {i : Nat} {x : Int32} (hm : m ≤ 117) (hx : B01 x) : WT m 119 i x := ⟨⟨by omega, by decide⟩, (ti_l (a := 119) rfl).mpr hx, rfrB rfl (by decide)⟩
set_option maxRecDepth 100000 in
theorem wt_lit {i : Nat} {x : Int32} (hm : m ≤ a) (ha : a = 118 ∨ a = 120 ∨ a = 121 ∨ a = 122 ∨ a = 372) : WT m a i x := by
  rcases ha with rfl | rfl | rfl | rfl | rfl
  · exact ⟨⟨hm, by decide⟩, (ti_l (a := 118) rfl).mpr trivial, rfrN (by intro z; cases z) (by decide) (by decide)⟩
  · exact ⟨⟨hm, by decide⟩, (ti_l (a := 120) rfl).mpr trivial, rfrN (by intro z; cases z) (by decide) (by decide)⟩
  · exact ⟨⟨hm, by decide⟩, (ti_l (a := 121) rfl).mpr trivial, rfrN (by intro z; cases z) (by decide) (by decide)⟩
  · exact ⟨⟨hm, by decide⟩, (ti_l (a := 122) rfl).mpr trivial, rfrN (by intro z; cases z) (by decide) (by decide)⟩
  · exact ⟨⟨hm, by decide⟩, (ti_l (a := 372) rfl).mpr trivial, rfrN (by intro z; cases z) (by decide) (by decide)⟩
set_option maxRecDepth 100000 in
theorem wt_3 {i : Nat} {x : Int32} (hm : m ≤ 3) : WT m 3 i x := ⟨⟨hm, by decide⟩, (ti_l (a := 3) rfl).mpr trivial, by simp [rfr, rfq, LT, lt0]⟩
end CI
set_option maxRecDepth 100000 in
theorem st_bdx {α γ : Type} {Q : ((γ ⊕ String) × WW) → Prop} {c : Option ((α ⊕ String) × WW)} {f : α → WW → Option ((γ ⊕ String) × WW)} (h : wp c (fun p => (∀ v, p.1 = .inl v → wp (f v p.2) Q) ∧ (∀ E, p.1 = .inr E → Q (.inr E, p.2)))) : wp (bdx c f) Q := by
  obtain ⟨⟨x, w⟩, h1, h2⟩ := h
  rw [h1]
  cases x with
  | inl v => exact h2.1 v rfl
  | inr E => exact ⟨_, rfl, h2.2 E rfl⟩
set_option maxRecDepth 100000 in
theorem st_nl {β : Type} {Q : β → Prop} {t : Option Nat} {A : Option β} {B : Nat → Option β} (h1 : t = none → wp A Q) (h2 : ∀ x, t = some x → wp (B x) Q) : wp (nl t A B) Q := by
  cases t with
  | none => exact h1 rfl
  | some x => exact h2 x rfl
