/-! The world behind the constructors keeps the invariant. -/
def b01b (x : Int32) : Bool := decide (x = 0 ∨ x = 1)
def rgb (l h : Int) (x : Int32) : Bool := decide (l ≤ x.toInt ∧ x.toInt ≤ h)
set_option maxRecDepth 100000 in
theorem ite_z {p : Prop} {dd : Decidable p} {A B : Prop} (h1 : A) (h2 : B) : @ite Prop p dd A B := by
  by_cases c : p
  · rw [if_pos c]; exact h1
  · rw [if_neg c]; exact h2
set_option maxRecDepth 100000 in
theorem to_z (c k : Nat) (hc : c ≠ 10) : TO c k 0 := by
  unfold TO
  repeat' (first | exact Or.inl rfl | exact trivial | (with_reducible apply ite_z) | decide)
set_option maxRecDepth 100000 in
theorem ta_z (a : Nat) : TA a 0 := by
  unfold TA
  repeat' split
  all_goals first | decide | trivial
set_option maxRecDepth 100000 in
theorem ti_z (a k : Nat) : TI a k 0 := by
  unfold TI
  split
  · by_cases hc : (10 : Nat) = 11
    · exact absurd hc (by decide)
    · rename_i c _ _
      by_cases h : c = 10
      · subst h; exact trivial
      · exact to_z c k h
  · split
    · exact Or.inl rfl
    · exact ta_z a
  · trivial
/-- the cells that are not 0 at first -/
def nz0 (a k : Nat) : Bool := (a == 0 && (k == 0 || k == 1)) || (a == 1 && k == 3) || (a == 119) || (decide (LT a = some oV) && k == 0)
set_option maxRecDepth 100000 in
theorem st_zero : (List.range 373).all (fun a => (List.range (lenT a)).all (fun k => nz0 a k || decide (Iw W5 a k = 0))) = true := by decide +kernel
set_option maxRecDepth 100000 in
theorem st_one : (List.range 373).all (fun a => (List.range (lenT a)).all (fun k => !(nz0 a k) || (a == 1) || decide (Iw W5 a k = 1))) = true := by decide +kernel
set_option maxRecDepth 100000 in
theorem iw0 {a k : Nat} (ha : a < 373) (hk : k < lenT a) (hz : nz0 a k = false) : Iw W5 a k = 0 := by
  have h := allb (allb st_zero ha) hk
  rw [hz, Bool.false_or] at h
  exact of_decide_eq_true h
set_option maxRecDepth 100000 in
theorem iw1 {a k : Nat} (ha : a < 373) (hk : k < lenT a) (hz : nz0 a k = true) (h1 : a ≠ 1) : Iw W5 a k = 1 := by
  have h := allb (allb st_one ha) hk
  rw [hz, Bool.not_true, Bool.false_or, beq_eq_false_iff_ne.mpr h1, Bool.false_or] at h
  exact of_decide_eq_true h
set_option maxRecDepth 100000 in
theorem tyi0 : TYI (Iw W5) := by
  intro a k ha hk
  cases hz : nz0 a k with
  | false => rw [iw0 ha hk hz]; exact ti_z a k
  | true =>
    by_cases h1 : a = 1
    · subst h1
      have : k = 3 := by
        simp [nz0, show LT 1 ≠ some oV from by intro z; cases z] at hz
        exact hz
      subst this
      exact (ti_r (a := 1) (k := 3) rfl).mpr trivial
    · rw [iw1 ha hk hz h1]
      simp only [nz0, Bool.or_eq_true, Bool.and_eq_true, beq_iff_eq, decide_eq_true_eq] at hz
      rcases hz with ((⟨rfl, hz⟩ | ⟨rfl, hz⟩) | rfl) | ⟨hz, rfl⟩
      · rcases hz with rfl | rfl
        · exact (ti_r (a := 0) (k := 0) rfl).mpr (show rg 0 5 1 by decide)
        · exact (ti_r (a := 0) (k := 1) rfl).mpr (show rg 0 5 1 by decide)
      · exact absurd rfl h1
      · exact (ti_l (a := 119) rfl).mpr (Or.inr rfl)
      · exact (ti_r (k := 0) hz).mpr (Or.inr rfl)
set_option maxRecDepth 100000 in
theorem tks0 : TKS (Iw W5) := by
  intro j hj
  have e4 : Iw W5 4 j = 0 := iw0 (by decide) (by show j < 201; exact hj) (by simp [nz0, show LT 4 ≠ some oV from by intro z; cases z])
  have e6 : Iw W5 6 j = 0 := iw0 (by decide) (by show j < 201; exact hj) (by simp [nz0, show LT 6 ≠ some oV from by intro z; cases z])
  rw [e4, e6]
  exact ⟨fun z => absurd rfl z, fun _ => by decide, fun z => absurd z (by decide)⟩
set_option maxRecDepth 100000 in
theorem stp0 : STP (Iw W5) := by
  intro p hp j hj
  have e : Iw W5 (p + 52) j = 0 := by
    rcases hp with rfl | rfl
    · exact iw0 (by decide) (by show j < 200; exact hj) (by simp [nz0, show LT 59 ≠ some oV from by intro z; cases z])
    · exact iw0 (by decide) (by show j < 200; exact hj) (by simp [nz0, show LT 114 ≠ some oV from by intro z; cases z])
  rw [e]
  exact ⟨fun z => absurd z (by decide), fun z => absurd z (by decide)⟩
set_option maxRecDepth 100000 in
theorem stm0 : STM (Iw W5) := by
  intro x hx h3
  have b := LT_oT x (LT_bound hx) hx
  have e : Iw W5 x 0 = 0 := iw0 (by omega) (by rw [len_r hx]; decide) (by
    have : LT x ≠ some oV := by rw [hx]; intro z; cases z
    simp [nz0, this]; omega)
  rw [e] at h3
  exact absurd h3 (by decide)
set_option maxRecDepth 100000 in
theorem rt0 : (List.range 417).all (fun x => !decide (LT x = some oT) || decide (Rw W5 x 7 = none ∧ Rw W5 x 8 = none ∧ Rw W5 x 9 = none)) = true := by decide +kernel
set_option maxRecDepth 100000 in
theorem rn : Rw W5 0 4 = some 7 ∧ Rw W5 0 5 = some 62 ∧ Rw W5 1 2 = none ∧ Rw W5 117 6 = none ∧ Rw W5 123 4 = none ∧ Rw W5 7 6 = none ∧ Rw W5 62 6 = none := by decide +kernel
set_option maxRecDepth 100000 in
theorem tyr0 : TYR (Rw W5) := by
  obtain ⟨r1, r2, r3, r4, r5, r6, r7⟩ := rn
  refine ⟨Or.inl r1, Or.inr r2, fun x e => ?_, fun x e => ?_, fun x e => ?_, fun p hp x e => ?_, fun x hx => ?_⟩
  · rw [r3] at e; cases e
  · rw [r4] at e; cases e
  · rw [r5] at e; cases e
  · rcases hp with rfl | rfl
    · rw [r6] at e; cases e
    · rw [r7] at e; cases e
  · obtain ⟨z1, z2, z3⟩ := orb (allb rt0 (LT_bound hx)) hx
    refine ⟨fun y e => ?_, fun y e => ?_, fun y e => ?_, fun y e => ?_⟩
    · rw [z1] at e; cases e
    · rw [z2] at e; cases e
    · rw [z3] at e; cases e
    · rw [z3] at e; cases e
set_option maxRecDepth 100000 in
theorem q0 : Iw W5 373 2 = 0 ∧ Iw W5 373 3 = 0 ∧ Iw W5 373 6 = 1 ∧ Iw W5 373 7 = 1 ∧ Iw W5 373 8 = 0 ∧ Iw W5 373 27 = 0 ∧ Iw W5 0 0 = 1 ∧ Iw W5 0 1 = 1 ∧ Iw W5 117 5 = 0 ∧ Iw W5 2 4 = 0 ∧ Iw W5 1 3 = -2 ∧ Iw W5 373 4 = -2 := by decide +kernel
set_option maxRecDepth 100000 in
theorem b0 : (List.range 96).all (fun j => decide (Iw W5 410 j = 0)) = true ∧ (List.range 16).all (fun j => decide (Iw W5 411 j = 0)) = true := by decide +kernel
set_option maxRecDepth 100000 in
theorem j0 : (List.range 360).all (fun j => decide (Jw W5 406 j = 0 ∧ Jw W5 407 j = 0 ∧ Jw W5 408 j = 0 ∧ Jw W5 409 j = 0)) = true := by decide +kernel
set_option maxRecDepth 100000 in
theorem r9_0 : (List.range 6).all (fun j => decide (Iw W5 401 j = Iw W5 118 j ∧ Iw W5 405 j = 0 ∧ ¬ Iw W5 119 j = 0)) = true ∧ (List.range 8).all (fun j => decide (Iw W5 402 j = Iw W5 120 j)) = true := by decide +kernel
set_option maxRecDepth 100000 in
theorem c9_0 : Iw W5 0 6 = 0 ∧ Iw W5 373 8 = 0 ∧ Iw W5 117 5 = 0 ∧ Iw W5 117 8 = Iw W5 373 52 ∧ Iw W5 117 9 = Iw W5 373 53 ∧ Iw W5 117 10 = Iw W5 373 51 ∧ Rw W5 0 4 = some 7 ∧ Rw W5 0 5 = some 62 := by decide +kernel
set_option maxRecDepth 100000 in
theorem n90 : N9 (Iw W5) (Rw W5) := by
  obtain ⟨a1, a2, a3, a4, a5, a6, a7, a8⟩ := c9_0
  refine ⟨fun j hj => by rw [a3, l32_0] at hj; omega, by rw [a7, a8]; decide, ⟨fun _ => a2, fun _ => a1⟩, ⟨⟨fun j hj => ?_, fun j hj => ?_, fun j hj => ?_⟩, a4, a5, a6⟩, fun z => absurd a2 z⟩
  · exact (of_decide_eq_true (allb r9_0.1 hj)).1
  · have w := (of_decide_eq_true (allb r9_0.1 hj)).2
    exact ⟨fun _ => w.2, fun _ => w.1⟩
  · exact of_decide_eq_true (allb r9_0.2 hj)
set_option maxRecDepth 100000 in
theorem inv0 : INV W5 := by
  obtain ⟨e2, e3, e6, e7, e8, e27, c0, c1, c2, c3, c13, e4⟩ := q0
  refine ⟨Iw W5, Jw W5, Rw W5, mk_start, ⟨fun _ _ _ => rfl, fun _ _ _ => rfl, tyi0, tks0, stp0, stm0, fun _ _ _ _ _ => rfl, tyr0⟩, ⟨by rw [e2]; decide, by rw [e3]; decide, by rw [e7]; decide, by rw [e27]; decide, fun z => absurd (by rw [e8]; rfl) z, ⟨fun j hj => Or.inl (of_decide_eq_true (allb b0.1 hj)), fun j hj => Or.inl (of_decide_eq_true (allb b0.2 hj))⟩, fun i hi => ?_⟩, n90, ⟨by rw [c0, e6], by rw [c1, e7], by rw [c2, e3], by rw [c3, e2]⟩, fun j hj => by rw [c3, l32_0] at hj; omega, by rw [c13, e4]⟩
  obtain ⟨z1, z2, z3, z4⟩ := of_decide_eq_true (allb j0 hi)
  rw [z1, z2, z3, z4]
  exact fun _ => ⟨rfl, rfl⟩
set_option maxRecDepth 100000 in
theorem law_of {Inv : WW → Prop} (h0 : Inv W5) (H : Steps Inv) {L : Nat} (hL : L ≤ 1536) (xs : Nat → Int32) : ∃ w' : WW, f_lw_law L xs = some ((1 : Int32), w') := by
  unfold f_lw_law
  rw [pre_eq, Option.bind_some]
  exact law_ind H hL xs 513 0 (by decide) (by decide) W5 h0
set_option maxRecDepth 100000 in
theorem law_true {L : Nat} (hL : L ≤ 1536) (xs : Nat → Int32) : ∃ w' : WW, f_lw_law L xs = some ((1 : Int32), w') := law_of inv0 steps hL xs
