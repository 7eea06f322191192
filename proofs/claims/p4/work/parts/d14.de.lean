/-! EXPRS as they are parsed, said by rules; the class's parser follows the rules. -/
/-- a height and a place, or the place of a fault -/
abbrev Res : Type := (Int32 × Nat) ⊕ Nat
def mx (h h2 : Int32) : Int32 := (if h < h2 then h2 else h) + 1
def isPr (x : Int32) : Prop := x = 42 ∨ x = 47 ∨ x = 37
def isSm (x : Int32) : Prop := x = 43 ∨ x = 45
/-- 0 a FACTOR, 1 what follows in a product of height h, 2 what follows in a sum, 3 a TERM, 4 an EXPR -/
def DEC (K : Nat → Int32) (P : Nat → Nat → Int32 → Nat → Res → Prop) : Prop :=
  (∀ (d i : Nat), 10 < d → P 0 d 0 i (.inr i)) ∧
  (∀ (d i : Nat), d ≤ 10 → ¬ (K i = 1 ∨ K i = 2 ∨ K i = 3 ∨ K i = 45 ∨ K i = 40) → P 0 d 0 i (.inr i)) ∧
  (∀ (d i : Nat), d ≤ 10 → (K i = 1 ∨ K i = 2) → P 0 d 0 i (.inl (1, i + 1))) ∧
  (∀ (d i j : Nat) (h : Int32), d ≤ 10 → K i = 45 → P 0 (d + 1) 0 (i + 1) (.inl (h, j)) → P 0 d 0 i (.inl (h + 1, j))) ∧
  (∀ (d i j : Nat), d ≤ 10 → K i = 45 → P 0 (d + 1) 0 (i + 1) (.inr j) → P 0 d 0 i (.inr j)) ∧
  (∀ (d i j : Nat) (h : Int32), d ≤ 10 → K i = 40 → P 4 (d + 1) 0 (i + 1) (.inl (h, j)) → K j = 41 → P 0 d 0 i (.inl (h, j + 1))) ∧
  (∀ (d i j : Nat) (h : Int32), d ≤ 10 → K i = 40 → P 4 (d + 1) 0 (i + 1) (.inl (h, j)) → ¬ K j = 41 → P 0 d 0 i (.inr j)) ∧
  (∀ (d i j : Nat), d ≤ 10 → K i = 40 → P 4 (d + 1) 0 (i + 1) (.inr j) → P 0 d 0 i (.inr j)) ∧
  (∀ (d i : Nat), d ≤ 10 → K i = 3 → ¬ K (i + 1) = 91 → P 0 d 0 i (.inr (i + 1))) ∧
  (∀ (d i j : Nat) (h : Int32), d ≤ 10 → K i = 3 → K (i + 1) = 91 → P 4 (d + 1) 0 (i + 1 + 1) (.inl (h, j)) → K j = 93 → P 0 d 0 i (.inl (h + 1, j + 1))) ∧
  (∀ (d i j : Nat) (h : Int32), d ≤ 10 → K i = 3 → K (i + 1) = 91 → P 4 (d + 1) 0 (i + 1 + 1) (.inl (h, j)) → ¬ K j = 93 → P 0 d 0 i (.inr j)) ∧
  (∀ (d i j : Nat), d ≤ 10 → K i = 3 → K (i + 1) = 91 → P 4 (d + 1) 0 (i + 1 + 1) (.inr j) → P 0 d 0 i (.inr j)) ∧
  (∀ (d i : Nat) (h : Int32), ¬ isPr (K i) → P 1 d h i (.inl (h, i))) ∧
  (∀ (d i : Nat) (h : Int32), isPr (K i) → 16 ≤ h → P 1 d h i (.inr i)) ∧
  (∀ (d i j : Nat) (h : Int32), isPr (K i) → ¬ 16 ≤ h → P 0 d 0 (i + 1) (.inr j) → P 1 d h i (.inr j)) ∧
  (∀ (d i j : Nat) (h h2 : Int32) (r : Res), isPr (K i) → ¬ 16 ≤ h → P 0 d 0 (i + 1) (.inl (h2, j)) → P 1 d (mx h h2) j r → P 1 d h i r) ∧
  (∀ (d i : Nat) (h : Int32), ¬ isSm (K i) → P 2 d h i (.inl (h, i))) ∧
  (∀ (d i : Nat) (h : Int32), isSm (K i) → 16 ≤ h → P 2 d h i (.inr i)) ∧
  (∀ (d i j : Nat) (h : Int32), isSm (K i) → ¬ 16 ≤ h → P 3 d 0 (i + 1) (.inr j) → P 2 d h i (.inr j)) ∧
  (∀ (d i j : Nat) (h h2 : Int32) (r : Res), isSm (K i) → ¬ 16 ≤ h → P 3 d 0 (i + 1) (.inl (h2, j)) → P 2 d (mx h h2) j r → P 2 d h i r) ∧
  (∀ (d i j : Nat) (h : Int32) (r : Res), P 0 d 0 i (.inl (h, j)) → P 1 d h j r → P 3 d 0 i r) ∧
  (∀ (d i j : Nat), P 0 d 0 i (.inr j) → P 3 d 0 i (.inr j)) ∧
  (∀ (d i j : Nat) (h : Int32) (r : Res), P 3 d 0 i (.inl (h, j)) → P 2 d h j r → P 4 d 0 i r) ∧
  (∀ (d i j : Nat), P 3 d 0 i (.inr j) → P 4 d 0 i (.inr j))
def DE (K : Nat → Int32) (x1 : Nat) (x2 : Nat) (x3 : Int32) (x4 : Nat) (x5 : Res) : Prop := ∀ P : Nat → Nat → Int32 → Nat → Res → Prop, DEC K P → P x1 x2 x3 x4 x5
theorem DE.fdeep {K : Nat → Int32} {d i : Nat} (a1 : 10 < d) : DE K 0 d 0 i (.inr i) := fun P c => c.1 _ _ a1
theorem DE.fnone {K : Nat → Int32} {d i : Nat} (a1 : d ≤ 10) (a2 : ¬ (K i = 1 ∨ K i = 2 ∨ K i = 3 ∨ K i = 45 ∨ K i = 40)) : DE K 0 d 0 i (.inr i) := fun P c => c.2.1 _ _ a1 a2
theorem DE.fleaf {K : Nat → Int32} {d i : Nat} (a1 : d ≤ 10) (a2 : (K i = 1 ∨ K i = 2)) : DE K 0 d 0 i (.inl (1, i + 1)) := fun P c => c.2.2.1 _ _ a1 a2
theorem DE.fneg {K : Nat → Int32} {d i j : Nat} {h : Int32} (a1 : d ≤ 10) (a2 : K i = 45) (a3 : DE K 0 (d + 1) 0 (i + 1) (.inl (h, j))) : DE K 0 d 0 i (.inl (h + 1, j)) := fun P c => c.2.2.2.1 _ _ _ _ a1 a2 (a3 P c)
theorem DE.fnegb {K : Nat → Int32} {d i j : Nat} (a1 : d ≤ 10) (a2 : K i = 45) (a3 : DE K 0 (d + 1) 0 (i + 1) (.inr j)) : DE K 0 d 0 i (.inr j) := fun P c => c.2.2.2.2.1 _ _ _ a1 a2 (a3 P c)
theorem DE.fpar {K : Nat → Int32} {d i j : Nat} {h : Int32} (a1 : d ≤ 10) (a2 : K i = 40) (a3 : DE K 4 (d + 1) 0 (i + 1) (.inl (h, j))) (a4 : K j = 41) : DE K 0 d 0 i (.inl (h, j + 1)) := fun P c => c.2.2.2.2.2.1 _ _ _ _ a1 a2 (a3 P c) a4
theorem DE.fparx {K : Nat → Int32} {d i j : Nat} {h : Int32} (a1 : d ≤ 10) (a2 : K i = 40) (a3 : DE K 4 (d + 1) 0 (i + 1) (.inl (h, j))) (a4 : ¬ K j = 41) : DE K 0 d 0 i (.inr j) := fun P c => c.2.2.2.2.2.2.1 _ _ _ _ a1 a2 (a3 P c) a4
theorem DE.fparb {K : Nat → Int32} {d i j : Nat} (a1 : d ≤ 10) (a2 : K i = 40) (a3 : DE K 4 (d + 1) 0 (i + 1) (.inr j)) : DE K 0 d 0 i (.inr j) := fun P c => c.2.2.2.2.2.2.2.1 _ _ _ a1 a2 (a3 P c)
theorem DE.farr0 {K : Nat → Int32} {d i : Nat} (a1 : d ≤ 10) (a2 : K i = 3) (a3 : ¬ K (i + 1) = 91) : DE K 0 d 0 i (.inr (i + 1)) := fun P c => c.2.2.2.2.2.2.2.2.1 _ _ a1 a2 a3
theorem DE.farr {K : Nat → Int32} {d i j : Nat} {h : Int32} (a1 : d ≤ 10) (a2 : K i = 3) (a3 : K (i + 1) = 91) (a4 : DE K 4 (d + 1) 0 (i + 1 + 1) (.inl (h, j))) (a5 : K j = 93) : DE K 0 d 0 i (.inl (h + 1, j + 1)) := fun P c => c.2.2.2.2.2.2.2.2.2.1 _ _ _ _ a1 a2 a3 (a4 P c) a5
theorem DE.farrx {K : Nat → Int32} {d i j : Nat} {h : Int32} (a1 : d ≤ 10) (a2 : K i = 3) (a3 : K (i + 1) = 91) (a4 : DE K 4 (d + 1) 0 (i + 1 + 1) (.inl (h, j))) (a5 : ¬ K j = 93) : DE K 0 d 0 i (.inr j) := fun P c => c.2.2.2.2.2.2.2.2.2.2.1 _ _ _ _ a1 a2 a3 (a4 P c) a5
theorem DE.farrb {K : Nat → Int32} {d i j : Nat} (a1 : d ≤ 10) (a2 : K i = 3) (a3 : K (i + 1) = 91) (a4 : DE K 4 (d + 1) 0 (i + 1 + 1) (.inr j)) : DE K 0 d 0 i (.inr j) := fun P c => c.2.2.2.2.2.2.2.2.2.2.2.1 _ _ _ a1 a2 a3 (a4 P c)
theorem DE.tend {K : Nat → Int32} {d i : Nat} {h : Int32} (a1 : ¬ isPr (K i)) : DE K 1 d h i (.inl (h, i)) := fun P c => c.2.2.2.2.2.2.2.2.2.2.2.2.1 _ _ _ a1
theorem DE.thigh {K : Nat → Int32} {d i : Nat} {h : Int32} (a1 : isPr (K i)) (a2 : 16 ≤ h) : DE K 1 d h i (.inr i) := fun P c => c.2.2.2.2.2.2.2.2.2.2.2.2.2.1 _ _ _ a1 a2
theorem DE.tfacb {K : Nat → Int32} {d i j : Nat} {h : Int32} (a1 : isPr (K i)) (a2 : ¬ 16 ≤ h) (a3 : DE K 0 d 0 (i + 1) (.inr j)) : DE K 1 d h i (.inr j) := fun P c => c.2.2.2.2.2.2.2.2.2.2.2.2.2.2.1 _ _ _ _ a1 a2 (a3 P c)
theorem DE.tfac {K : Nat → Int32} {d i j : Nat} {h h2 : Int32} {r : Res} (a1 : isPr (K i)) (a2 : ¬ 16 ≤ h) (a3 : DE K 0 d 0 (i + 1) (.inl (h2, j))) (a4 : DE K 1 d (mx h h2) j r) : DE K 1 d h i r := fun P c => c.2.2.2.2.2.2.2.2.2.2.2.2.2.2.2.1 _ _ _ _ _ _ a1 a2 (a3 P c) (a4 P c)
theorem DE.eend {K : Nat → Int32} {d i : Nat} {h : Int32} (a1 : ¬ isSm (K i)) : DE K 2 d h i (.inl (h, i)) := fun P c => c.2.2.2.2.2.2.2.2.2.2.2.2.2.2.2.2.1 _ _ _ a1
theorem DE.ehigh {K : Nat → Int32} {d i : Nat} {h : Int32} (a1 : isSm (K i)) (a2 : 16 ≤ h) : DE K 2 d h i (.inr i) := fun P c => c.2.2.2.2.2.2.2.2.2.2.2.2.2.2.2.2.2.1 _ _ _ a1 a2
theorem DE.etermb {K : Nat → Int32} {d i j : Nat} {h : Int32} (a1 : isSm (K i)) (a2 : ¬ 16 ≤ h) (a3 : DE K 3 d 0 (i + 1) (.inr j)) : DE K 2 d h i (.inr j) := fun P c => c.2.2.2.2.2.2.2.2.2.2.2.2.2.2.2.2.2.2.1 _ _ _ _ a1 a2 (a3 P c)
theorem DE.eterm {K : Nat → Int32} {d i j : Nat} {h h2 : Int32} {r : Res} (a1 : isSm (K i)) (a2 : ¬ 16 ≤ h) (a3 : DE K 3 d 0 (i + 1) (.inl (h2, j))) (a4 : DE K 2 d (mx h h2) j r) : DE K 2 d h i r := fun P c => c.2.2.2.2.2.2.2.2.2.2.2.2.2.2.2.2.2.2.2.1 _ _ _ _ _ _ a1 a2 (a3 P c) (a4 P c)
theorem DE.term {K : Nat → Int32} {d i j : Nat} {h : Int32} {r : Res} (a1 : DE K 0 d 0 i (.inl (h, j))) (a2 : DE K 1 d h j r) : DE K 3 d 0 i r := fun P c => c.2.2.2.2.2.2.2.2.2.2.2.2.2.2.2.2.2.2.2.2.1 _ _ _ _ _ (a1 P c) (a2 P c)
theorem DE.termb {K : Nat → Int32} {d i j : Nat} (a1 : DE K 0 d 0 i (.inr j)) : DE K 3 d 0 i (.inr j) := fun P c => c.2.2.2.2.2.2.2.2.2.2.2.2.2.2.2.2.2.2.2.2.2.1 _ _ _ (a1 P c)
theorem DE.expr {K : Nat → Int32} {d i j : Nat} {h : Int32} {r : Res} (a1 : DE K 3 d 0 i (.inl (h, j))) (a2 : DE K 2 d h j r) : DE K 4 d 0 i r := fun P c => c.2.2.2.2.2.2.2.2.2.2.2.2.2.2.2.2.2.2.2.2.2.2.1 _ _ _ _ _ (a1 P c) (a2 P c)
theorem DE.exprb {K : Nat → Int32} {d i j : Nat} (a1 : DE K 3 d 0 i (.inr j)) : DE K 4 d 0 i (.inr j) := fun P c => c.2.2.2.2.2.2.2.2.2.2.2.2.2.2.2.2.2.2.2.2.2.2.2 _ _ _ (a1 P c)
theorem DE.ind {K : Nat → Int32} {M : Nat → Nat → Int32 → Nat → Res → Prop} (fdeep : ∀ (d i : Nat), 10 < d → M 0 d 0 i (.inr i)) (fnone : ∀ (d i : Nat), d ≤ 10 → ¬ (K i = 1 ∨ K i = 2 ∨ K i = 3 ∨ K i = 45 ∨ K i = 40) → M 0 d 0 i (.inr i)) (fleaf : ∀ (d i : Nat), d ≤ 10 → (K i = 1 ∨ K i = 2) → M 0 d 0 i (.inl (1, i + 1))) (fneg : ∀ (d i j : Nat) (h : Int32), d ≤ 10 → K i = 45 → DE K 0 (d + 1) 0 (i + 1) (.inl (h, j)) → M 0 (d + 1) 0 (i + 1) (.inl (h, j)) → M 0 d 0 i (.inl (h + 1, j))) (fnegb : ∀ (d i j : Nat), d ≤ 10 → K i = 45 → DE K 0 (d + 1) 0 (i + 1) (.inr j) → M 0 (d + 1) 0 (i + 1) (.inr j) → M 0 d 0 i (.inr j)) (fpar : ∀ (d i j : Nat) (h : Int32), d ≤ 10 → K i = 40 → DE K 4 (d + 1) 0 (i + 1) (.inl (h, j)) → K j = 41 → M 4 (d + 1) 0 (i + 1) (.inl (h, j)) → M 0 d 0 i (.inl (h, j + 1))) (fparx : ∀ (d i j : Nat) (h : Int32), d ≤ 10 → K i = 40 → DE K 4 (d + 1) 0 (i + 1) (.inl (h, j)) → ¬ K j = 41 → M 4 (d + 1) 0 (i + 1) (.inl (h, j)) → M 0 d 0 i (.inr j)) (fparb : ∀ (d i j : Nat), d ≤ 10 → K i = 40 → DE K 4 (d + 1) 0 (i + 1) (.inr j) → M 4 (d + 1) 0 (i + 1) (.inr j) → M 0 d 0 i (.inr j)) (farr0 : ∀ (d i : Nat), d ≤ 10 → K i = 3 → ¬ K (i + 1) = 91 → M 0 d 0 i (.inr (i + 1))) (farr : ∀ (d i j : Nat) (h : Int32), d ≤ 10 → K i = 3 → K (i + 1) = 91 → DE K 4 (d + 1) 0 (i + 1 + 1) (.inl (h, j)) → K j = 93 → M 4 (d + 1) 0 (i + 1 + 1) (.inl (h, j)) → M 0 d 0 i (.inl (h + 1, j + 1))) (farrx : ∀ (d i j : Nat) (h : Int32), d ≤ 10 → K i = 3 → K (i + 1) = 91 → DE K 4 (d + 1) 0 (i + 1 + 1) (.inl (h, j)) → ¬ K j = 93 → M 4 (d + 1) 0 (i + 1 + 1) (.inl (h, j)) → M 0 d 0 i (.inr j)) (farrb : ∀ (d i j : Nat), d ≤ 10 → K i = 3 → K (i + 1) = 91 → DE K 4 (d + 1) 0 (i + 1 + 1) (.inr j) → M 4 (d + 1) 0 (i + 1 + 1) (.inr j) → M 0 d 0 i (.inr j)) (tend : ∀ (d i : Nat) (h : Int32), ¬ isPr (K i) → M 1 d h i (.inl (h, i))) (thigh : ∀ (d i : Nat) (h : Int32), isPr (K i) → 16 ≤ h → M 1 d h i (.inr i)) (tfacb : ∀ (d i j : Nat) (h : Int32), isPr (K i) → ¬ 16 ≤ h → DE K 0 d 0 (i + 1) (.inr j) → M 0 d 0 (i + 1) (.inr j) → M 1 d h i (.inr j)) (tfac : ∀ (d i j : Nat) (h h2 : Int32) (r : Res), isPr (K i) → ¬ 16 ≤ h → DE K 0 d 0 (i + 1) (.inl (h2, j)) → DE K 1 d (mx h h2) j r → M 0 d 0 (i + 1) (.inl (h2, j)) → M 1 d (mx h h2) j r → M 1 d h i r) (eend : ∀ (d i : Nat) (h : Int32), ¬ isSm (K i) → M 2 d h i (.inl (h, i))) (ehigh : ∀ (d i : Nat) (h : Int32), isSm (K i) → 16 ≤ h → M 2 d h i (.inr i)) (etermb : ∀ (d i j : Nat) (h : Int32), isSm (K i) → ¬ 16 ≤ h → DE K 3 d 0 (i + 1) (.inr j) → M 3 d 0 (i + 1) (.inr j) → M 2 d h i (.inr j)) (eterm : ∀ (d i j : Nat) (h h2 : Int32) (r : Res), isSm (K i) → ¬ 16 ≤ h → DE K 3 d 0 (i + 1) (.inl (h2, j)) → DE K 2 d (mx h h2) j r → M 3 d 0 (i + 1) (.inl (h2, j)) → M 2 d (mx h h2) j r → M 2 d h i r) (term : ∀ (d i j : Nat) (h : Int32) (r : Res), DE K 0 d 0 i (.inl (h, j)) → DE K 1 d h j r → M 0 d 0 i (.inl (h, j)) → M 1 d h j r → M 3 d 0 i r) (termb : ∀ (d i j : Nat), DE K 0 d 0 i (.inr j) → M 0 d 0 i (.inr j) → M 3 d 0 i (.inr j)) (expr : ∀ (d i j : Nat) (h : Int32) (r : Res), DE K 3 d 0 i (.inl (h, j)) → DE K 2 d h j r → M 3 d 0 i (.inl (h, j)) → M 2 d h j r → M 4 d 0 i r) (exprb : ∀ (d i j : Nat), DE K 3 d 0 i (.inr j) → M 3 d 0 i (.inr j) → M 4 d 0 i (.inr j)) {x1 : Nat} {x2 : Nat} {x3 : Int32} {x4 : Nat} {x5 : Res} (t : DE K x1 x2 x3 x4 x5) : M x1 x2 x3 x4 x5 := (t (fun x1 x2 x3 x4 x5 => DE K x1 x2 x3 x4 x5 ∧ M x1 x2 x3 x4 x5) ⟨fun d i a1 => ⟨DE.fdeep a1, fdeep d i a1⟩,
  fun d i a1 a2 => ⟨DE.fnone a1 a2, fnone d i a1 a2⟩,
  fun d i a1 a2 => ⟨DE.fleaf a1 a2, fleaf d i a1 a2⟩,
  fun d i j h a1 a2 a3 => ⟨DE.fneg a1 a2 a3.1, fneg d i j h a1 a2 a3.1 a3.2⟩,
  fun d i j a1 a2 a3 => ⟨DE.fnegb a1 a2 a3.1, fnegb d i j a1 a2 a3.1 a3.2⟩,
  fun d i j h a1 a2 a3 a4 => ⟨DE.fpar a1 a2 a3.1 a4, fpar d i j h a1 a2 a3.1 a4 a3.2⟩,
  fun d i j h a1 a2 a3 a4 => ⟨DE.fparx a1 a2 a3.1 a4, fparx d i j h a1 a2 a3.1 a4 a3.2⟩,
  fun d i j a1 a2 a3 => ⟨DE.fparb a1 a2 a3.1, fparb d i j a1 a2 a3.1 a3.2⟩,
  fun d i a1 a2 a3 => ⟨DE.farr0 a1 a2 a3, farr0 d i a1 a2 a3⟩,
  fun d i j h a1 a2 a3 a4 a5 => ⟨DE.farr a1 a2 a3 a4.1 a5, farr d i j h a1 a2 a3 a4.1 a5 a4.2⟩,
  fun d i j h a1 a2 a3 a4 a5 => ⟨DE.farrx a1 a2 a3 a4.1 a5, farrx d i j h a1 a2 a3 a4.1 a5 a4.2⟩,
  fun d i j a1 a2 a3 a4 => ⟨DE.farrb a1 a2 a3 a4.1, farrb d i j a1 a2 a3 a4.1 a4.2⟩,
  fun d i h a1 => ⟨DE.tend a1, tend d i h a1⟩,
  fun d i h a1 a2 => ⟨DE.thigh a1 a2, thigh d i h a1 a2⟩,
  fun d i j h a1 a2 a3 => ⟨DE.tfacb a1 a2 a3.1, tfacb d i j h a1 a2 a3.1 a3.2⟩,
  fun d i j h h2 r a1 a2 a3 a4 => ⟨DE.tfac a1 a2 a3.1 a4.1, tfac d i j h h2 r a1 a2 a3.1 a4.1 a3.2 a4.2⟩,
  fun d i h a1 => ⟨DE.eend a1, eend d i h a1⟩,
  fun d i h a1 a2 => ⟨DE.ehigh a1 a2, ehigh d i h a1 a2⟩,
  fun d i j h a1 a2 a3 => ⟨DE.etermb a1 a2 a3.1, etermb d i j h a1 a2 a3.1 a3.2⟩,
  fun d i j h h2 r a1 a2 a3 a4 => ⟨DE.eterm a1 a2 a3.1 a4.1, eterm d i j h h2 r a1 a2 a3.1 a4.1 a3.2 a4.2⟩,
  fun d i j h r a1 a2 => ⟨DE.term a1.1 a2.1, term d i j h r a1.1 a2.1 a1.2 a2.2⟩,
  fun d i j a1 => ⟨DE.termb a1.1, termb d i j a1.1 a1.2⟩,
  fun d i j h r a1 a2 => ⟨DE.expr a1.1 a2.1, expr d i j h r a1.1 a2.1 a1.2 a2.2⟩,
  fun d i j a1 => ⟨DE.exprb a1.1, exprb d i j a1.1 a1.2⟩⟩).2
/-- an EXPR's parsing changes the place in the TOKENS, the fault, and the program's steps -/
def CF (p : Nat) (I I' : IM) : Prop := ∀ x j, (x ≠ 1 ∨ (j ≠ 1 ∧ j ≠ 3)) → (x ≠ p ∨ j ≠ 5) → x ≠ p + 52 → x ≠ p + 53 → x ≠ p + 54 → I' x j = I x j
theorem CF.trans {p : Nat} {I I' I'' : IM} (h : CF p I I') (h2 : CF p I' I'') : CF p I I'' := fun x j a b c d e => (h2 x j a b c d e).trans (h x j a b c d e)
/-- the class's parser at the TOKEN i -/
def CS (K B : Nat → Int32) (V : Nat → Prop) (p : Nat) (I : IM) (R : RM) (i : Nat) : Prop := FXR R ∧ (R 1 2 = some p ∧ R 0 5 = some p) ∧ isP p ∧ (I 1 1).toInt = i ∧ V i ∧ I 4 = K ∧ I 5 = B ∧ I 1 3 = -2
/-- from a TOKEN that is neither the end nor none the reader goes on -/
def NXT (K : Nat → Int32) (V : Nat → Prop) : Prop := (∀ i, V i → (K i).toInt ≠ 0 → (K i).toInt ≠ -1 → i < 200 ∧ V (i + 1)) ∧ ∀ i, V i → i ≤ 200
section CEXP
variable {I I' : IM} {J : JM} {R : RM} {K B : Nat → Int32} {V : Nat → Prop} {p i : Nat}
theorem CS.cf {i' : Nat} (h : CS K B V p I R i) (e : CF p I I') (h1 : (I' 1 1).toInt = i') (h3 : I' 1 3 = I 1 3) (hv : V i') : CS K B V p I' R i' := by
  obtain ⟨q1, q2, q3, q4, q5, q6, q7, q8⟩ := h
  have hp : p = 7 ∨ p = 62 := q3
  refine ⟨q1, q2, q3, h1, hv, ?_, ?_, h3.trans q8⟩
  · funext j
    rw [e 4 j (by omega) (by omega) (by omega) (by omega) (by omega), q6]
  · funext j
    rw [e 5 j (by omega) (by omega) (by omega) (by omega) (by omega), q7]
theorem v_kindHere (h : CS K B V p I R i) {Q : (Int32 × WW) → Prop} (k : Q (K i, mk I J R)) : wl (f_pa_kindHere 1 (mk I J R)) Q := by
  unfold f_pa_kindHere
  refine wl_kb (wn_1_0 h.1 (wn_2_1 h.1 (wl_gI rfl rfl rfl (wl_rI (n := 201) rfl (fun _ => wl_some ?_)))))
  rw [tnat h.2.2.2.1, h.2.2.2.2.2.1]
  exact k
theorem v_need (h : CS K B V p I R i) {a1 : Int32} {Q : ((Unit ⊕ String) × WW) → Prop} (k : ¬ a1 = 0 → Q (.inl (), mk I J R)) (kx : a1 = 0 → ∀ I', CF p I I' → I' 1 3 = B i → Q (.inr "java/lang/IllegalArgumentException", mk I' J R)) : wl (f_pa_need 1 a1 (mk I J R)) Q := by
  unfold f_pa_need
  refine wl_kb (wl_ite (fun c => wn_1_0 h.1 (wn_2_2 h.1 (wl_gI rfl rfl rfl (wl_rI (n := 201) rfl (fun _ => wl_pI rfl rfl (wl_some (kx c _ (fun x j a1 a2 a3 a4 a5 => up2_ne _ _ (by omega)) ?_))))))) (fun c => wl_some (k c)))
  rw [up2_s, tnat h.2.2.2.1, h.2.2.2.2.2.2.1]
theorem v_advance (hV : NXT K V) (h : CS K B V p I R i) (h0 : (K i).toInt ≠ 0) (h1 : (K i).toInt ≠ -1) {Q : WW → Prop} (k : ∀ I', CF p I I' → CS K B V p I' R (i + 1) → Q (mk I' J R)) : wl (f_pa_advance 1 (mk I J R)) Q := by
  obtain ⟨lt, v⟩ := hV.1 i h.2.2.2.2.1 h0 h1
  have hi := h.2.2.2.1
  have x1 : (I 1 1 + 1).toInt = ((i + 1 : Nat) : Int) := by rw [i32addc (by rw [hi, l32_1]; omega), hi, l32_1]; omega
  have e : CF p I (up2 I 1 1 (I 1 1 + 1)) := fun x j a1 a2 a3 a4 a5 => up2_ne _ _ (by omega)
  unfold f_pa_advance f_pa_advance_20
  refine wl_kb (wl_gI rfl rfl rfl (wl_ite (fun c => ?_) (fun c => wl_gI rfl rfl rfl (wl_pI rfl rfl (wl_some (k _ e (h.cf e (by rw [up2_s]; exact x1) (up2_nek (by decide)) v)))))))
  rw [i32le, l32_200, hi] at c
  omega
theorem v_take (hV : NXT K V) (h : CS K B V p I R i) {a1 : Int32} (ha : a1.toInt ≠ 0 ∧ a1.toInt ≠ -1) {Q : ((Unit ⊕ String) × WW) → Prop} (k : K i = a1 → ∀ I', CF p I I' → CS K B V p I' R (i + 1) → Q (.inl (), mk I' J R)) (kx : ¬ K i = a1 → ∀ I', CF p I I' → I' 1 3 = B i → Q (.inr "java/lang/IllegalArgumentException", mk I' J R)) : wl (f_pa_take 1 a1 (mk I J R)) Q := by
  unfold f_pa_take f_pa_take_14
  refine wl_kb (wl_bd2 (v_kindHere h ?_))
  dsimp only
  refine wl_ite (fun c => wl_bdx (v_need h (fun _ => ⟨fun v hv => ?_, fun E hE => (by cases hE)⟩) (fun z => absurd z (by decide)))) (fun c => wl_bdx (v_need h (fun z => absurd rfl z) (fun _ I' e' h3 => ⟨fun v hv => (by cases hv), fun E hE => ?_⟩)))
  · exact wl_bd (v_advance hV h (by rw [c]; exact ha.1) (by rw [c]; exact ha.2) (fun I' e' h' => wl_some (k c I' e' h')))
  · cases hE
    exact kx c I' e' h3
theorem v_addStep (hx : FXR R) (hp : isP p) {a1 a2 a3 : Int32} {Q : WW → Prop} (k : ∀ I', CF p I I' → I' 1 1 = I 1 1 → I' 1 3 = I 1 3 → Q (mk I' J R)) : wl (f_pg_addStep p a1 a2 a3 (mk I J R)) Q := by
  have hp' : p = 7 ∨ p = 62 := hp
  unfold f_pg_addStep f_pg_addStep_50
  refine wl_kb (wl_gI (isP_lt hp).1 rfl rfl (wl_ite (fun c => wl_some (k I (fun _ _ _ _ _ _ _ => rfl) rfl rfl)) (fun c => ?_)))
  refine wn_P2 hx hp (wl_gI (isP_lt hp).1 rfl rfl (wl_sI (isP_lt hp).2.2.1 (fun _ => ?_)))
  refine wn_P3 hx hp (wl_gI (isP_lt hp).1 rfl rfl (wl_sI (isP_lt hp).2.2.2.1 (fun _ => ?_)))
  refine wn_P4 hx hp (wl_gI (isP_lt hp).1 rfl rfl (wl_sI (isP_lt hp).2.2.2.2 (fun _ => ?_)))
  refine wl_gI (isP_lt hp).1 rfl rfl (wl_pI (isP_lt hp).1 rfl (wl_some (k _ (fun x j b1 b2 b3 b4 b5 => ?_) ?_ ?_)))
  · rw [up2_ne _ _ (by omega), up2_ne _ _ (by omega), up2_ne _ _ (by omega), up2_ne _ _ (by omega)]
  · rw [up2_ne _ _ (by omega), up2_ne _ _ (by omega), up2_ne _ _ (by omega), up2_ne _ _ (by omega)]
  · rw [up2_ne _ _ (by omega), up2_ne _ _ (by omega), up2_ne _ _ (by omega), up2_ne _ _ (by omega)]
theorem v_max {a b : Int32} {w : WW} {Q : (Int32 × WW) → Prop} (k : Q ((if a < b then b else a), w)) : wl (f_ma_max_II a b w) Q := by
  unfold f_ma_max_II f_ma_max_II_10
  refine wl_ite (fun c => ?_) (fun c => ?_)
  · rw [if_pos c] at k; exact wl_some k
  · rw [if_neg c] at k; exact wl_some k
theorem v_begF {x : Int32} {w : WW} {Q : (Int32 × WW) → Prop} (k1 : (x = 1 ∨ x = 2 ∨ x = 3 ∨ x = 45 ∨ x = 40) → Q (1, w)) (k0 : ¬ (x = 1 ∨ x = 2 ∨ x = 3 ∨ x = 45 ∨ x = 40) → Q (0, w)) : wl (f_pa_beginsFactor x w) Q := by
  unfold f_pa_beginsFactor f_pa_beginsFactor_27 f_pa_beginsFactor_32
  refine wl_ite (fun z => wl_req (fun _ => wl_some (k1 (Or.inl z)))) (fun z1 => wl_ite (fun z => wl_req (fun _ => wl_some (k1 (Or.inr (Or.inl z))))) (fun z2 => wl_ite (fun z => wl_req (fun _ => wl_some (k1 (Or.inr (Or.inr (Or.inl z)))))) (fun z3 => wl_ite (fun z => wl_req (fun _ => wl_some (k1 (Or.inr (Or.inr (Or.inr (Or.inl z))))))) (fun z4 => wl_ite (fun z => wl_req (fun _ => wl_some (k1 (Or.inr (Or.inr (Or.inr (Or.inr z))))))) (fun z5 => wl_req (fun _ => wl_some (k0 ?_)))))))
  intro z
  rcases z with z | z | z | z | z
  · exact z1 z
  · exact z2 z
  · exact z3 z
  · exact z4 z
  · exact z5 z
theorem v_prod {x : Int32} {w : WW} {Q : (Int32 × WW) → Prop} (k1 : isPr x → Q (1, w)) (k0 : ¬ isPr x → Q (0, w)) : wl (f_pa_isProductSign x w) Q := by
  unfold f_pa_isProductSign f_pa_isProductSign_18 f_pa_isProductSign_23
  refine wl_ite (fun z => wl_req (fun _ => wl_some (k1 (Or.inl z)))) (fun z1 => wl_ite (fun z => wl_req (fun _ => wl_some (k1 (Or.inr (Or.inl z))))) (fun z2 => wl_ite (fun z => wl_req (fun _ => wl_some (k1 (Or.inr (Or.inr z))))) (fun z3 => wl_req (fun _ => wl_some (k0 ?_)))))
  intro z
  rcases z with z | z | z
  · exact z1 z
  · exact z2 z
  · exact z3 z
abbrev SpW (K B : Nat → Int32) (V : Nat → Prop) (tag : Nat) (g : Nat → Int32 → WW → Option ((Int32 ⊕ String) × WW)) : Prop := ∀ {p i : Nat} {I : IM} {J : JM} {R : RM} {d : Int32} {Q : ((Int32 ⊕ String) × WW) → Prop}, CS K B V p I R i → 0 ≤ d.toInt → (∀ (h : Int32) (i' : Nat) (I' : IM), DE K tag d.toInt.toNat 0 i (.inl (h, i')) → CF p I I' → CS K B V p I' R i' → i < i' → Q (.inl h, mk I' J R)) → (∀ (E : String) (j : Nat) (I' : IM), DE K tag d.toInt.toNat 0 i (.inr j) → CF p I I' → I' 1 3 = B j → Q (.inr E, mk I' J R)) → wl (g 1 d (mk I J R)) Q
theorem v_134 {gE gT gF : Nat → Int32 → WW → Option ((Int32 ⊕ String) × WW)} (h : CS K B V p I R i) {y2 y3 y4 y5 : Int32} {Q : ((Int32 ⊕ String) × WW) → Prop} (k : ∀ I', CF p I I' → CS K B V p I' R i → Q (.inl (y5 + 1), mk I' J R)) : wl (f_pa_readFactor_134 gE gT gF 1 y2 y3 y4 y5 (mk I J R)) Q := by
  unfold f_pa_readFactor_134
  exact wl_gR rfl rfl h.2.1.1 (wl_eq rfl (wl_bd (v_addStep h.1 h.2.2.1 (fun I' e a a' => wl_some (k I' e (h.cf e (by rw [a]; exact h.2.2.2.1) a' h.2.2.2.2.1))))))
theorem v_factor (hV : NXT K V) {gE gT gF : Nat → Int32 → WW → Option ((Int32 ⊕ String) × WW)} (He : SpW K B V 4 gE) (Hf : SpW K B V 0 gF) : SpW K B V 0 (fo_pa_readFactor gE gT gF) := by
  intro p i I J R d Q hc hd k kx
  have hp := hc.2.2.1
  unfold fo_pa_readFactor f_pa_readFactor_12
  refine wl_kb (wl_ite (fun c => ?_) (fun c => ?_))
  · rw [i32lt, l32_10] at c
    exact wl_bdx (v_need hc (fun z => absurd rfl z) (fun _ I' e' h3 => ⟨fun v hv => (by cases hv), fun E hE => kx E i I' (.fdeep (by omega)) e' h3⟩))
  rw [i32lt, l32_10] at c
  have hd10 : d.toInt.toNat ≤ 10 := by omega
  have d1 : (d + 1).toInt = d.toInt + 1 := by rw [i32addc (by rw [l32_1]; omega), l32_1]
  have d1n : (d + 1).toInt.toNat = d.toInt.toNat + 1 := by omega
  refine wl_bdx (v_need hc (fun _ => ⟨fun v hv => ?_, fun E hE => (by cases hE)⟩) (fun z => absurd z (by decide)))
  refine wl_bd2 (v_kindHere hc ?_)
  dsimp only
  refine wn_1_0 hc.1 (wn_2_2 hc.1 (wl_gI rfl rfl rfl (wl_rI (n := 201) rfl (fun _ => wn_1_0 hc.1 (wn_2_3 hc.1 (wl_gI rfl rfl rfl (wl_rI (n := 201) rfl (fun _ => ?_))))))))
  refine wl_bd2 (v_begF (fun z => ?_) (fun z => ?_))
  · dsimp only
    refine wl_bdx (v_need hc (fun _ => ⟨fun v hv => ?_, fun E hE => (by cases hE)⟩) (fun z => absurd z (by decide)))
    have k0 : (K i).toInt ≠ 0 ∧ (K i).toInt ≠ -1 := by
      rcases z with z | z | z | z | z <;> rw [z] <;> decide
    refine wl_bd (v_advance hV hc k0.1 k0.2 (fun I1 e1 h1 => ?_))
    refine wl_ite (fun cp => ?_) (fun cp => wl_ite (fun ca => ?_) (fun ca => wl_ite (fun cm => ?_) (fun cm => ?_)))
    · refine wl_bdx (He h1 (by omega) (fun h i' I2 hD e2 h2 lt => ⟨fun v hv => ?_, fun E hE => (by cases hE)⟩) (fun E j I2 hD e2 h3 => ⟨fun v hv => (by cases hv), fun E' hE => kx E' j I2 (.fparb hd10 cp (by rw [← d1n]; exact hD)) (e1.trans e2) h3⟩))
      cases hv
      rw [d1n] at hD
      refine wl_bdx (v_take hV h2 (by decide) (fun kt I3 e3 h3 => ⟨fun v hv => ?_, fun E hE => (by cases hE)⟩) (fun kt I3 e3 h3 => ⟨fun v hv => (by cases hv), fun E hE => kx E i' I3 (.fparx hd10 cp hD kt) (e1.trans (e2.trans e3)) h3⟩))
      exact wl_some (k h (i' + 1) I3 (.fpar hd10 cp hD kt) (e1.trans (e2.trans e3)) h3 (by omega))
    · refine wl_bdx (v_take hV h1 (by decide) (fun kt I2 e2 h2 => ⟨fun v hv => ?_, fun E hE => (by cases hE)⟩) (fun kt I2 e2 h3 => ⟨fun v hv => (by cases hv), fun E hE => kx E (i + 1) I2 (.farr0 hd10 ca kt) (e1.trans e2) h3⟩))
      refine wl_bdx (He h2 (by omega) (fun h i' I3 hD e3 h3 lt => ⟨fun v hv => ?_, fun E hE => (by cases hE)⟩) (fun E j I3 hD e3 h3 => ⟨fun v hv => (by cases hv), fun E' hE => kx E' j I3 (.farrb hd10 ca kt (by rw [← d1n]; exact hD)) (e1.trans (e2.trans e3)) h3⟩))
      cases hv
      rw [d1n] at hD
      refine wl_bdx (v_take hV h3 (by decide) (fun kt2 I4 e4 h4 => ⟨fun v hv => ?_, fun E hE => (by cases hE)⟩) (fun kt2 I4 e4 h4 => ⟨fun v hv => (by cases hv), fun E hE => kx E i' I4 (.farrx hd10 ca kt hD kt2) (e1.trans (e2.trans (e3.trans e4))) h4⟩))
      exact v_134 h4 (fun I5 e5 h5 => k _ _ I5 (.farr hd10 ca kt hD kt2) (e1.trans (e2.trans (e3.trans (e4.trans e5)))) h5 (by omega))
    · refine wl_bdx (Hf h1 (by omega) (fun h i' I2 hD e2 h2 lt => ⟨fun v hv => ?_, fun E hE => (by cases hE)⟩) (fun E j I2 hD e2 h3 => ⟨fun v hv => (by cases hv), fun E' hE => kx E' j I2 (.fnegb hd10 cm (by rw [← d1n]; exact hD)) (e1.trans e2) h3⟩))
      cases hv
      rw [d1n] at hD
      exact v_134 h2 (fun I3 e3 h3 => k _ _ I3 (.fneg hd10 cm hD) (e1.trans (e2.trans e3)) h3 (by omega))
    · refine v_134 h1 (fun I3 e3 h3 => ?_)
      have z1 : (0 : Int32) + 1 = 1 := by decide
      rw [z1]
      refine k _ _ I3 (.fleaf hd10 ?_) (e1.trans e3) h3 (by omega)
      rcases z with z | z | z | z | z
      · exact Or.inl z
      · exact Or.inr z
      · exact absurd z ca
      · exact absurd z cm
      · exact absurd z cp
  · dsimp only
    exact wl_bdx (v_need hc (fun z => absurd rfl z) (fun _ I' e' h3 => ⟨fun v hv => (by cases hv), fun E hE => kx E i I' (.fnone hd10 z) e' h3⟩))
theorem v_term_8 (hV : NXT K V) {gE gT gF : Nat → Int32 → WW → Option ((Int32 ⊕ String) × WW)} (Hf : SpW K B V 0 gF) {I0 : IM} {d : Int32} (hd : 0 ≤ d.toInt) {Q : ((Int32 ⊕ String) × WW) → Prop} : ∀ (n : Nat) (I : IM) (i : Nat) (h y3 : Int32), CS K B V p I R i → CF p I0 I → 0 ≤ y3.toInt ∧ y3.toInt ≤ i → (∀ (h' : Int32) (i' : Nat) (I' : IM), DE K 1 d.toInt.toNat h i (.inl (h', i')) → CF p I0 I' → CS K B V p I' R i' → i ≤ i' → Q (.inl h', mk I' J R)) → (∀ (E : String) (j : Nat) (I' : IM), DE K 1 d.toInt.toNat h i (.inr j) → CF p I0 I' → I' 1 3 = B j → Q (.inr E, mk I' J R)) → wl (f_pa_readTerm_8 gE gT gF n 1 d h y3 (mk I J R)) Q := by
  intro n
  induction n with
  | zero => intro I i h y3 hc e hy k kx; exact wl_none
  | succ n ih =>
    intro I i h y3 hc e hy k kx
    have hi2 := hV.2 i hc.2.2.2.2.1
    rw [f_pa_readTerm_8]
    unfold f_pa_readTerm_94 f_pa_readTerm_57
    refine wl_ite (fun c => ?_) (fun c => wl_bd2 (v_kindHere hc ?_))
    · rw [i32le, l32_200] at c
      refine wl_some (k h i I (.tend (fun z => ?_)) e hc (Nat.le_refl _))
      have k0 : (K i).toInt ≠ 0 ∧ (K i).toInt ≠ -1 := by
        rcases z with z | z | z <;> rw [z] <;> decide
      have := (hV.1 i hc.2.2.2.2.1 k0.1 k0.2).1
      omega
    dsimp only
    refine wl_bd2 (v_prod (fun z => ?_) (fun z => ?_))
    · dsimp only
      rw [if_neg (by decide)]
      have k0 : (K i).toInt ≠ 0 ∧ (K i).toInt ≠ -1 := by
        rcases z with z | z | z <;> rw [z] <;> decide
      refine wl_bd2 (v_kindHere hc ?_)
      dsimp only
      refine wn_1_0 hc.1 (wn_2_2 hc.1 (wl_gI rfl rfl rfl (wl_rI (n := 201) rfl (fun _ => ?_))))
      refine wl_ite (fun c16 => ?_) (fun c16 => ?_)
      · exact wl_bdx (v_need hc (fun z => absurd rfl z) (fun _ I' e' h3 => ⟨fun v hv => (by cases hv), fun E hE => kx E i I' (.thigh z c16) (e.trans e') h3⟩))
      refine wl_bdx (v_need hc (fun _ => ⟨fun v hv => ?_, fun E hE => (by cases hE)⟩) (fun z => absurd z (by decide)))
      refine wl_bd (v_advance hV hc k0.1 k0.2 (fun I1 e1 h1 => ?_))
      refine wl_bdx (Hf h1 hd (fun h2 i' I2 hD e2 c2 lt => ⟨fun v hv => ?_, fun E hE => (by cases hE)⟩) (fun E j I2 hD e2 h3 => ⟨fun v hv => (by cases hv), fun E' hE => kx E' j I2 (.tfacb z c16 hD) (e.trans (e1.trans e2)) h3⟩))
      cases hv
      refine wl_bd2 (v_max ?_)
      dsimp only
      refine wl_gR rfl rfl c2.2.1.1 (wl_eq rfl (wl_bd (v_addStep c2.1 c2.2.2.1 (fun I3 e3 a3 b3 => ?_))))
      have c3 : CS K B V p I3 R i' := c2.cf e3 (by rw [a3]; exact c2.2.2.2.1) b3 c2.2.2.2.2.1
      have em : (1 : Int32) + (if h < h2 then h2 else h) = mx h h2 := by unfold mx; exact Int32.add_comm _ _
      have hi3 := hV.2 i' c3.2.2.2.2.1
      rw [em]
      refine ih I3 i' (mx h h2) (y3 + 1) c3 (e.trans (e1.trans (e2.trans e3))) ?_ (fun h' i2 I' hD' e' hc' le => k h' i2 I' (.tfac z c16 hD hD') e' hc' (by omega)) (fun E j I' hD' e' h3 => kx E j I' (.tfac z c16 hD hD') e' h3)
      rw [i32addc (by rw [l32_1]; omega), l32_1]; omega
    · dsimp only
      rw [if_pos rfl]
      exact wl_some (k h i I (.tend z) e hc (Nat.le_refl _))
theorem v_term (hV : NXT K V) {gE gT gF : Nat → Int32 → WW → Option ((Int32 ⊕ String) × WW)} (Hf : SpW K B V 0 gF) : SpW K B V 3 (fo_pa_readTerm gE gT gF) := by
  intro p i I J R d Q hc hd k kx
  unfold fo_pa_readTerm
  refine wl_kb (wl_bdx (Hf hc hd (fun h i' I1 hD e1 h1 lt => ⟨fun v hv => ?_, fun E hE => (by cases hE)⟩) (fun E j I2 hD e2 h3 => ⟨fun v hv => (by cases hv), fun E' hE => kx E' j I2 (.termb hD) e2 h3⟩)))
  cases hv
  exact v_term_8 hV Hf hd KK I1 i' h 0 h1 e1 (by rw [l32_0]; omega) (fun h' i2 I' hD' e' hc' le => k h' i2 I' (.term hD hD') e' hc' (by omega)) (fun E j I' hD' e' h3 => kx E j I' (.term hD hD') e' h3)
theorem v_expr_8 (hV : NXT K V) {gE gT gF : Nat → Int32 → WW → Option ((Int32 ⊕ String) × WW)} (Ht : SpW K B V 3 gT) {I0 : IM} {d : Int32} (hd : 0 ≤ d.toInt) {Q : ((Int32 ⊕ String) × WW) → Prop} : ∀ (n : Nat) (I : IM) (i : Nat) (h y3 : Int32), CS K B V p I R i → CF p I0 I → 0 ≤ y3.toInt ∧ y3.toInt ≤ i → (∀ (h' : Int32) (i' : Nat) (I' : IM), DE K 2 d.toInt.toNat h i (.inl (h', i')) → CF p I0 I' → CS K B V p I' R i' → i ≤ i' → Q (.inl h', mk I' J R)) → (∀ (E : String) (j : Nat) (I' : IM), DE K 2 d.toInt.toNat h i (.inr j) → CF p I0 I' → I' 1 3 = B j → Q (.inr E, mk I' J R)) → wl (f_pa_readExpr_8 gE gT gF n 1 d h y3 (mk I J R)) Q := by
  intro n
  induction n with
  | zero => intro I i h y3 hc e hy k kx; exact wl_none
  | succ n ih =>
    intro I i h y3 hc e hy k kx
    have hi2 := hV.2 i hc.2.2.2.2.1
    have h33 : isSm (K i) → wl (f_pa_readExpr_33 gE gT gF (f_pa_readExpr_8 gE gT gF n) 1 d h y3 (mk I J R)) Q := by
      intro z
      have k0 : (K i).toInt ≠ 0 ∧ (K i).toInt ≠ -1 := by
        rcases z with z | z <;> rw [z] <;> decide
      unfold f_pa_readExpr_33 f_pa_readExpr_65
      refine wl_bd2 (v_kindHere hc ?_)
      dsimp only
      refine wn_1_0 hc.1 (wn_2_2 hc.1 (wl_gI rfl rfl rfl (wl_rI (n := 201) rfl (fun _ => ?_))))
      refine wl_ite (fun c16 => ?_) (fun c16 => ?_)
      · exact wl_bdx (v_need hc (fun z => absurd rfl z) (fun _ I' e' h3 => ⟨fun v hv => (by cases hv), fun E hE => kx E i I' (.ehigh z c16) (e.trans e') h3⟩))
      refine wl_bdx (v_need hc (fun _ => ⟨fun v hv => ?_, fun E hE => (by cases hE)⟩) (fun z => absurd z (by decide)))
      refine wl_bd (v_advance hV hc k0.1 k0.2 (fun I1 e1 h1 => ?_))
      refine wl_bdx (Ht h1 hd (fun h2 i' I2 hD e2 c2 lt => ⟨fun v hv => ?_, fun E hE => (by cases hE)⟩) (fun E j I2 hD e2 h3 => ⟨fun v hv => (by cases hv), fun E' hE => kx E' j I2 (.etermb z c16 hD) (e.trans (e1.trans e2)) h3⟩))
      cases hv
      refine wl_bd2 (v_max ?_)
      dsimp only
      refine wl_gR rfl rfl c2.2.1.1 (wl_eq rfl (wl_bd (v_addStep c2.1 c2.2.2.1 (fun I3 e3 a3 b3 => ?_))))
      have c3 : CS K B V p I3 R i' := c2.cf e3 (by rw [a3]; exact c2.2.2.2.1) b3 c2.2.2.2.2.1
      have em : (1 : Int32) + (if h < h2 then h2 else h) = mx h h2 := by unfold mx; exact Int32.add_comm _ _
      have hi3 := hV.2 i' c3.2.2.2.2.1
      rw [em]
      refine ih I3 i' (mx h h2) (y3 + 1) c3 (e.trans (e1.trans (e2.trans e3))) ?_ (fun h' i2 I' hD' e' hc' le => k h' i2 I' (.eterm z c16 hD hD') e' hc' (by omega)) (fun E j I' hD' e' h3 => kx E j I' (.eterm z c16 hD hD') e' h3)
      rw [i32addc (by rw [l32_1]; omega), l32_1]; omega
    rw [f_pa_readExpr_8]
    unfold f_pa_readExpr_102
    refine wl_ite (fun c => ?_) (fun c => wl_bd2 (v_kindHere hc ?_))
    · rw [i32le, l32_200] at c
      refine wl_some (k h i I (.eend (fun z => ?_)) e hc (Nat.le_refl _))
      have k0 : (K i).toInt ≠ 0 ∧ (K i).toInt ≠ -1 := by
        rcases z with z | z <;> rw [z] <;> decide
      have := (hV.1 i hc.2.2.2.2.1 k0.1 k0.2).1
      omega
    dsimp only
    refine wl_ite (fun z => h33 (Or.inl z)) (fun z1 => wl_bd2 (v_kindHere hc ?_))
    dsimp only
    refine wl_ite (fun z => h33 (Or.inr z)) (fun z2 => wl_some (k h i I (.eend (fun z => ?_)) e hc (Nat.le_refl _)))
    rcases z with z | z
    · exact z1 z
    · exact z2 z
theorem v_expr (hV : NXT K V) {gE gT gF : Nat → Int32 → WW → Option ((Int32 ⊕ String) × WW)} (Ht : SpW K B V 3 gT) : SpW K B V 4 (fo_pa_readExpr gE gT gF) := by
  intro p i I J R d Q hc hd k kx
  unfold fo_pa_readExpr
  refine wl_kb (wl_bdx (Ht hc hd (fun h i' I1 hD e1 h1 lt => ⟨fun v hv => ?_, fun E hE => (by cases hE)⟩) (fun E j I2 hD e2 h3 => ⟨fun v hv => (by cases hv), fun E' hE => kx E' j I2 (.exprb hD) e2 h3⟩)))
  cases hv
  exact v_expr_8 hV Ht hd KK I1 i' h 0 h1 e1 (by rw [l32_0]; omega) (fun h' i2 I' hD' e' hc' le => k h' i2 I' (.expr hD hD') e' hc' (by omega)) (fun E j I' hD' e' h3 => kx E j I' (.expr hD hD') e' h3)
theorem v_pa3 (hV : NXT K V) : ∀ e : Nat, SpW K B V 4 (sc_pa3 e).1 ∧ SpW K B V 3 (sc_pa3 e).2.1 ∧ SpW K B V 0 (sc_pa3 e).2.2 := by
  intro e
  induction e with
  | zero =>
    refine ⟨?_, ?_, ?_⟩
    · intro p i I J R d Q hc hd k kx; exact wl_none
    · intro p i I J R d Q hc hd k kx; exact wl_none
    · intro p i I J R d Q hc hd k kx; exact wl_none
  | succ e ih => exact ⟨v_expr hV ih.2.1, v_term hV ih.2.2, v_factor hV ih.1 ih.2.2⟩
theorem v_readExpr (hV : NXT K V) (hc : CS K B V p I R i) {Q : ((Int32 ⊕ String) × WW) → Prop} (k : ∀ (h : Int32) (i' : Nat) (I' : IM), DE K 4 0 0 i (.inl (h, i')) → CF p I I' → CS K B V p I' R i' → i < i' → Q (.inl h, mk I' J R)) (kx : ∀ (E : String) (j : Nat) (I' : IM), DE K 4 0 0 i (.inr j) → CF p I I' → I' 1 3 = B j → Q (.inr E, mk I' J R)) : wl (f_pa_readExpr 64 1 0 (mk I J R)) Q := by
  unfold f_pa_readExpr
  exact (v_pa3 hV 64).1 hc (by decide) k kx
end CEXP
