/-! EXPRS as they are parsed, said by rules, with the steps that they leave; the class's parser follows the rules. -/
/-- a program as the class holds it: steps, the STATEMENTS' fields, their links -/
abbrev RX : Type := (Nat → Int32) × (Nat → Int32) × (Nat → Int32) × (Nat → Nat → Int32) × (Nat → Nat → Option Nat)
abbrev RX.sk (X : RX) : Nat → Int32 := X.1
abbrev RX.sn (X : RX) : Nat → Int32 := X.2.1
abbrev RX.sp (X : RX) : Nat → Int32 := X.2.2.1
abbrev RX.F (X : RX) : Nat → Nat → Int32 := X.2.2.2.1
abbrev RX.N (X : RX) : Nat → Nat → Option Nat := X.2.2.2.2
def STE (X : RX) (n : Nat) (k m b : Int32) : Prop := X.sk n = k ∧ X.sn n = m ∧ X.sp n = b
/-- a height, a place and a number of steps, or the place of a fault -/
abbrev Res : Type := (Int32 × Nat × Nat) ⊕ Nat
def mx (h h2 : Int32) : Int32 := (if h < h2 then h2 else h) + 1
def isPr (x : Int32) : Prop := x = 42 ∨ x = 47 ∨ x = 37
def isSm (x : Int32) : Prop := x = 43 ∨ x = 45
/-- 0 a FACTOR, 1 what follows in a product of height h, 2 what follows in a sum, 3 a TERM, 4 an EXPR; from the TOKEN i on, with n steps before -/
def DEC (X : RX) (K B M : Nat → Int32) (Pz : Nat → Nat → Int32 → Nat → Nat → Res → Prop) : Prop :=
  (∀ (d i n : Nat), 10 < d → Pz 0 d 0 i n (.inr i)) ∧
  (∀ (d i n : Nat), d ≤ 10 → ¬ (K i = 1 ∨ K i = 2 ∨ K i = 3 ∨ K i = 45 ∨ K i = 40) → Pz 0 d 0 i n (.inr i)) ∧
  (∀ (d i n : Nat), d ≤ 10 → (K i = 1 ∨ K i = 2) → STE X n (K i) (M i) (B i) → Pz 0 d 0 i n (.inl (1, i + 1, n + 1))) ∧
  (∀ (d i n j n' : Nat) (h : Int32), d ≤ 10 → K i = 45 → Pz 0 (d + 1) 0 (i + 1) n (.inl (h, j, n')) → STE X n' 259 (M i) (B i) → Pz 0 d 0 i n (.inl (h + 1, j, n' + 1))) ∧
  (∀ (d i n j : Nat), d ≤ 10 → K i = 45 → Pz 0 (d + 1) 0 (i + 1) n (.inr j) → Pz 0 d 0 i n (.inr j)) ∧
  (∀ (d i n j n' : Nat) (h : Int32), d ≤ 10 → K i = 40 → Pz 4 (d + 1) 0 (i + 1) n (.inl (h, j, n')) → K j = 41 → Pz 0 d 0 i n (.inl (h, j + 1, n'))) ∧
  (∀ (d i n j n' : Nat) (h : Int32), d ≤ 10 → K i = 40 → Pz 4 (d + 1) 0 (i + 1) n (.inl (h, j, n')) → ¬ K j = 41 → Pz 0 d 0 i n (.inr j)) ∧
  (∀ (d i n j : Nat), d ≤ 10 → K i = 40 → Pz 4 (d + 1) 0 (i + 1) n (.inr j) → Pz 0 d 0 i n (.inr j)) ∧
  (∀ (d i n : Nat), d ≤ 10 → K i = 3 → ¬ K (i + 1) = 91 → Pz 0 d 0 i n (.inr (i + 1))) ∧
  (∀ (d i n j n' : Nat) (h : Int32), d ≤ 10 → K i = 3 → K (i + 1) = 91 → Pz 4 (d + 1) 0 (i + 1 + 1) n (.inl (h, j, n')) → K j = 93 → STE X n' 3 (M i) (B i) → Pz 0 d 0 i n (.inl (h + 1, j + 1, n' + 1))) ∧
  (∀ (d i n j n' : Nat) (h : Int32), d ≤ 10 → K i = 3 → K (i + 1) = 91 → Pz 4 (d + 1) 0 (i + 1 + 1) n (.inl (h, j, n')) → ¬ K j = 93 → Pz 0 d 0 i n (.inr j)) ∧
  (∀ (d i n j : Nat), d ≤ 10 → K i = 3 → K (i + 1) = 91 → Pz 4 (d + 1) 0 (i + 1 + 1) n (.inr j) → Pz 0 d 0 i n (.inr j)) ∧
  (∀ (d i n : Nat) (h : Int32), ¬ isPr (K i) → Pz 1 d h i n (.inl (h, i, n))) ∧
  (∀ (d i n : Nat) (h : Int32), isPr (K i) → 16 ≤ h → Pz 1 d h i n (.inr i)) ∧
  (∀ (d i n j : Nat) (h : Int32), isPr (K i) → ¬ 16 ≤ h → Pz 0 d 0 (i + 1) n (.inr j) → Pz 1 d h i n (.inr j)) ∧
  (∀ (d i n j n' : Nat) (h h2 : Int32) (r : Res), isPr (K i) → ¬ 16 ≤ h → Pz 0 d 0 (i + 1) n (.inl (h2, j, n')) → STE X n' (K i) 0 (B i) → Pz 1 d (mx h h2) j (n' + 1) r → Pz 1 d h i n r) ∧
  (∀ (d i n : Nat) (h : Int32), ¬ isSm (K i) → Pz 2 d h i n (.inl (h, i, n))) ∧
  (∀ (d i n : Nat) (h : Int32), isSm (K i) → 16 ≤ h → Pz 2 d h i n (.inr i)) ∧
  (∀ (d i n j : Nat) (h : Int32), isSm (K i) → ¬ 16 ≤ h → Pz 3 d 0 (i + 1) n (.inr j) → Pz 2 d h i n (.inr j)) ∧
  (∀ (d i n j n' : Nat) (h h2 : Int32) (r : Res), isSm (K i) → ¬ 16 ≤ h → Pz 3 d 0 (i + 1) n (.inl (h2, j, n')) → STE X n' (K i) 0 (B i) → Pz 2 d (mx h h2) j (n' + 1) r → Pz 2 d h i n r) ∧
  (∀ (d i n j n' : Nat) (h : Int32) (r : Res), Pz 0 d 0 i n (.inl (h, j, n')) → Pz 1 d h j n' r → Pz 3 d 0 i n r) ∧
  (∀ (d i n j : Nat), Pz 0 d 0 i n (.inr j) → Pz 3 d 0 i n (.inr j)) ∧
  (∀ (d i n j n' : Nat) (h : Int32) (r : Res), Pz 3 d 0 i n (.inl (h, j, n')) → Pz 2 d h j n' r → Pz 4 d 0 i n r) ∧
  (∀ (d i n j : Nat), Pz 3 d 0 i n (.inr j) → Pz 4 d 0 i n (.inr j))
def DE (X : RX) (K B M : Nat → Int32) (x1 : Nat) (x2 : Nat) (x3 : Int32) (x4 : Nat) (x5 : Nat) (x6 : Res) : Prop := ∀ Pz : Nat → Nat → Int32 → Nat → Nat → Res → Prop, DEC X K B M Pz → Pz x1 x2 x3 x4 x5 x6
theorem DE.fdeep {X : RX} {K B M : Nat → Int32} {d i n : Nat} (a1 : 10 < d) : DE X K B M 0 d 0 i n (.inr i) := fun Pz cz => cz.1 _ _ _ a1
theorem DE.fnone {X : RX} {K B M : Nat → Int32} {d i n : Nat} (a1 : d ≤ 10) (a2 : ¬ (K i = 1 ∨ K i = 2 ∨ K i = 3 ∨ K i = 45 ∨ K i = 40)) : DE X K B M 0 d 0 i n (.inr i) := fun Pz cz => cz.2.1 _ _ _ a1 a2
theorem DE.fleaf {X : RX} {K B M : Nat → Int32} {d i n : Nat} (a1 : d ≤ 10) (a2 : (K i = 1 ∨ K i = 2)) (a3 : STE X n (K i) (M i) (B i)) : DE X K B M 0 d 0 i n (.inl (1, i + 1, n + 1)) := fun Pz cz => cz.2.2.1 _ _ _ a1 a2 a3
theorem DE.fneg {X : RX} {K B M : Nat → Int32} {d i n j n' : Nat} {h : Int32} (a1 : d ≤ 10) (a2 : K i = 45) (a3 : DE X K B M 0 (d + 1) 0 (i + 1) n (.inl (h, j, n'))) (a4 : STE X n' 259 (M i) (B i)) : DE X K B M 0 d 0 i n (.inl (h + 1, j, n' + 1)) := fun Pz cz => cz.2.2.2.1 _ _ _ _ _ _ a1 a2 (a3 Pz cz) a4
theorem DE.fnegb {X : RX} {K B M : Nat → Int32} {d i n j : Nat} (a1 : d ≤ 10) (a2 : K i = 45) (a3 : DE X K B M 0 (d + 1) 0 (i + 1) n (.inr j)) : DE X K B M 0 d 0 i n (.inr j) := fun Pz cz => cz.2.2.2.2.1 _ _ _ _ a1 a2 (a3 Pz cz)
theorem DE.fpar {X : RX} {K B M : Nat → Int32} {d i n j n' : Nat} {h : Int32} (a1 : d ≤ 10) (a2 : K i = 40) (a3 : DE X K B M 4 (d + 1) 0 (i + 1) n (.inl (h, j, n'))) (a4 : K j = 41) : DE X K B M 0 d 0 i n (.inl (h, j + 1, n')) := fun Pz cz => cz.2.2.2.2.2.1 _ _ _ _ _ _ a1 a2 (a3 Pz cz) a4
theorem DE.fparx {X : RX} {K B M : Nat → Int32} {d i n j n' : Nat} {h : Int32} (a1 : d ≤ 10) (a2 : K i = 40) (a3 : DE X K B M 4 (d + 1) 0 (i + 1) n (.inl (h, j, n'))) (a4 : ¬ K j = 41) : DE X K B M 0 d 0 i n (.inr j) := fun Pz cz => cz.2.2.2.2.2.2.1 _ _ _ _ _ _ a1 a2 (a3 Pz cz) a4
theorem DE.fparb {X : RX} {K B M : Nat → Int32} {d i n j : Nat} (a1 : d ≤ 10) (a2 : K i = 40) (a3 : DE X K B M 4 (d + 1) 0 (i + 1) n (.inr j)) : DE X K B M 0 d 0 i n (.inr j) := fun Pz cz => cz.2.2.2.2.2.2.2.1 _ _ _ _ a1 a2 (a3 Pz cz)
theorem DE.farr0 {X : RX} {K B M : Nat → Int32} {d i n : Nat} (a1 : d ≤ 10) (a2 : K i = 3) (a3 : ¬ K (i + 1) = 91) : DE X K B M 0 d 0 i n (.inr (i + 1)) := fun Pz cz => cz.2.2.2.2.2.2.2.2.1 _ _ _ a1 a2 a3
theorem DE.farr {X : RX} {K B M : Nat → Int32} {d i n j n' : Nat} {h : Int32} (a1 : d ≤ 10) (a2 : K i = 3) (a3 : K (i + 1) = 91) (a4 : DE X K B M 4 (d + 1) 0 (i + 1 + 1) n (.inl (h, j, n'))) (a5 : K j = 93) (a6 : STE X n' 3 (M i) (B i)) : DE X K B M 0 d 0 i n (.inl (h + 1, j + 1, n' + 1)) := fun Pz cz => cz.2.2.2.2.2.2.2.2.2.1 _ _ _ _ _ _ a1 a2 a3 (a4 Pz cz) a5 a6
theorem DE.farrx {X : RX} {K B M : Nat → Int32} {d i n j n' : Nat} {h : Int32} (a1 : d ≤ 10) (a2 : K i = 3) (a3 : K (i + 1) = 91) (a4 : DE X K B M 4 (d + 1) 0 (i + 1 + 1) n (.inl (h, j, n'))) (a5 : ¬ K j = 93) : DE X K B M 0 d 0 i n (.inr j) := fun Pz cz => cz.2.2.2.2.2.2.2.2.2.2.1 _ _ _ _ _ _ a1 a2 a3 (a4 Pz cz) a5
theorem DE.farrb {X : RX} {K B M : Nat → Int32} {d i n j : Nat} (a1 : d ≤ 10) (a2 : K i = 3) (a3 : K (i + 1) = 91) (a4 : DE X K B M 4 (d + 1) 0 (i + 1 + 1) n (.inr j)) : DE X K B M 0 d 0 i n (.inr j) := fun Pz cz => cz.2.2.2.2.2.2.2.2.2.2.2.1 _ _ _ _ a1 a2 a3 (a4 Pz cz)
theorem DE.tend {X : RX} {K B M : Nat → Int32} {d i n : Nat} {h : Int32} (a1 : ¬ isPr (K i)) : DE X K B M 1 d h i n (.inl (h, i, n)) := fun Pz cz => cz.2.2.2.2.2.2.2.2.2.2.2.2.1 _ _ _ _ a1
theorem DE.thigh {X : RX} {K B M : Nat → Int32} {d i n : Nat} {h : Int32} (a1 : isPr (K i)) (a2 : 16 ≤ h) : DE X K B M 1 d h i n (.inr i) := fun Pz cz => cz.2.2.2.2.2.2.2.2.2.2.2.2.2.1 _ _ _ _ a1 a2
theorem DE.tfacb {X : RX} {K B M : Nat → Int32} {d i n j : Nat} {h : Int32} (a1 : isPr (K i)) (a2 : ¬ 16 ≤ h) (a3 : DE X K B M 0 d 0 (i + 1) n (.inr j)) : DE X K B M 1 d h i n (.inr j) := fun Pz cz => cz.2.2.2.2.2.2.2.2.2.2.2.2.2.2.1 _ _ _ _ _ a1 a2 (a3 Pz cz)
theorem DE.tfac {X : RX} {K B M : Nat → Int32} {d i n j n' : Nat} {h h2 : Int32} {r : Res} (a1 : isPr (K i)) (a2 : ¬ 16 ≤ h) (a3 : DE X K B M 0 d 0 (i + 1) n (.inl (h2, j, n'))) (a4 : STE X n' (K i) 0 (B i)) (a5 : DE X K B M 1 d (mx h h2) j (n' + 1) r) : DE X K B M 1 d h i n r := fun Pz cz => cz.2.2.2.2.2.2.2.2.2.2.2.2.2.2.2.1 _ _ _ _ _ _ _ _ a1 a2 (a3 Pz cz) a4 (a5 Pz cz)
theorem DE.eend {X : RX} {K B M : Nat → Int32} {d i n : Nat} {h : Int32} (a1 : ¬ isSm (K i)) : DE X K B M 2 d h i n (.inl (h, i, n)) := fun Pz cz => cz.2.2.2.2.2.2.2.2.2.2.2.2.2.2.2.2.1 _ _ _ _ a1
theorem DE.ehigh {X : RX} {K B M : Nat → Int32} {d i n : Nat} {h : Int32} (a1 : isSm (K i)) (a2 : 16 ≤ h) : DE X K B M 2 d h i n (.inr i) := fun Pz cz => cz.2.2.2.2.2.2.2.2.2.2.2.2.2.2.2.2.2.1 _ _ _ _ a1 a2
theorem DE.etermb {X : RX} {K B M : Nat → Int32} {d i n j : Nat} {h : Int32} (a1 : isSm (K i)) (a2 : ¬ 16 ≤ h) (a3 : DE X K B M 3 d 0 (i + 1) n (.inr j)) : DE X K B M 2 d h i n (.inr j) := fun Pz cz => cz.2.2.2.2.2.2.2.2.2.2.2.2.2.2.2.2.2.2.1 _ _ _ _ _ a1 a2 (a3 Pz cz)
theorem DE.eterm {X : RX} {K B M : Nat → Int32} {d i n j n' : Nat} {h h2 : Int32} {r : Res} (a1 : isSm (K i)) (a2 : ¬ 16 ≤ h) (a3 : DE X K B M 3 d 0 (i + 1) n (.inl (h2, j, n'))) (a4 : STE X n' (K i) 0 (B i)) (a5 : DE X K B M 2 d (mx h h2) j (n' + 1) r) : DE X K B M 2 d h i n r := fun Pz cz => cz.2.2.2.2.2.2.2.2.2.2.2.2.2.2.2.2.2.2.2.1 _ _ _ _ _ _ _ _ a1 a2 (a3 Pz cz) a4 (a5 Pz cz)
theorem DE.term {X : RX} {K B M : Nat → Int32} {d i n j n' : Nat} {h : Int32} {r : Res} (a1 : DE X K B M 0 d 0 i n (.inl (h, j, n'))) (a2 : DE X K B M 1 d h j n' r) : DE X K B M 3 d 0 i n r := fun Pz cz => cz.2.2.2.2.2.2.2.2.2.2.2.2.2.2.2.2.2.2.2.2.1 _ _ _ _ _ _ _ (a1 Pz cz) (a2 Pz cz)
theorem DE.termb {X : RX} {K B M : Nat → Int32} {d i n j : Nat} (a1 : DE X K B M 0 d 0 i n (.inr j)) : DE X K B M 3 d 0 i n (.inr j) := fun Pz cz => cz.2.2.2.2.2.2.2.2.2.2.2.2.2.2.2.2.2.2.2.2.2.1 _ _ _ _ (a1 Pz cz)
theorem DE.expr {X : RX} {K B M : Nat → Int32} {d i n j n' : Nat} {h : Int32} {r : Res} (a1 : DE X K B M 3 d 0 i n (.inl (h, j, n'))) (a2 : DE X K B M 2 d h j n' r) : DE X K B M 4 d 0 i n r := fun Pz cz => cz.2.2.2.2.2.2.2.2.2.2.2.2.2.2.2.2.2.2.2.2.2.2.1 _ _ _ _ _ _ _ (a1 Pz cz) (a2 Pz cz)
theorem DE.exprb {X : RX} {K B M : Nat → Int32} {d i n j : Nat} (a1 : DE X K B M 3 d 0 i n (.inr j)) : DE X K B M 4 d 0 i n (.inr j) := fun Pz cz => cz.2.2.2.2.2.2.2.2.2.2.2.2.2.2.2.2.2.2.2.2.2.2.2 _ _ _ _ (a1 Pz cz)
theorem DE.ind {X : RX} {K B M : Nat → Int32} {W : Nat → Nat → Int32 → Nat → Nat → Res → Prop} (fdeep : ∀ (d i n : Nat), 10 < d → W 0 d 0 i n (.inr i)) (fnone : ∀ (d i n : Nat), d ≤ 10 → ¬ (K i = 1 ∨ K i = 2 ∨ K i = 3 ∨ K i = 45 ∨ K i = 40) → W 0 d 0 i n (.inr i)) (fleaf : ∀ (d i n : Nat), d ≤ 10 → (K i = 1 ∨ K i = 2) → STE X n (K i) (M i) (B i) → W 0 d 0 i n (.inl (1, i + 1, n + 1))) (fneg : ∀ (d i n j n' : Nat) (h : Int32), d ≤ 10 → K i = 45 → DE X K B M 0 (d + 1) 0 (i + 1) n (.inl (h, j, n')) → STE X n' 259 (M i) (B i) → W 0 (d + 1) 0 (i + 1) n (.inl (h, j, n')) → W 0 d 0 i n (.inl (h + 1, j, n' + 1))) (fnegb : ∀ (d i n j : Nat), d ≤ 10 → K i = 45 → DE X K B M 0 (d + 1) 0 (i + 1) n (.inr j) → W 0 (d + 1) 0 (i + 1) n (.inr j) → W 0 d 0 i n (.inr j)) (fpar : ∀ (d i n j n' : Nat) (h : Int32), d ≤ 10 → K i = 40 → DE X K B M 4 (d + 1) 0 (i + 1) n (.inl (h, j, n')) → K j = 41 → W 4 (d + 1) 0 (i + 1) n (.inl (h, j, n')) → W 0 d 0 i n (.inl (h, j + 1, n'))) (fparx : ∀ (d i n j n' : Nat) (h : Int32), d ≤ 10 → K i = 40 → DE X K B M 4 (d + 1) 0 (i + 1) n (.inl (h, j, n')) → ¬ K j = 41 → W 4 (d + 1) 0 (i + 1) n (.inl (h, j, n')) → W 0 d 0 i n (.inr j)) (fparb : ∀ (d i n j : Nat), d ≤ 10 → K i = 40 → DE X K B M 4 (d + 1) 0 (i + 1) n (.inr j) → W 4 (d + 1) 0 (i + 1) n (.inr j) → W 0 d 0 i n (.inr j)) (farr0 : ∀ (d i n : Nat), d ≤ 10 → K i = 3 → ¬ K (i + 1) = 91 → W 0 d 0 i n (.inr (i + 1))) (farr : ∀ (d i n j n' : Nat) (h : Int32), d ≤ 10 → K i = 3 → K (i + 1) = 91 → DE X K B M 4 (d + 1) 0 (i + 1 + 1) n (.inl (h, j, n')) → K j = 93 → STE X n' 3 (M i) (B i) → W 4 (d + 1) 0 (i + 1 + 1) n (.inl (h, j, n')) → W 0 d 0 i n (.inl (h + 1, j + 1, n' + 1))) (farrx : ∀ (d i n j n' : Nat) (h : Int32), d ≤ 10 → K i = 3 → K (i + 1) = 91 → DE X K B M 4 (d + 1) 0 (i + 1 + 1) n (.inl (h, j, n')) → ¬ K j = 93 → W 4 (d + 1) 0 (i + 1 + 1) n (.inl (h, j, n')) → W 0 d 0 i n (.inr j)) (farrb : ∀ (d i n j : Nat), d ≤ 10 → K i = 3 → K (i + 1) = 91 → DE X K B M 4 (d + 1) 0 (i + 1 + 1) n (.inr j) → W 4 (d + 1) 0 (i + 1 + 1) n (.inr j) → W 0 d 0 i n (.inr j)) (tend : ∀ (d i n : Nat) (h : Int32), ¬ isPr (K i) → W 1 d h i n (.inl (h, i, n))) (thigh : ∀ (d i n : Nat) (h : Int32), isPr (K i) → 16 ≤ h → W 1 d h i n (.inr i)) (tfacb : ∀ (d i n j : Nat) (h : Int32), isPr (K i) → ¬ 16 ≤ h → DE X K B M 0 d 0 (i + 1) n (.inr j) → W 0 d 0 (i + 1) n (.inr j) → W 1 d h i n (.inr j)) (tfac : ∀ (d i n j n' : Nat) (h h2 : Int32) (r : Res), isPr (K i) → ¬ 16 ≤ h → DE X K B M 0 d 0 (i + 1) n (.inl (h2, j, n')) → STE X n' (K i) 0 (B i) → DE X K B M 1 d (mx h h2) j (n' + 1) r → W 0 d 0 (i + 1) n (.inl (h2, j, n')) → W 1 d (mx h h2) j (n' + 1) r → W 1 d h i n r) (eend : ∀ (d i n : Nat) (h : Int32), ¬ isSm (K i) → W 2 d h i n (.inl (h, i, n))) (ehigh : ∀ (d i n : Nat) (h : Int32), isSm (K i) → 16 ≤ h → W 2 d h i n (.inr i)) (etermb : ∀ (d i n j : Nat) (h : Int32), isSm (K i) → ¬ 16 ≤ h → DE X K B M 3 d 0 (i + 1) n (.inr j) → W 3 d 0 (i + 1) n (.inr j) → W 2 d h i n (.inr j)) (eterm : ∀ (d i n j n' : Nat) (h h2 : Int32) (r : Res), isSm (K i) → ¬ 16 ≤ h → DE X K B M 3 d 0 (i + 1) n (.inl (h2, j, n')) → STE X n' (K i) 0 (B i) → DE X K B M 2 d (mx h h2) j (n' + 1) r → W 3 d 0 (i + 1) n (.inl (h2, j, n')) → W 2 d (mx h h2) j (n' + 1) r → W 2 d h i n r) (term : ∀ (d i n j n' : Nat) (h : Int32) (r : Res), DE X K B M 0 d 0 i n (.inl (h, j, n')) → DE X K B M 1 d h j n' r → W 0 d 0 i n (.inl (h, j, n')) → W 1 d h j n' r → W 3 d 0 i n r) (termb : ∀ (d i n j : Nat), DE X K B M 0 d 0 i n (.inr j) → W 0 d 0 i n (.inr j) → W 3 d 0 i n (.inr j)) (expr : ∀ (d i n j n' : Nat) (h : Int32) (r : Res), DE X K B M 3 d 0 i n (.inl (h, j, n')) → DE X K B M 2 d h j n' r → W 3 d 0 i n (.inl (h, j, n')) → W 2 d h j n' r → W 4 d 0 i n r) (exprb : ∀ (d i n j : Nat), DE X K B M 3 d 0 i n (.inr j) → W 3 d 0 i n (.inr j) → W 4 d 0 i n (.inr j)) {x1 : Nat} {x2 : Nat} {x3 : Int32} {x4 : Nat} {x5 : Nat} {x6 : Res} (t : DE X K B M x1 x2 x3 x4 x5 x6) : W x1 x2 x3 x4 x5 x6 := (t (fun x1 x2 x3 x4 x5 x6 => DE X K B M x1 x2 x3 x4 x5 x6 ∧ W x1 x2 x3 x4 x5 x6) ⟨fun d i n a1 => ⟨DE.fdeep a1, fdeep d i n a1⟩,
  fun d i n a1 a2 => ⟨DE.fnone a1 a2, fnone d i n a1 a2⟩,
  fun d i n a1 a2 a3 => ⟨DE.fleaf a1 a2 a3, fleaf d i n a1 a2 a3⟩,
  fun d i n j n' h a1 a2 a3 a4 => ⟨DE.fneg a1 a2 a3.1 a4, fneg d i n j n' h a1 a2 a3.1 a4 a3.2⟩,
  fun d i n j a1 a2 a3 => ⟨DE.fnegb a1 a2 a3.1, fnegb d i n j a1 a2 a3.1 a3.2⟩,
  fun d i n j n' h a1 a2 a3 a4 => ⟨DE.fpar a1 a2 a3.1 a4, fpar d i n j n' h a1 a2 a3.1 a4 a3.2⟩,
  fun d i n j n' h a1 a2 a3 a4 => ⟨DE.fparx a1 a2 a3.1 a4, fparx d i n j n' h a1 a2 a3.1 a4 a3.2⟩,
  fun d i n j a1 a2 a3 => ⟨DE.fparb a1 a2 a3.1, fparb d i n j a1 a2 a3.1 a3.2⟩,
  fun d i n a1 a2 a3 => ⟨DE.farr0 a1 a2 a3, farr0 d i n a1 a2 a3⟩,
  fun d i n j n' h a1 a2 a3 a4 a5 a6 => ⟨DE.farr a1 a2 a3 a4.1 a5 a6, farr d i n j n' h a1 a2 a3 a4.1 a5 a6 a4.2⟩,
  fun d i n j n' h a1 a2 a3 a4 a5 => ⟨DE.farrx a1 a2 a3 a4.1 a5, farrx d i n j n' h a1 a2 a3 a4.1 a5 a4.2⟩,
  fun d i n j a1 a2 a3 a4 => ⟨DE.farrb a1 a2 a3 a4.1, farrb d i n j a1 a2 a3 a4.1 a4.2⟩,
  fun d i n h a1 => ⟨DE.tend a1, tend d i n h a1⟩,
  fun d i n h a1 a2 => ⟨DE.thigh a1 a2, thigh d i n h a1 a2⟩,
  fun d i n j h a1 a2 a3 => ⟨DE.tfacb a1 a2 a3.1, tfacb d i n j h a1 a2 a3.1 a3.2⟩,
  fun d i n j n' h h2 r a1 a2 a3 a4 a5 => ⟨DE.tfac a1 a2 a3.1 a4 a5.1, tfac d i n j n' h h2 r a1 a2 a3.1 a4 a5.1 a3.2 a5.2⟩,
  fun d i n h a1 => ⟨DE.eend a1, eend d i n h a1⟩,
  fun d i n h a1 a2 => ⟨DE.ehigh a1 a2, ehigh d i n h a1 a2⟩,
  fun d i n j h a1 a2 a3 => ⟨DE.etermb a1 a2 a3.1, etermb d i n j h a1 a2 a3.1 a3.2⟩,
  fun d i n j n' h h2 r a1 a2 a3 a4 a5 => ⟨DE.eterm a1 a2 a3.1 a4 a5.1, eterm d i n j n' h h2 r a1 a2 a3.1 a4 a5.1 a3.2 a5.2⟩,
  fun d i n j n' h r a1 a2 => ⟨DE.term a1.1 a2.1, term d i n j n' h r a1.1 a2.1 a1.2 a2.2⟩,
  fun d i n j a1 => ⟨DE.termb a1.1, termb d i n j a1.1 a1.2⟩,
  fun d i n j n' h r a1 a2 => ⟨DE.expr a1.1 a2.1, expr d i n j n' h r a1.1 a2.1 a1.2 a2.2⟩,
  fun d i n j a1 => ⟨DE.exprb a1.1, exprb d i n j a1.1 a1.2⟩⟩).2
/-- an EXPR's parsing changes the place in the TOKENS, the fault, and the program's steps from n on -/
def CF (p n : Nat) (I I' : IM) : Prop := (∀ x j, (x ≠ 1 ∨ (j ≠ 1 ∧ j ≠ 3)) → (x ≠ p ∨ j ≠ 5) → x ≠ p + 52 → x ≠ p + 53 → x ≠ p + 54 → I' x j = I x j) ∧ ∀ k, k < n → I' (p + 52) k = I (p + 52) k ∧ I' (p + 53) k = I (p + 53) k ∧ I' (p + 54) k = I (p + 54) k
theorem CF.trans {p n n' : Nat} {I I' I'' : IM} (h : CF p n I I') (h2 : CF p n' I' I'') (hn : n ≤ n' := by omega) : CF p n I I'' := ⟨fun x j a b c d e => (h2.1 x j a b c d e).trans (h.1 x j a b c d e), fun k hk => ⟨(h2.2 k (by omega)).1.trans (h.2 k hk).1, (h2.2 k (by omega)).2.1.trans (h.2 k hk).2.1, (h2.2 k (by omega)).2.2.trans (h.2 k hk).2.2⟩⟩
/-- the steps below n are X's -/
def AGS (X : RX) (p n : Nat) (I : IM) : Prop := ∀ k, k < n → I (p + 52) k = X.sk k ∧ I (p + 53) k = X.sn k ∧ I (p + 54) k = X.sp k
theorem AGS.back {X : RX} {p n n' : Nat} {I I' : IM} (h : AGS X p n' I') (e : CF p n I I') (hn : n ≤ n' := by omega) : AGS X p n I := fun k hk => ⟨(e.2 k hk).1.symm.trans (h k (by omega)).1, (e.2 k hk).2.1.symm.trans (h k (by omega)).2.1, (e.2 k hk).2.2.symm.trans (h k (by omega)).2.2⟩
theorem AGS.le {X : RX} {p n n' : Nat} {I : IM} (h : AGS X p n' I) (hn : n ≤ n' := by omega) : AGS X p n I := fun k hk => h k (by omega)
theorem AGS.at {X : RX} {p n n' : Nat} {I : IM} {a b c : Int32} (h : AGS X p n' I) (hs : I (p + 52) n = a ∧ I (p + 53) n = b ∧ I (p + 54) n = c) (hn : n < n' := by omega) : STE X n a b c := ⟨(h n hn).1.symm.trans hs.1, (h n hn).2.1.symm.trans hs.2.1, (h n hn).2.2.symm.trans hs.2.2⟩
/-- the class's parser at the TOKEN i, with n steps -/
def CS (K B M : Nat → Int32) (V : Nat → Prop) (p n : Nat) (I : IM) (R : RM) (i : Nat) : Prop := FXR R ∧ (R 1 2 = some p ∧ R 0 5 = some p) ∧ isP p ∧ (I 1 1).toInt = i ∧ V i ∧ I 4 = K ∧ I 5 = B ∧ I 1 3 = -2 ∧ I 6 = M ∧ (I p 5).toInt = n ∧ n ≤ i
/-- from a TOKEN that is neither the end nor none the reader goes on -/
def NXT (K : Nat → Int32) (V : Nat → Prop) : Prop := (∀ i, V i → (K i).toInt ≠ 0 → (K i).toInt ≠ -1 → i < 200 ∧ V (i + 1)) ∧ ∀ i, V i → i ≤ 200
section CEXP
variable {I I' : IM} {J : JM} {R : RM} {K B M : Nat → Int32} {V : Nat → Prop} {p n i : Nat}
theorem CS.cf {i' n' : Nat} (h : CS K B M V p n I R i) (e : CF p n I I') (h1 : (I' 1 1).toInt = i') (h3 : I' 1 3 = I 1 3) (hv : V i') (h5 : (I' p 5).toInt = n') (hn : n' ≤ i') : CS K B M V p n' I' R i' := by
  obtain ⟨q1, q2, q3, q4, q5, q6, q7, q8, q9, q10, q11⟩ := h
  have hp : p = 7 ∨ p = 62 := q3
  refine ⟨q1, q2, q3, h1, hv, ?_, ?_, h3.trans q8, ?_, h5, hn⟩
  · funext j
    rw [e.1 4 j (by omega) (by omega) (by omega) (by omega) (by omega), q6]
  · funext j
    rw [e.1 5 j (by omega) (by omega) (by omega) (by omega) (by omega), q7]
  · funext j
    rw [e.1 6 j (by omega) (by omega) (by omega) (by omega) (by omega), q9]
theorem v_kindHere (h : CS K B M V p n I R i) {Q : (Int32 × WW) → Prop} (k : Q (K i, mk I J R)) : wl (f_pa_kindHere 1 (mk I J R)) Q := by
  unfold f_pa_kindHere
  refine wl_kb (wn_1_0 h.1 (wn_2_1 h.1 (wl_gI rfl rfl rfl (wl_rI (n := 201) rfl (fun _ => wl_some ?_)))))
  rw [tnat h.2.2.2.1, h.2.2.2.2.2.1]
  exact k
theorem v_need (h : CS K B M V p n I R i) {a1 : Int32} {Q : ((Unit ⊕ String) × WW) → Prop} (k : ¬ a1 = 0 → Q (.inl (), mk I J R)) (kx : a1 = 0 → ∀ I', CF p n I I' → I' 1 3 = B i → Q (.inr "java/lang/IllegalArgumentException", mk I' J R)) : wl (f_pa_need 1 a1 (mk I J R)) Q := by
  have hp : p = 7 ∨ p = 62 := h.2.2.1
  unfold f_pa_need
  refine wl_kb (wl_ite (fun c => wn_1_0 h.1 (wn_2_2 h.1 (wl_gI rfl rfl rfl (wl_rI (n := 201) rfl (fun _ => wl_pI rfl rfl (wl_some (kx c _ ⟨fun x j a1 a2 a3 a4 a5 => up2_ne _ _ (by omega), fun k hk => ⟨up2_nea (by omega), up2_nea (by omega), up2_nea (by omega)⟩⟩ ?_))))))) (fun c => wl_some (k c)))
  rw [up2_s, tnat h.2.2.2.1, h.2.2.2.2.2.2.1]
theorem v_advance (hV : NXT K V) (h : CS K B M V p n I R i) (h0 : (K i).toInt ≠ 0) (h1 : (K i).toInt ≠ -1) {Q : WW → Prop} (k : ∀ I', CF p n I I' → CS K B M V p n I' R (i + 1) → Q (mk I' J R)) : wl (f_pa_advance 1 (mk I J R)) Q := by
  obtain ⟨lt, v⟩ := hV.1 i h.2.2.2.2.1 h0 h1
  have hi := h.2.2.2.1
  have hp : p = 7 ∨ p = 62 := h.2.2.1
  have h11 := h.2.2.2.2.2.2.2.2.2.2
  have x1 : (I 1 1 + 1).toInt = ((i + 1 : Nat) : Int) := by rw [i32addc (by rw [hi, l32_1]; omega), hi, l32_1]; omega
  have e : CF p n I (up2 I 1 1 (I 1 1 + 1)) := ⟨fun x j a1 a2 a3 a4 a5 => up2_ne _ _ (by omega), fun k hk => ⟨up2_nea (by omega), up2_nea (by omega), up2_nea (by omega)⟩⟩
  unfold f_pa_advance f_pa_advance_20
  refine wl_kb (wl_gI rfl rfl rfl (wl_ite (fun c => ?_) (fun c => wl_gI rfl rfl rfl (wl_pI rfl rfl (wl_some (k _ e (h.cf e (by rw [up2_s]; exact x1) (up2_nek (by decide)) v (by rw [up2_nea (by omega)]; exact h.2.2.2.2.2.2.2.2.2.1) (by omega))))))))
  rw [i32le, l32_200, hi] at c
  omega
theorem v_take (hV : NXT K V) (h : CS K B M V p n I R i) {a1 : Int32} (ha : a1.toInt ≠ 0 ∧ a1.toInt ≠ -1) {Q : ((Unit ⊕ String) × WW) → Prop} (k : K i = a1 → ∀ I', CF p n I I' → CS K B M V p n I' R (i + 1) → Q (.inl (), mk I' J R)) (kx : ¬ K i = a1 → ∀ I', CF p n I I' → I' 1 3 = B i → Q (.inr "java/lang/IllegalArgumentException", mk I' J R)) : wl (f_pa_take 1 a1 (mk I J R)) Q := by
  unfold f_pa_take f_pa_take_14
  refine wl_kb (wl_bd2 (v_kindHere h ?_))
  dsimp only
  refine wl_ite (fun c => wl_bdx (v_need h (fun _ => ⟨fun v hv => ?_, fun E hE => (by cases hE)⟩) (fun z => absurd z (by decide)))) (fun c => wl_bdx (v_need h (fun z => absurd rfl z) (fun _ I' e' h3 => ⟨fun v hv => (by cases hv), fun E hE => ?_⟩)))
  · exact wl_bd (v_advance hV h (by rw [c]; exact ha.1) (by rw [c]; exact ha.2) (fun I' e' h' => wl_some (k c I' e' h')))
  · cases hE
    exact kx c I' e' h3
theorem v_addStep (hV : NXT K V) (h : CS K B M V p n I R i) (hni : n < i) {a1 a2 a3 : Int32} {Q : WW → Prop} (k : ∀ I', CF p n I I' → CS K B M V p (n + 1) I' R i → (I' (p + 52) n = a1 ∧ I' (p + 53) n = a2 ∧ I' (p + 54) n = a3) → Q (mk I' J R)) : wl (f_pg_addStep p a1 a2 a3 (mk I J R)) Q := by
  have hx := h.1
  have hp : isP p := h.2.2.1
  have hp' : p = 7 ∨ p = 62 := hp
  have hi2 := hV.2 i h.2.2.2.2.1
  have h5 := h.2.2.2.2.2.2.2.2.2.1
  unfold f_pg_addStep f_pg_addStep_50
  refine wl_kb (wl_gI (isP_lt hp).1 rfl rfl (wl_ite (fun c => ?_) (fun c => ?_)))
  · rw [i32le, l32_200, h5] at c
    omega
  refine wn_P2 hx hp (wl_gI (isP_lt hp).1 rfl rfl (wl_sI (isP_lt hp).2.2.1 (fun _ => ?_)))
  refine wn_P3 hx hp (wl_gI (isP_lt hp).1 rfl (up2_nea (by omega)) (wl_sI (isP_lt hp).2.2.2.1 (fun _ => ?_)))
  refine wn_P4 hx hp (wl_gI (isP_lt hp).1 rfl ((up2_nea (by omega)).trans (up2_nea (by omega))) (wl_sI (isP_lt hp).2.2.2.2 (fun _ => ?_)))
  rw [tnat h5]
  have x5 : (I p 5 + 1).toInt = ((n + 1 : Nat) : Int) := by rw [i32addc (by rw [h5, l32_1]; omega), h5, l32_1]; omega
  refine wl_gI (isP_lt hp).1 rfl ((up2_nea (by omega)).trans ((up2_nea (by omega)).trans (up2_nea (by omega)))) (wl_pI (isP_lt hp).1 rfl (wl_some ?_))
  generalize hI1 : up2 (up2 (up2 (up2 I (p + 52) n a1) (p + 53) n a2) (p + 54) n a3) p 5 (I p 5 + 1) = I1
  have e : CF p n I I1 := by
    refine ⟨fun x j b1 b2 b3 b4 b5 => ?_, fun k hk => ⟨?_, ?_, ?_⟩⟩
    · rw [← hI1, up2_ne _ _ (by omega), up2_ne _ _ (by omega), up2_ne _ _ (by omega), up2_ne _ _ (by omega)]
    · rw [← hI1, up2_ne _ _ (by omega), up2_ne _ _ (by omega), up2_ne _ _ (by omega), up2_ne _ _ (by omega)]
    · rw [← hI1, up2_ne _ _ (by omega), up2_ne _ _ (by omega), up2_ne _ _ (by omega), up2_ne _ _ (by omega)]
    · rw [← hI1, up2_ne _ _ (by omega), up2_ne _ _ (by omega), up2_ne _ _ (by omega), up2_ne _ _ (by omega)]
  have e1 : ∀ j, I1 1 j = I 1 j := fun j => by rw [← hI1, up2_ne _ _ (by omega), up2_ne _ _ (by omega), up2_ne _ _ (by omega), up2_ne _ _ (by omega)]
  refine k I1 e (h.cf e (by rw [e1]; exact h.2.2.2.1) (e1 3) h.2.2.2.2.1 (by rw [← hI1, up2_s]; exact x5) (by omega)) ⟨?_, ?_, ?_⟩
  · rw [← hI1, up2_nea (by omega), up2_nea (by omega), up2_nea (by omega), up2_s]
  · rw [← hI1, up2_nea (by omega), up2_nea (by omega), up2_s]
  · rw [← hI1, up2_nea (by omega), up2_s]
theorem v_max {a b : Int32} {w : WW} {Q : (Int32 × WW) → Prop} (k : Q ((if a < b then b else a), w)) : wl (f_ma_max_II a b w) Q := by
  unfold f_ma_max_II f_ma_max_II_10
  refine wl_ite (fun c => ?_) (fun c => ?_)
  · rw [if_pos c] at k; exact wl_some k
  · rw [if_neg c] at k; exact wl_some k
theorem v_begF {x : Int32} {w : WW} {Q : (Int32 × WW) → Prop} (k1 : (x = 1 ∨ x = 2 ∨ x = 3 ∨ x = 45 ∨ x = 40) → Q (1, w)) (k0 : ¬ (x = 1 ∨ x = 2 ∨ x = 3 ∨ x = 45 ∨ x = 40) → Q (0, w)) : wl (f_pa_beginsFactor x w) Q := by
  unfold f_pa_beginsFactor f_pa_beginsFactor_27 f_pa_beginsFactor_32
  refine wl_ite (fun z => wl_req (fun _ => wl_some (k1 (Or.inl z)))) (fun z1 => wl_ite (fun z => wl_req (fun _ => wl_some (k1 (Or.inr (Or.inl z))))) (fun z2 => wl_ite (fun z => wl_req (fun _ => wl_some (k1 (Or.inr (Or.inr (Or.inl z)))))) (fun z3 => wl_ite (fun z => wl_req (fun _ => wl_some (k1 (Or.inr (Or.inr (Or.inr (Or.inl z))))))) (fun z4 => wl_ite (fun z => wl_req (fun _ => wl_some (k1 (Or.inr (Or.inr (Or.inr (Or.inr z))))))) (fun z5 => wl_req (fun _ => wl_some (k0 ?_)))))))
  intro z
  rcases z with z | z | z | z | z
  · exact z1 z
  · exact z2 z
  · exact z3 z
  · exact z4 z
  · exact z5 z
theorem v_prod {x : Int32} {w : WW} {Q : (Int32 × WW) → Prop} (k1 : isPr x → Q (1, w)) (k0 : ¬ isPr x → Q (0, w)) : wl (f_pa_isProductSign x w) Q := by
  unfold f_pa_isProductSign f_pa_isProductSign_18 f_pa_isProductSign_23
  refine wl_ite (fun z => wl_req (fun _ => wl_some (k1 (Or.inl z)))) (fun z1 => wl_ite (fun z => wl_req (fun _ => wl_some (k1 (Or.inr (Or.inl z))))) (fun z2 => wl_ite (fun z => wl_req (fun _ => wl_some (k1 (Or.inr (Or.inr z))))) (fun z3 => wl_req (fun _ => wl_some (k0 ?_)))))
  intro z
  rcases z with z | z | z
  · exact z1 z
  · exact z2 z
  · exact z3 z
abbrev SpW (K B M : Nat → Int32) (V : Nat → Prop) (tag : Nat) (g : Nat → Int32 → WW → Option ((Int32 ⊕ String) × WW)) : Prop := ∀ {p n i : Nat} {I : IM} {J : JM} {R : RM} {d : Int32} {Q : ((Int32 ⊕ String) × WW) → Prop}, CS K B M V p n I R i → 0 ≤ d.toInt → (∀ (h : Int32) (i' n' : Nat) (I' : IM), (∀ X : RX, AGS X p n' I' → DE X K B M tag d.toInt.toNat 0 i n (.inl (h, i', n'))) → CF p n I I' → CS K B M V p n' I' R i' → i < i' ∧ n ≤ n' ∧ n' + i ≤ n + i' → Q (.inl h, mk I' J R)) → (∀ (E : String) (j : Nat) (I' : IM), (∀ X : RX, AGS X p 200 I' → DE X K B M tag d.toInt.toNat 0 i n (.inr j)) → CF p n I I' → I' 1 3 = B j → Q (.inr E, mk I' J R)) → wl (g 1 d (mk I J R)) Q
theorem v_134 (hV : NXT K V) {gE gT gF : Nat → Int32 → WW → Option ((Int32 ⊕ String) × WW)} (h : CS K B M V p n I R i) (hni : n < i) {y2 y3 y4 y5 : Int32} {Q : ((Int32 ⊕ String) × WW) → Prop} (k : ∀ I', CF p n I I' → CS K B M V p (n + 1) I' R i → (I' (p + 52) n = y2 ∧ I' (p + 53) n = y4 ∧ I' (p + 54) n = y3) → Q (.inl (y5 + 1), mk I' J R)) : wl (f_pa_readFactor_134 gE gT gF 1 y2 y3 y4 y5 (mk I J R)) Q := by
  unfold f_pa_readFactor_134
  exact wl_gR rfl rfl h.2.1.1 (wl_eq rfl (wl_bd (v_addStep hV h hni (fun I' e a s => wl_some (k I' e a s)))))
theorem v_factor (hV : NXT K V) {gE gT gF : Nat → Int32 → WW → Option ((Int32 ⊕ String) × WW)} (He : SpW K B M V 4 gE) (Hf : SpW K B M V 0 gF) : SpW K B M V 0 (fo_pa_readFactor gE gT gF) := by
  intro p n i I J R d Q hc hd k kx
  have hp := hc.2.2.1
  have hni := hc.2.2.2.2.2.2.2.2.2.2
  unfold fo_pa_readFactor f_pa_readFactor_12
  refine wl_kb (wl_ite (fun c => ?_) (fun c => ?_))
  · rw [i32lt, l32_10] at c
    exact wl_bdx (v_need hc (fun z => absurd rfl z) (fun _ I' e' h3 => ⟨fun v hv => (by cases hv), fun E hE => kx E i I' (fun X _ => .fdeep (by omega)) e' h3⟩))
  rw [i32lt, l32_10] at c
  have hd10 : d.toInt.toNat ≤ 10 := by omega
  have d1 : (d + 1).toInt = d.toInt + 1 := by rw [i32addc (by rw [l32_1]; omega), l32_1]
  have d1n : (d + 1).toInt.toNat = d.toInt.toNat + 1 := by omega
  refine wl_bdx (v_need hc (fun _ => ⟨fun v hv => ?_, fun E hE => (by cases hE)⟩) (fun z => absurd z (by decide)))
  refine wl_bd2 (v_kindHere hc ?_)
  dsimp only
  have eB : I 5 (I 1 1).toInt.toNat = B i := by rw [tnat hc.2.2.2.1, hc.2.2.2.2.2.2.1]
  have eM : I 6 (I 1 1).toInt.toNat = M i := by rw [tnat hc.2.2.2.1, hc.2.2.2.2.2.2.2.2.1]
  refine wn_1_0 hc.1 (wn_2_2 hc.1 (wl_gI rfl rfl rfl (wl_rI (n := 201) rfl (fun _ => wn_1_0 hc.1 (wn_2_3 hc.1 (wl_gI rfl rfl rfl (wl_rI (n := 201) rfl (fun _ => ?_))))))))
  rw [eB, eM]
  refine wl_bd2 (v_begF (fun z => ?_) (fun z => ?_))
  · dsimp only
    refine wl_bdx (v_need hc (fun _ => ⟨fun v hv => ?_, fun E hE => (by cases hE)⟩) (fun z => absurd z (by decide)))
    have k0 : (K i).toInt ≠ 0 ∧ (K i).toInt ≠ -1 := by
      rcases z with z | z | z | z | z <;> rw [z] <;> decide
    refine wl_bd (v_advance hV hc k0.1 k0.2 (fun I1 e1 h1 => ?_))
    refine wl_ite (fun cp => ?_) (fun cp => wl_ite (fun ca => ?_) (fun ca => wl_ite (fun cm => ?_) (fun cm => ?_)))
    · refine wl_bdx (He h1 (by omega) (fun h i' n' I2 hD e2 h2 lt => ⟨fun v hv => ?_, fun E hE => (by cases hE)⟩) (fun E j I2 hD e2 h3 => ⟨fun v hv => (by cases hv), fun E' hE => kx E' j I2 (fun X ag => .fparb hd10 cp (by rw [← d1n]; exact hD X ag)) (e1.trans e2) h3⟩))
      cases hv
      rw [d1n] at hD
      have n200 := hV.2 i' h2.2.2.2.2.1
      have nle := h2.2.2.2.2.2.2.2.2.2.2
      refine wl_bdx (v_take hV h2 (by decide) (fun kt I3 e3 h3 => ⟨fun v hv => ?_, fun E hE => (by cases hE)⟩) (fun kt I3 e3 h3 => ⟨fun v hv => (by cases hv), fun E hE => kx E i' I3 (fun X ag => .fparx hd10 cp (hD X (ag.back e3)) kt) (e1.trans (e2.trans e3)) h3⟩))
      exact wl_some (k h (i' + 1) n' I3 (fun X ag => .fpar hd10 cp (hD X (ag.back e3)) kt) (e1.trans (e2.trans e3)) h3 (by omega))
    · refine wl_bdx (v_take hV h1 (by decide) (fun kt I2 e2 h2 => ⟨fun v hv => ?_, fun E hE => (by cases hE)⟩) (fun kt I2 e2 h3 => ⟨fun v hv => (by cases hv), fun E hE => kx E (i + 1) I2 (fun X _ => .farr0 hd10 ca kt) (e1.trans e2) h3⟩))
      refine wl_bdx (He h2 (by omega) (fun h i' n' I3 hD e3 h3 lt => ⟨fun v hv => ?_, fun E hE => (by cases hE)⟩) (fun E j I3 hD e3 h3 => ⟨fun v hv => (by cases hv), fun E' hE => kx E' j I3 (fun X ag => .farrb hd10 ca kt (by rw [← d1n]; exact hD X ag)) (e1.trans (e2.trans e3)) h3⟩))
      cases hv
      rw [d1n] at hD
      have n200 := hV.2 i' h3.2.2.2.2.1
      have nle := h3.2.2.2.2.2.2.2.2.2.2
      refine wl_bdx (v_take hV h3 (by decide) (fun kt2 I4 e4 h4 => ⟨fun v hv => ?_, fun E hE => (by cases hE)⟩) (fun kt2 I4 e4 h4 => ⟨fun v hv => (by cases hv), fun E hE => kx E i' I4 (fun X ag => .farrx hd10 ca kt (hD X (ag.back e4)) kt2) (e1.trans (e2.trans (e3.trans e4))) h4⟩))
      refine v_134 hV h4 (by omega) (fun I5 e5 h5 s5 => k _ _ _ I5 (fun X ag => .farr hd10 ca kt (hD X (ag.back (e4.trans e5))) kt2 (by rw [ca] at s5; exact ag.at s5)) (e1.trans (e2.trans (e3.trans (e4.trans e5)))) h5 (by omega))
    · refine wl_bdx (Hf h1 (by omega) (fun h i' n' I2 hD e2 h2 lt => ⟨fun v hv => ?_, fun E hE => (by cases hE)⟩) (fun E j I2 hD e2 h3 => ⟨fun v hv => (by cases hv), fun E' hE => kx E' j I2 (fun X ag => .fnegb hd10 cm (by rw [← d1n]; exact hD X ag)) (e1.trans e2) h3⟩))
      cases hv
      rw [d1n] at hD
      exact v_134 hV h2 (by omega) (fun I3 e3 h3 s3 => k _ _ _ I3 (fun X ag => .fneg hd10 cm (hD X (ag.back e3)) (ag.at s3)) (e1.trans (e2.trans e3)) h3 (by omega))
    · refine v_134 hV h1 (by omega) (fun I3 e3 h3 s3 => ?_)
      have z1 : (0 : Int32) + 1 = 1 := by decide
      rw [z1]
      refine k _ _ _ I3 (fun X ag => .fleaf hd10 ?_ (ag.at s3)) (e1.trans e3) h3 (by omega)
      rcases z with z | z | z | z | z
      · exact Or.inl z
      · exact Or.inr z
      · exact absurd z ca
      · exact absurd z cm
      · exact absurd z cp
  · dsimp only
    exact wl_bdx (v_need hc (fun z => absurd rfl z) (fun _ I' e' h3 => ⟨fun v hv => (by cases hv), fun E hE => kx E i I' (fun X _ => .fnone hd10 z) e' h3⟩))
theorem v_term_8 (hV : NXT K V) {gE gT gF : Nat → Int32 → WW → Option ((Int32 ⊕ String) × WW)} (Hf : SpW K B M V 0 gF) {d : Int32} (hd : 0 ≤ d.toInt) {Q : ((Int32 ⊕ String) × WW) → Prop} : ∀ (N : Nat) (I : IM) (i n : Nat) (h y3 : Int32), CS K B M V p n I R i → 0 ≤ y3.toInt ∧ y3.toInt ≤ i → (∀ (h' : Int32) (i' n' : Nat) (I' : IM), (∀ X : RX, AGS X p n' I' → DE X K B M 1 d.toInt.toNat h i n (.inl (h', i', n'))) → CF p n I I' → CS K B M V p n' I' R i' → i ≤ i' ∧ n ≤ n' ∧ n' + i ≤ n + i' → Q (.inl h', mk I' J R)) → (∀ (E : String) (j : Nat) (I' : IM), (∀ X : RX, AGS X p 200 I' → DE X K B M 1 d.toInt.toNat h i n (.inr j)) → CF p n I I' → I' 1 3 = B j → Q (.inr E, mk I' J R)) → wl (f_pa_readTerm_8 gE gT gF N 1 d h y3 (mk I J R)) Q := by
  intro N
  induction N with
  | zero => intro I i n h y3 hc hy k kx; exact wl_none
  | succ N ih =>
    intro I i n h y3 hc hy k kx
    have hi2 := hV.2 i hc.2.2.2.2.1
    have hni := hc.2.2.2.2.2.2.2.2.2.2
    have id : CF p n I I := ⟨fun _ _ _ _ _ _ _ => rfl, fun _ _ => ⟨rfl, rfl, rfl⟩⟩
    rw [f_pa_readTerm_8]
    unfold f_pa_readTerm_94 f_pa_readTerm_57
    refine wl_ite (fun c => ?_) (fun c => wl_bd2 (v_kindHere hc ?_))
    · rw [i32le, l32_200] at c
      refine wl_some (k h i n I (fun X _ => .tend (fun z => ?_)) id hc (by omega))
      have k0 : (K i).toInt ≠ 0 ∧ (K i).toInt ≠ -1 := by
        rcases z with z | z | z <;> rw [z] <;> decide
      have := (hV.1 i hc.2.2.2.2.1 k0.1 k0.2).1
      omega
    dsimp only
    refine wl_bd2 (v_prod (fun z => ?_) (fun z => ?_))
    · dsimp only
      rw [if_neg (by decide)]
      have k0 : (K i).toInt ≠ 0 ∧ (K i).toInt ≠ -1 := by
        rcases z with z | z | z <;> rw [z] <;> decide
      refine wl_bd2 (v_kindHere hc ?_)
      dsimp only
      have eB : I 5 (I 1 1).toInt.toNat = B i := by rw [tnat hc.2.2.2.1, hc.2.2.2.2.2.2.1]
      refine wn_1_0 hc.1 (wn_2_2 hc.1 (wl_gI rfl rfl rfl (wl_rI (n := 201) rfl (fun _ => ?_))))
      rw [eB]
      refine wl_ite (fun c16 => ?_) (fun c16 => ?_)
      · exact wl_bdx (v_need hc (fun z => absurd rfl z) (fun _ I' e' h3 => ⟨fun v hv => (by cases hv), fun E hE => kx E i I' (fun X _ => .thigh z c16) e' h3⟩))
      refine wl_bdx (v_need hc (fun _ => ⟨fun v hv => ?_, fun E hE => (by cases hE)⟩) (fun z => absurd z (by decide)))
      refine wl_bd (v_advance hV hc k0.1 k0.2 (fun I1 e1 h1 => ?_))
      refine wl_bdx (Hf h1 hd (fun h2 i' n' I2 hD e2 c2 lt => ⟨fun v hv => ?_, fun E hE => (by cases hE)⟩) (fun E j I2 hD e2 h3 => ⟨fun v hv => (by cases hv), fun E' hE => kx E' j I2 (fun X ag => .tfacb z c16 (hD X ag)) (e1.trans e2) h3⟩))
      cases hv
      refine wl_bd2 (v_max ?_)
      dsimp only
      refine wl_gR rfl rfl c2.2.1.1 (wl_eq rfl (wl_bd (v_addStep hV c2 (by omega) (fun I3 e3 c3 s3 => ?_))))
      have em : (1 : Int32) + (if h < h2 then h2 else h) = mx h h2 := by unfold mx; exact Int32.add_comm _ _
      have hi3 := hV.2 i' c3.2.2.2.2.1
      have nle := c3.2.2.2.2.2.2.2.2.2.2
      rw [em]
      refine ih I3 i' (n' + 1) (mx h h2) (y3 + 1) c3 ?_ (fun h' i2 n2 I' hD' e' hc' le => k h' i2 n2 I' (fun X ag => .tfac z c16 (hD X ((ag.back e').back e3)) ((ag.back e').at s3) (hD' X ag)) (e1.trans (e2.trans (e3.trans e'))) hc' (by omega)) (fun E j I' hD' e' h3 => kx E j I' (fun X ag => .tfac z c16 (hD X ((ag.back e').back e3)) ((ag.back e').at s3) (hD' X ag)) (e1.trans (e2.trans (e3.trans e'))) h3)
      rw [i32addc (by rw [l32_1]; omega), l32_1]; omega
    · dsimp only
      rw [if_pos rfl]
      exact wl_some (k h i n I (fun X _ => .tend z) id hc (by omega))
theorem v_term (hV : NXT K V) {gE gT gF : Nat → Int32 → WW → Option ((Int32 ⊕ String) × WW)} (Hf : SpW K B M V 0 gF) : SpW K B M V 3 (fo_pa_readTerm gE gT gF) := by
  intro p n i I J R d Q hc hd k kx
  unfold fo_pa_readTerm
  refine wl_kb (wl_bdx (Hf hc hd (fun h i' n' I1 hD e1 h1 lt => ⟨fun v hv => ?_, fun E hE => (by cases hE)⟩) (fun E j I2 hD e2 h3 => ⟨fun v hv => (by cases hv), fun E' hE => kx E' j I2 (fun X ag => .termb (hD X ag)) e2 h3⟩)))
  cases hv
  have n200 := hV.2 i' h1.2.2.2.2.1
  have nle := h1.2.2.2.2.2.2.2.2.2.2
  exact v_term_8 hV Hf hd KK I1 i' n' h 0 h1 (by rw [l32_0]; omega) (fun h' i2 n2 I' hD' e' hc' le => k h' i2 n2 I' (fun X ag => .term (hD X (ag.back e')) (hD' X ag)) (e1.trans e') hc' (by omega)) (fun E j I' hD' e' h3 => kx E j I' (fun X ag => .term (hD X (ag.back e')) (hD' X ag)) (e1.trans e') h3)
theorem v_expr_8 (hV : NXT K V) {gE gT gF : Nat → Int32 → WW → Option ((Int32 ⊕ String) × WW)} (Ht : SpW K B M V 3 gT) {d : Int32} (hd : 0 ≤ d.toInt) {Q : ((Int32 ⊕ String) × WW) → Prop} : ∀ (N : Nat) (I : IM) (i n : Nat) (h y3 : Int32), CS K B M V p n I R i → 0 ≤ y3.toInt ∧ y3.toInt ≤ i → (∀ (h' : Int32) (i' n' : Nat) (I' : IM), (∀ X : RX, AGS X p n' I' → DE X K B M 2 d.toInt.toNat h i n (.inl (h', i', n'))) → CF p n I I' → CS K B M V p n' I' R i' → i ≤ i' ∧ n ≤ n' ∧ n' + i ≤ n + i' → Q (.inl h', mk I' J R)) → (∀ (E : String) (j : Nat) (I' : IM), (∀ X : RX, AGS X p 200 I' → DE X K B M 2 d.toInt.toNat h i n (.inr j)) → CF p n I I' → I' 1 3 = B j → Q (.inr E, mk I' J R)) → wl (f_pa_readExpr_8 gE gT gF N 1 d h y3 (mk I J R)) Q := by
  intro N
  induction N with
  | zero => intro I i n h y3 hc hy k kx; exact wl_none
  | succ N ih =>
    intro I i n h y3 hc hy k kx
    have hi2 := hV.2 i hc.2.2.2.2.1
    have hni := hc.2.2.2.2.2.2.2.2.2.2
    have id : CF p n I I := ⟨fun _ _ _ _ _ _ _ => rfl, fun _ _ => ⟨rfl, rfl, rfl⟩⟩
    have h33 : isSm (K i) → wl (f_pa_readExpr_33 gE gT gF (f_pa_readExpr_8 gE gT gF N) 1 d h y3 (mk I J R)) Q := by
      intro z
      have k0 : (K i).toInt ≠ 0 ∧ (K i).toInt ≠ -1 := by
        rcases z with z | z <;> rw [z] <;> decide
      unfold f_pa_readExpr_33 f_pa_readExpr_65
      refine wl_bd2 (v_kindHere hc ?_)
      dsimp only
      have eB : I 5 (I 1 1).toInt.toNat = B i := by rw [tnat hc.2.2.2.1, hc.2.2.2.2.2.2.1]
      refine wn_1_0 hc.1 (wn_2_2 hc.1 (wl_gI rfl rfl rfl (wl_rI (n := 201) rfl (fun _ => ?_))))
      rw [eB]
      refine wl_ite (fun c16 => ?_) (fun c16 => ?_)
      · exact wl_bdx (v_need hc (fun z => absurd rfl z) (fun _ I' e' h3 => ⟨fun v hv => (by cases hv), fun E hE => kx E i I' (fun X _ => .ehigh z c16) e' h3⟩))
      refine wl_bdx (v_need hc (fun _ => ⟨fun v hv => ?_, fun E hE => (by cases hE)⟩) (fun z => absurd z (by decide)))
      refine wl_bd (v_advance hV hc k0.1 k0.2 (fun I1 e1 h1 => ?_))
      refine wl_bdx (Ht h1 hd (fun h2 i' n' I2 hD e2 c2 lt => ⟨fun v hv => ?_, fun E hE => (by cases hE)⟩) (fun E j I2 hD e2 h3 => ⟨fun v hv => (by cases hv), fun E' hE => kx E' j I2 (fun X ag => .etermb z c16 (hD X ag)) (e1.trans e2) h3⟩))
      cases hv
      refine wl_bd2 (v_max ?_)
      dsimp only
      refine wl_gR rfl rfl c2.2.1.1 (wl_eq rfl (wl_bd (v_addStep hV c2 (by omega) (fun I3 e3 c3 s3 => ?_))))
      have em : (1 : Int32) + (if h < h2 then h2 else h) = mx h h2 := by unfold mx; exact Int32.add_comm _ _
      have hi3 := hV.2 i' c3.2.2.2.2.1
      have nle := c3.2.2.2.2.2.2.2.2.2.2
      rw [em]
      refine ih I3 i' (n' + 1) (mx h h2) (y3 + 1) c3 ?_ (fun h' i2 n2 I' hD' e' hc' le => k h' i2 n2 I' (fun X ag => .eterm z c16 (hD X ((ag.back e').back e3)) ((ag.back e').at s3) (hD' X ag)) (e1.trans (e2.trans (e3.trans e'))) hc' (by omega)) (fun E j I' hD' e' h3 => kx E j I' (fun X ag => .eterm z c16 (hD X ((ag.back e').back e3)) ((ag.back e').at s3) (hD' X ag)) (e1.trans (e2.trans (e3.trans e'))) h3)
      rw [i32addc (by rw [l32_1]; omega), l32_1]; omega
    rw [f_pa_readExpr_8]
    unfold f_pa_readExpr_102
    refine wl_ite (fun c => ?_) (fun c => wl_bd2 (v_kindHere hc ?_))
    · rw [i32le, l32_200] at c
      refine wl_some (k h i n I (fun X _ => .eend (fun z => ?_)) id hc (by omega))
      have k0 : (K i).toInt ≠ 0 ∧ (K i).toInt ≠ -1 := by
        rcases z with z | z <;> rw [z] <;> decide
      have := (hV.1 i hc.2.2.2.2.1 k0.1 k0.2).1
      omega
    dsimp only
    refine wl_ite (fun z => h33 (Or.inl z)) (fun z1 => wl_bd2 (v_kindHere hc ?_))
    dsimp only
    refine wl_ite (fun z => h33 (Or.inr z)) (fun z2 => wl_some (k h i n I (fun X _ => .eend (fun z => ?_)) id hc (by omega)))
    rcases z with z | z
    · exact z1 z
    · exact z2 z
theorem v_expr (hV : NXT K V) {gE gT gF : Nat → Int32 → WW → Option ((Int32 ⊕ String) × WW)} (Ht : SpW K B M V 3 gT) : SpW K B M V 4 (fo_pa_readExpr gE gT gF) := by
  intro p n i I J R d Q hc hd k kx
  unfold fo_pa_readExpr
  refine wl_kb (wl_bdx (Ht hc hd (fun h i' n' I1 hD e1 h1 lt => ⟨fun v hv => ?_, fun E hE => (by cases hE)⟩) (fun E j I2 hD e2 h3 => ⟨fun v hv => (by cases hv), fun E' hE => kx E' j I2 (fun X ag => .exprb (hD X ag)) e2 h3⟩)))
  cases hv
  have n200 := hV.2 i' h1.2.2.2.2.1
  have nle := h1.2.2.2.2.2.2.2.2.2.2
  exact v_expr_8 hV Ht hd KK I1 i' n' h 0 h1 (by rw [l32_0]; omega) (fun h' i2 n2 I' hD' e' hc' le => k h' i2 n2 I' (fun X ag => .expr (hD X (ag.back e')) (hD' X ag)) (e1.trans e') hc' (by omega)) (fun E j I' hD' e' h3 => kx E j I' (fun X ag => .expr (hD X (ag.back e')) (hD' X ag)) (e1.trans e') h3)
theorem v_pa3 (hV : NXT K V) : ∀ e : Nat, SpW K B M V 4 (sc_pa3 e).1 ∧ SpW K B M V 3 (sc_pa3 e).2.1 ∧ SpW K B M V 0 (sc_pa3 e).2.2 := by
  intro e
  induction e with
  | zero =>
    refine ⟨?_, ?_, ?_⟩
    · intro p n i I J R d Q hc hd k kx; exact wl_none
    · intro p n i I J R d Q hc hd k kx; exact wl_none
    · intro p n i I J R d Q hc hd k kx; exact wl_none
  | succ e ih => exact ⟨v_expr hV ih.2.1, v_term hV ih.2.2, v_factor hV ih.1 ih.2.2⟩
theorem v_readExpr (hV : NXT K V) (hc : CS K B M V p n I R i) {Q : ((Int32 ⊕ String) × WW) → Prop} (k : ∀ (h : Int32) (i' n' : Nat) (I' : IM), (∀ X : RX, AGS X p n' I' → DE X K B M 4 0 0 i n (.inl (h, i', n'))) → CF p n I I' → CS K B M V p n' I' R i' → i < i' ∧ n ≤ n' ∧ n' + i ≤ n + i' → Q (.inl h, mk I' J R)) (kx : ∀ (E : String) (j : Nat) (I' : IM), (∀ X : RX, AGS X p 200 I' → DE X K B M 4 0 0 i n (.inr j)) → CF p n I I' → I' 1 3 = B j → Q (.inr E, mk I' J R)) : wl (f_pa_readExpr 64 1 0 (mk I J R)) Q := by
  unfold f_pa_readExpr
  exact (v_pa3 hV 64).1 hc (by decide) k kx
end CEXP
