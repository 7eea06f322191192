/-! Programs run: the rules, and the class follows them. -/
def cmpv (c x y : Int32) : Bool := if c = 60 then !(decide (y ≤ x)) else if c = 256 then decide (x = y) else if c = 257 then !(decide (x = y)) else !(decide (y < x))
def upn (f : Nat → Int32) (i : Nat) (v : Int32) : Nat → Int32 := fun j => if j = i then v else f j
theorem up2_row {f : IM} {a i : Nat} {v : Int32} : up2 f a i v a = upn (f a) i v := by
  funext j
  unfold upn
  by_cases z : j = i
  · rw [if_pos z, z, up2_s]
  · rw [if_neg z, up2_nek z]
/-- what a program has at work: VARIABLES, which are UNSET, CELLS, how many STATEMENTS begun, how many INPUTS taken -/
abbrev SGM : Type := (Nat → Int32) × (Nat → Int32) × (Nat → Int32) × (Nat) × (Nat)
abbrev SGM.V (X : SGM) : Nat → Int32 := X.1
abbrev SGM.U (X : SGM) : Nat → Int32 := X.2.1
abbrev SGM.C (X : SGM) : Nat → Int32 := X.2.2.1
abbrev SGM.bg (X : SGM) : Nat := X.2.2.2.1
abbrev SGM.tk (X : SGM) : Nat := X.2.2.2.2
/-- what comes of STATEMENTS: they are done, the run is stopped, an error -/
abbrev RRs : Type := SGM ⊕ (SGM ⊕ (SGM × Int32))
abbrev RX.f (X : RX) (y k : Nat) : Nat := (X.F y k).toInt.toNat
/-- a COND: whether it holds, or an error -/
def HLD (X : RX) (V U C : Nat → Int32) (y : Nat) (r : Bool ⊕ Int32) : Prop := (∃ (S : Nat → Int32) (z : Int32), EV X V U C (X.f y 3) (X.f y 4) 0 S (.inr z) ∧ r = .inr z) ∨ (∃ (S S1 S' : Nat → Int32) (z : Int32), EV X V U C (X.f y 3) (X.f y 4) 0 S (.inl S1) ∧ EV X V U C (X.f y 4) (X.f y 5) 1 S' (.inr z) ∧ r = .inr z) ∨ (∃ (S S1 S' S2 : Nat → Int32), EV X V U C (X.f y 3) (X.f y 4) 0 S (.inl S1) ∧ EV X V U C (X.f y 4) (X.f y 5) 1 S' (.inl S2) ∧ r = .inl (cmpv (X.F y 6) (S1 0) (S2 1)))
theorem HLD.e1 {X : RX} {V U C : Nat → Int32} {y : Nat} {S : Nat → Int32} {z : Int32} (h : EV X V U C (X.f y 3) (X.f y 4) 0 S (.inr z)) : HLD X V U C y (.inr z) := Or.inl ⟨S, z, h, rfl⟩
theorem HLD.e2 {X : RX} {V U C : Nat → Int32} {y : Nat} {S S1 S' : Nat → Int32} {z : Int32} (h : EV X V U C (X.f y 3) (X.f y 4) 0 S (.inl S1)) (h2 : EV X V U C (X.f y 4) (X.f y 5) 1 S' (.inr z)) : HLD X V U C y (.inr z) := Or.inr (Or.inl ⟨S, S1, S', z, h, h2, rfl⟩)
theorem HLD.ok {X : RX} {V U C : Nat → Int32} {y : Nat} {S S1 S' S2 : Nat → Int32} (h : EV X V U C (X.f y 3) (X.f y 4) 0 S (.inl S1)) (h2 : EV X V U C (X.f y 4) (X.f y 5) 1 S' (.inl S2)) : HLD X V U C y (.inl (cmpv (X.F y 6) (S1 0) (S2 1))) := Or.inr (Or.inr ⟨S, S1, S', S2, h, h2, rfl⟩)
def RRs.isGo : RRs → Prop
  | .inl _ => True
  | .inr _ => False
def SGM.b1 (s : SGM) : SGM := ⟨s.V, s.U, s.C, s.bg + 1, s.tk⟩
/-- 0 STATEMENTS from the one at hand on, 1 a STATEMENT that has begun, 2 a while whose COND is at hand -/
def DRC (X : RX) (lim ic : Nat) (inp : Nat → Int32) (Pz : Nat → Option Nat → SGM → RRs → Prop) : Prop :=
  (∀ (s : SGM), Pz 0 none s (.inl s)) ∧
  (∀ (y : Nat) (s : SGM), ¬ s.bg < lim → Pz 0 (some y) s (.inr (.inl s))) ∧
  (∀ (y : Nat) (s s' : SGM) (r : RRs), s.bg < lim → Pz 1 (some y) s.b1 (.inl s') → Pz 0 (X.N y 9) s' r → Pz 0 (some y) s r) ∧
  (∀ (y : Nat) (s : SGM) (r : RRs), s.bg < lim → Pz 1 (some y) s.b1 r → ¬ RRs.isGo r → Pz 0 (some y) s r) ∧
  (∀ (y : Nat) (s : SGM) (S S1 : Nat → Int32), X.F y 0 = 2 → EV X s.V s.U s.C (X.f y 3) (X.f y 5) 0 S (.inl S1) → Pz 1 (some y) s (.inl ⟨upn s.V (X.f y 2) (S1 0), upn s.U (X.f y 2) 0, s.C, s.bg, s.tk⟩)) ∧
  (∀ (y : Nat) (s : SGM) (S : Nat → Int32) (z : Int32), X.F y 0 = 2 → EV X s.V s.U s.C (X.f y 3) (X.f y 5) 0 S (.inr z) → Pz 1 (some y) s (.inr (.inr (s, z)))) ∧
  (∀ (y : Nat) (s : SGM), X.F y 0 = 8 → s.tk < ic → Pz 1 (some y) s (.inl ⟨upn s.V (X.f y 2) (inp s.tk), upn s.U (X.f y 2) 0, s.C, s.bg, s.tk + 1⟩)) ∧
  (∀ (y : Nat) (s : SGM), X.F y 0 = 8 → ¬ s.tk < ic → Pz 1 (some y) s (.inl ⟨upn s.V (X.f y 2) 0, upn s.U (X.f y 2) 0, s.C, s.bg, s.tk⟩)) ∧
  (∀ (y : Nat) (s : SGM) (S : Nat → Int32) (z : Int32), X.F y 0 = 3 → EV X s.V s.U s.C (X.f y 3) (X.f y 4) 0 S (.inr z) → Pz 1 (some y) s (.inr (.inr (s, z)))) ∧
  (∀ (y : Nat) (s : SGM) (S S1 : Nat → Int32), X.F y 0 = 3 → EV X s.V s.U s.C (X.f y 3) (X.f y 4) 0 S (.inl S1) → ¬ (0 ≤ (S1 0).toInt ∧ (S1 0).toInt < 4) → Pz 1 (some y) s (.inr (.inr (s, (1024 : Int32) * 2 + X.F y 1)))) ∧
  (∀ (y : Nat) (s : SGM) (S S1 S' : Nat → Int32) (z : Int32), X.F y 0 = 3 → EV X s.V s.U s.C (X.f y 3) (X.f y 4) 0 S (.inl S1) → 0 ≤ (S1 0).toInt ∧ (S1 0).toInt < 4 → EV X s.V s.U s.C (X.f y 4) (X.f y 5) 0 S' (.inr z) → Pz 1 (some y) s (.inr (.inr (s, z)))) ∧
  (∀ (y : Nat) (s : SGM) (S S1 S' S2 : Nat → Int32), X.F y 0 = 3 → EV X s.V s.U s.C (X.f y 3) (X.f y 4) 0 S (.inl S1) → 0 ≤ (S1 0).toInt ∧ (S1 0).toInt < 4 → EV X s.V s.U s.C (X.f y 4) (X.f y 5) 0 S' (.inl S2) → Pz 1 (some y) s (.inl ⟨s.V, s.U, upn s.C (X.F y 2 + S1 0).toInt.toNat (S2 0), s.bg, s.tk⟩)) ∧
  (∀ (y : Nat) (s : SGM) (z : Int32), X.F y 0 = 4 → HLD X s.V s.U s.C y (.inr z) → Pz 1 (some y) s (.inr (.inr (s, z)))) ∧
  (∀ (y : Nat) (s : SGM) (r : RRs), X.F y 0 = 4 → HLD X s.V s.U s.C y (.inl true) → Pz 0 (X.N y 7) s r → Pz 1 (some y) s r) ∧
  (∀ (y : Nat) (s : SGM) (r : RRs), X.F y 0 = 4 → HLD X s.V s.U s.C y (.inl false) → Pz 0 (X.N y 8) s r → Pz 1 (some y) s r) ∧
  (∀ (y : Nat) (s : SGM) (r : RRs), X.F y 0 = 6 → Pz 2 (some y) s r → Pz 1 (some y) s r) ∧
  (∀ (y : Nat) (s : SGM) (z : Int32), X.F y 0 = 7 → HLD X s.V s.U s.C y (.inr z) → Pz 1 (some y) s (.inr (.inr (s, z)))) ∧
  (∀ (y : Nat) (s : SGM), X.F y 0 = 7 → HLD X s.V s.U s.C y (.inl true) → Pz 1 (some y) s (.inl s)) ∧
  (∀ (y : Nat) (s : SGM), X.F y 0 = 7 → HLD X s.V s.U s.C y (.inl false) → Pz 1 (some y) s (.inr (.inr (s, (1024 : Int32) * 5 + X.F y 1)))) ∧
  (∀ (y : Nat) (s : SGM) (z : Int32), HLD X s.V s.U s.C y (.inr z) → Pz 2 (some y) s (.inr (.inr (s, z)))) ∧
  (∀ (y : Nat) (s : SGM), HLD X s.V s.U s.C y (.inl false) → Pz 2 (some y) s (.inl s)) ∧
  (∀ (y : Nat) (s : SGM) (r : RRs), HLD X s.V s.U s.C y (.inl true) → Pz 0 (X.N y 7) s r → ¬ RRs.isGo r → Pz 2 (some y) s r) ∧
  (∀ (y : Nat) (s s' : SGM), HLD X s.V s.U s.C y (.inl true) → Pz 0 (X.N y 7) s (.inl s') → ¬ s'.bg < lim → Pz 2 (some y) s (.inr (.inl s'))) ∧
  (∀ (y : Nat) (s s' : SGM) (r : RRs), HLD X s.V s.U s.C y (.inl true) → Pz 0 (X.N y 7) s (.inl s') → s'.bg < lim → Pz 2 (some y) s'.b1 r → Pz 2 (some y) s r)
def DR (X : RX) (lim ic : Nat) (inp : Nat → Int32) (x1 : Nat) (x2 : Option Nat) (x3 : SGM) (x4 : RRs) : Prop := ∀ Pz : Nat → Option Nat → SGM → RRs → Prop, DRC X lim ic inp Pz → Pz x1 x2 x3 x4
theorem DR.nil {X : RX} {lim ic : Nat} {inp : Nat → Int32} {s : SGM} : DR X lim ic inp 0 none s (.inl s) := fun Pz cz => cz.1 _
theorem DR.lstop {X : RX} {lim ic : Nat} {inp : Nat → Int32} {y : Nat} {s : SGM} (a1 : ¬ s.bg < lim) : DR X lim ic inp 0 (some y) s (.inr (.inl s)) := fun Pz cz => cz.2.1 _ _ a1
theorem DR.lone {X : RX} {lim ic : Nat} {inp : Nat → Int32} {y : Nat} {s s' : SGM} {r : RRs} (a1 : s.bg < lim) (a2 : DR X lim ic inp 1 (some y) s.b1 (.inl s')) (a3 : DR X lim ic inp 0 (X.N y 9) s' r) : DR X lim ic inp 0 (some y) s r := fun Pz cz => cz.2.2.1 _ _ _ _ a1 (a2 Pz cz) (a3 Pz cz)
theorem DR.lend {X : RX} {lim ic : Nat} {inp : Nat → Int32} {y : Nat} {s : SGM} {r : RRs} (a1 : s.bg < lim) (a2 : DR X lim ic inp 1 (some y) s.b1 r) (a3 : ¬ RRs.isGo r) : DR X lim ic inp 0 (some y) s r := fun Pz cz => cz.2.2.2.1 _ _ _ a1 (a2 Pz cz) a3
theorem DR.asg {X : RX} {lim ic : Nat} {inp : Nat → Int32} {y : Nat} {s : SGM} {S S1 : Nat → Int32} (a1 : X.F y 0 = 2) (a2 : EV X s.V s.U s.C (X.f y 3) (X.f y 5) 0 S (.inl S1)) : DR X lim ic inp 1 (some y) s (.inl ⟨upn s.V (X.f y 2) (S1 0), upn s.U (X.f y 2) 0, s.C, s.bg, s.tk⟩) := fun Pz cz => cz.2.2.2.2.1 _ _ _ _ a1 a2
theorem DR.asge {X : RX} {lim ic : Nat} {inp : Nat → Int32} {y : Nat} {s : SGM} {S : Nat → Int32} {z : Int32} (a1 : X.F y 0 = 2) (a2 : EV X s.V s.U s.C (X.f y 3) (X.f y 5) 0 S (.inr z)) : DR X lim ic inp 1 (some y) s (.inr (.inr (s, z))) := fun Pz cz => cz.2.2.2.2.2.1 _ _ _ _ a1 a2
theorem DR.inp1 {X : RX} {lim ic : Nat} {inp : Nat → Int32} {y : Nat} {s : SGM} (a1 : X.F y 0 = 8) (a2 : s.tk < ic) : DR X lim ic inp 1 (some y) s (.inl ⟨upn s.V (X.f y 2) (inp s.tk), upn s.U (X.f y 2) 0, s.C, s.bg, s.tk + 1⟩) := fun Pz cz => cz.2.2.2.2.2.2.1 _ _ a1 a2
theorem DR.inp0 {X : RX} {lim ic : Nat} {inp : Nat → Int32} {y : Nat} {s : SGM} (a1 : X.F y 0 = 8) (a2 : ¬ s.tk < ic) : DR X lim ic inp 1 (some y) s (.inl ⟨upn s.V (X.f y 2) 0, upn s.U (X.f y 2) 0, s.C, s.bg, s.tk⟩) := fun Pz cz => cz.2.2.2.2.2.2.2.1 _ _ a1 a2
theorem DR.sto1 {X : RX} {lim ic : Nat} {inp : Nat → Int32} {y : Nat} {s : SGM} {S : Nat → Int32} {z : Int32} (a1 : X.F y 0 = 3) (a2 : EV X s.V s.U s.C (X.f y 3) (X.f y 4) 0 S (.inr z)) : DR X lim ic inp 1 (some y) s (.inr (.inr (s, z))) := fun Pz cz => cz.2.2.2.2.2.2.2.2.1 _ _ _ _ a1 a2
theorem DR.sto2 {X : RX} {lim ic : Nat} {inp : Nat → Int32} {y : Nat} {s : SGM} {S S1 : Nat → Int32} (a1 : X.F y 0 = 3) (a2 : EV X s.V s.U s.C (X.f y 3) (X.f y 4) 0 S (.inl S1)) (a3 : ¬ (0 ≤ (S1 0).toInt ∧ (S1 0).toInt < 4)) : DR X lim ic inp 1 (some y) s (.inr (.inr (s, (1024 : Int32) * 2 + X.F y 1))) := fun Pz cz => cz.2.2.2.2.2.2.2.2.2.1 _ _ _ _ a1 a2 a3
theorem DR.sto3 {X : RX} {lim ic : Nat} {inp : Nat → Int32} {y : Nat} {s : SGM} {S S1 S' : Nat → Int32} {z : Int32} (a1 : X.F y 0 = 3) (a2 : EV X s.V s.U s.C (X.f y 3) (X.f y 4) 0 S (.inl S1)) (a3 : 0 ≤ (S1 0).toInt ∧ (S1 0).toInt < 4) (a4 : EV X s.V s.U s.C (X.f y 4) (X.f y 5) 0 S' (.inr z)) : DR X lim ic inp 1 (some y) s (.inr (.inr (s, z))) := fun Pz cz => cz.2.2.2.2.2.2.2.2.2.2.1 _ _ _ _ _ _ a1 a2 a3 a4
theorem DR.sto {X : RX} {lim ic : Nat} {inp : Nat → Int32} {y : Nat} {s : SGM} {S S1 S' S2 : Nat → Int32} (a1 : X.F y 0 = 3) (a2 : EV X s.V s.U s.C (X.f y 3) (X.f y 4) 0 S (.inl S1)) (a3 : 0 ≤ (S1 0).toInt ∧ (S1 0).toInt < 4) (a4 : EV X s.V s.U s.C (X.f y 4) (X.f y 5) 0 S' (.inl S2)) : DR X lim ic inp 1 (some y) s (.inl ⟨s.V, s.U, upn s.C (X.F y 2 + S1 0).toInt.toNat (S2 0), s.bg, s.tk⟩) := fun Pz cz => cz.2.2.2.2.2.2.2.2.2.2.2.1 _ _ _ _ _ _ a1 a2 a3 a4
theorem DR.ife {X : RX} {lim ic : Nat} {inp : Nat → Int32} {y : Nat} {s : SGM} {z : Int32} (a1 : X.F y 0 = 4) (a2 : HLD X s.V s.U s.C y (.inr z)) : DR X lim ic inp 1 (some y) s (.inr (.inr (s, z))) := fun Pz cz => cz.2.2.2.2.2.2.2.2.2.2.2.2.1 _ _ _ a1 a2
theorem DR.ift {X : RX} {lim ic : Nat} {inp : Nat → Int32} {y : Nat} {s : SGM} {r : RRs} (a1 : X.F y 0 = 4) (a2 : HLD X s.V s.U s.C y (.inl true)) (a3 : DR X lim ic inp 0 (X.N y 7) s r) : DR X lim ic inp 1 (some y) s r := fun Pz cz => cz.2.2.2.2.2.2.2.2.2.2.2.2.2.1 _ _ _ a1 a2 (a3 Pz cz)
theorem DR.iff {X : RX} {lim ic : Nat} {inp : Nat → Int32} {y : Nat} {s : SGM} {r : RRs} (a1 : X.F y 0 = 4) (a2 : HLD X s.V s.U s.C y (.inl false)) (a3 : DR X lim ic inp 0 (X.N y 8) s r) : DR X lim ic inp 1 (some y) s r := fun Pz cz => cz.2.2.2.2.2.2.2.2.2.2.2.2.2.2.1 _ _ _ a1 a2 (a3 Pz cz)
theorem DR.whl {X : RX} {lim ic : Nat} {inp : Nat → Int32} {y : Nat} {s : SGM} {r : RRs} (a1 : X.F y 0 = 6) (a2 : DR X lim ic inp 2 (some y) s r) : DR X lim ic inp 1 (some y) s r := fun Pz cz => cz.2.2.2.2.2.2.2.2.2.2.2.2.2.2.2.1 _ _ _ a1 (a2 Pz cz)
theorem DR.asre {X : RX} {lim ic : Nat} {inp : Nat → Int32} {y : Nat} {s : SGM} {z : Int32} (a1 : X.F y 0 = 7) (a2 : HLD X s.V s.U s.C y (.inr z)) : DR X lim ic inp 1 (some y) s (.inr (.inr (s, z))) := fun Pz cz => cz.2.2.2.2.2.2.2.2.2.2.2.2.2.2.2.2.1 _ _ _ a1 a2
theorem DR.asr1 {X : RX} {lim ic : Nat} {inp : Nat → Int32} {y : Nat} {s : SGM} (a1 : X.F y 0 = 7) (a2 : HLD X s.V s.U s.C y (.inl true)) : DR X lim ic inp 1 (some y) s (.inl s) := fun Pz cz => cz.2.2.2.2.2.2.2.2.2.2.2.2.2.2.2.2.2.1 _ _ a1 a2
theorem DR.asr0 {X : RX} {lim ic : Nat} {inp : Nat → Int32} {y : Nat} {s : SGM} (a1 : X.F y 0 = 7) (a2 : HLD X s.V s.U s.C y (.inl false)) : DR X lim ic inp 1 (some y) s (.inr (.inr (s, (1024 : Int32) * 5 + X.F y 1))) := fun Pz cz => cz.2.2.2.2.2.2.2.2.2.2.2.2.2.2.2.2.2.2.1 _ _ a1 a2
theorem DR.werr {X : RX} {lim ic : Nat} {inp : Nat → Int32} {y : Nat} {s : SGM} {z : Int32} (a1 : HLD X s.V s.U s.C y (.inr z)) : DR X lim ic inp 2 (some y) s (.inr (.inr (s, z))) := fun Pz cz => cz.2.2.2.2.2.2.2.2.2.2.2.2.2.2.2.2.2.2.2.1 _ _ _ a1
theorem DR.wend {X : RX} {lim ic : Nat} {inp : Nat → Int32} {y : Nat} {s : SGM} (a1 : HLD X s.V s.U s.C y (.inl false)) : DR X lim ic inp 2 (some y) s (.inl s) := fun Pz cz => cz.2.2.2.2.2.2.2.2.2.2.2.2.2.2.2.2.2.2.2.2.1 _ _ a1
theorem DR.wbad {X : RX} {lim ic : Nat} {inp : Nat → Int32} {y : Nat} {s : SGM} {r : RRs} (a1 : HLD X s.V s.U s.C y (.inl true)) (a2 : DR X lim ic inp 0 (X.N y 7) s r) (a3 : ¬ RRs.isGo r) : DR X lim ic inp 2 (some y) s r := fun Pz cz => cz.2.2.2.2.2.2.2.2.2.2.2.2.2.2.2.2.2.2.2.2.2.1 _ _ _ a1 (a2 Pz cz) a3
theorem DR.wstop {X : RX} {lim ic : Nat} {inp : Nat → Int32} {y : Nat} {s s' : SGM} (a1 : HLD X s.V s.U s.C y (.inl true)) (a2 : DR X lim ic inp 0 (X.N y 7) s (.inl s')) (a3 : ¬ s'.bg < lim) : DR X lim ic inp 2 (some y) s (.inr (.inl s')) := fun Pz cz => cz.2.2.2.2.2.2.2.2.2.2.2.2.2.2.2.2.2.2.2.2.2.2.1 _ _ _ a1 (a2 Pz cz) a3
theorem DR.wmore {X : RX} {lim ic : Nat} {inp : Nat → Int32} {y : Nat} {s s' : SGM} {r : RRs} (a1 : HLD X s.V s.U s.C y (.inl true)) (a2 : DR X lim ic inp 0 (X.N y 7) s (.inl s')) (a3 : s'.bg < lim) (a4 : DR X lim ic inp 2 (some y) s'.b1 r) : DR X lim ic inp 2 (some y) s r := fun Pz cz => cz.2.2.2.2.2.2.2.2.2.2.2.2.2.2.2.2.2.2.2.2.2.2.2 _ _ _ _ a1 (a2 Pz cz) a3 (a4 Pz cz)
theorem DR.ind {X : RX} {lim ic : Nat} {inp : Nat → Int32} {W : Nat → Option Nat → SGM → RRs → Prop} (nil : ∀ (s : SGM), W 0 none s (.inl s)) (lstop : ∀ (y : Nat) (s : SGM), ¬ s.bg < lim → W 0 (some y) s (.inr (.inl s))) (lone : ∀ (y : Nat) (s s' : SGM) (r : RRs), s.bg < lim → DR X lim ic inp 1 (some y) s.b1 (.inl s') → DR X lim ic inp 0 (X.N y 9) s' r → W 1 (some y) s.b1 (.inl s') → W 0 (X.N y 9) s' r → W 0 (some y) s r) (lend : ∀ (y : Nat) (s : SGM) (r : RRs), s.bg < lim → DR X lim ic inp 1 (some y) s.b1 r → ¬ RRs.isGo r → W 1 (some y) s.b1 r → W 0 (some y) s r) (asg : ∀ (y : Nat) (s : SGM) (S S1 : Nat → Int32), X.F y 0 = 2 → EV X s.V s.U s.C (X.f y 3) (X.f y 5) 0 S (.inl S1) → W 1 (some y) s (.inl ⟨upn s.V (X.f y 2) (S1 0), upn s.U (X.f y 2) 0, s.C, s.bg, s.tk⟩)) (asge : ∀ (y : Nat) (s : SGM) (S : Nat → Int32) (z : Int32), X.F y 0 = 2 → EV X s.V s.U s.C (X.f y 3) (X.f y 5) 0 S (.inr z) → W 1 (some y) s (.inr (.inr (s, z)))) (inp1 : ∀ (y : Nat) (s : SGM), X.F y 0 = 8 → s.tk < ic → W 1 (some y) s (.inl ⟨upn s.V (X.f y 2) (inp s.tk), upn s.U (X.f y 2) 0, s.C, s.bg, s.tk + 1⟩)) (inp0 : ∀ (y : Nat) (s : SGM), X.F y 0 = 8 → ¬ s.tk < ic → W 1 (some y) s (.inl ⟨upn s.V (X.f y 2) 0, upn s.U (X.f y 2) 0, s.C, s.bg, s.tk⟩)) (sto1 : ∀ (y : Nat) (s : SGM) (S : Nat → Int32) (z : Int32), X.F y 0 = 3 → EV X s.V s.U s.C (X.f y 3) (X.f y 4) 0 S (.inr z) → W 1 (some y) s (.inr (.inr (s, z)))) (sto2 : ∀ (y : Nat) (s : SGM) (S S1 : Nat → Int32), X.F y 0 = 3 → EV X s.V s.U s.C (X.f y 3) (X.f y 4) 0 S (.inl S1) → ¬ (0 ≤ (S1 0).toInt ∧ (S1 0).toInt < 4) → W 1 (some y) s (.inr (.inr (s, (1024 : Int32) * 2 + X.F y 1)))) (sto3 : ∀ (y : Nat) (s : SGM) (S S1 S' : Nat → Int32) (z : Int32), X.F y 0 = 3 → EV X s.V s.U s.C (X.f y 3) (X.f y 4) 0 S (.inl S1) → 0 ≤ (S1 0).toInt ∧ (S1 0).toInt < 4 → EV X s.V s.U s.C (X.f y 4) (X.f y 5) 0 S' (.inr z) → W 1 (some y) s (.inr (.inr (s, z)))) (sto : ∀ (y : Nat) (s : SGM) (S S1 S' S2 : Nat → Int32), X.F y 0 = 3 → EV X s.V s.U s.C (X.f y 3) (X.f y 4) 0 S (.inl S1) → 0 ≤ (S1 0).toInt ∧ (S1 0).toInt < 4 → EV X s.V s.U s.C (X.f y 4) (X.f y 5) 0 S' (.inl S2) → W 1 (some y) s (.inl ⟨s.V, s.U, upn s.C (X.F y 2 + S1 0).toInt.toNat (S2 0), s.bg, s.tk⟩)) (ife : ∀ (y : Nat) (s : SGM) (z : Int32), X.F y 0 = 4 → HLD X s.V s.U s.C y (.inr z) → W 1 (some y) s (.inr (.inr (s, z)))) (ift : ∀ (y : Nat) (s : SGM) (r : RRs), X.F y 0 = 4 → HLD X s.V s.U s.C y (.inl true) → DR X lim ic inp 0 (X.N y 7) s r → W 0 (X.N y 7) s r → W 1 (some y) s r) (iff : ∀ (y : Nat) (s : SGM) (r : RRs), X.F y 0 = 4 → HLD X s.V s.U s.C y (.inl false) → DR X lim ic inp 0 (X.N y 8) s r → W 0 (X.N y 8) s r → W 1 (some y) s r) (whl : ∀ (y : Nat) (s : SGM) (r : RRs), X.F y 0 = 6 → DR X lim ic inp 2 (some y) s r → W 2 (some y) s r → W 1 (some y) s r) (asre : ∀ (y : Nat) (s : SGM) (z : Int32), X.F y 0 = 7 → HLD X s.V s.U s.C y (.inr z) → W 1 (some y) s (.inr (.inr (s, z)))) (asr1 : ∀ (y : Nat) (s : SGM), X.F y 0 = 7 → HLD X s.V s.U s.C y (.inl true) → W 1 (some y) s (.inl s)) (asr0 : ∀ (y : Nat) (s : SGM), X.F y 0 = 7 → HLD X s.V s.U s.C y (.inl false) → W 1 (some y) s (.inr (.inr (s, (1024 : Int32) * 5 + X.F y 1)))) (werr : ∀ (y : Nat) (s : SGM) (z : Int32), HLD X s.V s.U s.C y (.inr z) → W 2 (some y) s (.inr (.inr (s, z)))) (wend : ∀ (y : Nat) (s : SGM), HLD X s.V s.U s.C y (.inl false) → W 2 (some y) s (.inl s)) (wbad : ∀ (y : Nat) (s : SGM) (r : RRs), HLD X s.V s.U s.C y (.inl true) → DR X lim ic inp 0 (X.N y 7) s r → ¬ RRs.isGo r → W 0 (X.N y 7) s r → W 2 (some y) s r) (wstop : ∀ (y : Nat) (s s' : SGM), HLD X s.V s.U s.C y (.inl true) → DR X lim ic inp 0 (X.N y 7) s (.inl s') → ¬ s'.bg < lim → W 0 (X.N y 7) s (.inl s') → W 2 (some y) s (.inr (.inl s'))) (wmore : ∀ (y : Nat) (s s' : SGM) (r : RRs), HLD X s.V s.U s.C y (.inl true) → DR X lim ic inp 0 (X.N y 7) s (.inl s') → s'.bg < lim → DR X lim ic inp 2 (some y) s'.b1 r → W 0 (X.N y 7) s (.inl s') → W 2 (some y) s'.b1 r → W 2 (some y) s r) {x1 : Nat} {x2 : Option Nat} {x3 : SGM} {x4 : RRs} (t : DR X lim ic inp x1 x2 x3 x4) : W x1 x2 x3 x4 := (t (fun x1 x2 x3 x4 => DR X lim ic inp x1 x2 x3 x4 ∧ W x1 x2 x3 x4) ⟨fun s => ⟨DR.nil, nil s⟩,
  fun y s a1 => ⟨DR.lstop a1, lstop y s a1⟩,
  fun y s s' r a1 a2 a3 => ⟨DR.lone a1 a2.1 a3.1, lone y s s' r a1 a2.1 a3.1 a2.2 a3.2⟩,
  fun y s r a1 a2 a3 => ⟨DR.lend a1 a2.1 a3, lend y s r a1 a2.1 a3 a2.2⟩,
  fun y s S S1 a1 a2 => ⟨DR.asg a1 a2, asg y s S S1 a1 a2⟩,
  fun y s S z a1 a2 => ⟨DR.asge a1 a2, asge y s S z a1 a2⟩,
  fun y s a1 a2 => ⟨DR.inp1 a1 a2, inp1 y s a1 a2⟩,
  fun y s a1 a2 => ⟨DR.inp0 a1 a2, inp0 y s a1 a2⟩,
  fun y s S z a1 a2 => ⟨DR.sto1 a1 a2, sto1 y s S z a1 a2⟩,
  fun y s S S1 a1 a2 a3 => ⟨DR.sto2 a1 a2 a3, sto2 y s S S1 a1 a2 a3⟩,
  fun y s S S1 S' z a1 a2 a3 a4 => ⟨DR.sto3 a1 a2 a3 a4, sto3 y s S S1 S' z a1 a2 a3 a4⟩,
  fun y s S S1 S' S2 a1 a2 a3 a4 => ⟨DR.sto a1 a2 a3 a4, sto y s S S1 S' S2 a1 a2 a3 a4⟩,
  fun y s z a1 a2 => ⟨DR.ife a1 a2, ife y s z a1 a2⟩,
  fun y s r a1 a2 a3 => ⟨DR.ift a1 a2 a3.1, ift y s r a1 a2 a3.1 a3.2⟩,
  fun y s r a1 a2 a3 => ⟨DR.iff a1 a2 a3.1, iff y s r a1 a2 a3.1 a3.2⟩,
  fun y s r a1 a2 => ⟨DR.whl a1 a2.1, whl y s r a1 a2.1 a2.2⟩,
  fun y s z a1 a2 => ⟨DR.asre a1 a2, asre y s z a1 a2⟩,
  fun y s a1 a2 => ⟨DR.asr1 a1 a2, asr1 y s a1 a2⟩,
  fun y s a1 a2 => ⟨DR.asr0 a1 a2, asr0 y s a1 a2⟩,
  fun y s z a1 => ⟨DR.werr a1, werr y s z a1⟩,
  fun y s a1 => ⟨DR.wend a1, wend y s a1⟩,
  fun y s r a1 a2 a3 => ⟨DR.wbad a1 a2.1 a3, wbad y s r a1 a2.1 a3 a2.2⟩,
  fun y s s' a1 a2 a3 => ⟨DR.wstop a1 a2.1 a3, wstop y s s' a1 a2.1 a3 a2.2⟩,
  fun y s s' r a1 a2 a3 a4 => ⟨DR.wmore a1 a2.1 a3 a4.1, wmore y s s' r a1 a2.1 a3 a4.1 a2.2 a4.2⟩⟩).2
def RRs.s : RRs → SGM
  | .inl s => s
  | .inr (.inl s) => s
  | .inr (.inr p) => p.1
theorem DR.mono {X : RX} {lim ic : Nat} {inp : Nat → Int32} {tag : Nat} {oy : Option Nat} {s : SGM} {r : RRs} (h : DR X lim ic inp tag oy s r) : s.bg ≤ (RRs.s r).bg := by
  refine DR.ind (W := fun tag oy s r => s.bg ≤ (RRs.s r).bg) ?_ ?_ ?_ ?_ ?_ ?_ ?_ ?_ ?_ ?_ ?_ ?_ ?_ ?_ ?_ ?_ ?_ ?_ ?_ ?_ ?_ ?_ ?_ ?_ h
  · intro s
    exact Nat.le_refl _
  · intro y s h1
    exact Nat.le_refl _
  · intro y s s' r h1 h2 h3 i1 i2
    have a1 : s.bg + 1 ≤ s'.bg := i1
    have a2 : s'.bg ≤ (RRs.s r).bg := i2
    omega
  · intro y s r h1 h2 h3 i1
    have a1 : s.bg + 1 ≤ (RRs.s r).bg := i1
    omega
  · intro y s S S1 h1 h2
    exact Nat.le_refl _
  · intro y s S z h1 h2
    exact Nat.le_refl _
  · intro y s h1 h2
    exact Nat.le_refl _
  · intro y s h1 h2
    exact Nat.le_refl _
  · intro y s S z h1 h2
    exact Nat.le_refl _
  · intro y s S S1 h1 h2 h3
    exact Nat.le_refl _
  · intro y s S S1 S' z h1 h2 h3 h4
    exact Nat.le_refl _
  · intro y s S S1 S' S2 h1 h2 h3 h4
    exact Nat.le_refl _
  · intro y s z h1 h2
    exact Nat.le_refl _
  · intro y s r h1 h2 h3 i1
    exact i1
  · intro y s r h1 h2 h3 i1
    exact i1
  · intro y s r h1 h2 i1
    exact i1
  · intro y s z h1 h2
    exact Nat.le_refl _
  · intro y s h1 h2
    exact Nat.le_refl _
  · intro y s h1 h2
    exact Nat.le_refl _
  · intro y s z h1
    exact Nat.le_refl _
  · intro y s h1
    exact Nat.le_refl _
  · intro y s r h1 h2 h3 i1
    exact i1
  · intro y s s' h1 h2 h3 i1
    exact i1
  · intro y s s' r h1 h2 h3 h4 i1 i2
    have a1 : s.bg ≤ s'.bg := i1
    have a2 : s'.bg + 1 ≤ (RRs.s r).bg := i2
    omega
/-- no STATEMENTS: nothing is done -/
theorem DR.nil_inv {X : RX} {lim ic : Nat} {inp : Nat → Int32} {s : SGM} {r : RRs} (h : DR X lim ic inp 0 none s r) : r = .inl s := by
  refine DR.ind (W := fun tag oy s r => oy = none → r = .inl s) ?_ ?_ ?_ ?_ ?_ ?_ ?_ ?_ ?_ ?_ ?_ ?_ ?_ ?_ ?_ ?_ ?_ ?_ ?_ ?_ ?_ ?_ ?_ ?_ h rfl
  · intro s _; rfl
  all_goals (intros; rename_i z; cases z)
/-- the STATEMENTS that a run may come to: of the depth n, their EXPRS fit the stack -/
def GDN (X : RX) (p : Nat) (G : Nat → Nat → Prop) : Prop := (∀ n y, G n y → n ≤ 3 ∧ LT y = some oT ∧ (p + 2 ≤ y ∧ y < p + 52) ∧ (X.F y 0 = 2 ∨ X.F y 0 = 3 ∨ X.F y 0 = 4 ∨ X.F y 0 = 6 ∨ X.F y 0 = 7 ∨ X.F y 0 = 8)) ∧ (∀ n y, G n y → ¬ X.F y 0 = 8 → (0 ≤ (X.F y 3).toInt ∧ 0 ≤ (X.F y 5).toInt) ∧ (¬ X.F y 0 = 2 → 0 ≤ (X.F y 4).toInt)) ∧ (∀ n y, G n y → X.F y 0 = 2 → WS X (X.f y 3) (X.f y 5) 0 1) ∧ (∀ n y, G n y → X.F y 0 = 3 → WS X (X.f y 3) (X.f y 4) 0 1 ∧ WS X (X.f y 4) (X.f y 5) 0 1) ∧ (∀ n y, G n y → (X.F y 0 = 4 ∨ X.F y 0 = 6 ∨ X.F y 0 = 7) → WS X (X.f y 3) (X.f y 4) 0 1 ∧ WS X (X.f y 4) (X.f y 5) 1 2) ∧ (∀ n y z, G n y → X.N y 9 = some z → G n z) ∧ (∀ n y z, G n y → (X.F y 0 = 4 ∨ X.F y 0 = 6) → (X.N y 7 = some z ∨ (X.F y 0 = 4 ∧ X.N y 8 = some z)) → G (n + 1) z) ∧ (∀ n y, G n y → (X.F y 0 = 4 ∨ X.F y 0 = 6) → n + 1 ≤ 3)
theorem GDN.t {X : RX} {p : Nat} {G : Nat → Nat → Prop} (h : GDN X p G) : ∀ n y, G n y → n ≤ 3 ∧ LT y = some oT ∧ (p + 2 ≤ y ∧ y < p + 52) ∧ (X.F y 0 = 2 ∨ X.F y 0 = 3 ∨ X.F y 0 = 4 ∨ X.F y 0 = 6 ∨ X.F y 0 = 7 ∨ X.F y 0 = 8) := h.1
theorem GDN.i {X : RX} {p : Nat} {G : Nat → Nat → Prop} (h : GDN X p G) : ∀ n y, G n y → ¬ X.F y 0 = 8 → (0 ≤ (X.F y 3).toInt ∧ 0 ≤ (X.F y 5).toInt) ∧ (¬ X.F y 0 = 2 → 0 ≤ (X.F y 4).toInt) := h.2.1
theorem GDN.e2 {X : RX} {p : Nat} {G : Nat → Nat → Prop} (h : GDN X p G) : ∀ n y, G n y → X.F y 0 = 2 → WS X (X.f y 3) (X.f y 5) 0 1 := h.2.2.1
theorem GDN.e3 {X : RX} {p : Nat} {G : Nat → Nat → Prop} (h : GDN X p G) : ∀ n y, G n y → X.F y 0 = 3 → WS X (X.f y 3) (X.f y 4) 0 1 ∧ WS X (X.f y 4) (X.f y 5) 0 1 := h.2.2.2.1
theorem GDN.e4 {X : RX} {p : Nat} {G : Nat → Nat → Prop} (h : GDN X p G) : ∀ n y, G n y → (X.F y 0 = 4 ∨ X.F y 0 = 6 ∨ X.F y 0 = 7) → WS X (X.f y 3) (X.f y 4) 0 1 ∧ WS X (X.f y 4) (X.f y 5) 1 2 := h.2.2.2.2.1
theorem GDN.nx {X : RX} {p : Nat} {G : Nat → Nat → Prop} (h : GDN X p G) : ∀ n y z, G n y → X.N y 9 = some z → G n z := h.2.2.2.2.2.1
theorem GDN.bd {X : RX} {p : Nat} {G : Nat → Nat → Prop} (h : GDN X p G) : ∀ n y z, G n y → (X.F y 0 = 4 ∨ X.F y 0 = 6) → (X.N y 7 = some z ∨ (X.F y 0 = 4 ∧ X.N y 8 = some z)) → G (n + 1) z := h.2.2.2.2.2.2.1
theorem GDN.dp {X : RX} {p : Nat} {G : Nat → Nat → Prop} (h : GDN X p G) : ∀ n y, G n y → (X.F y 0 = 4 ∨ X.F y 0 = 6) → n + 1 ≤ 3 := h.2.2.2.2.2.2.2
/-- the class's runner at work -/
def CRN (X : RX) (p lim ic : Nat) (inp : Nat → Int32) (s : SGM) (I : IM) (R : RM) : Prop := RW X p I R ∧ (I 118 = s.V ∧ I 119 = s.U ∧ I 120 = s.C) ∧ (I 117 8).toInt = s.bg ∧ (I 117 9).toInt = s.tk ∧ (I 117 7).toInt = lim ∧ (lim ≤ 500 ∧ s.bg ≤ lim) ∧ (I 117 5).toInt = ic ∧ I 122 = inp ∧ (∀ y k, (p + 2 ≤ y ∧ y < p + 52) → I y k = X.F y k) ∧ (∀ y k, (p + 2 ≤ y ∧ y < p + 52) → R y k = X.N y k)
/-- what a run keeps -/
def RKP (I I' : IM) : Prop := ∀ x j, (x < 117 ∨ 122 ≤ x ∨ (x = 117 ∧ j < 8)) → I' x j = I x j
theorem RKP.trans {I I' I'' : IM} (h : RKP I I') (h2 : RKP I' I'') : RKP I I'' := fun x j a => (h2 x j a).trans (h x j a)
section CRU
variable {X : RX} {G : Nat → Nat → Prop} {p lim ic : Nat} {inp : Nat → Int32} {s : SGM} {I I' : IM} {J : JM} {R : RM}
theorem WKR.rk (h : WKR I I') : RKP I I' := fun x j a => h x j (by omega) (by omega)
theorem CRN.wk (h : CRN X p lim ic inp s I R) (e : WKR I I') (hr : RW X p I' R) : CRN X p lim ic inp s I' R := by
  obtain ⟨h1, ⟨a1, a2, a3⟩, h3, h4, h5, h6, h7, h8, h9, h10⟩ := h
  refine ⟨hr, ⟨?_, ?_, ?_⟩, ?_, ?_, ?_, h6, ?_, ?_, fun y k hy => ?_, h10⟩
  · funext j; rw [e _ _ (by omega) (by omega), a1]
  · funext j; rw [e _ _ (by omega) (by omega), a2]
  · funext j; rw [e _ _ (by omega) (by omega), a3]
  · rw [e _ _ (by omega) (by omega)]; exact h3
  · rw [e _ _ (by omega) (by omega)]; exact h4
  · rw [e _ _ (by omega) (by omega)]; exact h5
  · rw [e _ _ (by omega) (by omega)]; exact h7
  · funext j; rw [e _ _ (by omega) (by omega), h8]
  · have b : p = 7 ∨ p = 62 := h1.2.2.1
    rw [e _ _ (by omega) (by omega)]; exact h9 y k hy
theorem v_holds (hG : GDN X p G) {n y : Nat} (hy : G n y) (hk : X.F y 0 = 4 ∨ X.F y 0 = 6 ∨ X.F y 0 = 7) (h : CRN X p lim ic inp s I R) {Q : ((Int32 ⊕ String) × WW) → Prop} (k1 : ∀ (b : Bool) (I' : IM), HLD X s.V s.U s.C y (.inl b) → WKR I I' → I' 117 10 = I 117 10 → RW X p I' R → Q (.inl (if b = true then 1 else 0), mk I' J R)) (kx : ∀ (E : String) (I' : IM) (z : Int32), HLD X s.V s.U s.C y (.inr z) → WKR I I' → I' 117 10 = z → EXR z E → Q (.inr E, mk I' J R)) : wl (f_ru_holds 117 (some y) (mk I J R)) Q := by
  obtain ⟨n3, ly, bt, _⟩ := hG.t n y hy
  obtain ⟨w1, w2⟩ := hG.e4 n y hy hk
  obtain ⟨⟨i3, i5⟩, i4⟩ := hG.i n y hy (by rcases hk with c | c | c <;> rw [c] <;> decide)
  replace i4 := i4 (by rcases hk with c | c | c <;> rw [c] <;> decide)
  have hF := h.2.2.2.2.2.2.2.2.1
  have hV := h.2.1
  unfold f_ru_holds f_ru_holds_100 f_ru_holds_78 f_ru_holds_89 f_ru_holds_111
  refine wl_kb (wl_eq rfl (wl_gI ly rfl (hF y 3 bt) (wl_gI ly rfl (hF y 4 bt) (wl_bdx (v_workOut (k := X.f y 3) (e := X.f y 4) (b := 0) h.1 (by show _ = ((X.F y 3).toInt.toNat : Int); omega) (by show _ = ((X.F y 4).toInt.toNat : Int); omega) l32_0 w1 (fun I1 S1 hE e1 t1 r1 => ⟨fun v hv => ?_, fun E hE => (by cases hE)⟩) (fun E I1 z hE e1 t1 hx => ⟨fun v hv => (by cases hv), fun E' hE' => (by cases hE'; exact kx _ I1 z (.e1 (by rw [← hV.1, ← hV.2.1, ← hV.2.2]; exact hE)) e1 t1 hx)⟩))))))
  cases hv
  have h1 := h.wk e1 r1
  have hV1 := h1.2.1
  have hF1 := h1.2.2.2.2.2.2.2.2.1
  rw [hV.1, hV.2.1, hV.2.2] at hE
  refine wl_gI ly rfl (hF1 y 4 bt) (wl_gI ly rfl (hF1 y 5 bt) (wl_bdx (v_workOut (k := X.f y 4) (e := X.f y 5) (b := 1) h1.1 (by show _ = ((X.F y 4).toInt.toNat : Int); omega) (by show _ = ((X.F y 5).toInt.toNat : Int); omega) l32_1 w2 (fun I2 S2 hE2 e2 t2 r2 => ⟨fun v hv => ?_, fun E hE => (by cases hE)⟩) (fun E I2 z hE2 e2 t2 hx => ⟨fun v hv => (by cases hv), fun E' hE' => (by cases hE'; exact kx _ I2 z (.e2 hE (by rw [← hV1.1, ← hV1.2.1, ← hV1.2.2]; exact hE2)) (e1.trans e2) t2 hx)⟩))))
  cases hv
  rw [hV1.1, hV1.2.1, hV1.2.2] at hE2
  have h2 := h1.wk e2 r2
  have hF2 := h2.2.2.2.2.2.2.2.2.1
  have fin := k1 (cmpv (X.F y 6) (S1 0) (S2 1)) I2 (.ok hE hE2) (e1.trans e2) (t2.trans t1) r2
  unfold cmpv at fin
  refine wl_gI ly rfl (hF2 y 6 bt) (wl_ite (fun c => ?_) (fun c => wl_ite (fun c2 => ?_) (fun c2 => wl_ite (fun c3 => ?_) (fun c3 => ?_))))
  · rw [if_pos c] at fin
    refine wl_ite (fun z => wl_req (fun _ => wl_some ?_)) (fun z => wl_req (fun _ => wl_some ?_))
    · rw [decide_eq_true z] at fin; exact fin
    · rw [decide_eq_false z] at fin; exact fin
  · rw [if_neg c, if_pos c2] at fin
    refine wl_ite (fun z => wl_req (fun _ => wl_some ?_)) (fun z => wl_req (fun _ => wl_some ?_))
    · rw [decide_eq_true z] at fin; exact fin
    · rw [decide_eq_false z] at fin; exact fin
  · rw [if_neg c, if_neg c2, if_pos c3] at fin
    refine wl_ite (fun z => wl_req (fun _ => wl_some ?_)) (fun z => wl_req (fun _ => wl_some ?_))
    · rw [decide_eq_true z] at fin; exact fin
    · rw [decide_eq_false z] at fin; exact fin
  · rw [if_neg c, if_neg c2, if_neg c3] at fin
    refine wl_ite (fun z => wl_req (fun _ => wl_some ?_)) (fun z => wl_req (fun _ => wl_some ?_))
    · rw [decide_eq_true z] at fin; exact fin
    · rw [decide_eq_false z] at fin; exact fin
end CRU
