/-! STATEMENTS as they are parsed, said by rules, with what they leave; the class's parser follows the rules. -/
abbrev PS : Type := Nat × Nat
abbrev PR : Type := (Nat × Nat) ⊕ Nat
/-- from the TOKEN s.1 on, with s.2 steps: an EXPR, or a fault -/
def exP (P : RX) (K B M : Nat → Int32) (s : PS) (r : PR) : Prop := (∃ h j n', DE P K B M 4 0 0 s.1 s.2 (.inl (h, j, n')) ∧ r = .inl (j, n')) ∨ (∃ j, DE P K B M 4 0 0 s.1 s.2 (.inr j) ∧ r = .inr j)
def tkP (K : Nat → Int32) (a : Int32) (s : PS) (r : PR) : Prop := (K s.1 = a ∧ r = .inl (s.1 + 1, s.2)) ∨ (¬ K s.1 = a ∧ r = .inr s.1)
/-- the STATEMENT's field k is the number of steps -/
def fdP (P : RX) (y k : Nat) (s : PS) (r : PR) : Prop := (P.F y k).toInt = s.2 ∧ r = .inl s
def sq (P1 P2 : PS → PR → Prop) (s : PS) (r : PR) : Prop := (∃ j, P1 s (.inr j) ∧ r = .inr j) ∨ (∃ s', P1 s (.inl s') ∧ P2 s' r)
def isCm (x : Int32) : Prop := x = 256 ∨ x = 257 ∨ x = 60 ∨ x = 258
def cmP (P : RX) (K : Nat → Int32) (y : Nat) (s : PS) (r : PR) : Prop := (isCm (K s.1) ∧ P.F y 6 = K s.1 ∧ r = .inl (s.1 + 1, s.2)) ∨ (¬ isCm (K s.1) ∧ r = .inr s.1)
def inP (P : RX) (K B M : Nat → Int32) (y : Nat) (s : PS) (r : PR) : Prop := (K s.1 = 8 ∧ P.F y 0 = 8 ∧ tkP K 59 (s.1 + 1, s.2) r) ∨ (¬ K s.1 = 8 ∧ P.F y 0 = 2 ∧ sq (fdP P y 3) (sq (exP P K B M) (sq (fdP P y 5) (tkP K 59))) s r)
def asP (P : RX) (K B M : Nat → Int32) (y : Nat) : PS → PR → Prop := sq (tkP K 61) (inP P K B M y)
def stP (P : RX) (K B M : Nat → Int32) (y : Nat) : PS → PR → Prop := sq (tkP K 91) (sq (fdP P y 3) (sq (exP P K B M) (sq (fdP P y 4) (sq (tkP K 93) (sq (tkP K 61) (sq (exP P K B M) (sq (fdP P y 5) (tkP K 59))))))))
def coP (P : RX) (K B M : Nat → Int32) (y : Nat) : PS → PR → Prop := sq (tkP K 40) (sq (fdP P y 3) (sq (exP P K B M) (sq (fdP P y 4) (sq (cmP P K y) (sq (exP P K B M) (sq (fdP P y 5) (tkP K 41)))))))
theorem sq.r {P1 P2 : PS → PR → Prop} {s : PS} {j : Nat} (h : P1 s (.inr j)) : sq P1 P2 s (.inr j) := Or.inl ⟨j, h, rfl⟩
theorem sq.l {P1 P2 : PS → PR → Prop} {s s' : PS} {r : PR} (h : P1 s (.inl s')) (h2 : P2 s' r) : sq P1 P2 s r := Or.inr ⟨s', h, h2⟩
/-- a place, a number of STATEMENTS, a number of steps and the head of a list; or the place of a fault -/
abbrev SR : Type := (Nat × Nat × Nat × Option Nat) ⊕ Nat
def HDR (P : RX) (y : Nat) (k b m : Int32) : Prop := P.F y 0 = k ∧ P.F y 1 = b ∧ P.F y 2 = m
/-- 0 STATEMENTS up to the TOKEN e, 1 a STATEMENT, 2 a BLOCK; in BLOCKS of depth d, from the TOKEN i on, with c STATEMENTS and n steps before -/
def DSC (P : RX) (K B M : Nat → Int32) (p : Nat) (Pz : Nat → Nat → Int32 → Nat → Nat → Nat → SR → Prop) : Prop :=
  (∀ (d i c n : Nat) (e : Int32), K i = e → Pz 0 d e i c n (.inl (i, c, n, none))) ∧
  (∀ (d i c n j : Nat) (e : Int32), ¬ K i = e → Pz 1 d 0 i c n (.inr j) → Pz 0 d e i c n (.inr j)) ∧
  (∀ (d i c n i' c' n' i2 c2 n2 : Nat) (e : Int32) (o1 o : Option Nat), ¬ K i = e → Pz 1 d 0 i c n (.inl (i', c', n', o1)) → Pz 0 d e i' c' n' (.inl (i2, c2, n2, o)) → P.N (p + 2 + c) 9 = o → Pz 0 d e i c n (.inl (i2, c2, n2, some (p + 2 + c)))) ∧
  (∀ (d i c n i' c' n' j : Nat) (e : Int32) (o1 : Option Nat), ¬ K i = e → Pz 1 d 0 i c n (.inl (i', c', n', o1)) → Pz 0 d e i' c' n' (.inr j) → Pz 0 d e i c n (.inr j)) ∧
  (∀ (d i c n : Nat), ¬ (K i = 2 ∨ K i = 3 ∨ K i = 4 ∨ K i = 6 ∨ K i = 7) → Pz 1 d 0 i c n (.inr i)) ∧
  (∀ (d i c n j n' : Nat), K i = 2 → P.F (p + 2 + c) 1 = B i → P.F (p + 2 + c) 2 = M i → asP P K B M (p + 2 + c) (i + 1, n) (.inl (j, n')) → Pz 1 d 0 i c n (.inl (j, c + 1, n', none))) ∧
  (∀ (d i c n j : Nat), K i = 2 → asP P K B M (p + 2 + c) (i + 1, n) (.inr j) → Pz 1 d 0 i c n (.inr j)) ∧
  (∀ (d i c n j n' : Nat), K i = 3 → HDR P (p + 2 + c) 3 (B i) (M i) → stP P K B M (p + 2 + c) (i + 1, n) (.inl (j, n')) → Pz 1 d 0 i c n (.inl (j, c + 1, n', none))) ∧
  (∀ (d i c n j : Nat), K i = 3 → stP P K B M (p + 2 + c) (i + 1, n) (.inr j) → Pz 1 d 0 i c n (.inr j)) ∧
  (∀ (d i c n j : Nat), (K i = 4 ∨ K i = 6 ∨ K i = 7) → coP P K B M (p + 2 + c) (i + 1, n) (.inr j) → Pz 1 d 0 i c n (.inr j)) ∧
  (∀ (d i c n j n' : Nat), K i = 7 → HDR P (p + 2 + c) 7 (B i) (M i) → coP P K B M (p + 2 + c) (i + 1, n) (.inl (j, n')) → K j = 59 → Pz 1 d 0 i c n (.inl (j + 1, c + 1, n', none))) ∧
  (∀ (d i c n j n' : Nat), K i = 7 → coP P K B M (p + 2 + c) (i + 1, n) (.inl (j, n')) → ¬ K j = 59 → Pz 1 d 0 i c n (.inr j)) ∧
  (∀ (d i c n j n' j' : Nat), (K i = 4 ∨ K i = 6) → coP P K B M (p + 2 + c) (i + 1, n) (.inl (j, n')) → Pz 2 (d + 1) 0 j (c + 1) n' (.inr j') → Pz 1 d 0 i c n (.inr j')) ∧
  (∀ (d i c n j n' j' c' n2 : Nat) (o : Option Nat), (K i = 4 ∨ K i = 6) → HDR P (p + 2 + c) (K i) (B i) (M i) → coP P K B M (p + 2 + c) (i + 1, n) (.inl (j, n')) → Pz 2 (d + 1) 0 j (c + 1) n' (.inl (j', c', n2, o)) → ¬ (K i = 4 ∧ K j' = 5) → P.N (p + 2 + c) 7 = o → P.N (p + 2 + c) 8 = none → Pz 1 d 0 i c n (.inl (j', c', n2, none))) ∧
  (∀ (d i c n j n' j' c' n2 j3 c3 n3 : Nat) (o o3 : Option Nat), K i = 4 → HDR P (p + 2 + c) (K i) (B i) (M i) → coP P K B M (p + 2 + c) (i + 1, n) (.inl (j, n')) → Pz 2 (d + 1) 0 j (c + 1) n' (.inl (j', c', n2, o)) → K j' = 5 → Pz 2 (d + 1) 0 (j' + 1) c' n2 (.inl (j3, c3, n3, o3)) → P.N (p + 2 + c) 7 = o → P.N (p + 2 + c) 8 = o3 → Pz 1 d 0 i c n (.inl (j3, c3, n3, none))) ∧
  (∀ (d i c n j n' j' c' n2 j3 : Nat) (o : Option Nat), K i = 4 → coP P K B M (p + 2 + c) (i + 1, n) (.inl (j, n')) → Pz 2 (d + 1) 0 j (c + 1) n' (.inl (j', c', n2, o)) → K j' = 5 → Pz 2 (d + 1) 0 (j' + 1) c' n2 (.inr j3) → Pz 1 d 0 i c n (.inr j3)) ∧
  (∀ (d i c n : Nat), 3 < d → Pz 2 d 0 i c n (.inr i)) ∧
  (∀ (d i c n : Nat), d ≤ 3 → ¬ K i = 123 → Pz 2 d 0 i c n (.inr i)) ∧
  (∀ (d i c n j : Nat), d ≤ 3 → K i = 123 → Pz 0 d 125 (i + 1) c n (.inr j) → Pz 2 d 0 i c n (.inr j)) ∧
  (∀ (d i c n j c' n' : Nat) (o : Option Nat), d ≤ 3 → K i = 123 → Pz 0 d 125 (i + 1) c n (.inl (j, c', n', o)) → K j = 125 → Pz 2 d 0 i c n (.inl (j + 1, c', n', o)))
def DS (P : RX) (K B M : Nat → Int32) (p : Nat) (x1 : Nat) (x2 : Nat) (x3 : Int32) (x4 : Nat) (x5 : Nat) (x6 : Nat) (x7 : SR) : Prop := ∀ Pz : Nat → Nat → Int32 → Nat → Nat → Nat → SR → Prop, DSC P K B M p Pz → Pz x1 x2 x3 x4 x5 x6 x7
theorem DS.send {P : RX} {K B M : Nat → Int32} {p : Nat} {d i c n : Nat} {e : Int32} (a1 : K i = e) : DS P K B M p 0 d e i c n (.inl (i, c, n, none)) := fun Pz cz => cz.1 _ _ _ _ _ a1
theorem DS.sbad {P : RX} {K B M : Nat → Int32} {p : Nat} {d i c n j : Nat} {e : Int32} (a1 : ¬ K i = e) (a2 : DS P K B M p 1 d 0 i c n (.inr j)) : DS P K B M p 0 d e i c n (.inr j) := fun Pz cz => cz.2.1 _ _ _ _ _ _ a1 (a2 Pz cz)
theorem DS.smore {P : RX} {K B M : Nat → Int32} {p : Nat} {d i c n i' c' n' i2 c2 n2 : Nat} {e : Int32} {o1 o : Option Nat} (a1 : ¬ K i = e) (a2 : DS P K B M p 1 d 0 i c n (.inl (i', c', n', o1))) (a3 : DS P K B M p 0 d e i' c' n' (.inl (i2, c2, n2, o))) (a4 : P.N (p + 2 + c) 9 = o) : DS P K B M p 0 d e i c n (.inl (i2, c2, n2, some (p + 2 + c))) := fun Pz cz => cz.2.2.1 _ _ _ _ _ _ _ _ _ _ _ _ _ a1 (a2 Pz cz) (a3 Pz cz) a4
theorem DS.smorb {P : RX} {K B M : Nat → Int32} {p : Nat} {d i c n i' c' n' j : Nat} {e : Int32} {o1 : Option Nat} (a1 : ¬ K i = e) (a2 : DS P K B M p 1 d 0 i c n (.inl (i', c', n', o1))) (a3 : DS P K B M p 0 d e i' c' n' (.inr j)) : DS P K B M p 0 d e i c n (.inr j) := fun Pz cz => cz.2.2.2.1 _ _ _ _ _ _ _ _ _ _ a1 (a2 Pz cz) (a3 Pz cz)
theorem DS.tnone {P : RX} {K B M : Nat → Int32} {p : Nat} {d i c n : Nat} (a1 : ¬ (K i = 2 ∨ K i = 3 ∨ K i = 4 ∨ K i = 6 ∨ K i = 7)) : DS P K B M p 1 d 0 i c n (.inr i) := fun Pz cz => cz.2.2.2.2.1 _ _ _ _ a1
theorem DS.tasg {P : RX} {K B M : Nat → Int32} {p : Nat} {d i c n j n' : Nat} (a1 : K i = 2) (a2 : P.F (p + 2 + c) 1 = B i) (a3 : P.F (p + 2 + c) 2 = M i) (a4 : asP P K B M (p + 2 + c) (i + 1, n) (.inl (j, n'))) : DS P K B M p 1 d 0 i c n (.inl (j, c + 1, n', none)) := fun Pz cz => cz.2.2.2.2.2.1 _ _ _ _ _ _ a1 a2 a3 a4
theorem DS.tasgb {P : RX} {K B M : Nat → Int32} {p : Nat} {d i c n j : Nat} (a1 : K i = 2) (a2 : asP P K B M (p + 2 + c) (i + 1, n) (.inr j)) : DS P K B M p 1 d 0 i c n (.inr j) := fun Pz cz => cz.2.2.2.2.2.2.1 _ _ _ _ _ a1 a2
theorem DS.tsto {P : RX} {K B M : Nat → Int32} {p : Nat} {d i c n j n' : Nat} (a1 : K i = 3) (a2 : HDR P (p + 2 + c) 3 (B i) (M i)) (a3 : stP P K B M (p + 2 + c) (i + 1, n) (.inl (j, n'))) : DS P K B M p 1 d 0 i c n (.inl (j, c + 1, n', none)) := fun Pz cz => cz.2.2.2.2.2.2.2.1 _ _ _ _ _ _ a1 a2 a3
theorem DS.tstob {P : RX} {K B M : Nat → Int32} {p : Nat} {d i c n j : Nat} (a1 : K i = 3) (a2 : stP P K B M (p + 2 + c) (i + 1, n) (.inr j)) : DS P K B M p 1 d 0 i c n (.inr j) := fun Pz cz => cz.2.2.2.2.2.2.2.2.1 _ _ _ _ _ a1 a2
theorem DS.tcob {P : RX} {K B M : Nat → Int32} {p : Nat} {d i c n j : Nat} (a1 : (K i = 4 ∨ K i = 6 ∨ K i = 7)) (a2 : coP P K B M (p + 2 + c) (i + 1, n) (.inr j)) : DS P K B M p 1 d 0 i c n (.inr j) := fun Pz cz => cz.2.2.2.2.2.2.2.2.2.1 _ _ _ _ _ a1 a2
theorem DS.tasr {P : RX} {K B M : Nat → Int32} {p : Nat} {d i c n j n' : Nat} (a1 : K i = 7) (a2 : HDR P (p + 2 + c) 7 (B i) (M i)) (a3 : coP P K B M (p + 2 + c) (i + 1, n) (.inl (j, n'))) (a4 : K j = 59) : DS P K B M p 1 d 0 i c n (.inl (j + 1, c + 1, n', none)) := fun Pz cz => cz.2.2.2.2.2.2.2.2.2.2.1 _ _ _ _ _ _ a1 a2 a3 a4
theorem DS.tasrb {P : RX} {K B M : Nat → Int32} {p : Nat} {d i c n j n' : Nat} (a1 : K i = 7) (a2 : coP P K B M (p + 2 + c) (i + 1, n) (.inl (j, n'))) (a3 : ¬ K j = 59) : DS P K B M p 1 d 0 i c n (.inr j) := fun Pz cz => cz.2.2.2.2.2.2.2.2.2.2.2.1 _ _ _ _ _ _ a1 a2 a3
theorem DS.tblkb {P : RX} {K B M : Nat → Int32} {p : Nat} {d i c n j n' j' : Nat} (a1 : (K i = 4 ∨ K i = 6)) (a2 : coP P K B M (p + 2 + c) (i + 1, n) (.inl (j, n'))) (a3 : DS P K B M p 2 (d + 1) 0 j (c + 1) n' (.inr j')) : DS P K B M p 1 d 0 i c n (.inr j') := fun Pz cz => cz.2.2.2.2.2.2.2.2.2.2.2.2.1 _ _ _ _ _ _ _ a1 a2 (a3 Pz cz)
theorem DS.tblk {P : RX} {K B M : Nat → Int32} {p : Nat} {d i c n j n' j' c' n2 : Nat} {o : Option Nat} (a1 : (K i = 4 ∨ K i = 6)) (a2 : HDR P (p + 2 + c) (K i) (B i) (M i)) (a3 : coP P K B M (p + 2 + c) (i + 1, n) (.inl (j, n'))) (a4 : DS P K B M p 2 (d + 1) 0 j (c + 1) n' (.inl (j', c', n2, o))) (a5 : ¬ (K i = 4 ∧ K j' = 5)) (a6 : P.N (p + 2 + c) 7 = o) (a7 : P.N (p + 2 + c) 8 = none) : DS P K B M p 1 d 0 i c n (.inl (j', c', n2, none)) := fun Pz cz => cz.2.2.2.2.2.2.2.2.2.2.2.2.2.1 _ _ _ _ _ _ _ _ _ _ a1 a2 a3 (a4 Pz cz) a5 a6 a7
theorem DS.tels {P : RX} {K B M : Nat → Int32} {p : Nat} {d i c n j n' j' c' n2 j3 c3 n3 : Nat} {o o3 : Option Nat} (a1 : K i = 4) (a2 : HDR P (p + 2 + c) (K i) (B i) (M i)) (a3 : coP P K B M (p + 2 + c) (i + 1, n) (.inl (j, n'))) (a4 : DS P K B M p 2 (d + 1) 0 j (c + 1) n' (.inl (j', c', n2, o))) (a5 : K j' = 5) (a6 : DS P K B M p 2 (d + 1) 0 (j' + 1) c' n2 (.inl (j3, c3, n3, o3))) (a7 : P.N (p + 2 + c) 7 = o) (a8 : P.N (p + 2 + c) 8 = o3) : DS P K B M p 1 d 0 i c n (.inl (j3, c3, n3, none)) := fun Pz cz => cz.2.2.2.2.2.2.2.2.2.2.2.2.2.2.1 _ _ _ _ _ _ _ _ _ _ _ _ _ _ a1 a2 a3 (a4 Pz cz) a5 (a6 Pz cz) a7 a8
theorem DS.telsb {P : RX} {K B M : Nat → Int32} {p : Nat} {d i c n j n' j' c' n2 j3 : Nat} {o : Option Nat} (a1 : K i = 4) (a2 : coP P K B M (p + 2 + c) (i + 1, n) (.inl (j, n'))) (a3 : DS P K B M p 2 (d + 1) 0 j (c + 1) n' (.inl (j', c', n2, o))) (a4 : K j' = 5) (a5 : DS P K B M p 2 (d + 1) 0 (j' + 1) c' n2 (.inr j3)) : DS P K B M p 1 d 0 i c n (.inr j3) := fun Pz cz => cz.2.2.2.2.2.2.2.2.2.2.2.2.2.2.2.1 _ _ _ _ _ _ _ _ _ _ _ a1 a2 (a3 Pz cz) a4 (a5 Pz cz)
theorem DS.bdeep {P : RX} {K B M : Nat → Int32} {p : Nat} {d i c n : Nat} (a1 : 3 < d) : DS P K B M p 2 d 0 i c n (.inr i) := fun Pz cz => cz.2.2.2.2.2.2.2.2.2.2.2.2.2.2.2.2.1 _ _ _ _ a1
theorem DS.bno {P : RX} {K B M : Nat → Int32} {p : Nat} {d i c n : Nat} (a1 : d ≤ 3) (a2 : ¬ K i = 123) : DS P K B M p 2 d 0 i c n (.inr i) := fun Pz cz => cz.2.2.2.2.2.2.2.2.2.2.2.2.2.2.2.2.2.1 _ _ _ _ a1 a2
theorem DS.bssb {P : RX} {K B M : Nat → Int32} {p : Nat} {d i c n j : Nat} (a1 : d ≤ 3) (a2 : K i = 123) (a3 : DS P K B M p 0 d 125 (i + 1) c n (.inr j)) : DS P K B M p 2 d 0 i c n (.inr j) := fun Pz cz => cz.2.2.2.2.2.2.2.2.2.2.2.2.2.2.2.2.2.2.1 _ _ _ _ _ a1 a2 (a3 Pz cz)
theorem DS.bend {P : RX} {K B M : Nat → Int32} {p : Nat} {d i c n j c' n' : Nat} {o : Option Nat} (a1 : d ≤ 3) (a2 : K i = 123) (a3 : DS P K B M p 0 d 125 (i + 1) c n (.inl (j, c', n', o))) (a4 : K j = 125) : DS P K B M p 2 d 0 i c n (.inl (j + 1, c', n', o)) := fun Pz cz => cz.2.2.2.2.2.2.2.2.2.2.2.2.2.2.2.2.2.2.2 _ _ _ _ _ _ _ _ a1 a2 (a3 Pz cz) a4
theorem DS.ind {P : RX} {K B M : Nat → Int32} {p : Nat} {W : Nat → Nat → Int32 → Nat → Nat → Nat → SR → Prop} (send : ∀ (d i c n : Nat) (e : Int32), K i = e → W 0 d e i c n (.inl (i, c, n, none))) (sbad : ∀ (d i c n j : Nat) (e : Int32), ¬ K i = e → DS P K B M p 1 d 0 i c n (.inr j) → W 1 d 0 i c n (.inr j) → W 0 d e i c n (.inr j)) (smore : ∀ (d i c n i' c' n' i2 c2 n2 : Nat) (e : Int32) (o1 o : Option Nat), ¬ K i = e → DS P K B M p 1 d 0 i c n (.inl (i', c', n', o1)) → DS P K B M p 0 d e i' c' n' (.inl (i2, c2, n2, o)) → P.N (p + 2 + c) 9 = o → W 1 d 0 i c n (.inl (i', c', n', o1)) → W 0 d e i' c' n' (.inl (i2, c2, n2, o)) → W 0 d e i c n (.inl (i2, c2, n2, some (p + 2 + c)))) (smorb : ∀ (d i c n i' c' n' j : Nat) (e : Int32) (o1 : Option Nat), ¬ K i = e → DS P K B M p 1 d 0 i c n (.inl (i', c', n', o1)) → DS P K B M p 0 d e i' c' n' (.inr j) → W 1 d 0 i c n (.inl (i', c', n', o1)) → W 0 d e i' c' n' (.inr j) → W 0 d e i c n (.inr j)) (tnone : ∀ (d i c n : Nat), ¬ (K i = 2 ∨ K i = 3 ∨ K i = 4 ∨ K i = 6 ∨ K i = 7) → W 1 d 0 i c n (.inr i)) (tasg : ∀ (d i c n j n' : Nat), K i = 2 → P.F (p + 2 + c) 1 = B i → P.F (p + 2 + c) 2 = M i → asP P K B M (p + 2 + c) (i + 1, n) (.inl (j, n')) → W 1 d 0 i c n (.inl (j, c + 1, n', none))) (tasgb : ∀ (d i c n j : Nat), K i = 2 → asP P K B M (p + 2 + c) (i + 1, n) (.inr j) → W 1 d 0 i c n (.inr j)) (tsto : ∀ (d i c n j n' : Nat), K i = 3 → HDR P (p + 2 + c) 3 (B i) (M i) → stP P K B M (p + 2 + c) (i + 1, n) (.inl (j, n')) → W 1 d 0 i c n (.inl (j, c + 1, n', none))) (tstob : ∀ (d i c n j : Nat), K i = 3 → stP P K B M (p + 2 + c) (i + 1, n) (.inr j) → W 1 d 0 i c n (.inr j)) (tcob : ∀ (d i c n j : Nat), (K i = 4 ∨ K i = 6 ∨ K i = 7) → coP P K B M (p + 2 + c) (i + 1, n) (.inr j) → W 1 d 0 i c n (.inr j)) (tasr : ∀ (d i c n j n' : Nat), K i = 7 → HDR P (p + 2 + c) 7 (B i) (M i) → coP P K B M (p + 2 + c) (i + 1, n) (.inl (j, n')) → K j = 59 → W 1 d 0 i c n (.inl (j + 1, c + 1, n', none))) (tasrb : ∀ (d i c n j n' : Nat), K i = 7 → coP P K B M (p + 2 + c) (i + 1, n) (.inl (j, n')) → ¬ K j = 59 → W 1 d 0 i c n (.inr j)) (tblkb : ∀ (d i c n j n' j' : Nat), (K i = 4 ∨ K i = 6) → coP P K B M (p + 2 + c) (i + 1, n) (.inl (j, n')) → DS P K B M p 2 (d + 1) 0 j (c + 1) n' (.inr j') → W 2 (d + 1) 0 j (c + 1) n' (.inr j') → W 1 d 0 i c n (.inr j')) (tblk : ∀ (d i c n j n' j' c' n2 : Nat) (o : Option Nat), (K i = 4 ∨ K i = 6) → HDR P (p + 2 + c) (K i) (B i) (M i) → coP P K B M (p + 2 + c) (i + 1, n) (.inl (j, n')) → DS P K B M p 2 (d + 1) 0 j (c + 1) n' (.inl (j', c', n2, o)) → ¬ (K i = 4 ∧ K j' = 5) → P.N (p + 2 + c) 7 = o → P.N (p + 2 + c) 8 = none → W 2 (d + 1) 0 j (c + 1) n' (.inl (j', c', n2, o)) → W 1 d 0 i c n (.inl (j', c', n2, none))) (tels : ∀ (d i c n j n' j' c' n2 j3 c3 n3 : Nat) (o o3 : Option Nat), K i = 4 → HDR P (p + 2 + c) (K i) (B i) (M i) → coP P K B M (p + 2 + c) (i + 1, n) (.inl (j, n')) → DS P K B M p 2 (d + 1) 0 j (c + 1) n' (.inl (j', c', n2, o)) → K j' = 5 → DS P K B M p 2 (d + 1) 0 (j' + 1) c' n2 (.inl (j3, c3, n3, o3)) → P.N (p + 2 + c) 7 = o → P.N (p + 2 + c) 8 = o3 → W 2 (d + 1) 0 j (c + 1) n' (.inl (j', c', n2, o)) → W 2 (d + 1) 0 (j' + 1) c' n2 (.inl (j3, c3, n3, o3)) → W 1 d 0 i c n (.inl (j3, c3, n3, none))) (telsb : ∀ (d i c n j n' j' c' n2 j3 : Nat) (o : Option Nat), K i = 4 → coP P K B M (p + 2 + c) (i + 1, n) (.inl (j, n')) → DS P K B M p 2 (d + 1) 0 j (c + 1) n' (.inl (j', c', n2, o)) → K j' = 5 → DS P K B M p 2 (d + 1) 0 (j' + 1) c' n2 (.inr j3) → W 2 (d + 1) 0 j (c + 1) n' (.inl (j', c', n2, o)) → W 2 (d + 1) 0 (j' + 1) c' n2 (.inr j3) → W 1 d 0 i c n (.inr j3)) (bdeep : ∀ (d i c n : Nat), 3 < d → W 2 d 0 i c n (.inr i)) (bno : ∀ (d i c n : Nat), d ≤ 3 → ¬ K i = 123 → W 2 d 0 i c n (.inr i)) (bssb : ∀ (d i c n j : Nat), d ≤ 3 → K i = 123 → DS P K B M p 0 d 125 (i + 1) c n (.inr j) → W 0 d 125 (i + 1) c n (.inr j) → W 2 d 0 i c n (.inr j)) (bend : ∀ (d i c n j c' n' : Nat) (o : Option Nat), d ≤ 3 → K i = 123 → DS P K B M p 0 d 125 (i + 1) c n (.inl (j, c', n', o)) → K j = 125 → W 0 d 125 (i + 1) c n (.inl (j, c', n', o)) → W 2 d 0 i c n (.inl (j + 1, c', n', o))) {x1 : Nat} {x2 : Nat} {x3 : Int32} {x4 : Nat} {x5 : Nat} {x6 : Nat} {x7 : SR} (t : DS P K B M p x1 x2 x3 x4 x5 x6 x7) : W x1 x2 x3 x4 x5 x6 x7 := (t (fun x1 x2 x3 x4 x5 x6 x7 => DS P K B M p x1 x2 x3 x4 x5 x6 x7 ∧ W x1 x2 x3 x4 x5 x6 x7) ⟨fun d i c n e a1 => ⟨DS.send a1, send d i c n e a1⟩,
  fun d i c n j e a1 a2 => ⟨DS.sbad a1 a2.1, sbad d i c n j e a1 a2.1 a2.2⟩,
  fun d i c n i' c' n' i2 c2 n2 e o1 o a1 a2 a3 a4 => ⟨DS.smore a1 a2.1 a3.1 a4, smore d i c n i' c' n' i2 c2 n2 e o1 o a1 a2.1 a3.1 a4 a2.2 a3.2⟩,
  fun d i c n i' c' n' j e o1 a1 a2 a3 => ⟨DS.smorb a1 a2.1 a3.1, smorb d i c n i' c' n' j e o1 a1 a2.1 a3.1 a2.2 a3.2⟩,
  fun d i c n a1 => ⟨DS.tnone a1, tnone d i c n a1⟩,
  fun d i c n j n' a1 a2 a3 a4 => ⟨DS.tasg a1 a2 a3 a4, tasg d i c n j n' a1 a2 a3 a4⟩,
  fun d i c n j a1 a2 => ⟨DS.tasgb a1 a2, tasgb d i c n j a1 a2⟩,
  fun d i c n j n' a1 a2 a3 => ⟨DS.tsto a1 a2 a3, tsto d i c n j n' a1 a2 a3⟩,
  fun d i c n j a1 a2 => ⟨DS.tstob a1 a2, tstob d i c n j a1 a2⟩,
  fun d i c n j a1 a2 => ⟨DS.tcob a1 a2, tcob d i c n j a1 a2⟩,
  fun d i c n j n' a1 a2 a3 a4 => ⟨DS.tasr a1 a2 a3 a4, tasr d i c n j n' a1 a2 a3 a4⟩,
  fun d i c n j n' a1 a2 a3 => ⟨DS.tasrb a1 a2 a3, tasrb d i c n j n' a1 a2 a3⟩,
  fun d i c n j n' j' a1 a2 a3 => ⟨DS.tblkb a1 a2 a3.1, tblkb d i c n j n' j' a1 a2 a3.1 a3.2⟩,
  fun d i c n j n' j' c' n2 o a1 a2 a3 a4 a5 a6 a7 => ⟨DS.tblk a1 a2 a3 a4.1 a5 a6 a7, tblk d i c n j n' j' c' n2 o a1 a2 a3 a4.1 a5 a6 a7 a4.2⟩,
  fun d i c n j n' j' c' n2 j3 c3 n3 o o3 a1 a2 a3 a4 a5 a6 a7 a8 => ⟨DS.tels a1 a2 a3 a4.1 a5 a6.1 a7 a8, tels d i c n j n' j' c' n2 j3 c3 n3 o o3 a1 a2 a3 a4.1 a5 a6.1 a7 a8 a4.2 a6.2⟩,
  fun d i c n j n' j' c' n2 j3 o a1 a2 a3 a4 a5 => ⟨DS.telsb a1 a2 a3.1 a4 a5.1, telsb d i c n j n' j' c' n2 j3 o a1 a2 a3.1 a4 a5.1 a3.2 a5.2⟩,
  fun d i c n a1 => ⟨DS.bdeep a1, bdeep d i c n a1⟩,
  fun d i c n a1 a2 => ⟨DS.bno a1 a2, bno d i c n a1 a2⟩,
  fun d i c n j a1 a2 a3 => ⟨DS.bssb a1 a2 a3.1, bssb d i c n j a1 a2 a3.1 a3.2⟩,
  fun d i c n j c' n' o a1 a2 a3 a4 => ⟨DS.bend a1 a2 a3.1 a4, bend d i c n j c' n' o a1 a2 a3.1 a4 a3.2⟩⟩).2
/-- what is kept: all outside of the program but the place and the fault; the fields of the first m STATEMENTS, the first n steps -/
def SFr (p m n : Nat) (I I' : IM) : Prop := (∀ x j, (x < p ∨ p + 54 < x) → (x ≠ 1 ∨ (j ≠ 1 ∧ j ≠ 3)) → I' x j = I x j) ∧ (∀ q j, q < m → I' (p + 2 + q) j = I (p + 2 + q) j) ∧ ∀ k, k < n → I' (p + 52) k = I (p + 52) k ∧ I' (p + 53) k = I (p + 53) k ∧ I' (p + 54) k = I (p + 54) k
theorem SFr.trans {p m n m' n' : Nat} {I I' I'' : IM} (h : SFr p m n I I') (h2 : SFr p m' n' I' I'') (hm : m ≤ m' := by omega) (hn : n ≤ n' := by omega) : SFr p m n I I'' := ⟨fun x j a b => (h2.1 x j a b).trans (h.1 x j a b), fun q j hq => (h2.2.1 q j (by omega)).trans (h.2.1 q j hq), fun k hk => ⟨(h2.2.2 k (by omega)).1.trans (h.2.2 k hk).1, (h2.2.2 k (by omega)).2.1.trans (h.2.2 k hk).2.1, (h2.2.2 k (by omega)).2.2.trans (h.2.2 k hk).2.2⟩⟩
theorem SFr.id {p m n : Nat} {I : IM} : SFr p m n I I := ⟨fun _ _ _ _ => rfl, fun _ _ _ => rfl, fun _ _ => ⟨rfl, rfl, rfl⟩⟩
theorem CF.sf {p n : Nat} {I I' : IM} (h : CF p n I I') (hp : isP p) : SFr p 50 n I I' ∧ I' p 1 = I p 1 := by
  have hp' : p = 7 ∨ p = 62 := hp
  exact ⟨⟨fun x j a b => h.1 x j b (by omega) (by omega) (by omega) (by omega), fun q j hq => h.1 _ _ (by omega) (by omega) (by omega) (by omega) (by omega), h.2⟩, h.1 _ _ (by omega) (by omega) (by omega) (by omega) (by omega)⟩
theorem SFr.wy {p m n c f : Nat} {I : IM} {v : Int32} (hp : isP p) (hc : c < 50) (hm : m ≤ c) : SFr p m n I (up2 I (p + 2 + c) f v) := by
  have hp' : p = 7 ∨ p = 62 := hp
  exact ⟨fun x j a b => up2_ne _ _ (by omega), fun q j hq => up2_ne _ _ (by omega), fun k hk => ⟨up2_nea (by omega), up2_nea (by omega), up2_nea (by omega)⟩⟩
/-- links kept: all but those of STATEMENTS from m on, and but yl's link to the next -/
def RFx (p m : Nat) (yl : Option Nat) (R R' : RM) : Prop := ∀ y k, (y < p + 2 + m ∨ p + 52 ≤ y) → (yl ≠ some y ∨ k ≠ 9) → R' y k = R y k
theorem RFx.trans {p m m' : Nat} {yl : Option Nat} {R R' R'' : RM} (h : RFx p m yl R R') (h2 : RFx p m' none R' R'') (hm : m ≤ m' := by omega) : RFx p m yl R R'' := fun y k a b => (h2 y k (by omega) (Or.inl (by intro z; cases z))).trans (h y k a b)
theorem RFx.id {p m : Nat} {yl : Option Nat} {R : RM} : RFx p m yl R R := fun _ _ _ _ => rfl
/-- the memory holds X: the first n steps; of the STATEMENTS from a up to c the fields and the links, the link to the next only from e on -/
def AG (X : RX) (p n a c e : Nat) (I : IM) (R : RM) : Prop := AGS X p n I ∧ ∀ q, a ≤ q → q < c → (∀ k, I (p + 2 + q) k = X.F (p + 2 + q) k) ∧ ∀ k, (k ≠ 9 ∨ e ≤ q) → R (p + 2 + q) k = X.N (p + 2 + q) k
theorem AG.cut {X : RX} {p n n1 a c e b d e1 : Nat} {I I1 : IM} {R R1 : RM} (h : AG X p n a c e I R) (s : SFr p d n1 I1 I) (r : ∀ q k, b ≤ q → q < d → (k ≠ 9 ∨ e1 ≤ q) → R (p + 2 + q) k = R1 (p + 2 + q) k) (hn : n1 ≤ n := by omega) (hb : a ≤ b := by omega) (hd : d ≤ c := by omega) (he : e ≤ e1 := by omega) : AG X p n1 b d e1 I1 R1 := by
  refine ⟨fun k hk => ?_, fun q q1 q2 => ?_⟩
  · have z := h.1 k (by omega)
    have w := s.2.2 k hk
    exact ⟨w.1.symm.trans z.1, w.2.1.symm.trans z.2.1, w.2.2.symm.trans z.2.2⟩
  · obtain ⟨z1, z2⟩ := h.2 q (by omega) (by omega)
    exact ⟨fun k => (s.2.1 q k (by omega)).symm.trans (z1 k), fun k hk => (r q k q1 q2 hk).symm.trans (z2 k (by omega))⟩
theorem SFr.le {p m n m' n' : Nat} {I I' : IM} (h : SFr p m n I I') (hm : m' ≤ m := by omega) (hn : n' ≤ n := by omega) : SFr p m' n' I I' := ⟨h.1, fun q j hq => h.2.1 q j (by omega), fun k hk => h.2.2 k (by omega)⟩
theorem CF.s {p n c : Nat} {I I' : IM} (h : CF p n I I') (hp : isP p) (hc : c ≤ 50) : SFr p c n I I' := (h.sf hp).1.le hc (Nat.le_refl _)
theorem CF.y {p n c : Nat} {I I' : IM} (h : CF p n I I') (hp : isP p) (hc : c < 50) (k : Nat) : I' (p + 2 + c) k = I (p + 2 + c) k := (h.sf hp).1.2.1 c k hc
/-- the STATEMENT y has X's fields -/
def AGY (X : RX) (y : Nat) (I : IM) : Prop := ∀ k, I y k = X.F y k
section CSTM
variable {I I' : IM} {J : JM} {R : RM} {K B M : Nat → Int32} {V : Nat → Prop} {p n i : Nat}
theorem CS.wy {y f : Nat} {v : Int32} (h : CS K B M V p n I R i) (hy : LT y = some oT) : CS K B M V p n (up2 I y f v) R i := by
  have b := LT_oT y (LT_bound hy) hy
  obtain ⟨q1, q2, q3, q4, q5, q6, q7, q8, q9, q10, q11⟩ := h
  have hp' : p = 7 ∨ p = 62 := q3
  refine ⟨q1, q2, q3, ?_, q5, ?_, ?_, ?_, ?_, ?_, q11⟩
  · rw [up2_nea (by omega)]; exact q4
  · funext j; rw [up2_nea (by omega), q6]
  · funext j; rw [up2_nea (by omega), q7]
  · rw [up2_nea (by omega)]; exact q8
  · funext j; rw [up2_nea (by omega), q9]
  · rw [up2_nea (by omega)]; exact q10
theorem CS.wr {y f : Nat} {v : Option Nat} (h : CS K B M V p n I R i) (hy : LT y = some oT) (hf : 7 ≤ f) : CS K B M V p n I (up2 R y f v) i := by
  have b := LT_oT y (LT_bound hy) hy
  obtain ⟨q1, q2, q3, q4, q5, q6, q7, q8, q9, q10, q11⟩ := h
  exact ⟨q1.w (mutT hy hf), ⟨by rw [up2_nea (by omega)]; exact q2.1, by rw [up2_nea (by omega)]; exact q2.2⟩, q3, q4, q5, q6, q7, q8, q9, q10, q11⟩
theorem v_begS {x : Int32} {w : WW} {Q : (Int32 × WW) → Prop} (k1 : (x = 2 ∨ x = 3 ∨ x = 4 ∨ x = 6 ∨ x = 7) → Q (1, w)) (k0 : ¬ (x = 2 ∨ x = 3 ∨ x = 4 ∨ x = 6 ∨ x = 7) → Q (0, w)) : wl (f_pa_beginsStatement x w) Q := by
  unfold f_pa_beginsStatement f_pa_beginsStatement_27 f_pa_beginsStatement_32
  refine wl_ite (fun z => wl_req (fun _ => wl_some (k1 (Or.inl z)))) (fun z1 => wl_ite (fun z => wl_req (fun _ => wl_some (k1 (Or.inr (Or.inl z))))) (fun z2 => wl_ite (fun z => wl_req (fun _ => wl_some (k1 (Or.inr (Or.inr (Or.inl z)))))) (fun z3 => wl_ite (fun z => wl_req (fun _ => wl_some (k1 (Or.inr (Or.inr (Or.inr (Or.inl z))))))) (fun z4 => wl_ite (fun z => wl_req (fun _ => wl_some (k1 (Or.inr (Or.inr (Or.inr (Or.inr z))))))) (fun z5 => wl_req (fun _ => wl_some (k0 ?_)))))))
  intro z
  rcases z with z | z | z | z | z
  · exact z1 z
  · exact z2 z
  · exact z3 z
  · exact z4 z
  · exact z5 z
theorem v_asg (hV : NXT K V) (hc : CS K B M V p n I R i) {c : Nat} (hy : LT (p + 2 + c) = some oT) (hc50 : c < 50) (h0 : I (p + 2 + c) 0 = 2) {Q : ((Unit ⊕ String) × WW) → Prop} (k : ∀ (j n' : Nat) (I' : IM), (∀ X : RX, AGS X p n' I' → AGY X (p + 2 + c) I' → asP X K B M (p + 2 + c) (i, n) (.inl (j, n'))) → SFr p c n I I' → (I' (p + 2 + c) 1 = I (p + 2 + c) 1 ∧ I' (p + 2 + c) 2 = I (p + 2 + c) 2) → I' p 1 = I p 1 → CS K B M V p n' I' R j → i + 3 ≤ j ∧ n ≤ n' → Q (.inl (), mk I' J R)) (kx : ∀ (E : String) (j : Nat) (I' : IM), (∀ X : RX, AGS X p 200 I' → AGY X (p + 2 + c) I' → asP X K B M (p + 2 + c) (i, n) (.inr j)) → SFr p c n I I' → I' 1 3 = B j → Q (.inr E, mk I' J R)) : wl (f_pa_readAssignment 1 (some (p + 2 + c)) (mk I J R)) Q := by
  have hp := hc.2.2.1
  have hp' : p = 7 ∨ p = 62 := hp
  unfold f_pa_readAssignment f_pa_readAssignment_56
  refine wl_kb (wl_bdx (v_take hV hc (by decide) (fun k1 I1 e1 h1 => ⟨fun v hv => ?_, fun E hE => (by cases hE)⟩) (fun k1 I1 e1 h3 => ⟨fun v hv => (by cases hv), fun E hE => kx E i I1 (fun X _ _ => sq.r (Or.inr ⟨k1, rfl⟩)) (e1.s hp (by omega)) h3⟩)))
  have t1 : tkP K 61 (i, n) (.inl (i + 1, n)) := Or.inl ⟨k1, rfl⟩
  have s1 : SFr p c n I I1 := e1.s hp (by omega)
  have y1 := fun k => e1.y hp hc50 k
  have p1 := (e1.sf hp).2
  refine wl_bd2 (v_kindHere h1 ?_)
  dsimp only
  refine wl_ite (fun c8 => ?_) (fun c8 => ?_)
  · refine wl_eq rfl (wl_pI hy rfl ?_)
    generalize hI2 : up2 I1 (p + 2 + c) 0 8 = I2
    have s2 : SFr p c n I I2 := s1.trans (by rw [← hI2]; exact SFr.wy hp hc50 (Nat.le_refl _)) (Nat.le_refl _) (Nat.le_refl _)
    have y2 : ∀ k, k ≠ 0 → I2 (p + 2 + c) k = I (p + 2 + c) k := fun k hk => by rw [← hI2, up2_nek hk, y1]
    have y20 : I2 (p + 2 + c) 0 = 8 := by rw [← hI2, up2_s]
    have p2 : I2 p 1 = I p 1 := by rw [← hI2, up2_nea (by omega), p1]
    have h2 : CS K B M V p n I2 R (i + 1) := by rw [← hI2]; exact h1.wy hy
    refine wl_bd (v_advance hV h2 (by rw [c8]; decide) (by rw [c8]; decide) (fun I3 e3 h3 => ?_))
    refine wl_bdx (v_take hV h3 (by decide) (fun k4 I4 e4 h4 => ⟨fun v hv => ?_, fun E hE => (by cases hE)⟩) (fun k4 I4 e4 h4 => ⟨fun v hv => (by cases hv), fun E hE => kx E (i + 1 + 1) I4 (fun X _ ay => sq.l t1 (Or.inl ⟨c8, ?_, Or.inr ⟨k4, rfl⟩⟩)) (s2.trans ((e3.trans e4).s hp (by omega)) (Nat.le_refl _) (Nat.le_refl _)) h4⟩))
    · have y4 : ∀ k, I4 (p + 2 + c) k = I2 (p + 2 + c) k := fun k => (e3.trans e4).y hp hc50 k
      exact wl_some (k _ _ I4 (fun X _ ay => sq.l t1 (Or.inl ⟨c8, by rw [← ay 0, y4]; exact y20, Or.inl ⟨k4, rfl⟩⟩)) (s2.trans ((e3.trans e4).s hp (by omega)) (Nat.le_refl _) (Nat.le_refl _)) ⟨by rw [y4, y2 1 (by decide)], by rw [y4, y2 2 (by decide)]⟩ (by rw [((e3.trans e4).sf hp).2]; exact p2) h4 (by omega))
    · rw [← ay 0, (e3.trans e4).y hp hc50 0]; exact y20
  · refine wl_gR rfl rfl h1.2.1.1 (wl_eq rfl (wl_gI (isP_lt hp).1 rfl rfl (wl_eq rfl (wl_pI hy rfl ?_))))
    have n5 := h1.2.2.2.2.2.2.2.2.2.1
    generalize hI2 : up2 I1 (p + 2 + c) 3 (I1 p 5) = I2
    have s2 : SFr p c n I I2 := s1.trans (by rw [← hI2]; exact SFr.wy hp hc50 (Nat.le_refl _)) (Nat.le_refl _) (Nat.le_refl _)
    have y2 : ∀ k, k ≠ 3 → I2 (p + 2 + c) k = I (p + 2 + c) k := fun k hk => by rw [← hI2, up2_nek hk, y1]
    have y23 : I2 (p + 2 + c) 3 = I1 p 5 := by rw [← hI2, up2_s]
    have p2 : I2 p 1 = I p 1 := by rw [← hI2, up2_nea (by omega), p1]
    have h2 : CS K B M V p n I2 R (i + 1) := by rw [← hI2]; exact h1.wy hy
    refine wl_bdx (v_readExpr hV h2 (fun h i' n' I3 hD e3 h3 lt => ⟨fun v hv => ?_, fun E hE => (by cases hE)⟩) (fun E j I3 hD e3 h3 => ⟨fun v hv => (by cases hv), fun E' hE => kx E' j I3 (fun X ag ay => sq.l t1 (Or.inr ⟨c8, ?_, sq.l (s' := (i + 1, n)) ⟨?_, rfl⟩ (sq.r (Or.inr ⟨j, hD X ag, rfl⟩))⟩)) (s2.trans (e3.s hp (by omega)) (Nat.le_refl _) (Nat.le_refl _)) h3⟩))
    · have y3 : ∀ k, I3 (p + 2 + c) k = I2 (p + 2 + c) k := fun k => e3.y hp hc50 k
      refine wl_gR rfl rfl h3.2.1.1 (wl_eq rfl (wl_gI (isP_lt hp).1 rfl rfl (wl_pI hy rfl ?_)))
      have n5' := h3.2.2.2.2.2.2.2.2.2.1
      generalize hI4 : up2 I3 (p + 2 + c) 5 (I3 p 5) = I4
      have s4 : SFr p c n I I4 := (s2.trans (e3.s hp (by omega)) (Nat.le_refl _) (Nat.le_refl _)).trans (by rw [← hI4]; exact SFr.wy hp hc50 (Nat.le_refl _)) (Nat.le_refl _) (Nat.le_refl _)
      have y4 : ∀ k, k ≠ 5 → I4 (p + 2 + c) k = I2 (p + 2 + c) k := fun k hk => by rw [← hI4, up2_nek hk, y3]
      have y45 : I4 (p + 2 + c) 5 = I3 p 5 := by rw [← hI4, up2_s]
      have st4 : ∀ x k, (x = p + 52 ∨ x = p + 53 ∨ x = p + 54) → I4 x k = I3 x k := fun x k hx => by rw [← hI4, up2_nea (by omega)]
      have p4 : I4 p 1 = I p 1 := by rw [← hI4, up2_nea (by omega), (e3.sf hp).2, p2]
      have h4 : CS K B M V p n' I4 R i' := by rw [← hI4]; exact h3.wy hy
      have nle := h4.2.2.2.2.2.2.2.2.2.2
      have n200 := hV.2 i' h4.2.2.2.2.1
      have fin : ∀ (X : RX) (N : Nat) (I5 : IM), n' ≤ N → CF p n' I4 I5 → AGS X p N I5 → AGY X (p + 2 + c) I5 → ∀ r, tkP K 59 (i', n') r → asP X K B M (p + 2 + c) (i, n) r := by
        intro X N I5 hN e5 ag ay r ht
        have y5 : ∀ k, I5 (p + 2 + c) k = I4 (p + 2 + c) k := fun k => e5.y hp hc50 k
        have ag4 : AGS X p n' I4 := ag.back e5 hN
        have ag3 : AGS X p n' I3 := fun k hk => by
          have q := ag4 k hk
          rw [st4 _ _ (Or.inl rfl), st4 _ _ (Or.inr (Or.inl rfl)), st4 _ _ (Or.inr (Or.inr rfl))] at q
          exact q
        refine sq.l t1 (Or.inr ⟨c8, ?_, sq.l (s' := (i + 1, n)) ⟨?_, rfl⟩ (sq.l (s' := (i', n')) (Or.inl ⟨h, i', n', hD X ag3, rfl⟩) (sq.l (s' := (i', n')) ⟨?_, rfl⟩ ht))⟩)
        · rw [← ay 0, y5, y4 0 (by decide), y2 0 (by decide)]; exact h0
        · rw [← ay 3, y5, y4 3 (by decide), y23]; exact n5
        · rw [← ay 5, y5, y45]; exact n5'
      refine wl_bdx (v_take hV h4 (by decide) (fun k5 I5 e5 h5 => ⟨fun v hv => ?_, fun E hE => (by cases hE)⟩) (fun k5 I5 e5 h5 => ⟨fun v hv => (by cases hv), fun E hE => kx E i' I5 (fun X ag ay => fin X 200 I5 (by omega) e5 ag ay _ (Or.inr ⟨k5, rfl⟩)) (s4.trans (e5.s hp (by omega)) (Nat.le_refl _) (by omega)) h5⟩))
      have y5 : ∀ k, I5 (p + 2 + c) k = I4 (p + 2 + c) k := fun k => e5.y hp hc50 k
      exact wl_some (k _ _ I5 (fun X ag ay => fin X n' I5 (Nat.le_refl _) e5 ag ay _ (Or.inl ⟨k5, rfl⟩)) (s4.trans (e5.s hp (by omega)) (Nat.le_refl _) (by omega)) ⟨by rw [y5, y4 1 (by decide), y2 1 (by decide)], by rw [y5, y4 2 (by decide), y2 2 (by decide)]⟩ (by rw [(e5.sf hp).2]; exact p4) h5 (by omega))
    · rw [← ay 0, e3.y hp hc50 0, y2 0 (by decide)]; exact h0
    · rw [← ay 3, e3.y hp hc50 3, y23]; exact n5
/-- an EXPR, and the number of steps behind it kept in the field f -/
theorem v_exm (hV : NXT K V) (hc : CS K B M V p n I R i) {c f : Nat} (hy : LT (p + 2 + c) = some oT) (hc50 : c < 50) (hf : f = 4 ∨ f = 5) {γ : Type} {F : WW → Option ((γ ⊕ String) × WW)} {Q : ((γ ⊕ String) × WW) → Prop} (k : ∀ (j n' : Nat) (I' : IM), (∀ X : RX, AGS X p n' I' → exP X K B M (i, n) (.inl (j, n'))) → SFr p c n I I' → (∀ k, k ≠ f → I' (p + 2 + c) k = I (p + 2 + c) k) → (I' (p + 2 + c) f).toInt = n' → I' p 1 = I p 1 → CS K B M V p n' I' R j → i < j ∧ n ≤ n' → wl (F (mk I' J R)) Q) (kx : ∀ (E : String) (j : Nat) (I' : IM), (∀ X : RX, AGS X p 200 I' → exP X K B M (i, n) (.inr j)) → SFr p c n I I' → (∀ k, I' (p + 2 + c) k = I (p + 2 + c) k) → I' 1 3 = B j → Q (.inr E, mk I' J R)) : wl (bdx (f_pa_readExpr 64 1 (0 : Int32) (mk I J R)) fun _ w => (gR w 1 2 2).bind fun x23 => x23.bind fun x24 => (gI w x24 3 5).bind fun x25 => (pv w (p + 2 + c) 4 f (.int x25)).bind fun w26 => F w26) Q := by
  have hp := hc.2.2.1
  have hp' : p = 7 ∨ p = 62 := hp
  refine wl_bdx (v_readExpr hV hc (fun h i' n' I3 hD e3 h3 lt => ⟨fun v hv => ?_, fun E hE => (by cases hE)⟩) (fun E j I3 hD e3 h3 => ⟨fun v hv => (by cases hv), fun E' hE => kx E' j I3 (fun X ag => Or.inr ⟨j, hD X ag, rfl⟩) (e3.s hp (by omega)) (fun k => e3.y hp hc50 k) h3⟩))
  have n5 := h3.2.2.2.2.2.2.2.2.2.1
  refine wl_gR rfl rfl h3.2.1.1 (wl_eq rfl (wl_gI (isP_lt hp).1 rfl rfl ?_))
  have go : ∀ I4 : IM, I4 = up2 I3 (p + 2 + c) f (I3 p 5) → wl (F (mk I4 J R)) Q := by
    intro I4 hI4
    have st : ∀ x k, (x = p + 52 ∨ x = p + 53 ∨ x = p + 54) → I4 x k = I3 x k := fun x k hx => by rw [hI4, up2_nea (by omega)]
    refine k i' n' I4 (fun X ag => Or.inl ⟨h, i', n', hD X (fun k hk => ?_), rfl⟩) ((e3.s hp (by omega)).trans (by rw [hI4]; exact SFr.wy hp hc50 (Nat.le_refl _)) (Nat.le_refl _) (Nat.le_refl _)) (fun k hk => by rw [hI4, up2_nek hk, e3.y hp hc50 k]) (by rw [hI4, up2_s]; exact n5) (by rw [hI4, up2_nea (by omega), (e3.sf hp).2]) (by rw [hI4]; exact h3.wy hy) ⟨lt.1, lt.2.1⟩
    have q := ag k hk
    rw [st _ _ (Or.inl rfl), st _ _ (Or.inr (Or.inl rfl)), st _ _ (Or.inr (Or.inr rfl))] at q
    exact q
  rcases hf with rfl | rfl
  · exact wl_pI hy rfl (go _ rfl)
  · exact wl_pI hy rfl (go _ rfl)
theorem v_sto (hV : NXT K V) (hc : CS K B M V p n I R i) {c : Nat} (hy : LT (p + 2 + c) = some oT) (hc50 : c < 50) {Q : ((Unit ⊕ String) × WW) → Prop} (k : ∀ (j n' : Nat) (I' : IM), (∀ X : RX, AGS X p n' I' → AGY X (p + 2 + c) I' → stP X K B M (p + 2 + c) (i, n) (.inl (j, n'))) → SFr p c n I I' → (∀ k, k ≤ 2 → I' (p + 2 + c) k = I (p + 2 + c) k) → I' p 1 = I p 1 → CS K B M V p n' I' R j → i + 3 ≤ j ∧ n ≤ n' → Q (.inl (), mk I' J R)) (kx : ∀ (E : String) (j : Nat) (I' : IM), (∀ X : RX, AGS X p 200 I' → AGY X (p + 2 + c) I' → stP X K B M (p + 2 + c) (i, n) (.inr j)) → SFr p c n I I' → I' 1 3 = B j → Q (.inr E, mk I' J R)) : wl (f_pa_readStore 1 (some (p + 2 + c)) (mk I J R)) Q := by
  have hp := hc.2.2.1
  have hp' : p = 7 ∨ p = 62 := hp
  unfold f_pa_readStore
  refine wl_kb (wl_bdx (v_take hV hc (by decide) (fun k1 I1 e1 h1 => ⟨fun v hv => ?_, fun E hE => (by cases hE)⟩) (fun k1 I1 e1 h3 => ⟨fun v hv => (by cases hv), fun E hE => kx E i I1 (fun X _ _ => sq.r (Or.inr ⟨k1, rfl⟩)) (e1.s hp (by omega)) h3⟩)))
  have t1 : tkP K 91 (i, n) (.inl (i + 1, n)) := Or.inl ⟨k1, rfl⟩
  have n5 := h1.2.2.2.2.2.2.2.2.2.1
  refine wl_gR rfl rfl h1.2.1.1 (wl_eq rfl (wl_gI (isP_lt hp).1 rfl rfl (wl_eq rfl (wl_pI hy rfl ?_))))
  generalize hI2 : up2 I1 (p + 2 + c) 3 (I1 p 5) = I2
  have s2 : SFr p c n I I2 := (e1.s hp (by omega)).trans (by rw [← hI2]; exact SFr.wy hp hc50 (Nat.le_refl _)) (Nat.le_refl _) (Nat.le_refl _)
  have y2 : ∀ k, k ≠ 3 → I2 (p + 2 + c) k = I (p + 2 + c) k := fun k hk => by rw [← hI2, up2_nek hk, e1.y hp hc50 k]
  have y23 : (I2 (p + 2 + c) 3).toInt = n := by rw [← hI2, up2_s]; exact n5
  have p2 : I2 p 1 = I p 1 := by rw [← hI2, up2_nea (by omega), (e1.sf hp).2]
  have h2 : CS K B M V p n I2 R (i + 1) := by rw [← hI2]; exact h1.wy hy
  refine v_exm hV h2 hy hc50 (Or.inl rfl) (fun j n1 I3 hX s3 y3 y34 p3 h3 lt => ?_) (fun E j I3 hX s3 y3 h3 => kx E j I3 (fun X ag ay => sq.l t1 (sq.l (s' := (i + 1, n)) ⟨by rw [← ay 3, y3]; exact y23, rfl⟩ (sq.r (hX X ag)))) (s2.trans s3 (Nat.le_refl _) (Nat.le_refl _)) h3)
  have nl3 := h3.2.2.2.2.2.2.2.2.2.2
  have n23 := hV.2 j h3.2.2.2.2.1
  have g3 : ∀ (X : RX) (N : Nat) (I' : IM), n1 ≤ N → SFr p c n1 I3 I' → I' (p + 2 + c) 3 = I3 (p + 2 + c) 3 → I' (p + 2 + c) 4 = I3 (p + 2 + c) 4 → AGS X p N I' → AGY X (p + 2 + c) I' → ∀ r, sq (tkP K 93) (sq (tkP K 61) (sq (exP X K B M) (sq (fdP X (p + 2 + c) 5) (tkP K 59)))) (j, n1) r → stP X K B M (p + 2 + c) (i, n) r := by
    intro X N I' hN s f3 f4 ag ay r hr
    have ag3 : AGS X p n1 I3 := fun k hk => by
      have q := ag k (by omega)
      rw [(s.2.2 k hk).1, (s.2.2 k hk).2.1, (s.2.2 k hk).2.2] at q
      exact q
    exact sq.l t1 (sq.l (s' := (i + 1, n)) ⟨by rw [← ay 3, f3, y3 3 (by decide)]; exact y23, rfl⟩ (sq.l (s' := (j, n1)) (hX X ag3) (sq.l (s' := (j, n1)) ⟨by rw [← ay 4, f4]; exact y34, rfl⟩ hr)))
  have s13 : SFr p c n I I3 := s2.trans s3 (Nat.le_refl _) (Nat.le_refl _)
  refine wl_bdx (v_take hV h3 (by decide) (fun k4 I4 e4 h4 => ⟨fun v hv => ?_, fun E hE => (by cases hE)⟩) (fun k4 I4 e4 h4 => ⟨fun v hv => (by cases hv), fun E hE => kx E j I4 (fun X ag ay => g3 X 200 I4 (by omega) (e4.s hp (by omega)) (e4.y hp hc50 3) (e4.y hp hc50 4) ag ay _ (sq.r (Or.inr ⟨k4, rfl⟩))) (s13.trans (e4.s hp (by omega)) (Nat.le_refl _) (by omega)) h4⟩))
  have t4 : tkP K 93 (j, n1) (.inl (j + 1, n1)) := Or.inl ⟨k4, rfl⟩
  refine wl_bdx (v_take hV h4 (by decide) (fun k5 I5 e5 h5 => ⟨fun v hv => ?_, fun E hE => (by cases hE)⟩) (fun k5 I5 e5 h5 => ⟨fun v hv => (by cases hv), fun E hE => kx E (j + 1) I5 (fun X ag ay => g3 X 200 I5 (by omega) ((e4.trans e5).s hp (by omega)) ((e4.trans e5).y hp hc50 3) ((e4.trans e5).y hp hc50 4) ag ay _ (sq.l t4 (sq.r (Or.inr ⟨k5, rfl⟩)))) (s13.trans ((e4.trans e5).s hp (by omega)) (Nat.le_refl _) (by omega)) h5⟩))
  have t5 : tkP K 61 (j + 1, n1) (.inl (j + 1 + 1, n1)) := Or.inl ⟨k5, rfl⟩
  have e45 := e4.trans e5
  have s5 : SFr p c n1 I3 I5 := e45.s hp (by omega)
  refine v_exm hV h5 hy hc50 (Or.inr rfl) (fun j6 n6 I6 hX6 s6 y6 y65 p6 h6 lt6 => ?_) (fun E j6 I6 hX6 s6 y6 h6 => kx E j6 I6 (fun X ag ay => g3 X 200 I6 (by omega) (s5.trans s6 (Nat.le_refl _) (Nat.le_refl _)) ((y6 3).trans (e45.y hp hc50 3)) ((y6 4).trans (e45.y hp hc50 4)) ag ay _ (sq.l t4 (sq.l t5 (sq.r (hX6 X ag))))) (s13.trans (s5.trans s6 (Nat.le_refl _) (Nat.le_refl _)) (Nat.le_refl _) (by omega)) h6)
  have nl6 := h6.2.2.2.2.2.2.2.2.2.2
  have n26 := hV.2 j6 h6.2.2.2.2.1
  have s56 : SFr p c n1 I3 I6 := s5.trans s6 (Nat.le_refl _) (Nat.le_refl _)
  have g6 : ∀ (X : RX) (N : Nat) (I' : IM), n6 ≤ N → CF p n6 I6 I' → AGS X p N I' → AGY X (p + 2 + c) I' → ∀ r, tkP K 59 (j6, n6) r → stP X K B M (p + 2 + c) (i, n) r := by
    intro X N I' hN e ag ay r hr
    have y' := fun k => e.y hp hc50 k
    exact g3 X N I' (by omega) (s56.trans (e.s hp (by omega)) (Nat.le_refl _) (by omega)) (by rw [y', y6 3 (by decide), e45.y hp hc50 3]) (by rw [y', y6 4 (by decide), e45.y hp hc50 4]) ag ay r (sq.l t4 (sq.l t5 (sq.l (s' := (j6, n6)) (hX6 X (ag.back e hN)) (sq.l (s' := (j6, n6)) ⟨by rw [← ay 5, y']; exact y65, rfl⟩ hr))))
  refine wl_bdx (v_take hV h6 (by decide) (fun k7 I7 e7 h7 => ⟨fun v hv => ?_, fun E hE => (by cases hE)⟩) (fun k7 I7 e7 h7 => ⟨fun v hv => (by cases hv), fun E hE => kx E j6 I7 (fun X ag ay => g6 X 200 I7 (by omega) e7 ag ay _ (Or.inr ⟨k7, rfl⟩)) (s13.trans (s56.trans (e7.s hp (by omega)) (Nat.le_refl _) (by omega)) (Nat.le_refl _) (by omega)) h7⟩))
  exact wl_some (k _ _ I7 (fun X ag ay => g6 X n6 I7 (Nat.le_refl _) e7 ag ay _ (Or.inl ⟨k7, rfl⟩)) (s13.trans (s56.trans (e7.s hp (by omega)) (Nat.le_refl _) (by omega)) (Nat.le_refl _) (by omega)) (fun k hk => by rw [e7.y hp hc50 k, y6 k (by omega), e45.y hp hc50 k, y3 k (by omega), y2 k (by omega)]) (by rw [(e7.sf hp).2, p6, (e45.sf hp).2, p3, p2]) h7 (by omega))
theorem v_cond (hV : NXT K V) (hc : CS K B M V p n I R i) {c : Nat} (hy : LT (p + 2 + c) = some oT) (hc50 : c < 50) {Q : ((Unit ⊕ String) × WW) → Prop} (k : ∀ (j n' : Nat) (I' : IM), (∀ X : RX, AGS X p n' I' → AGY X (p + 2 + c) I' → coP X K B M (p + 2 + c) (i, n) (.inl (j, n'))) → SFr p c n I I' → (∀ k, k ≤ 2 → I' (p + 2 + c) k = I (p + 2 + c) k) → I' p 1 = I p 1 → CS K B M V p n' I' R j → i + 3 ≤ j ∧ n ≤ n' → Q (.inl (), mk I' J R)) (kx : ∀ (E : String) (j : Nat) (I' : IM), (∀ X : RX, AGS X p 200 I' → AGY X (p + 2 + c) I' → coP X K B M (p + 2 + c) (i, n) (.inr j)) → SFr p c n I I' → I' 1 3 = B j → Q (.inr E, mk I' J R)) : wl (f_pa_readCond 1 (some (p + 2 + c)) (mk I J R)) Q := by
  have hp := hc.2.2.1
  have hp' : p = 7 ∨ p = 62 := hp
  unfold f_pa_readCond f_pa_readCond_67 f_pa_readCond_72
  refine wl_kb (wl_bdx (v_take hV hc (by decide) (fun k1 I1 e1 h1 => ⟨fun v hv => ?_, fun E hE => (by cases hE)⟩) (fun k1 I1 e1 h3 => ⟨fun v hv => (by cases hv), fun E hE => kx E i I1 (fun X _ _ => sq.r (Or.inr ⟨k1, rfl⟩)) (e1.s hp (by omega)) h3⟩)))
  have t1 : tkP K 40 (i, n) (.inl (i + 1, n)) := Or.inl ⟨k1, rfl⟩
  have n5 := h1.2.2.2.2.2.2.2.2.2.1
  refine wl_gR rfl rfl h1.2.1.1 (wl_eq rfl (wl_gI (isP_lt hp).1 rfl rfl (wl_eq rfl (wl_pI hy rfl ?_))))
  generalize hI2 : up2 I1 (p + 2 + c) 3 (I1 p 5) = I2
  have s2 : SFr p c n I I2 := (e1.s hp (by omega)).trans (by rw [← hI2]; exact SFr.wy hp hc50 (Nat.le_refl _)) (Nat.le_refl _) (Nat.le_refl _)
  have y2 : ∀ k, k ≠ 3 → I2 (p + 2 + c) k = I (p + 2 + c) k := fun k hk => by rw [← hI2, up2_nek hk, e1.y hp hc50 k]
  have y23 : (I2 (p + 2 + c) 3).toInt = n := by rw [← hI2, up2_s]; exact n5
  have p2 : I2 p 1 = I p 1 := by rw [← hI2, up2_nea (by omega), (e1.sf hp).2]
  have h2 : CS K B M V p n I2 R (i + 1) := by rw [← hI2]; exact h1.wy hy
  refine v_exm hV h2 hy hc50 (Or.inl rfl) (fun j n1 I3 hX s3 y3 y34 p3 h3 lt => ?_) (fun E j I3 hX s3 y3 h3 => kx E j I3 (fun X ag ay => sq.l t1 (sq.l (s' := (i + 1, n)) ⟨by rw [← ay 3, y3]; exact y23, rfl⟩ (sq.r (hX X ag)))) (s2.trans s3 (Nat.le_refl _) (Nat.le_refl _)) h3)
  have nl3 := h3.2.2.2.2.2.2.2.2.2.2
  have n23 := hV.2 j h3.2.2.2.2.1
  have s13 : SFr p c n I I3 := s2.trans s3 (Nat.le_refl _) (Nat.le_refl _)
  have g3 : ∀ (X : RX) (N : Nat) (I' : IM), n1 ≤ N → SFr p c n1 I3 I' → I' (p + 2 + c) 3 = I3 (p + 2 + c) 3 → I' (p + 2 + c) 4 = I3 (p + 2 + c) 4 → AGS X p N I' → AGY X (p + 2 + c) I' → ∀ r, sq (cmP X K (p + 2 + c)) (sq (exP X K B M) (sq (fdP X (p + 2 + c) 5) (tkP K 41))) (j, n1) r → coP X K B M (p + 2 + c) (i, n) r := by
    intro X N I' hN s f3 f4 ag ay r hr
    have ag3 : AGS X p n1 I3 := fun k hk => by
      have q := ag k (by omega)
      rw [(s.2.2 k hk).1, (s.2.2 k hk).2.1, (s.2.2 k hk).2.2] at q
      exact q
    exact sq.l t1 (sq.l (s' := (i + 1, n)) ⟨by rw [← ay 3, f3, y3 3 (by decide)]; exact y23, rfl⟩ (sq.l (s' := (j, n1)) (hX X ag3) (sq.l (s' := (j, n1)) ⟨by rw [← ay 4, f4]; exact y34, rfl⟩ hr)))
  refine wl_bd2 (v_kindHere h3 ?_)
  dsimp only
  have go : isCm (K j) → wl (bdx (f_pa_need 1 (1 : Int32) (mk I3 J R)) fun x18 w17 => (pv w17 (p + 2 + c) 4 6 (.int (K j))).bind fun w19 => (f_pa_advance 1 w19).bind fun w20 => bdx (f_pa_readExpr 64 1 (0 : Int32) w20) fun x22 w21 => (gR w21 1 2 2).bind fun x23 => x23.bind fun x24 => (gI w21 x24 3 5).bind fun x25 => (pv w21 (p + 2 + c) 4 5 (.int x25)).bind fun w26 => bdx (f_pa_take 1 (41 : Int32) w26) fun x28 w27 => some (.inl (), w27)) Q := by
    intro hz
    have k0 : (K j).toInt ≠ 0 ∧ (K j).toInt ≠ -1 := by
      rcases hz with z | z | z | z <;> rw [z] <;> decide
    refine wl_bdx (v_need h3 (fun _ => ⟨fun v hv => ?_, fun E hE => (by cases hE)⟩) (fun z => absurd z (by decide)))
    refine wl_pI hy rfl ?_
    generalize hI4 : up2 I3 (p + 2 + c) 6 (K j) = I4
    have h4 : CS K B M V p n1 I4 R j := by rw [← hI4]; exact h3.wy hy
    have s4 : SFr p c n1 I3 I4 := by rw [← hI4]; exact SFr.wy hp hc50 (Nat.le_refl _)
    have y4 : ∀ k, k ≠ 6 → I4 (p + 2 + c) k = I3 (p + 2 + c) k := fun k hk => by rw [← hI4, up2_nek hk]
    have y46 : I4 (p + 2 + c) 6 = K j := by rw [← hI4, up2_s]
    have p4 : I4 p 1 = I3 p 1 := by rw [← hI4, up2_nea (by omega)]
    refine wl_bd (v_advance hV h4 k0.1 k0.2 (fun I5 e5 h5 => ?_))
    have s5 : SFr p c n1 I3 I5 := s4.trans (e5.s hp (by omega)) (Nat.le_refl _) (Nat.le_refl _)
    have y5 : ∀ k, I5 (p + 2 + c) k = I4 (p + 2 + c) k := fun k => e5.y hp hc50 k
    refine v_exm hV h5 hy hc50 (Or.inr rfl) (fun j6 n6 I6 hX6 s6 y6 y65 p6 h6 lt6 => ?_) (fun E j6 I6 hX6 s6 y6 h6 => kx E j6 I6 (fun X ag ay => g3 X 200 I6 (by omega) (s5.trans s6 (Nat.le_refl _) (Nat.le_refl _)) (by rw [y6, y5, y4 3 (by decide)]) (by rw [y6, y5, y4 4 (by decide)]) ag ay _ (sq.l (s' := (j + 1, n1)) (Or.inl ⟨hz, by rw [← ay 6, y6, y5]; exact y46, rfl⟩) (sq.r (hX6 X ag)))) (s13.trans (s5.trans s6 (Nat.le_refl _) (Nat.le_refl _)) (Nat.le_refl _) (by omega)) h6)
    have nl6 := h6.2.2.2.2.2.2.2.2.2.2
    have n26 := hV.2 j6 h6.2.2.2.2.1
    have s56 : SFr p c n1 I3 I6 := s5.trans s6 (Nat.le_refl _) (Nat.le_refl _)
    have g6 : ∀ (X : RX) (N : Nat) (I' : IM), n6 ≤ N → CF p n6 I6 I' → AGS X p N I' → AGY X (p + 2 + c) I' → ∀ r, tkP K 41 (j6, n6) r → coP X K B M (p + 2 + c) (i, n) r := by
      intro X N I' hN e ag ay r hr
      have y' := fun k => e.y hp hc50 k
      exact g3 X N I' (by omega) (s56.trans (e.s hp (by omega)) (Nat.le_refl _) (by omega)) (by rw [y', y6 3 (by decide), y5, y4 3 (by decide)]) (by rw [y', y6 4 (by decide), y5, y4 4 (by decide)]) ag ay r (sq.l (s' := (j + 1, n1)) (Or.inl ⟨hz, by rw [← ay 6, y', y6 6 (by decide), y5]; exact y46, rfl⟩) (sq.l (s' := (j6, n6)) (hX6 X (ag.back e hN)) (sq.l (s' := (j6, n6)) ⟨by rw [← ay 5, y']; exact y65, rfl⟩ hr)))
    refine wl_bdx (v_take hV h6 (by decide) (fun k7 I7 e7 h7 => ⟨fun v hv => ?_, fun E hE => (by cases hE)⟩) (fun k7 I7 e7 h7 => ⟨fun v hv => (by cases hv), fun E hE => kx E j6 I7 (fun X ag ay => g6 X 200 I7 (by omega) e7 ag ay _ (Or.inr ⟨k7, rfl⟩)) (s13.trans (s56.trans (e7.s hp (by omega)) (Nat.le_refl _) (by omega)) (Nat.le_refl _) (by omega)) h7⟩))
    exact wl_some (k _ _ I7 (fun X ag ay => g6 X n6 I7 (Nat.le_refl _) e7 ag ay _ (Or.inl ⟨k7, rfl⟩)) (s13.trans (s56.trans (e7.s hp (by omega)) (Nat.le_refl _) (by omega)) (Nat.le_refl _) (by omega)) (fun k hk => by rw [e7.y hp hc50 k, y6 k (by omega), y5, y4 k (by omega), y3 k (by omega), y2 k (by omega)]) (by rw [(e7.sf hp).2, p6, (e5.sf hp).2, p4, p3, p2]) h7 (by omega))
  refine wl_ite (fun z => go (Or.inl z)) (fun z1 => wl_ite (fun z => go (Or.inr (Or.inl z))) (fun z2 => wl_ite (fun z => go (Or.inr (Or.inr (Or.inl z)))) (fun z3 => wl_ite (fun z => go (Or.inr (Or.inr (Or.inr z)))) (fun z4 => ?_))))
  refine wl_bdx (v_need h3 (fun z => absurd rfl z) (fun _ I' e' h3' => ⟨fun v hv => (by cases hv), fun E hE => kx E j I' (fun X ag ay => g3 X 200 I' (by omega) (e'.s hp (by omega)) (e'.y hp hc50 3) (e'.y hp hc50 4) ag ay _ (sq.r (Or.inr ⟨fun z => ?_, rfl⟩))) (s13.trans (e'.s hp (by omega)) (Nat.le_refl _) (by omega)) h3'⟩))
  rcases z with z | z | z | z
  · exact z1 z
  · exact z2 z
  · exact z3 z
  · exact z4 z
/-- the memory holds all of X -/
abbrev AGF (X : RX) (p : Nat) (I : IM) (R : RM) : Prop := AG X p 200 0 50 0 I R
/-- the class's parser at the TOKEN i, with c STATEMENTS and n steps -/
def CTs (K B M : Nat → Int32) (V : Nat → Prop) (p n : Nat) (I : IM) (R : RM) (i c : Nat) : Prop := CS K B M V p n I R i ∧ (I p 1).toInt = c ∧ 4 * c ≤ i
/-- what the rest of the STATEMENT q of the kind kd may be -/
def RR (P : RX) (K B M : Nat → Int32) (p q : Nat) (kd : Int32) (d i c n : Nat) (r : SR) : Prop := (kd = 7 ∧ ((K i = 59 ∧ r = .inl (i + 1, c, n, none)) ∨ (¬ K i = 59 ∧ r = .inr i))) ∨ (¬ kd = 7 ∧ ((∃ j, DS P K B M p 2 (d + 1) 0 i c n (.inr j) ∧ r = .inr j) ∨ (∃ j c' n' o, DS P K B M p 2 (d + 1) 0 i c n (.inl (j, c', n', o)) ∧ ((kd = 4 ∧ K j = 5 ∧ ((∃ j3, DS P K B M p 2 (d + 1) 0 (j + 1) c' n' (.inr j3) ∧ r = .inr j3) ∨ (∃ j3 c3 n3 o3, DS P K B M p 2 (d + 1) 0 (j + 1) c' n' (.inl (j3, c3, n3, o3)) ∧ P.N (p + 2 + q) 7 = o ∧ P.N (p + 2 + q) 8 = o3 ∧ r = .inl (j3, c3, n3, none)))) ∨ (¬ (kd = 4 ∧ K j = 5) ∧ P.N (p + 2 + q) 7 = o ∧ P.N (p + 2 + q) 8 = none ∧ r = .inl (j, c', n', none))))))
theorem DS.of_rr {P : RX} {p d i c n j n' : Nat} {r : SR} (hk : K i = 4 ∨ K i = 6 ∨ K i = 7) (hh : HDR P (p + 2 + c) (K i) (B i) (M i)) (hc : coP P K B M (p + 2 + c) (i + 1, n) (.inl (j, n'))) (h : RR P K B M p c (K i) d j (c + 1) n' r) : DS P K B M p 1 d 0 i c n r := by
  have hb : ¬ K i = 7 → K i = 4 ∨ K i = 6 := by
    intro h7
    rcases hk with z | z | z
    · exact Or.inl z
    · exact Or.inr z
    · exact absurd z h7
  rcases h with ⟨h7, ⟨a, rfl⟩ | ⟨a, rfl⟩⟩ | ⟨h7, ⟨j', a, rfl⟩ | ⟨j', c', n2, o, a, ⟨b1, b2, ⟨j3, b3, rfl⟩ | ⟨j3, c3, n3, o3, b3, b4, b5, rfl⟩⟩ | ⟨b, b4, b5, rfl⟩⟩⟩
  · rw [h7] at hh
    exact .tasr h7 hh hc a
  · exact .tasrb h7 hc a
  · exact .tblkb (hb h7) hc a
  · exact .telsb b1 hc a b2 b3
  · exact .tels b1 hh hc a b2 b3 b4 b5
  · exact .tblk (hb h7) hh hc a b b4 b5
abbrev W4S (K B M : Nat → Int32) (V : Nat → Prop) (g : Nat → Int32 → Int32 → WW → Option ((Option Nat ⊕ String) × WW)) : Prop := ∀ {p n i c : Nat} {I : IM} {J : JM} {R : RM} {e d : Int32} {Q : ((Option Nat ⊕ String) × WW) → Prop}, CTs K B M V p n I R i c → 0 ≤ d.toInt ∧ d.toInt ≤ 3 → (∀ (o : Option Nat) (i' c' n' : Nat) (I' : IM) (R' : RM), (∀ X : RX, AG X p n' c c' c I' R' → DS X K B M p 0 d.toInt.toNat e i c n (.inl (i', c', n', o))) → SFr p c n I I' → RFx p c none R R' → CTs K B M V p n' I' R' i' c' → (c ≤ c' ∧ n ≤ n' ∧ i ≤ i') → K i' = e → Q (.inl o, mk I' J R')) → (∀ (E : String) (j : Nat) (I' : IM) (R' : RM), (∀ X : RX, AGF X p I' R' → DS X K B M p 0 d.toInt.toNat e i c n (.inr j)) → SFr p c n I I' → RFx p c none R R' → (I' 1 3 = B j ∧ FXR R') → Q (.inr E, mk I' J R')) → wl (g 1 e d (mk I J R)) Q
abbrev W4T (K B M : Nat → Int32) (V : Nat → Prop) (g : Nat → Int32 → WW → Option ((Option Nat ⊕ String) × WW)) : Prop := ∀ {p n i c : Nat} {I : IM} {J : JM} {R : RM} {d : Int32} {Q : ((Option Nat ⊕ String) × WW) → Prop}, CTs K B M V p n I R i c → 0 ≤ d.toInt ∧ d.toInt ≤ 3 → (∀ (i' c' n' : Nat) (I' : IM) (R' : RM), (∀ X : RX, AG X p n' c c' (c + 1) I' R' → DS X K B M p 1 d.toInt.toNat 0 i c n (.inl (i', c', n', none))) → SFr p c n I I' → RFx p c none R R' → CTs K B M V p n' I' R' i' c' → (c < c' ∧ n ≤ n' ∧ i < i') → LT (p + 2 + c) = some oT → R' (p + 2 + c) 9 = none → Q (.inl (some (p + 2 + c)), mk I' J R')) → (∀ (E : String) (j : Nat) (I' : IM) (R' : RM), (∀ X : RX, AGF X p I' R' → DS X K B M p 1 d.toInt.toNat 0 i c n (.inr j)) → SFr p c n I I' → RFx p c none R R' → (I' 1 3 = B j ∧ FXR R') → Q (.inr E, mk I' J R')) → wl (g 1 d (mk I J R)) Q
/-- links kept by the rest of the STATEMENT q -/
def RFq (p q : Nat) (R R' : RM) : Prop := ∀ y k, (y < p + 2 + q ∨ p + 52 ≤ y ∨ (y = p + 2 + q ∧ k = 9)) → R' y k = R y k
abbrev W4R (K B M : Nat → Int32) (V : Nat → Prop) (g : Nat → Option Nat → Int32 → WW → Option ((Unit ⊕ String) × WW)) : Prop := ∀ {p n i c q : Nat} {I : IM} {J : JM} {R : RM} {d : Int32} {Q : ((Unit ⊕ String) × WW) → Prop}, CTs K B M V p n I R i c → LT (p + 2 + q) = some oT → c = q + 1 → R (p + 2 + q) 8 = none → 0 ≤ d.toInt ∧ d.toInt ≤ 3 → (∀ (i' c' n' : Nat) (I' : IM) (R' : RM), (∀ X : RX, AG X p n' c c' c I' R' → (∀ k, k ≠ 9 → R' (p + 2 + q) k = X.N (p + 2 + q) k) → RR X K B M p q (I (p + 2 + q) 0) d.toInt.toNat i c n (.inl (i', c', n', none))) → SFr p c n I I' → RFq p q R R' → CTs K B M V p n' I' R' i' c' → (c ≤ c' ∧ n ≤ n' ∧ i ≤ i') → Q (.inl (), mk I' J R')) → (∀ (E : String) (j : Nat) (I' : IM) (R' : RM), (∀ X : RX, AGF X p I' R' → RR X K B M p q (I (p + 2 + q) 0) d.toInt.toNat i c n (.inr j)) → SFr p c n I I' → RFq p q R R' → (I' 1 3 = B j ∧ FXR R') → Q (.inr E, mk I' J R')) → wl (g 1 (some (p + 2 + q)) d (mk I J R)) Q
abbrev W4B (K B M : Nat → Int32) (V : Nat → Prop) (g : Nat → Int32 → WW → Option ((Option Nat ⊕ String) × WW)) : Prop := ∀ {p n i c : Nat} {I : IM} {J : JM} {R : RM} {d : Int32} {Q : ((Option Nat ⊕ String) × WW) → Prop}, CTs K B M V p n I R i c → 0 ≤ d.toInt ∧ d.toInt ≤ 4 → (∀ (o : Option Nat) (i' c' n' : Nat) (I' : IM) (R' : RM), (∀ X : RX, AG X p n' c c' c I' R' → DS X K B M p 2 d.toInt.toNat 0 i c n (.inl (i', c', n', o))) → SFr p c n I I' → RFx p c none R R' → CTs K B M V p n' I' R' i' c' → (c ≤ c' ∧ n ≤ n' ∧ i ≤ i') → Q (.inl o, mk I' J R')) → (∀ (E : String) (j : Nat) (I' : IM) (R' : RM), (∀ X : RX, AGF X p I' R' → DS X K B M p 2 d.toInt.toNat 0 i c n (.inr j)) → SFr p c n I I' → RFx p c none R R' → (I' 1 3 = B j ∧ FXR R') → Q (.inr E, mk I' J R')) → wl (g 1 d (mk I J R)) Q
section FOUR
variable {gS : Nat → Int32 → Int32 → WW → Option ((Option Nat ⊕ String) × WW)} {gT gB : Nat → Int32 → WW → Option ((Option Nat ⊕ String) × WW)} {gR : Nat → Option Nat → Int32 → WW → Option ((Unit ⊕ String) × WW)}
theorem CTs.c50 (hV : NXT K V) {c : Nat} (h : CTs K B M V p n I R i c) : c ≤ 50 ∧ n ≤ 200 ∧ i ≤ 200 := by
  have := hV.2 i h.1.2.2.2.2.1
  have := h.2.2
  have := h.1.2.2.2.2.2.2.2.2.2.2
  omega
theorem RFx.none {p m : Nat} {R R' : RM} (h : RFx p m none R R') {y k : Nat} (hy : y < p + 2 + m ∨ p + 52 ≤ y) : R' y k = R y k := h y k hy (Or.inl (by intro z; cases z))
theorem v_block (hV : NXT K V) (Hs : W4S K B M V gS) : W4B K B M V (fo_pa_readBlock gS gT gR gB) := by
  intro p n i c I J R d Q hc hd k kx
  have hp := hc.1.2.2.1
  have c50 := hc.c50 hV
  unfold fo_pa_readBlock f_pa_readBlock_11
  refine wl_kb (wl_ite (fun z => ?_) (fun z => ?_))
  · rw [i32lt, l32_3] at z
    exact wl_bdx (v_need hc.1 (fun y => absurd rfl y) (fun _ I' e' h3 => ⟨fun v hv => (by cases hv), fun E hE => kx E i I' R (fun X _ => .bdeep (by omega)) (e'.s hp c50.1) RFx.id ⟨h3, hc.1.1⟩⟩))
  rw [i32lt, l32_3] at z
  have hn3 : d.toInt.toNat ≤ 3 := by omega
  refine wl_bdx (v_need hc.1 (fun _ => ⟨fun v hv => ?_, fun E hE => (by cases hE)⟩) (fun y => absurd y (by decide)))
  refine wl_bdx (v_take hV hc.1 (by decide) (fun k1 I1 e1 h1 => ⟨fun v hv => ?_, fun E hE => (by cases hE)⟩) (fun k1 I1 e1 h3 => ⟨fun v hv => (by cases hv), fun E hE => kx E i I1 R (fun X _ => .bno hn3 k1) (e1.s hp c50.1) RFx.id ⟨h3, hc.1.1⟩⟩))
  have s1 : SFr p c n I I1 := e1.s hp c50.1
  have ct1 : CTs K B M V p n I1 R (i + 1) c := ⟨h1, by rw [(e1.sf hp).2]; exact hc.2.1, by have := hc.2.2; omega⟩
  refine wl_bdx (Hs ct1 (by omega) (fun o i2 c2 n2 I2 R2 hD s2 r2 h2 le2 ke => ⟨fun v hv => ?_, fun E hE => (by cases hE)⟩) (fun E j I2 R2 hD s2 r2 h3 => ⟨fun v hv => (by cases hv), fun E' hE => kx E' j I2 R2 (fun X ag => .bssb hn3 k1 (hD X ag)) (s1.trans s2 (Nat.le_refl _) (Nat.le_refl _)) r2 h3⟩))
  cases hv
  have c52 := h2.c50 hV
  refine wl_bdx (v_take hV h2.1 (by decide) (fun k3 I3 e3 h3 => ⟨fun v hv => ?_, fun E hE => (by cases hE)⟩) (fun k3 I3 e3 h3 => absurd ke k3))
  exact wl_some (k o (i2 + 1) c2 n2 I3 R2 (fun X ag => .bend hn3 k1 (hD X (ag.cut (e3.s hp c52.1) (fun _ _ _ _ _ => rfl))) ke) ((s1.trans s2 (Nat.le_refl _) (Nat.le_refl _)).trans (e3.s hp c52.1) (by omega) (by omega)) r2 ⟨h3, by rw [(e3.sf hp).2]; exact h2.2.1, by have := h2.2.2; omega⟩ (by omega))
theorem v_rest (hV : NXT K V) (Hb : W4B K B M V gB) : W4R K B M V (fo_pa_readRest gS gT gR gB) := by
  intro p n i c q I J R d Q hc hy hq h8 hd k kx
  have hp := hc.1.2.2.1
  have hp' : p = 7 ∨ p = 62 := hp
  have c50 := hc.c50 hV
  have n1 : (d + 1).toInt = d.toInt + 1 := by rw [i32addc (by rw [l32_1]; omega), l32_1]
  have n1n : (d + 1).toInt.toNat = d.toInt.toNat + 1 := by omega
  unfold fo_pa_readRest f_pa_readRest_58
  refine wl_kb (wl_eq rfl (wl_gI hy rfl rfl (wl_ite (fun z7 => ?_) (fun z7 => ?_))))
  · refine wl_bdx (v_take hV hc.1 (by decide) (fun k1 I1 e1 h1 => ⟨fun v hv => ?_, fun E hE => (by cases hE)⟩) (fun k1 I1 e1 h3 => ⟨fun v hv => (by cases hv), fun E hE => kx E i I1 R (fun X _ => Or.inl ⟨z7, Or.inr ⟨k1, rfl⟩⟩) (e1.s hp c50.1) (fun _ _ _ => rfl) ⟨h3, hc.1.1⟩⟩))
    exact wl_some (k (i + 1) c n I1 R (fun X _ _ => Or.inl ⟨z7, Or.inl ⟨k1, rfl⟩⟩) (e1.s hp c50.1) (fun _ _ _ => rfl) ⟨h1, by rw [(e1.sf hp).2]; exact hc.2.1, by have := hc.2.2; omega⟩ (by omega))
  · refine wl_bdx (Hb hc (by omega) (fun o i1 c1 m1 I1 R1 hD s1 r1 h1 le1 => ⟨fun v hv => ?_, fun E hE => (by cases hE)⟩) (fun E j I1 R1 hD s1 r1 h3 => ⟨fun v hv => (by cases hv), fun E' hE => kx E' j I1 R1 (fun X ag => Or.inr ⟨z7, Or.inl ⟨j, by rw [← n1n]; exact hD X ag, rfl⟩⟩) s1 (fun y k hyk => r1.none (by omega)) h3⟩))
    cases hv
    rw [n1n] at hD
    have c51 := h1.c50 hV
    have kd : I1 (p + 2 + q) 0 = I (p + 2 + q) 0 := s1.2.1 q 0 (by omega)
    refine wl_pR hy rfl (wl_gI hy rfl rfl ?_)
    have h1' : CTs K B M V p m1 I1 (up2 R1 (p + 2 + q) 7 o) i1 c1 := ⟨h1.1.wr hy (by decide), h1.2⟩
    have q2 : ∀ y k, (y ≠ p + 2 + q ∨ k ≠ 7) → up2 R1 (p + 2 + q) 7 o y k = R1 y k := fun y k h => up2_ne _ _ h
    have q27 : up2 R1 (p + 2 + q) 7 o (p + 2 + q) 7 = o := up2_s
    generalize up2 R1 (p + 2 + q) 7 o = R2 at h1' q2 q27 ⊢
    have fin : ¬ (I (p + 2 + q) 0 = 4 ∧ K i1 = 5) → ∀ I2, I2 = I1 → Q (.inl (), mk I2 J R2) := by
      intro hn I2 e2
      subst e2
      refine k i1 c1 m1 I2 R2 (fun X ag al => Or.inr ⟨z7, Or.inr ⟨i1, c1, m1, o, hD X (ag.cut SFr.id (fun q' k' a b _ => q2 _ _ (by omega))), Or.inr ⟨hn, ?_, ?_, rfl⟩⟩⟩) s1 (fun y k hyk => ?_) h1' le1
      · rw [← al 7 (by decide)]; exact q27
      · rw [← al 8 (by decide), q2 _ _ (Or.inr (by decide)), r1.none (by omega)]; exact h8
      · rw [q2 _ _ (by omega), r1.none (by omega)]
    rw [kd]
    refine wl_ite (fun z4 => wl_bd2 (v_kindHere h1'.1 ?_)) (fun z4 => wl_some (fin (fun z => z4 z.1) _ rfl))
    dsimp only
    refine wl_ite (fun z5 => ?_) (fun z5 => wl_some (fin (fun z => z5 z.2) _ rfl))
    refine wl_bd (v_advance hV h1'.1 (by rw [z5]; decide) (by rw [z5]; decide) (fun I2 e2 h2 => ?_))
    have s2 : SFr p c1 m1 I1 I2 := e2.s hp c51.1
    refine wl_bdx (Hb (c := c1) ⟨h2, by rw [(e2.sf hp).2]; exact h1.2.1, by have := h1.2.2; omega⟩ (by omega) (fun o3 i3 c3 m3 I3 R3 hD3 s3 r3 h3 le3 => ⟨fun v hv => ?_, fun E hE => (by cases hE)⟩) (fun E j I3 R3 hD3 s3 r3 h3 => ⟨fun v hv => (by cases hv), fun E' hE => kx E' j I3 R3 (fun X ag => Or.inr ⟨z7, Or.inr ⟨i1, c1, m1, o, hD X (ag.cut (s2.trans s3 (Nat.le_refl _) (Nat.le_refl _)) (fun q' k' a b _ => by rw [r3.none (by omega), q2 _ _ (by omega)])), Or.inl ⟨z4, z5, Or.inl ⟨j, by rw [← n1n]; exact hD3 X ag, rfl⟩⟩⟩⟩) (s1.trans (s2.trans s3 (Nat.le_refl _) (Nat.le_refl _)) (by omega) (by omega)) (fun y k hyk => by rw [r3.none (by omega), q2 _ _ (by omega), r1.none (by omega)]) h3⟩))
    cases hv
    rw [n1n] at hD3
    refine wl_pR hy rfl ?_
    have w2 : ∀ y k, (y ≠ p + 2 + q ∨ k ≠ 8) → up2 R3 (p + 2 + q) 8 o3 y k = R3 y k := fun y k h => up2_ne _ _ h
    have w28 : up2 R3 (p + 2 + q) 8 o3 (p + 2 + q) 8 = o3 := up2_s
    have h4 : CTs K B M V p m3 I3 (up2 R3 (p + 2 + q) 8 o3) i3 c3 := ⟨h3.1.wr hy (by decide), h3.2⟩
    generalize up2 R3 (p + 2 + q) 8 o3 = R4 at h4 w2 w28 ⊢
    refine wl_some (k i3 c3 m3 I3 R4 (fun X ag al => Or.inr ⟨z7, Or.inr ⟨i1, c1, m1, o, hD X (ag.cut (s2.trans s3 (Nat.le_refl _) (Nat.le_refl _)) (fun q' k' a b _ => by rw [w2 _ _ (by omega), r3.none (by omega), q2 _ _ (by omega)])), Or.inl ⟨z4, z5, Or.inr ⟨i3, c3, m3, o3, hD3 X (ag.cut SFr.id (fun q' k' a b _ => w2 _ _ (by omega))), ?_, ?_, rfl⟩⟩⟩⟩) (s1.trans (s2.trans s3 (Nat.le_refl _) (Nat.le_refl _)) (by omega) (by omega)) (fun y k hyk => by rw [w2 _ _ (by omega), r3.none (by omega), q2 _ _ (by omega), r1.none (by omega)]) h4 (by omega))
    · rw [← al 7 (by decide), w2 _ _ (Or.inr (by decide)), r3.none (by omega)]; exact q27
    · rw [← al 8 (by decide)]; exact w28
theorem v_newSt (hx : FXR R) (hp : isP p) {c : Nat} (hcn : (I p 1).toInt = c) {Q : (Option Nat × WW) → Prop} (k : c < 50 → LT (p + 2 + c) = some oT → Q (some (p + 2 + c), mk (up2 I p 1 (I p 1 + 1)) J R)) : wl (f_pg_newStatement p (mk I J R)) Q := by
  unfold f_pg_newStatement
  refine wl_kb (wn_P0 hx hp (wl_gI (isP_lt hp).1 rfl rfl (wl_rN (n := 50) (isP_lt hp).2.1 (fun x hb hr => ?_))))
  have c50 : c < 50 := by omega
  rw [tnat hcn] at hr
  have q2 := rwP8 c c50
  have ex : x = p + 2 + c ∧ LT (p + 2 + c) = some oT := by
    rcases hp with rfl | rfl
    · have e := (hx 8 c (by decide) (by omega) (by simp [mutR, LT, lt0])).trans q2.1.1
      rw [show (7 : Nat) + 1 = 8 from rfl, e] at hr
      exact ⟨by have := Option.some.inj hr; omega, q2.1.2⟩
    · have e := (hx 63 c (by decide) (by omega) (by simp [mutR, LT, lt1])).trans q2.2.1
      rw [show (62 : Nat) + 1 = 63 from rfl, e] at hr
      exact ⟨by have := Option.some.inj hr; omega, q2.2.2⟩
  refine wl_gI (isP_lt hp).1 rfl rfl (wl_pI (isP_lt hp).1 rfl (wl_some ?_))
  rw [ex.1]
  exact k c50 ex.2
theorem v_stmt (hV : NXT K V) (Hr : W4R K B M V gR) : W4T K B M V (fo_pa_readStatement gS gT gR gB) := by
  intro p n i c I J R d Q hc hd k kx
  have hp := hc.1.2.2.1
  have hp' : p = 7 ∨ p = 62 := hp
  have c50 := hc.c50 hV
  unfold fo_pa_readStatement
  refine wl_kb (wl_bd2 (v_kindHere hc.1 ?_))
  dsimp only
  refine wl_bd2 (v_begS (fun z => ?_) (fun z => ?_))
  · dsimp only
    rw [if_neg (by decide)]
    have k0 : (K i).toInt ≠ 0 ∧ (K i).toInt ≠ -1 := by
      rcases z with z | z | z | z | z <;> rw [z] <;> decide
    have lt := (hV.1 i hc.1.2.2.2.2.1 k0.1 k0.2).1
    have h4 := hc.2.2
    have hcn := hc.2.1
    refine wl_gR rfl rfl hc.1.2.1.1 (wl_eq rfl (wl_bd2 ?_))
    unfold f_pg_isFull f_pg_isFull_14
    refine wl_kb (wl_gI (isP_lt hp).1 rfl rfl (wl_ite (fun y => wl_req (fun _ => wl_some ?_)) (fun y => ?_)))
    · dsimp only
      rw [if_pos rfl]
      unfold f_pa_readStatement_28 f_pa_readStatement_109
      refine wl_bdx (v_need hc.1 (fun _ => ⟨fun v hv => ?_, fun E hE => (by cases hE)⟩) (fun y => absurd y (by decide)))
      refine wl_gR rfl rfl hc.1.2.1.1 (wl_eq rfl (wl_bd2 (v_newSt hc.1.1 hp hc.2.1 (fun cl hy => ?_))))
      dsimp only
      generalize hI1 : up2 I p 1 (I p 1 + 1) = I1
      have e1 : ∀ x j, (x ≠ p ∨ j ≠ 1) → I1 x j = I x j := fun x j hx => by rw [← hI1, up2_ne _ _ (by omega)]
      have hc1 : CS K B M V p n I1 R i := by
        obtain ⟨q1, q2, q3, q4, q5, q6, q7, q8, q9, q10, q11⟩ := hc.1
        refine ⟨q1, q2, q3, ?_, q5, ?_, ?_, ?_, ?_, ?_, q11⟩
        · rw [e1 _ _ (by omega)]; exact q4
        · funext j; rw [e1 _ _ (by omega), q6]
        · funext j; rw [e1 _ _ (by omega), q7]
        · rw [e1 _ _ (by omega)]; exact q8
        · funext j; rw [e1 _ _ (by omega), q9]
        · rw [e1 _ _ (by omega)]; exact q10
      have eB : I1 5 (I1 1 1).toInt.toNat = B i := by rw [tnat hc1.2.2.2.1, hc1.2.2.2.2.2.2.1]
      have eM : I1 6 (I1 1 1).toInt.toNat = M i := by rw [tnat hc1.2.2.2.1, hc1.2.2.2.2.2.2.2.2.1]
      refine wn_1_0 hc.1.1 (wn_2_2 hc.1.1 (wl_gI rfl rfl rfl (wl_rI (n := 201) rfl (fun _ => wn_1_0 hc.1.1 (wn_2_3 hc.1.1 (wl_gI rfl rfl rfl (wl_rI (n := 201) rfl (fun _ => wl_eq rfl (wl_bd ?_)))))))))
      rw [eB, eM]
      unfold f_st_begin
      refine wl_kb (wl_pI hy rfl (wl_pI hy rfl (wl_pI hy rfl (wl_pR hy rfl (wl_pR hy rfl (wl_pR hy rfl (wl_some ?_)))))))
      generalize hI2 : up2 (up2 (up2 I1 (p + 2 + c) 0 (K i)) (p + 2 + c) 1 (B i)) (p + 2 + c) 2 (M i) = I2
      generalize hR2 : up2 (up2 (up2 R (p + 2 + c) 7 none) (p + 2 + c) 8 none) (p + 2 + c) 9 none = R2
      have h2 : CS K B M V p n I2 R2 i := by
        rw [← hI2, ← hR2]
        exact (((((hc1.wy hy).wy hy).wy hy).wr hy (by decide)).wr hy (by decide)).wr hy (by decide)
      have y0 : I2 (p + 2 + c) 0 = K i := by rw [← hI2, up2_nek (by decide), up2_nek (by decide), up2_s]
      have y1 : I2 (p + 2 + c) 1 = B i := by rw [← hI2, up2_nek (by decide), up2_s]
      have y2 : I2 (p + 2 + c) 2 = M i := by rw [← hI2, up2_s]
      have r8 : R2 (p + 2 + c) 8 = none := by rw [← hR2, up2_nek (by decide), up2_s]
      have r9 : R2 (p + 2 + c) 9 = none := by rw [← hR2, up2_s]
      have rf : RFx p c none R R2 := fun y k a _ => by rw [← hR2, up2_nea (by omega), up2_nea (by omega), up2_nea (by omega)]
      have cn : (I2 p 1).toInt = ((c + 1 : Nat) : Int) := by
        rw [← hI2, up2_nea (by omega), up2_nea (by omega), up2_nea (by omega), ← hI1, up2_s, i32addc (by rw [hcn, l32_1]; omega), hcn, l32_1]; omega
      have s2 : SFr p c n I I2 := by
        have e2 : ∀ x j, x ≠ p + 2 + c → (x ≠ p ∨ j ≠ 1) → I2 x j = I x j := fun x j a b => by rw [← hI2, up2_nea a, up2_nea a, up2_nea a, e1 x j b]
        exact ⟨fun x j a b => e2 x j (by omega) (by omega), fun q j hq => e2 _ _ (by omega) (by omega), fun k hk => ⟨e2 _ _ (by omega) (by omega), e2 _ _ (by omega) (by omega), e2 _ _ (by omega) (by omega)⟩⟩
      refine wl_bd (v_advance hV h2 k0.1 k0.2 (fun I3 e3 h3 => ?_))
      have y3 : ∀ k, I3 (p + 2 + c) k = I2 (p + 2 + c) k := fun k => e3.y hp cl k
      have cn3 : (I3 p 1).toInt = ((c + 1 : Nat) : Int) := by rw [(e3.sf hp).2]; exact cn
      have s23 : SFr p c n I I3 := s2.trans (e3.s hp (by omega)) (Nat.le_refl _) (Nat.le_refl _)
      refine wl_ite (fun z2 => ?_) (fun z2 => wl_ite (fun z3 => ?_) (fun z3 => ?_))
      · refine wl_bdx (v_asg hV h3 hy cl (by rw [y3, y0]; exact z2) (fun j n' I4 hA s4 f4 p4 h4' le => ⟨fun v hv => ?_, fun E hE => (by cases hE)⟩) (fun E j I4 hA s4 h4' => ⟨fun v hv => (by cases hv), fun E' hE => kx E' j I4 R2 (fun X ag => .tasgb z2 (hA X ag.1 (fun k => (ag.2 c (by omega) (by omega)).1 k))) (s23.trans s4 (Nat.le_refl _) (Nat.le_refl _)) rf ⟨h4', h3.1⟩⟩))
        have nle := h4'.2.2.2.2.2.2.2.2.2.2
        exact wl_some (k j (c + 1) n' I4 R2 (fun X ag => by
          have ay : AGY X (p + 2 + c) I4 := fun k => (ag.2 c (Nat.le_refl _) (by omega)).1 k
          exact .tasg z2 (by rw [← ay 1, f4.1, y3]; exact y1) (by rw [← ay 2, f4.2, y3]; exact y2) (hA X ag.1 ay)) (s23.trans s4 (Nat.le_refl _) (Nat.le_refl _)) rf ⟨h4', by rw [p4]; exact cn3, by omega⟩ (by omega) hy r9)
      · refine wl_bdx (v_sto hV h3 hy cl (fun j n' I4 hA s4 f4 p4 h4' le => ⟨fun v hv => ?_, fun E hE => (by cases hE)⟩) (fun E j I4 hA s4 h4' => ⟨fun v hv => (by cases hv), fun E' hE => kx E' j I4 R2 (fun X ag => .tstob z3 (hA X ag.1 (fun k => (ag.2 c (by omega) (by omega)).1 k))) (s23.trans s4 (Nat.le_refl _) (Nat.le_refl _)) rf ⟨h4', h3.1⟩⟩))
        exact wl_some (k j (c + 1) n' I4 R2 (fun X ag => by
          have ay : AGY X (p + 2 + c) I4 := fun k => (ag.2 c (Nat.le_refl _) (by omega)).1 k
          exact .tsto z3 ⟨by rw [← ay 0, f4 0 (by omega), y3, y0]; exact z3, by rw [← ay 1, f4 1 (by omega), y3]; exact y1, by rw [← ay 2, f4 2 (by omega), y3]; exact y2⟩ (hA X ag.1 ay)) (s23.trans s4 (Nat.le_refl _) (Nat.le_refl _)) rf ⟨h4', by rw [p4]; exact cn3, by omega⟩ (by omega) hy r9)
      · have hk : K i = 4 ∨ K i = 6 ∨ K i = 7 := by
          rcases z with z | z | z | z | z
          · exact absurd z z2
          · exact absurd z z3
          · exact Or.inl z
          · exact Or.inr (Or.inl z)
          · exact Or.inr (Or.inr z)
        refine wl_bdx (v_cond hV h3 hy cl (fun j n' I4 hA s4 f4 p4 h4' le => ⟨fun v hv => ?_, fun E hE => (by cases hE)⟩) (fun E j I4 hA s4 h4' => ⟨fun v hv => (by cases hv), fun E' hE => kx E' j I4 R2 (fun X ag => .tcob hk (hA X ag.1 (fun k => (ag.2 c (by omega) (by omega)).1 k))) (s23.trans s4 (Nat.le_refl _) (Nat.le_refl _)) rf ⟨h4', h3.1⟩⟩))
        have kd4 : I4 (p + 2 + c) 0 = K i := by rw [f4 0 (by omega), y3]; exact y0
        have ct4 : CTs K B M V p n' I4 R2 j (c + 1) := ⟨h4', by rw [p4]; exact cn3, by omega⟩
        have c54 := ct4.c50 hV
        have s24 : SFr p c n I I4 := s23.trans s4 (Nat.le_refl _) (Nat.le_refl _)
        have co : ∀ (X : RX) (N : Nat) (I5 : IM), n' ≤ N → SFr p (c + 1) n' I4 I5 → AGS X p N I5 → AGY X (p + 2 + c) I5 → HDR X (p + 2 + c) (K i) (B i) (M i) ∧ coP X K B M (p + 2 + c) (i + 1, n) (.inl (j, n')) := by
          intro X N I5 hN s5 ag ay
          have ay4 : AGY X (p + 2 + c) I4 := fun k => (s5.2.1 c k (by omega)).symm.trans (ay k)
          refine ⟨⟨by rw [← ay4 0]; exact kd4, by rw [← ay4 1, f4 1 (by omega), y3]; exact y1, by rw [← ay4 2, f4 2 (by omega), y3]; exact y2⟩, hA X (fun k hk => ?_) ay4⟩
          have q := ag k (by omega)
          rw [(s5.2.2 k hk).1, (s5.2.2 k hk).2.1, (s5.2.2 k hk).2.2] at q
          exact q
        refine wl_bdx (Hr ct4 hy rfl r8 hd (fun i5 c5 n5 I5 R5 hRR s5 rq h5 le5 => ⟨fun v hv => ?_, fun E hE => (by cases hE)⟩) (fun E j5 I5 R5 hRR s5 rq h5 => ⟨fun v hv => (by cases hv), fun E' hE => kx E' j5 I5 R5 (fun X ag => ?_) (s24.trans s5 (by omega) (by omega)) (fun y k a b => (rq y k (by omega)).trans (rf y k a b)) h5⟩))
        · refine wl_some (k i5 c5 n5 I5 R5 (fun X ag => ?_) (s24.trans s5 (by omega) (by omega)) (fun y k a b => (rq y k (by omega)).trans (rf y k a b)) h5 (by omega) hy (by rw [rq _ _ (Or.inr (Or.inr ⟨rfl, rfl⟩))]; exact r9))
          obtain ⟨g1, g2⟩ := ag.2 c (Nat.le_refl _) (by omega)
          obtain ⟨q1, q2⟩ := co X n5 I5 (by omega) s5 ag.1 g1
          refine DS.of_rr hk q1 q2 ?_
          rw [← kd4]
          exact hRR X (ag.cut SFr.id (fun _ _ _ _ _ => rfl)) (fun k hk => g2 k (Or.inl hk))
        · obtain ⟨g1, g2⟩ := ag.2 c (by omega) (by omega)
          obtain ⟨q1, q2⟩ := co X 200 I5 (by omega) s5 ag.1 g1
          refine DS.of_rr hk q1 q2 ?_
          rw [← kd4]
          exact hRR X ag
    · rw [i32lt, l32_50, hcn] at y
      omega
  · dsimp only
    rw [if_pos rfl]
    unfold f_pa_readStatement_27 f_pa_readStatement_28
    exact wl_bdx (v_need hc.1 (fun y => absurd rfl y) (fun _ I' e' h3 => ⟨fun v hv => (by cases hv), fun E hE => kx E i I' R (fun X _ => .tnone z) (e'.s hp c50.1) RFx.id ⟨h3, hc.1.1⟩⟩))
/-- the head of a list that has the head y3 so far -/
def hdo (y3 o : Option Nat) : Option Nat := match y3 with
  | none => o
  | some y => some y
theorem v_stmts_8 (hV : NXT K V) (Ht : W4T K B M V gT) {e d : Int32} (hd : 0 ≤ d.toInt ∧ d.toInt ≤ 3) {Q : ((Option Nat ⊕ String) × WW) → Prop} : ∀ (N : Nat) (I : IM) (R : RM) (i c n : Nat) (y3 y4 : Option Nat) (y5 : Int32), CTs K B M V p n I R i c → (∀ y, y4 = some y → LT y = some oT ∧ p + 2 ≤ y ∧ y < p + 2 + c ∧ R y 9 = none) → (y4 = none ↔ y3 = none) → 0 ≤ y5.toInt ∧ y5.toInt ≤ c → (∀ (o : Option Nat) (i' c' n' : Nat) (I' : IM) (R' : RM), (∀ X : RX, AG X p n' c c' c I' R' → DS X K B M p 0 d.toInt.toNat e i c n (.inl (i', c', n', o))) → SFr p c n I I' → RFx p c y4 R R' → (∀ y, y4 = some y → R' y 9 = o) → CTs K B M V p n' I' R' i' c' → (c ≤ c' ∧ n ≤ n' ∧ i ≤ i') → K i' = e → Q (.inl (hdo y3 o), mk I' J R')) → (∀ (E : String) (j : Nat) (I' : IM) (R' : RM), (∀ X : RX, AGF X p I' R' → DS X K B M p 0 d.toInt.toNat e i c n (.inr j)) → SFr p c n I I' → RFx p c y4 R R' → (I' 1 3 = B j ∧ FXR R') → Q (.inr E, mk I' J R')) → wl (f_pa_readStatements_8 gS gT gR gB N 1 e d y3 y4 y5 (mk I J R)) Q := by
  intro N
  induction N with
  | zero => intro I R i c n y3 y4 y5 hc hy4 h34 hy5 k kx; exact wl_none
  | succ N ih =>
    intro I R i c n y3 y4 y5 hc hy4 h34 hy5 k kx
    have hp := hc.1.2.2.1
    have hp' : p = 7 ∨ p = 62 := hp
    have c50 := hc.c50 hV
    rw [f_pa_readStatements_8]
    unfold f_pa_readStatements_58 f_pa_readStatements_48
    refine wl_ite (fun z => ?_) (fun z => wl_bd2 (v_kindHere hc.1 ?_))
    · rw [i32lt, l32_50] at z
      omega
    dsimp only
    refine wl_ite (fun z1 => ?_) (fun z1 => ?_)
    · have h3 : hdo y3 none = y3 := by cases y3 <;> rfl
      have kk := k none i c n I R (fun X _ => .send z1) SFr.id RFx.id (fun y hy => (hy4 y hy).2.2.2) hc (by omega) z1
      rw [h3] at kk
      exact wl_some kk
    refine wl_bdx (Ht hc hd (fun i1 c1 n1 I1 R1 hD s1 r1 h1 lt1 hy r9 => ⟨fun v hv => ?_, fun E hE => (by cases hE)⟩) (fun E j I1 R1 hD s1 r1 h3 => ⟨fun v hv => (by cases hv), fun E' hE => kx E' j I1 R1 (fun X ag => .sbad z1 (hD X ag)) s1 (fun y k a _ => r1.none a) h3⟩))
    cases hv
    have c51 := h1.c50 hV
    have y51 : (y5 + 1).toInt = y5.toInt + 1 := by rw [i32addc (by rw [l32_1]; omega), l32_1]
    have nxt : ∀ (R2 : RM) (y3' : Option Nat), y3' ≠ none → (∀ y k, (y4 ≠ some y ∨ k ≠ 9) → R2 y k = R1 y k) → (∀ y, y4 = some y → R2 y 9 = some (p + 2 + c)) → hdo y3 (some (p + 2 + c)) = y3' → CTs K B M V p n1 I1 R2 i1 c1 → wl (f_pa_readStatements_8 gS gT gR gB N 1 e d y3' (some (p + 2 + c)) (y5 + 1) (mk I1 J R2)) Q := by
      intro R2 y3' hne hr2 hl2 h3' h2
      have yc : y4 ≠ some (p + 2 + c) := fun z => by
        have := (hy4 _ z).2.2.1
        omega
      have rr : ∀ R', RFx p c1 (some (p + 2 + c)) R2 R' → RFx p c y4 R R' := fun R' r' y k a b => by
        rw [r' y k (by omega) (Or.inl (by intro z; have := Option.some.inj z; omega)), hr2 y k b, r1.none a]
      have cutR : ∀ R', RFx p c1 (some (p + 2 + c)) R2 R' → ∀ q k, c ≤ q → q < c1 → (k ≠ 9 ∨ c + 1 ≤ q) → R' (p + 2 + q) k = R1 (p + 2 + q) k := fun R' r' q k a b h => by
        rw [r' _ k (by omega) (by
          by_cases k9 : k = 9
          · exact Or.inl (by intro z; have := Option.some.inj z; omega)
          · exact Or.inr k9), hr2 _ k (Or.inl (fun z => by have := (hy4 _ z).2.2.1; omega))]
      refine ih I1 R2 i1 c1 n1 y3' (some (p + 2 + c)) (y5 + 1) h2 (fun y hy' => ?_) ⟨fun z => (by cases z), fun z => absurd z hne⟩ (by omega) (fun o i' c' n' I' R' hD' s' r' l' h' le' ke' => ?_) (fun E j I' R' hD' s' r' h' => kx E j I' R' (fun X ag => .smorb z1 (hD X (ag.cut s' (cutR R' r'))) (hD' X ag)) (s1.trans s' (by omega) (by omega)) (rr R' r') h')
      · cases hy'
        exact ⟨hy, by omega, by omega, by rw [hr2 _ _ (Or.inl yc)]; exact r9⟩
      · have kk := k (some (p + 2 + c)) i' c' n' I' R' (fun X ag => .smore z1 (hD X (ag.cut s' (cutR R' r'))) (hD' X (ag.cut SFr.id (fun _ _ _ _ _ => rfl))) (by rw [← (ag.2 c (Nat.le_refl _) (by omega)).2 9 (Or.inr (Nat.le_refl _))]; exact l' _ rfl)) (s1.trans s' (by omega) (by omega)) (rr R' r') (fun y hy' => by rw [r' y 9 (Or.inl (by have := (hy4 y hy').2.2.1; omega)) (Or.inl (by intro z; have := Option.some.inj z; have := (hy4 y hy').2.2.1; omega))]; exact hl2 y hy') h' (by omega) ke'
        rw [h3'] at kk
        have e3 : hdo y3' o = y3' := by
          cases y3' with
          | none => exact absurd rfl hne
          | some y => rfl
        rw [e3]
        exact kk
    cases y4 with
    | none =>
      have e3 : y3 = none := h34.mp rfl
      exact nxt R1 _ (by intro z; cases z) (fun _ _ _ => rfl) (fun y z => by cases z) (by rw [e3]; rfl) h1
    | some y4 =>
      obtain ⟨a1, a2, a3, a4⟩ := hy4 y4 rfl
      have e3 : y3 ≠ none := fun z => by have := h34.mpr z; cases this
      refine wl_pR a1 rfl (nxt _ y3 e3 (fun y k b => up2_ne _ _ (by
        rcases b with b | b
        · exact Or.inl (fun z => b (by rw [z]))
        · exact Or.inr b)) (fun y z => by cases z; exact up2_s) ?_ ⟨h1.1.wr a1 (by decide), h1.2⟩)
      cases y3 with
      | none => exact absurd rfl e3
      | some y => rfl
theorem v_stmts (hV : NXT K V) (Ht : W4T K B M V gT) : W4S K B M V (fo_pa_readStatements gS gT gR gB) := by
  intro p n i c I J R e d Q hc hd k kx
  unfold fo_pa_readStatements
  exact wl_kb (v_stmts_8 hV Ht hd KK I R i c n none none 0 hc (fun y hy => by cases hy) ⟨fun _ => rfl, fun _ => rfl⟩ (by rw [l32_0]; omega) (fun o i' c' n' I' R' hD s r l h' le ke => k o i' c' n' I' R' hD s r h' le ke) kx)
end FOUR
theorem v_pa4 (hV : NXT K V) : ∀ e : Nat, W4S K B M V (sc_pa4 e).1 ∧ W4T K B M V (sc_pa4 e).2.1 ∧ W4R K B M V (sc_pa4 e).2.2.1 ∧ W4B K B M V (sc_pa4 e).2.2.2 := by
  intro e
  induction e with
  | zero =>
    refine ⟨?_, ?_, ?_, ?_⟩
    · intro p n i c I J R e d Q hc hd k kx; exact wl_none
    · intro p n i c I J R d Q hc hd k kx; exact wl_none
    · intro p n i c q I J R d Q hc hy hq h8 hd k kx; exact wl_none
    · intro p n i c I J R d Q hc hd k kx; exact wl_none
  | succ e ih => exact ⟨v_stmts hV ih.2.1, v_stmt hV ih.2.2.1, v_rest hV ih.2.2.2, v_block hV ih.1⟩
theorem nxt_vi {c : Nat → Int32} {L : Nat} (hL : L ≤ 200) : NXT K (VTk c L K B M) := ⟨fun i h h0 h1 => h.next hL h0 h1, fun i h => h.le hL⟩
/-- what a parse keeps: all but the reader, the TOKENS and the program p -/
def PFR (p : Nat) (I I' : IM) (R R' : RM) : Prop := (∀ x j, (x < p ∨ p + 54 < x) → x ≠ 1 → x ≠ 2 → x ≠ 4 → x ≠ 5 → x ≠ 6 → I' x j = I x j) ∧ (∀ j, (j < 5 ∨ 8 < j) → I' 2 j = I 2 j) ∧ ∀ y k, (y < p ∨ p + 52 ≤ y) → (y ≠ 1 ∨ k ≠ 2) → R' y k = R y k
set_option maxRecDepth 100000 in
theorem v_program (h : FXR R) (hp : isP p) (h05 : R 0 5 = some p) {L : Nat} (hL : (I 2 4).toInt = L) (hL2 : L ≤ 200) {Q : ((Unit ⊕ String) × WW) → Prop} (k : ∀ (K B M : Nat → Int32) (i' c' n' : Nat) (o : Option Nat) (I' : IM) (R' : RM), TL (I 3) L K B M 0 0 → (∀ X : RX, AG X p n' 0 c' 0 I' R' → DS X K B M p 0 0 0 0 0 0 (.inl (i', c', n', o))) → PFR p I I' R R' → I' 1 3 = -2 → (I' p 1).toInt = c' → (c' ≤ 50 ∧ n' ≤ 200) → R' p 6 = o → FXR R' → Q (.inl (), mk I' J R')) (kx : ∀ (E : String) (K B M : Nat → Int32) (j : Nat) (I' : IM) (R' : RM), TL (I 3) L K B M 0 0 → (∀ X : RX, AGF X p I' R' → DS X K B M p 0 0 0 0 0 0 (.inr j)) → PFR p I I' R R' → (I' 1 3 = B j ∧ FXR R') → Q (.inr E, mk I' J R')) : wl (f_pa_readProgram 1 p (mk I J R)) Q := by
  have hp' : p = 7 ∨ p = 62 := hp
  have hf : FXR (up2 R 1 2 (some p)) := h.w (by decide +kernel)
  unfold f_pa_readProgram f_pg_empty
  refine wl_kb (wl_pR (x := some p) rfl rfl (wl_gR rfl rfl up2_s (wl_eq rfl (wl_bd (wl_kb (wl_pI (isP_lt hp).1 rfl (wl_pI (isP_lt hp).1 rfl (wl_some ?_))))))))
  refine wl_pI rfl rfl (wn_1_0 hf ?_)
  generalize hI1 : up2 (up2 (up2 I p 1 0) p 5 0) 1 3 (-2) = I1
  have e1 : ∀ x j, (x ≠ p ∨ (j ≠ 1 ∧ j ≠ 5)) → (x ≠ 1 ∨ j ≠ 3) → I1 x j = I x j := fun x j a b => by rw [← hI1, up2_ne _ _ (by omega), up2_ne _ _ (by omega), up2_ne _ _ (by omega)]
  have r3 : I1 3 = I 3 := by funext j; exact e1 _ _ (by omega) (by omega)
  have f1 : I1 1 3 = -2 := by rw [← hI1, up2_s]
  have n1 : I1 p 1 = 0 := by rw [← hI1, up2_ne _ _ (by omega), up2_ne _ _ (by omega), up2_s]
  have n5 : I1 p 5 = 0 := by rw [← hI1, up2_ne _ _ (by omega), up2_s]
  refine wl_bd (v_readAll hf (L := L) (by rw [e1 _ _ (by omega) (by omega)]; exact hL) hL2 (fun I2 e2 hT => ?_))
  rw [r3] at hT
  refine wl_pI rfl rfl (wl_gR rfl rfl up2_s ?_)
  generalize hI3 : up2 I2 1 1 0 = I3
  have e3 : ∀ x j, (x ≠ 1 ∨ j ≠ 1) → I3 x j = I2 x j := fun x j a => by rw [← hI3, up2_ne _ _ (by omega)]
  have hc : CS (I2 4) (I2 5) (I2 6) (VTk (I 3) L (I2 4) (I2 5) (I2 6)) p 0 I3 (up2 R 1 2 (some p)) 0 := by
    refine ⟨hf, ⟨up2_s, by rw [up2_nea (by decide)]; exact h05⟩, hp, ?_, ⟨0, Nat.le_refl _, Nat.zero_le _, hT⟩, ?_, ?_, ?_, ?_, ?_, Nat.le_refl _⟩
    · rw [← hI3, up2_s]; exact l32_0
    · funext j; exact e3 _ _ (by omega)
    · funext j; exact e3 _ _ (by omega)
    · rw [e3 _ _ (by omega), e2 _ _ (by omega) (by omega)]; exact f1
    · funext j; exact e3 _ _ (by omega)
    · rw [e3 _ _ (by omega), e2 _ _ (by omega) (by omega), n5]; exact l32_0
  have ct : CTs (I2 4) (I2 5) (I2 6) (VTk (I 3) L (I2 4) (I2 5) (I2 6)) p 0 I3 (up2 R 1 2 (some p)) 0 0 := ⟨hc, by rw [e3 _ _ (by omega), e2 _ _ (by omega) (by omega), n1]; exact l32_0, Nat.le_refl _⟩
  have pf : ∀ (I4 : IM) (R4 R5 : RM), SFr p 0 0 I3 I4 → RFx p 0 none (up2 R 1 2 (some p)) R4 → (∀ y k, y ≠ p → R5 y k = R4 y k) → PFR p I I4 R R5 := by
    intro I4 R4 R5 s r hr
    refine ⟨fun x j a b1 b2 b4 b5 b6 => ?_, fun j hj => ?_, fun y k a b => ?_⟩
    · rw [s.1 x j a (by omega), e3 x j (by omega), e2 x j (by omega) (by omega), e1 x j (by omega) (by omega)]
    · rw [s.1 2 j (by omega) (by omega), e3 2 j (by omega), e2 2 j (by omega) (by omega), e1 2 j (by omega) (by omega)]
    · rw [hr y k (by omega), r.none (by omega), up2_ne _ _ (by omega)]
  unfold f_pa_readStatements
  refine wl_bdx ((v_pa4 (nxt_vi hL2) 64).1 ct (by decide) (fun o i' c' n' I4 R4 hD s4 r4 h4 le ke => ⟨fun v hv => ?_, fun E hE => (by cases hE)⟩) (fun E j I4 R4 hD s4 r4 h3 => ⟨fun v hv => (by cases hv), fun E' hE => kx E' _ _ _ j I4 R4 hT hD (pf I4 R4 R4 s4 r4 (fun _ _ _ => rfl)) h3⟩))
  cases hv
  have c50 := h4.c50 (nxt_vi hL2)
  refine wl_eq rfl (wl_pR (isP_lt hp).1 rfl (wl_some (k _ _ _ i' c' n' o I4 _ hT (fun X ag => hD X (ag.cut SFr.id (fun q k' _ _ _ => up2_nea (by omega)))) (pf I4 R4 _ s4 r4 (fun y k hy => up2_nea hy)) h4.1.2.2.2.2.2.2.2.1 h4.2.1 ⟨c50.1, c50.2.1⟩ up2_s ?_)))
  exact h4.1.1.w (by rcases hp with rfl | rfl <;> decide +kernel)
end CSTM
