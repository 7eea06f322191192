/-! STATEMENTS as they are parsed, said by rules; the class's parser follows the rules. -/
def tkP (K : Nat → Int32) (a : Int32) (i : Nat) (r : Nat ⊕ Nat) : Prop := (K i = a ∧ r = .inl (i + 1)) ∨ (¬ K i = a ∧ r = .inr i)
def exP (K : Nat → Int32) (i : Nat) (r : Nat ⊕ Nat) : Prop := (∃ h j, DE K 4 0 0 i (.inl (h, j)) ∧ r = .inl j) ∨ (∃ j, DE K 4 0 0 i (.inr j) ∧ r = .inr j)
def sq (P1 P2 : Nat → Nat ⊕ Nat → Prop) (i : Nat) (r : Nat ⊕ Nat) : Prop := (∃ j, P1 i (.inr j) ∧ r = .inr j) ∨ (∃ j, P1 i (.inl j) ∧ P2 j r)
def isCm (x : Int32) : Prop := x = 256 ∨ x = 257 ∨ x = 60 ∨ x = 258
def cmP (K : Nat → Int32) (i : Nat) (r : Nat ⊕ Nat) : Prop := (isCm (K i) ∧ r = .inl (i + 1)) ∨ (¬ isCm (K i) ∧ r = .inr i)
def inP (K : Nat → Int32) (i : Nat) (r : Nat ⊕ Nat) : Prop := (K i = 8 ∧ tkP K 59 (i + 1) r) ∨ (¬ K i = 8 ∧ sq (exP K) (tkP K 59) i r)
def asP (K : Nat → Int32) : Nat → Nat ⊕ Nat → Prop := sq (tkP K 61) (inP K)
def stP (K : Nat → Int32) : Nat → Nat ⊕ Nat → Prop := sq (tkP K 91) (sq (exP K) (sq (tkP K 93) (sq (tkP K 61) (sq (exP K) (tkP K 59)))))
def coP (K : Nat → Int32) : Nat → Nat ⊕ Nat → Prop := sq (tkP K 40) (sq (exP K) (sq (cmP K) (sq (exP K) (tkP K 41))))
theorem sq.r {P1 P2 : Nat → Nat ⊕ Nat → Prop} {i j : Nat} (h : P1 i (.inr j)) : sq P1 P2 i (.inr j) := Or.inl ⟨j, h, rfl⟩
theorem sq.l {P1 P2 : Nat → Nat ⊕ Nat → Prop} {i j : Nat} {r : Nat ⊕ Nat} (h : P1 i (.inl j)) (h2 : P2 j r) : sq P1 P2 i r := Or.inr ⟨j, h, h2⟩
/-- a place and a number of STATEMENTS, or the place of a fault -/
abbrev SR : Type := (Nat × Nat) ⊕ Nat
/-- 0 STATEMENTS up to the TOKEN e, 1 a STATEMENT, 2 a BLOCK; in BLOCKS of depth n, from the TOKEN i on, with c STATEMENTS before -/
def DSC (K : Nat → Int32) (P : Nat → Nat → Int32 → Nat → Nat → SR → Prop) : Prop :=
  (∀ (n i c : Nat) (e : Int32), K i = e → P 0 n e i c (.inl (i, c))) ∧
  (∀ (n i c j : Nat) (e : Int32), ¬ K i = e → P 1 n 0 i c (.inr j) → P 0 n e i c (.inr j)) ∧
  (∀ (n i c i' c' : Nat) (e : Int32) (r : SR), ¬ K i = e → P 1 n 0 i c (.inl (i', c')) → P 0 n e i' c' r → P 0 n e i c r) ∧
  (∀ (n i c : Nat), ¬ (K i = 2 ∨ K i = 3 ∨ K i = 4 ∨ K i = 6 ∨ K i = 7) → P 1 n 0 i c (.inr i)) ∧
  (∀ (n i c j : Nat), K i = 2 → asP K (i + 1) (.inl j) → P 1 n 0 i c (.inl (j, c + 1))) ∧
  (∀ (n i c j : Nat), K i = 2 → asP K (i + 1) (.inr j) → P 1 n 0 i c (.inr j)) ∧
  (∀ (n i c j : Nat), K i = 3 → stP K (i + 1) (.inl j) → P 1 n 0 i c (.inl (j, c + 1))) ∧
  (∀ (n i c j : Nat), K i = 3 → stP K (i + 1) (.inr j) → P 1 n 0 i c (.inr j)) ∧
  (∀ (n i c j : Nat), (K i = 4 ∨ K i = 6 ∨ K i = 7) → coP K (i + 1) (.inr j) → P 1 n 0 i c (.inr j)) ∧
  (∀ (n i c j : Nat), K i = 7 → coP K (i + 1) (.inl j) → K j = 59 → P 1 n 0 i c (.inl (j + 1, c + 1))) ∧
  (∀ (n i c j : Nat), K i = 7 → coP K (i + 1) (.inl j) → ¬ K j = 59 → P 1 n 0 i c (.inr j)) ∧
  (∀ (n i c j j' : Nat), (K i = 4 ∨ K i = 6) → coP K (i + 1) (.inl j) → P 2 (n + 1) 0 j (c + 1) (.inr j') → P 1 n 0 i c (.inr j')) ∧
  (∀ (n i c j j' c' : Nat), (K i = 4 ∨ K i = 6) → coP K (i + 1) (.inl j) → P 2 (n + 1) 0 j (c + 1) (.inl (j', c')) → ¬ (K i = 4 ∧ K j' = 5) → P 1 n 0 i c (.inl (j', c'))) ∧
  (∀ (n i c j j' c' : Nat) (r : SR), K i = 4 → coP K (i + 1) (.inl j) → P 2 (n + 1) 0 j (c + 1) (.inl (j', c')) → K j' = 5 → P 2 (n + 1) 0 (j' + 1) c' r → P 1 n 0 i c r) ∧
  (∀ (n i c : Nat), 3 < n → P 2 n 0 i c (.inr i)) ∧
  (∀ (n i c : Nat), n ≤ 3 → ¬ K i = 123 → P 2 n 0 i c (.inr i)) ∧
  (∀ (n i c j : Nat), n ≤ 3 → K i = 123 → P 0 n 125 (i + 1) c (.inr j) → P 2 n 0 i c (.inr j)) ∧
  (∀ (n i c j c' : Nat), n ≤ 3 → K i = 123 → P 0 n 125 (i + 1) c (.inl (j, c')) → K j = 125 → P 2 n 0 i c (.inl (j + 1, c')))
def DS (K : Nat → Int32) (x1 : Nat) (x2 : Nat) (x3 : Int32) (x4 : Nat) (x5 : Nat) (x6 : SR) : Prop := ∀ P : Nat → Nat → Int32 → Nat → Nat → SR → Prop, DSC K P → P x1 x2 x3 x4 x5 x6
theorem DS.send {K : Nat → Int32} {n i c : Nat} {e : Int32} (a1 : K i = e) : DS K 0 n e i c (.inl (i, c)) := fun P c => c.1 _ _ _ _ a1
theorem DS.sbad {K : Nat → Int32} {n i c j : Nat} {e : Int32} (a1 : ¬ K i = e) (a2 : DS K 1 n 0 i c (.inr j)) : DS K 0 n e i c (.inr j) := fun P c => c.2.1 _ _ _ _ _ a1 (a2 P c)
theorem DS.smore {K : Nat → Int32} {n i c i' c' : Nat} {e : Int32} {r : SR} (a1 : ¬ K i = e) (a2 : DS K 1 n 0 i c (.inl (i', c'))) (a3 : DS K 0 n e i' c' r) : DS K 0 n e i c r := fun P c => c.2.2.1 _ _ _ _ _ _ _ a1 (a2 P c) (a3 P c)
theorem DS.tnone {K : Nat → Int32} {n i c : Nat} (a1 : ¬ (K i = 2 ∨ K i = 3 ∨ K i = 4 ∨ K i = 6 ∨ K i = 7)) : DS K 1 n 0 i c (.inr i) := fun P c => c.2.2.2.1 _ _ _ a1
theorem DS.tasg {K : Nat → Int32} {n i c j : Nat} (a1 : K i = 2) (a2 : asP K (i + 1) (.inl j)) : DS K 1 n 0 i c (.inl (j, c + 1)) := fun P c => c.2.2.2.2.1 _ _ _ _ a1 a2
theorem DS.tasgb {K : Nat → Int32} {n i c j : Nat} (a1 : K i = 2) (a2 : asP K (i + 1) (.inr j)) : DS K 1 n 0 i c (.inr j) := fun P c => c.2.2.2.2.2.1 _ _ _ _ a1 a2
theorem DS.tsto {K : Nat → Int32} {n i c j : Nat} (a1 : K i = 3) (a2 : stP K (i + 1) (.inl j)) : DS K 1 n 0 i c (.inl (j, c + 1)) := fun P c => c.2.2.2.2.2.2.1 _ _ _ _ a1 a2
theorem DS.tstob {K : Nat → Int32} {n i c j : Nat} (a1 : K i = 3) (a2 : stP K (i + 1) (.inr j)) : DS K 1 n 0 i c (.inr j) := fun P c => c.2.2.2.2.2.2.2.1 _ _ _ _ a1 a2
theorem DS.tcob {K : Nat → Int32} {n i c j : Nat} (a1 : (K i = 4 ∨ K i = 6 ∨ K i = 7)) (a2 : coP K (i + 1) (.inr j)) : DS K 1 n 0 i c (.inr j) := fun P c => c.2.2.2.2.2.2.2.2.1 _ _ _ _ a1 a2
theorem DS.tasr {K : Nat → Int32} {n i c j : Nat} (a1 : K i = 7) (a2 : coP K (i + 1) (.inl j)) (a3 : K j = 59) : DS K 1 n 0 i c (.inl (j + 1, c + 1)) := fun P c => c.2.2.2.2.2.2.2.2.2.1 _ _ _ _ a1 a2 a3
theorem DS.tasrb {K : Nat → Int32} {n i c j : Nat} (a1 : K i = 7) (a2 : coP K (i + 1) (.inl j)) (a3 : ¬ K j = 59) : DS K 1 n 0 i c (.inr j) := fun P c => c.2.2.2.2.2.2.2.2.2.2.1 _ _ _ _ a1 a2 a3
theorem DS.tblkb {K : Nat → Int32} {n i c j j' : Nat} (a1 : (K i = 4 ∨ K i = 6)) (a2 : coP K (i + 1) (.inl j)) (a3 : DS K 2 (n + 1) 0 j (c + 1) (.inr j')) : DS K 1 n 0 i c (.inr j') := fun P c => c.2.2.2.2.2.2.2.2.2.2.2.1 _ _ _ _ _ a1 a2 (a3 P c)
theorem DS.tblk {K : Nat → Int32} {n i c j j' c' : Nat} (a1 : (K i = 4 ∨ K i = 6)) (a2 : coP K (i + 1) (.inl j)) (a3 : DS K 2 (n + 1) 0 j (c + 1) (.inl (j', c'))) (a4 : ¬ (K i = 4 ∧ K j' = 5)) : DS K 1 n 0 i c (.inl (j', c')) := fun P c => c.2.2.2.2.2.2.2.2.2.2.2.2.1 _ _ _ _ _ _ a1 a2 (a3 P c) a4
theorem DS.tels {K : Nat → Int32} {n i c j j' c' : Nat} {r : SR} (a1 : K i = 4) (a2 : coP K (i + 1) (.inl j)) (a3 : DS K 2 (n + 1) 0 j (c + 1) (.inl (j', c'))) (a4 : K j' = 5) (a5 : DS K 2 (n + 1) 0 (j' + 1) c' r) : DS K 1 n 0 i c r := fun P c => c.2.2.2.2.2.2.2.2.2.2.2.2.2.1 _ _ _ _ _ _ _ a1 a2 (a3 P c) a4 (a5 P c)
theorem DS.bdeep {K : Nat → Int32} {n i c : Nat} (a1 : 3 < n) : DS K 2 n 0 i c (.inr i) := fun P c => c.2.2.2.2.2.2.2.2.2.2.2.2.2.2.1 _ _ _ a1
theorem DS.bno {K : Nat → Int32} {n i c : Nat} (a1 : n ≤ 3) (a2 : ¬ K i = 123) : DS K 2 n 0 i c (.inr i) := fun P c => c.2.2.2.2.2.2.2.2.2.2.2.2.2.2.2.1 _ _ _ a1 a2
theorem DS.bssb {K : Nat → Int32} {n i c j : Nat} (a1 : n ≤ 3) (a2 : K i = 123) (a3 : DS K 0 n 125 (i + 1) c (.inr j)) : DS K 2 n 0 i c (.inr j) := fun P c => c.2.2.2.2.2.2.2.2.2.2.2.2.2.2.2.2.1 _ _ _ _ a1 a2 (a3 P c)
theorem DS.bend {K : Nat → Int32} {n i c j c' : Nat} (a1 : n ≤ 3) (a2 : K i = 123) (a3 : DS K 0 n 125 (i + 1) c (.inl (j, c'))) (a4 : K j = 125) : DS K 2 n 0 i c (.inl (j + 1, c')) := fun P c => c.2.2.2.2.2.2.2.2.2.2.2.2.2.2.2.2.2 _ _ _ _ _ a1 a2 (a3 P c) a4
theorem DS.ind {K : Nat → Int32} {M : Nat → Nat → Int32 → Nat → Nat → SR → Prop} (send : ∀ (n i c : Nat) (e : Int32), K i = e → M 0 n e i c (.inl (i, c))) (sbad : ∀ (n i c j : Nat) (e : Int32), ¬ K i = e → DS K 1 n 0 i c (.inr j) → M 1 n 0 i c (.inr j) → M 0 n e i c (.inr j)) (smore : ∀ (n i c i' c' : Nat) (e : Int32) (r : SR), ¬ K i = e → DS K 1 n 0 i c (.inl (i', c')) → DS K 0 n e i' c' r → M 1 n 0 i c (.inl (i', c')) → M 0 n e i' c' r → M 0 n e i c r) (tnone : ∀ (n i c : Nat), ¬ (K i = 2 ∨ K i = 3 ∨ K i = 4 ∨ K i = 6 ∨ K i = 7) → M 1 n 0 i c (.inr i)) (tasg : ∀ (n i c j : Nat), K i = 2 → asP K (i + 1) (.inl j) → M 1 n 0 i c (.inl (j, c + 1))) (tasgb : ∀ (n i c j : Nat), K i = 2 → asP K (i + 1) (.inr j) → M 1 n 0 i c (.inr j)) (tsto : ∀ (n i c j : Nat), K i = 3 → stP K (i + 1) (.inl j) → M 1 n 0 i c (.inl (j, c + 1))) (tstob : ∀ (n i c j : Nat), K i = 3 → stP K (i + 1) (.inr j) → M 1 n 0 i c (.inr j)) (tcob : ∀ (n i c j : Nat), (K i = 4 ∨ K i = 6 ∨ K i = 7) → coP K (i + 1) (.inr j) → M 1 n 0 i c (.inr j)) (tasr : ∀ (n i c j : Nat), K i = 7 → coP K (i + 1) (.inl j) → K j = 59 → M 1 n 0 i c (.inl (j + 1, c + 1))) (tasrb : ∀ (n i c j : Nat), K i = 7 → coP K (i + 1) (.inl j) → ¬ K j = 59 → M 1 n 0 i c (.inr j)) (tblkb : ∀ (n i c j j' : Nat), (K i = 4 ∨ K i = 6) → coP K (i + 1) (.inl j) → DS K 2 (n + 1) 0 j (c + 1) (.inr j') → M 2 (n + 1) 0 j (c + 1) (.inr j') → M 1 n 0 i c (.inr j')) (tblk : ∀ (n i c j j' c' : Nat), (K i = 4 ∨ K i = 6) → coP K (i + 1) (.inl j) → DS K 2 (n + 1) 0 j (c + 1) (.inl (j', c')) → ¬ (K i = 4 ∧ K j' = 5) → M 2 (n + 1) 0 j (c + 1) (.inl (j', c')) → M 1 n 0 i c (.inl (j', c'))) (tels : ∀ (n i c j j' c' : Nat) (r : SR), K i = 4 → coP K (i + 1) (.inl j) → DS K 2 (n + 1) 0 j (c + 1) (.inl (j', c')) → K j' = 5 → DS K 2 (n + 1) 0 (j' + 1) c' r → M 2 (n + 1) 0 j (c + 1) (.inl (j', c')) → M 2 (n + 1) 0 (j' + 1) c' r → M 1 n 0 i c r) (bdeep : ∀ (n i c : Nat), 3 < n → M 2 n 0 i c (.inr i)) (bno : ∀ (n i c : Nat), n ≤ 3 → ¬ K i = 123 → M 2 n 0 i c (.inr i)) (bssb : ∀ (n i c j : Nat), n ≤ 3 → K i = 123 → DS K 0 n 125 (i + 1) c (.inr j) → M 0 n 125 (i + 1) c (.inr j) → M 2 n 0 i c (.inr j)) (bend : ∀ (n i c j c' : Nat), n ≤ 3 → K i = 123 → DS K 0 n 125 (i + 1) c (.inl (j, c')) → K j = 125 → M 0 n 125 (i + 1) c (.inl (j, c')) → M 2 n 0 i c (.inl (j + 1, c'))) {x1 : Nat} {x2 : Nat} {x3 : Int32} {x4 : Nat} {x5 : Nat} {x6 : SR} (t : DS K x1 x2 x3 x4 x5 x6) : M x1 x2 x3 x4 x5 x6 := (t (fun x1 x2 x3 x4 x5 x6 => DS K x1 x2 x3 x4 x5 x6 ∧ M x1 x2 x3 x4 x5 x6) ⟨fun n i c e a1 => ⟨DS.send a1, send n i c e a1⟩,
  fun n i c j e a1 a2 => ⟨DS.sbad a1 a2.1, sbad n i c j e a1 a2.1 a2.2⟩,
  fun n i c i' c' e r a1 a2 a3 => ⟨DS.smore a1 a2.1 a3.1, smore n i c i' c' e r a1 a2.1 a3.1 a2.2 a3.2⟩,
  fun n i c a1 => ⟨DS.tnone a1, tnone n i c a1⟩,
  fun n i c j a1 a2 => ⟨DS.tasg a1 a2, tasg n i c j a1 a2⟩,
  fun n i c j a1 a2 => ⟨DS.tasgb a1 a2, tasgb n i c j a1 a2⟩,
  fun n i c j a1 a2 => ⟨DS.tsto a1 a2, tsto n i c j a1 a2⟩,
  fun n i c j a1 a2 => ⟨DS.tstob a1 a2, tstob n i c j a1 a2⟩,
  fun n i c j a1 a2 => ⟨DS.tcob a1 a2, tcob n i c j a1 a2⟩,
  fun n i c j a1 a2 a3 => ⟨DS.tasr a1 a2 a3, tasr n i c j a1 a2 a3⟩,
  fun n i c j a1 a2 a3 => ⟨DS.tasrb a1 a2 a3, tasrb n i c j a1 a2 a3⟩,
  fun n i c j j' a1 a2 a3 => ⟨DS.tblkb a1 a2 a3.1, tblkb n i c j j' a1 a2 a3.1 a3.2⟩,
  fun n i c j j' c' a1 a2 a3 a4 => ⟨DS.tblk a1 a2 a3.1 a4, tblk n i c j j' c' a1 a2 a3.1 a4 a3.2⟩,
  fun n i c j j' c' r a1 a2 a3 a4 a5 => ⟨DS.tels a1 a2 a3.1 a4 a5.1, tels n i c j j' c' r a1 a2 a3.1 a4 a5.1 a3.2 a5.2⟩,
  fun n i c a1 => ⟨DS.bdeep a1, bdeep n i c a1⟩,
  fun n i c a1 a2 => ⟨DS.bno a1 a2, bno n i c a1 a2⟩,
  fun n i c j a1 a2 a3 => ⟨DS.bssb a1 a2 a3.1, bssb n i c j a1 a2 a3.1 a3.2⟩,
  fun n i c j c' a1 a2 a3 a4 => ⟨DS.bend a1 a2 a3.1 a4, bend n i c j c' a1 a2 a3.1 a4 a3.2⟩⟩).2
/-- what the rest of a STATEMENT of the kind kd may be -/
def RR (K : Nat → Int32) (kd : Int32) (n i c : Nat) (r : SR) : Prop := (kd = 7 ∧ ((K i = 59 ∧ r = .inl (i + 1, c)) ∨ (¬ K i = 59 ∧ r = .inr i))) ∨ (¬ kd = 7 ∧ ((∃ j, DS K 2 (n + 1) 0 i c (.inr j) ∧ r = .inr j) ∨ (∃ j c', DS K 2 (n + 1) 0 i c (.inl (j, c')) ∧ ((kd = 4 ∧ K j = 5 ∧ DS K 2 (n + 1) 0 (j + 1) c' r) ∨ (¬ (kd = 4 ∧ K j = 5) ∧ r = .inl (j, c'))))))
theorem DS.of_rr {K : Nat → Int32} {n i c j : Nat} {r : SR} (hk : K i = 4 ∨ K i = 6 ∨ K i = 7) (hc : coP K (i + 1) (.inl j)) (h : RR K (K i) n j (c + 1) r) : DS K 1 n 0 i c r := by
  rcases h with ⟨h7, ⟨a, rfl⟩ | ⟨a, rfl⟩⟩ | ⟨h7, ⟨j', a, rfl⟩ | ⟨j', c', a, ⟨b1, b2, b3⟩ | ⟨b, rfl⟩⟩⟩
  · exact .tasr h7 hc a
  · exact .tasrb h7 hc a
  · refine .tblkb ?_ hc a
    rcases hk with z | z | z
    · exact Or.inl z
    · exact Or.inr z
    · exact absurd z h7
  · exact .tels b1 hc a b2 b3
  · refine .tblk ?_ hc a b
    rcases hk with z | z | z
    · exact Or.inl z
    · exact Or.inr z
    · exact absurd z h7
/-- what is kept: all outside of the program but the place and the fault; kinds of the first m STATEMENTS -/
def SFr (p m : Nat) (I I' : IM) : Prop := (∀ x j, (x < p ∨ p + 54 < x) → (x ≠ 1 ∨ (j ≠ 1 ∧ j ≠ 3)) → I' x j = I x j) ∧ ∀ q, q < m → I' (p + 2 + q) 0 = I (p + 2 + q) 0
def SF1 (p m : Nat) (I I' : IM) : Prop := SFr p m I I' ∧ I' p 1 = I p 1
theorem SFr.trans {p m : Nat} {I I' I'' : IM} (h : SFr p m I I') (h2 : SFr p m I' I'') : SFr p m I I'' := ⟨fun x j a b => (h2.1 x j a b).trans (h.1 x j a b), fun q hq => (h2.2 q hq).trans (h.2 q hq)⟩
theorem SFr.le {p m m' : Nat} {I I' : IM} (h : SFr p m I I') (hm : m' ≤ m) : SFr p m' I I' := ⟨h.1, fun q hq => h.2 q (by omega)⟩
theorem SF1.trans {p m : Nat} {I I' I'' : IM} (h : SF1 p m I I') (h2 : SF1 p m I' I'') : SF1 p m I I'' := ⟨h.1.trans h2.1, h2.2.trans h.2⟩
theorem CF.sf {p m : Nat} {I I' : IM} (h : CF p I I') (hp : isP p) (hm : m ≤ 50) : SF1 p m I I' := by
  have hp' : p = 7 ∨ p = 62 := hp
  refine ⟨⟨fun x j a b => h x j b (by omega) (by omega) (by omega) (by omega), fun q hq => h _ _ (by omega) (by omega) (by omega) (by omega) (by omega)⟩, h _ _ (by omega) (by omega) (by omega) (by omega) (by omega)⟩
theorem SF1.wy {p m c f : Nat} {I : IM} {v : Int32} (hp : isP p) (hc : c < 50) (hm : m ≤ c ∨ f ≠ 0) : SF1 p m I (up2 I (p + 2 + c) f v) := by
  have hp' : p = 7 ∨ p = 62 := hp
  exact ⟨⟨fun x j a b => up2_ne _ _ (by omega), fun q hq => up2_ne _ _ (by omega)⟩, up2_ne _ _ (by omega)⟩
section CSTM
variable {I I' : IM} {J : JM} {R : RM} {K B : Nat → Int32} {V : Nat → Prop} {p i : Nat}
theorem CS.wy {y f : Nat} {v : Int32} (h : CS K B V p I R i) (hy : LT y = some oT) : CS K B V p (up2 I y f v) R i := by
  have b := LT_oT y (LT_bound hy) hy
  obtain ⟨q1, q2, q3, q4, q5, q6, q7, q8⟩ := h
  refine ⟨q1, q2, q3, ?_, q5, ?_, ?_, ?_⟩
  · rw [up2_nea (by omega)]; exact q4
  · funext j; rw [up2_nea (by omega), q6]
  · funext j; rw [up2_nea (by omega), q7]
  · rw [up2_nea (by omega)]; exact q8
theorem CS.wr {y f : Nat} {v : Option Nat} (h : CS K B V p I R i) (hy : LT y = some oT) (hf : 7 ≤ f) : CS K B V p I (up2 R y f v) i := by
  have b := LT_oT y (LT_bound hy) hy
  obtain ⟨q1, q2, q3, q4, q5, q6, q7, q8⟩ := h
  exact ⟨q1.w (mutT hy hf), ⟨by rw [up2_nea (by omega)]; exact q2.1, by rw [up2_nea (by omega)]; exact q2.2⟩, q3, q4, q5, q6, q7, q8⟩
theorem v_begS {x : Int32} {w : WW} {Q : (Int32 × WW) → Prop} (k1 : (x = 2 ∨ x = 3 ∨ x = 4 ∨ x = 6 ∨ x = 7) → Q (1, w)) (k0 : ¬ (x = 2 ∨ x = 3 ∨ x = 4 ∨ x = 6 ∨ x = 7) → Q (0, w)) : wl (f_pa_beginsStatement x w) Q := by
  unfold f_pa_beginsStatement f_pa_beginsStatement_27 f_pa_beginsStatement_32
  refine wl_ite (fun z => wl_req (fun _ => wl_some (k1 (Or.inl z)))) (fun z1 => wl_ite (fun z => wl_req (fun _ => wl_some (k1 (Or.inr (Or.inl z))))) (fun z2 => wl_ite (fun z => wl_req (fun _ => wl_some (k1 (Or.inr (Or.inr (Or.inl z)))))) (fun z3 => wl_ite (fun z => wl_req (fun _ => wl_some (k1 (Or.inr (Or.inr (Or.inr (Or.inl z))))))) (fun z4 => wl_ite (fun z => wl_req (fun _ => wl_some (k1 (Or.inr (Or.inr (Or.inr (Or.inr z))))))) (fun z5 => wl_req (fun _ => wl_some (k0 ?_)))))))
  intro z
  rcases z with z | z | z | z | z
  · exact z1 z
  · exact z2 z
  · exact z3 z
  · exact z4 z
  · exact z5 z
theorem v_asg (hV : NXT K V) (hc : CS K B V p I R i) {c m : Nat} (hy : LT (p + 2 + c) = some oT) (hc50 : c < 50) (hm : m ≤ c) {Q : ((Unit ⊕ String) × WW) → Prop} (k : ∀ (j : Nat) (I' : IM), asP K i (.inl j) → SF1 p m I I' → CS K B V p I' R j → i + 3 ≤ j → Q (.inl (), mk I' J R)) (kx : ∀ (E : String) (j : Nat) (I' : IM), asP K i (.inr j) → SF1 p m I I' → I' 1 3 = B j → Q (.inr E, mk I' J R)) : wl (f_pa_readAssignment 1 (some (p + 2 + c)) (mk I J R)) Q := by
  have hp := hc.2.2.1
  unfold f_pa_readAssignment f_pa_readAssignment_56
  refine wl_kb (wl_bdx (v_take hV hc (by decide) (fun k1 I1 e1 h1 => ⟨fun v hv => ?_, fun E hE => (by cases hE)⟩) (fun k1 I1 e1 h3 => ⟨fun v hv => (by cases hv), fun E hE => kx E i I1 (sq.r (Or.inr ⟨k1, rfl⟩)) (e1.sf hp (by omega)) h3⟩)))
  have t1 : tkP K 61 i (.inl (i + 1)) := Or.inl ⟨k1, rfl⟩
  refine wl_bd2 (v_kindHere h1 ?_)
  dsimp only
  refine wl_ite (fun c8 => ?_) (fun c8 => ?_)
  · refine wl_eq rfl (wl_pI hy rfl (wl_bd (v_advance hV (h1.wy hy) (by rw [c8]; decide) (by rw [c8]; decide) (fun I2 e2 h2 => ?_))))
    refine wl_bdx (v_take hV h2 (by decide) (fun k3 I3 e3 h3 => ⟨fun v hv => ?_, fun E hE => (by cases hE)⟩) (fun k3 I3 e3 h3 => ⟨fun v hv => (by cases hv), fun E hE => kx E (i + 1 + 1) I3 (sq.l t1 (Or.inl ⟨c8, Or.inr ⟨k3, rfl⟩⟩)) ((e1.sf hp (by omega)).trans ((SF1.wy hp hc50 (Or.inl hm)).trans ((e2.trans e3).sf hp (by omega)))) h3⟩))
    exact wl_some (k _ I3 (sq.l t1 (Or.inl ⟨c8, Or.inl ⟨k3, rfl⟩⟩)) ((e1.sf hp (by omega)).trans ((SF1.wy hp hc50 (Or.inl hm)).trans ((e2.trans e3).sf hp (by omega)))) h3 (by omega))
  · refine wl_gR rfl rfl h1.2.1.1 (wl_eq rfl (wl_gI (isP_lt hp).1 rfl rfl (wl_eq rfl (wl_pI hy rfl (wl_bdx (v_readExpr hV (h1.wy hy) (fun h i' I2 hD e2 h2 lt => ⟨fun v hv => ?_, fun E hE => (by cases hE)⟩) (fun E j I2 hD e2 h3 => ⟨fun v hv => (by cases hv), fun E' hE => kx E' j I2 (sq.l t1 (Or.inr ⟨c8, sq.r (Or.inr ⟨j, hD, rfl⟩)⟩)) ((e1.sf hp (by omega)).trans ((SF1.wy hp hc50 (Or.inl hm)).trans (e2.sf hp (by omega)))) h3⟩)))))))
    have t2 : exP K (i + 1) (.inl i') := Or.inl ⟨h, i', hD, rfl⟩
    refine wl_gR rfl rfl h2.2.1.1 (wl_eq rfl (wl_gI (isP_lt hp).1 rfl rfl (wl_pI hy rfl ?_)))
    refine wl_bdx (v_take hV (h2.wy hy) (by decide) (fun k3 I3 e3 h3 => ⟨fun v hv => ?_, fun E hE => (by cases hE)⟩) (fun k3 I3 e3 h3 => ⟨fun v hv => (by cases hv), fun E hE => kx E i' I3 (sq.l t1 (Or.inr ⟨c8, sq.l t2 (Or.inr ⟨k3, rfl⟩)⟩)) ((e1.sf hp (by omega)).trans ((SF1.wy hp hc50 (Or.inl hm)).trans ((e2.sf hp (by omega)).trans ((SF1.wy hp hc50 (Or.inl hm)).trans (e3.sf hp (by omega)))))) h3⟩))
    exact wl_some (k _ I3 (sq.l t1 (Or.inr ⟨c8, sq.l t2 (Or.inl ⟨k3, rfl⟩)⟩)) ((e1.sf hp (by omega)).trans ((SF1.wy hp hc50 (Or.inl hm)).trans ((e2.sf hp (by omega)).trans ((SF1.wy hp hc50 (Or.inl hm)).trans (e3.sf hp (by omega)))))) h3 (by omega))
theorem v_sto (hV : NXT K V) (hc : CS K B V p I R i) {c m : Nat} (hy : LT (p + 2 + c) = some oT) (hc50 : c < 50) (hm : m ≤ c) {Q : ((Unit ⊕ String) × WW) → Prop} (k : ∀ (j : Nat) (I' : IM), stP K i (.inl j) → SF1 p m I I' → CS K B V p I' R j → i + 3 ≤ j → Q (.inl (), mk I' J R)) (kx : ∀ (E : String) (j : Nat) (I' : IM), stP K i (.inr j) → SF1 p m I I' → I' 1 3 = B j → Q (.inr E, mk I' J R)) : wl (f_pa_readStore 1 (some (p + 2 + c)) (mk I J R)) Q := by
  have hp := hc.2.2.1
  unfold f_pa_readStore
  refine wl_kb (wl_bdx (v_take hV hc (by decide) (fun k1 I1 e1 h1 => ⟨fun v hv => ?_, fun E hE => (by cases hE)⟩) (fun k1 I1 e1 h3 => ⟨fun v hv => (by cases hv), fun E hE => kx E i I1 (sq.r (Or.inr ⟨k1, rfl⟩)) (e1.sf hp (by omega)) h3⟩)))
  have t1 : tkP K 91 i (.inl (i + 1)) := Or.inl ⟨k1, rfl⟩
  have s1 : SF1 p m I I1 := e1.sf hp (by omega)
  refine wl_gR rfl rfl h1.2.1.1 (wl_eq rfl (wl_gI (isP_lt hp).1 rfl rfl (wl_eq rfl (wl_pI hy rfl (wl_bdx (v_readExpr hV (h1.wy hy) (fun h i2 I2 hD e2 h2 lt => ⟨fun v hv => ?_, fun E hE => (by cases hE)⟩) (fun E j I2 hD e2 h3 => ⟨fun v hv => (by cases hv), fun E' hE => kx E' j I2 (sq.l t1 (sq.r (Or.inr ⟨j, hD, rfl⟩))) (s1.trans ((SF1.wy hp hc50 (Or.inl hm)).trans (e2.sf hp (by omega)))) h3⟩)))))))
  have t2 : exP K (i + 1) (.inl i2) := Or.inl ⟨h, i2, hD, rfl⟩
  have s2 : SF1 p m I I2 := s1.trans ((SF1.wy hp hc50 (Or.inl hm)).trans (e2.sf hp (by omega)))
  refine wl_gR rfl rfl h2.2.1.1 (wl_eq rfl (wl_gI (isP_lt hp).1 rfl rfl (wl_pI hy rfl ?_)))
  refine wl_bdx (v_take hV (h2.wy hy) (by decide) (fun k3 I3 e3 h3 => ⟨fun v hv => ?_, fun E hE => (by cases hE)⟩) (fun k3 I3 e3 h3 => ⟨fun v hv => (by cases hv), fun E hE => kx E i2 I3 (sq.l t1 (sq.l t2 (sq.r (Or.inr ⟨k3, rfl⟩)))) (s2.trans ((SF1.wy hp hc50 (Or.inl hm)).trans (e3.sf hp (by omega)))) h3⟩))
  have t3 : tkP K 93 i2 (.inl (i2 + 1)) := Or.inl ⟨k3, rfl⟩
  have s3 : SF1 p m I I3 := s2.trans ((SF1.wy hp hc50 (Or.inl hm)).trans (e3.sf hp (by omega)))
  refine wl_bdx (v_take hV h3 (by decide) (fun k4 I4 e4 h4 => ⟨fun v hv => ?_, fun E hE => (by cases hE)⟩) (fun k4 I4 e4 h4 => ⟨fun v hv => (by cases hv), fun E hE => kx E (i2 + 1) I4 (sq.l t1 (sq.l t2 (sq.l t3 (sq.r (Or.inr ⟨k4, rfl⟩))))) (s3.trans (e4.sf hp (by omega))) h4⟩))
  have t4 : tkP K 61 (i2 + 1) (.inl (i2 + 1 + 1)) := Or.inl ⟨k4, rfl⟩
  have s4 : SF1 p m I I4 := s3.trans (e4.sf hp (by omega))
  refine wl_bdx (v_readExpr hV h4 (fun h i5 I5 hD5 e5 h5 lt5 => ⟨fun v hv => ?_, fun E hE => (by cases hE)⟩) (fun E j I5 hD5 e5 h5 => ⟨fun v hv => (by cases hv), fun E' hE => kx E' j I5 (sq.l t1 (sq.l t2 (sq.l t3 (sq.l t4 (sq.r (Or.inr ⟨j, hD5, rfl⟩)))))) (s4.trans (e5.sf hp (by omega))) h5⟩))
  have t5 : exP K (i2 + 1 + 1) (.inl i5) := Or.inl ⟨h, i5, hD5, rfl⟩
  have s5 : SF1 p m I I5 := s4.trans (e5.sf hp (by omega))
  refine wl_gR rfl rfl h5.2.1.1 (wl_eq rfl (wl_gI (isP_lt hp).1 rfl rfl (wl_pI hy rfl ?_)))
  refine wl_bdx (v_take hV (h5.wy hy) (by decide) (fun k6 I6 e6 h6 => ⟨fun v hv => ?_, fun E hE => (by cases hE)⟩) (fun k6 I6 e6 h6 => ⟨fun v hv => (by cases hv), fun E hE => kx E i5 I6 (sq.l t1 (sq.l t2 (sq.l t3 (sq.l t4 (sq.l t5 (Or.inr ⟨k6, rfl⟩)))))) (s5.trans ((SF1.wy hp hc50 (Or.inl hm)).trans (e6.sf hp (by omega)))) h6⟩))
  exact wl_some (k _ I6 (sq.l t1 (sq.l t2 (sq.l t3 (sq.l t4 (sq.l t5 (Or.inl ⟨k6, rfl⟩)))))) (s5.trans ((SF1.wy hp hc50 (Or.inl hm)).trans (e6.sf hp (by omega)))) h6 (by omega))
theorem v_cond (hV : NXT K V) (hc : CS K B V p I R i) {c m : Nat} (hy : LT (p + 2 + c) = some oT) (hc50 : c < 50) (hm : m ≤ c + 1) {Q : ((Unit ⊕ String) × WW) → Prop} (k : ∀ (j : Nat) (I' : IM), coP K i (.inl j) → SF1 p m I I' → CS K B V p I' R j → i + 3 ≤ j → Q (.inl (), mk I' J R)) (kx : ∀ (E : String) (j : Nat) (I' : IM), coP K i (.inr j) → SF1 p m I I' → I' 1 3 = B j → Q (.inr E, mk I' J R)) : wl (f_pa_readCond 1 (some (p + 2 + c)) (mk I J R)) Q := by
  have hp := hc.2.2.1
  unfold f_pa_readCond f_pa_readCond_67 f_pa_readCond_72
  refine wl_kb (wl_bdx (v_take hV hc (by decide) (fun k1 I1 e1 h1 => ⟨fun v hv => ?_, fun E hE => (by cases hE)⟩) (fun k1 I1 e1 h3 => ⟨fun v hv => (by cases hv), fun E hE => kx E i I1 (sq.r (Or.inr ⟨k1, rfl⟩)) (e1.sf hp (by omega)) h3⟩)))
  have t1 : tkP K 40 i (.inl (i + 1)) := Or.inl ⟨k1, rfl⟩
  have s1 : SF1 p m I I1 := e1.sf hp (by omega)
  refine wl_gR rfl rfl h1.2.1.1 (wl_eq rfl (wl_gI (isP_lt hp).1 rfl rfl (wl_eq rfl (wl_pI hy rfl (wl_bdx (v_readExpr hV (h1.wy hy) (fun h i2 I2 hD e2 h2 lt => ⟨fun v hv => ?_, fun E hE => (by cases hE)⟩) (fun E j I2 hD e2 h3 => ⟨fun v hv => (by cases hv), fun E' hE => kx E' j I2 (sq.l t1 (sq.r (Or.inr ⟨j, hD, rfl⟩))) (s1.trans ((SF1.wy hp hc50 (Or.inr (by decide))).trans (e2.sf hp (by omega)))) h3⟩)))))))
  have t2 : exP K (i + 1) (.inl i2) := Or.inl ⟨h, i2, hD, rfl⟩
  have s2 : SF1 p m I I2 := s1.trans ((SF1.wy hp hc50 (Or.inr (by decide))).trans (e2.sf hp (by omega)))
  refine wl_gR rfl rfl h2.2.1.1 (wl_eq rfl (wl_gI (isP_lt hp).1 rfl rfl (wl_pI hy rfl ?_)))
  have s2' : SF1 p m I (up2 I2 (p + 2 + c) 4 (I2 p 5)) := s2.trans (SF1.wy hp hc50 (Or.inr (by decide)))
  have h2' : CS K B V p (up2 I2 (p + 2 + c) 4 (I2 p 5)) R i2 := h2.wy hy
  generalize up2 I2 (p + 2 + c) 4 (I2 p 5) = I3 at s2' h2' ⊢
  refine wl_bd2 (v_kindHere h2' ?_)
  dsimp only
  have go : isCm (K i2) → wl (bdx (f_pa_need 1 (1 : Int32) (mk I3 J R)) fun x18 w17 => (pv w17 (p + 2 + c) 4 6 (.int (K i2))).bind fun w19 => (f_pa_advance 1 w19).bind fun w20 => bdx (f_pa_readExpr 64 1 (0 : Int32) w20) fun x22 w21 => (gR w21 1 2 2).bind fun x23 => x23.bind fun x24 => (gI w21 x24 3 5).bind fun x25 => (pv w21 (p + 2 + c) 4 5 (.int x25)).bind fun w26 => bdx (f_pa_take 1 (41 : Int32) w26) fun x28 w27 => some (.inl (), w27)) Q := by
    intro hz
    have k0 : (K i2).toInt ≠ 0 ∧ (K i2).toInt ≠ -1 := by
      rcases hz with z | z | z | z <;> rw [z] <;> decide
    have t3 : cmP K i2 (.inl (i2 + 1)) := Or.inl ⟨hz, rfl⟩
    refine wl_bdx (v_need h2' (fun _ => ⟨fun v hv => ?_, fun E hE => (by cases hE)⟩) (fun z => absurd z (by decide)))
    refine wl_pI hy rfl (wl_bd (v_advance hV (h2'.wy hy) k0.1 k0.2 (fun I4 e4 h4 => ?_)))
    have s4 : SF1 p m I I4 := s2'.trans ((SF1.wy hp hc50 (Or.inr (by decide))).trans (e4.sf hp (by omega)))
    refine wl_bdx (v_readExpr hV h4 (fun h i5 I5 hD5 e5 h5 lt5 => ⟨fun v hv => ?_, fun E hE => (by cases hE)⟩) (fun E j I5 hD5 e5 h5 => ⟨fun v hv => (by cases hv), fun E' hE => kx E' j I5 (sq.l t1 (sq.l t2 (sq.l t3 (sq.r (Or.inr ⟨j, hD5, rfl⟩))))) (s4.trans (e5.sf hp (by omega))) h5⟩))
    have t5 : exP K (i2 + 1) (.inl i5) := Or.inl ⟨h, i5, hD5, rfl⟩
    have s5 : SF1 p m I I5 := s4.trans (e5.sf hp (by omega))
    refine wl_gR rfl rfl h5.2.1.1 (wl_eq rfl (wl_gI (isP_lt hp).1 rfl rfl (wl_pI hy rfl ?_)))
    refine wl_bdx (v_take hV (h5.wy hy) (by decide) (fun k6 I6 e6 h6 => ⟨fun v hv => ?_, fun E hE => (by cases hE)⟩) (fun k6 I6 e6 h6 => ⟨fun v hv => (by cases hv), fun E hE => kx E i5 I6 (sq.l t1 (sq.l t2 (sq.l t3 (sq.l t5 (Or.inr ⟨k6, rfl⟩))))) (s5.trans ((SF1.wy hp hc50 (Or.inr (by decide))).trans (e6.sf hp (by omega)))) h6⟩))
    exact wl_some (k _ I6 (sq.l t1 (sq.l t2 (sq.l t3 (sq.l t5 (Or.inl ⟨k6, rfl⟩))))) (s5.trans ((SF1.wy hp hc50 (Or.inr (by decide))).trans (e6.sf hp (by omega)))) h6 (by omega))
  refine wl_ite (fun z => go (Or.inl z)) (fun z1 => wl_ite (fun z => go (Or.inr (Or.inl z))) (fun z2 => wl_ite (fun z => go (Or.inr (Or.inr (Or.inl z)))) (fun z3 => wl_ite (fun z => go (Or.inr (Or.inr (Or.inr z)))) (fun z4 => ?_))))
  refine wl_bdx (v_need h2' (fun z => absurd rfl z) (fun _ I' e' h3 => ⟨fun v hv => (by cases hv), fun E hE => kx E i2 I' (sq.l t1 (sq.l t2 (sq.r (Or.inr ⟨fun z => ?_, rfl⟩)))) (s2'.trans (e'.sf hp (by omega))) h3⟩))
  rcases z with z | z | z | z
  · exact z1 z
  · exact z2 z
  · exact z3 z
  · exact z4 z
/-- the class's parser at the TOKEN i, with c STATEMENTS -/
def CTs (K B : Nat → Int32) (V : Nat → Prop) (p : Nat) (I : IM) (R : RM) (i c : Nat) : Prop := CS K B V p I R i ∧ (I p 1).toInt = c ∧ 4 * c ≤ i
theorem CTs.of {c m : Nat} {I0 : IM} {i' : Nat} (h : (I0 p 1).toInt = c) (e : SF1 p m I0 I) (h2 : CS K B V p I R i') (h4 : 4 * c ≤ i') : CTs K B V p I R i' c := ⟨h2, by rw [e.2]; exact h, h4⟩
abbrev W4S (K B : Nat → Int32) (V : Nat → Prop) (g : Nat → Int32 → Int32 → WW → Option ((Option Nat ⊕ String) × WW)) : Prop := ∀ {p i c : Nat} {I : IM} {J : JM} {R : RM} {e n : Int32} {Q : ((Option Nat ⊕ String) × WW) → Prop}, CTs K B V p I R i c → 0 ≤ n.toInt ∧ n.toInt ≤ 3 → (∀ (r : Option Nat) (i' c' : Nat) (I' : IM) (R' : RM), DS K 0 n.toInt.toNat e i c (.inl (i', c')) → SFr p c I I' → CTs K B V p I' R' i' c' → c ≤ c' → K i' = e → i ≤ i' → Q (.inl r, mk I' J R')) → (∀ (E : String) (j : Nat) (I' : IM) (R' : RM), DS K 0 n.toInt.toNat e i c (.inr j) → SFr p c I I' → I' 1 3 = B j → Q (.inr E, mk I' J R')) → wl (g 1 e n (mk I J R)) Q
abbrev W4T (K B : Nat → Int32) (V : Nat → Prop) (g : Nat → Int32 → WW → Option ((Option Nat ⊕ String) × WW)) : Prop := ∀ {p i c : Nat} {I : IM} {J : JM} {R : RM} {n : Int32} {Q : ((Option Nat ⊕ String) × WW) → Prop}, CTs K B V p I R i c → 0 ≤ n.toInt ∧ n.toInt ≤ 3 → (∀ (y i' c' : Nat) (I' : IM) (R' : RM), DS K 1 n.toInt.toNat 0 i c (.inl (i', c')) → SFr p c I I' → CTs K B V p I' R' i' c' → c < c' → LT y = some oT → i < i' → Q (.inl (some y), mk I' J R')) → (∀ (E : String) (j : Nat) (I' : IM) (R' : RM), DS K 1 n.toInt.toNat 0 i c (.inr j) → SFr p c I I' → I' 1 3 = B j → Q (.inr E, mk I' J R')) → wl (g 1 n (mk I J R)) Q
abbrev W4R (K B : Nat → Int32) (V : Nat → Prop) (g : Nat → Option Nat → Int32 → WW → Option ((Unit ⊕ String) × WW)) : Prop := ∀ {p i c q : Nat} {I : IM} {J : JM} {R : RM} {n : Int32} {Q : ((Unit ⊕ String) × WW) → Prop}, CTs K B V p I R i c → LT (p + 2 + q) = some oT → q < c → 0 ≤ n.toInt ∧ n.toInt ≤ 3 → (∀ (i' c' : Nat) (I' : IM) (R' : RM), RR K (I (p + 2 + q) 0) n.toInt.toNat i c (.inl (i', c')) → SFr p c I I' → CTs K B V p I' R' i' c' → c ≤ c' → i ≤ i' → Q (.inl (), mk I' J R')) → (∀ (E : String) (j : Nat) (I' : IM) (R' : RM), RR K (I (p + 2 + q) 0) n.toInt.toNat i c (.inr j) → SFr p c I I' → I' 1 3 = B j → Q (.inr E, mk I' J R')) → wl (g 1 (some (p + 2 + q)) n (mk I J R)) Q
abbrev W4B (K B : Nat → Int32) (V : Nat → Prop) (g : Nat → Int32 → WW → Option ((Option Nat ⊕ String) × WW)) : Prop := ∀ {p i c : Nat} {I : IM} {J : JM} {R : RM} {n : Int32} {Q : ((Option Nat ⊕ String) × WW) → Prop}, CTs K B V p I R i c → 0 ≤ n.toInt ∧ n.toInt ≤ 4 → (∀ (r : Option Nat) (i' c' : Nat) (I' : IM) (R' : RM), DS K 2 n.toInt.toNat 0 i c (.inl (i', c')) → SFr p c I I' → CTs K B V p I' R' i' c' → c ≤ c' → i ≤ i' → Q (.inl r, mk I' J R')) → (∀ (E : String) (j : Nat) (I' : IM) (R' : RM), DS K 2 n.toInt.toNat 0 i c (.inr j) → SFr p c I I' → I' 1 3 = B j → Q (.inr E, mk I' J R')) → wl (g 1 n (mk I J R)) Q
section FOUR
variable {gS : Nat → Int32 → Int32 → WW → Option ((Option Nat ⊕ String) × WW)} {gT gB : Nat → Int32 → WW → Option ((Option Nat ⊕ String) × WW)} {gR : Nat → Option Nat → Int32 → WW → Option ((Unit ⊕ String) × WW)}
theorem CTs.c50 (hV : NXT K V) {c : Nat} (h : CTs K B V p I R i c) : c ≤ 50 := by
  have := hV.2 i h.1.2.2.2.2.1
  have := h.2.2
  omega
theorem v_block (hV : NXT K V) (Hs : W4S K B V gS) : W4B K B V (fo_pa_readBlock gS gT gR gB) := by
  intro p i c I J R n Q hc hn k kx
  have hp := hc.1.2.2.1
  have c50 := hc.c50 hV
  unfold fo_pa_readBlock f_pa_readBlock_11
  refine wl_kb (wl_ite (fun z => ?_) (fun z => ?_))
  · rw [i32lt, l32_3] at z
    exact wl_bdx (v_need hc.1 (fun y => absurd rfl y) (fun _ I' e' h3 => ⟨fun v hv => (by cases hv), fun E hE => kx E i I' R (.bdeep (by omega)) (e'.sf hp c50).1 h3⟩))
  rw [i32lt, l32_3] at z
  have hn3 : n.toInt.toNat ≤ 3 := by omega
  refine wl_bdx (v_need hc.1 (fun _ => ⟨fun v hv => ?_, fun E hE => (by cases hE)⟩) (fun y => absurd y (by decide)))
  refine wl_bdx (v_take hV hc.1 (by decide) (fun k1 I1 e1 h1 => ⟨fun v hv => ?_, fun E hE => (by cases hE)⟩) (fun k1 I1 e1 h3 => ⟨fun v hv => (by cases hv), fun E hE => kx E i I1 R (.bno hn3 k1) (e1.sf hp c50).1 h3⟩))
  have s1 : SF1 p c I I1 := e1.sf hp c50
  refine wl_bdx (Hs (CTs.of hc.2.1 s1 h1 (by have := hc.2.2; omega)) (by omega) (fun r i2 c2 I2 R2 hD s2 h2 le2 ke li => ⟨fun v hv => ?_, fun E hE => (by cases hE)⟩) (fun E j I2 R2 hD s2 h3 => ⟨fun v hv => (by cases hv), fun E' hE => kx E' j I2 R2 (.bssb hn3 k1 hD) (s1.1.trans s2) h3⟩))
  cases hv
  refine wl_bdx (v_take hV h2.1 (by decide) (fun k3 I3 e3 h3 => ⟨fun v hv => ?_, fun E hE => (by cases hE)⟩) (fun k3 I3 e3 h3 => absurd ke k3))
  have s3 : SF1 p c2 I2 I3 := e3.sf hp (h2.c50 hV)
  exact wl_some (k r (i2 + 1) c2 I3 R2 (.bend hn3 k1 hD ke) (s1.1.trans (s2.trans (s3.1.le le2))) (CTs.of h2.2.1 s3 h3 (by have := h2.2.2; omega)) le2 (by omega))
theorem v_rest (hV : NXT K V) (Hb : W4B K B V gB) : W4R K B V (fo_pa_readRest gS gT gR gB) := by
  intro p i c q I J R n Q hc hy hq hn k kx
  have hp := hc.1.2.2.1
  have c50 := hc.c50 hV
  have n1 : (n + 1).toInt = n.toInt + 1 := by rw [i32addc (by rw [l32_1]; omega), l32_1]
  have n1n : (n + 1).toInt.toNat = n.toInt.toNat + 1 := by omega
  unfold fo_pa_readRest f_pa_readRest_58
  refine wl_kb (wl_eq rfl (wl_gI hy rfl rfl (wl_ite (fun z7 => ?_) (fun z7 => ?_))))
  · refine wl_bdx (v_take hV hc.1 (by decide) (fun k1 I1 e1 h1 => ⟨fun v hv => ?_, fun E hE => (by cases hE)⟩) (fun k1 I1 e1 h3 => ⟨fun v hv => (by cases hv), fun E hE => kx E i I1 R (Or.inl ⟨z7, Or.inr ⟨k1, rfl⟩⟩) (e1.sf hp c50).1 h3⟩))
    exact wl_some (k (i + 1) c I1 R (Or.inl ⟨z7, Or.inl ⟨k1, rfl⟩⟩) (e1.sf hp c50).1 (CTs.of hc.2.1 (e1.sf hp c50) h1 (by have := hc.2.2; omega)) (Nat.le_refl _) (by omega))
  · refine wl_bdx (Hb hc (by omega) (fun r i1 c1 I1 R1 hD s1 h1 le1 li1 => ⟨fun v hv => ?_, fun E hE => (by cases hE)⟩) (fun E j I1 R1 hD s1 h3 => ⟨fun v hv => (by cases hv), fun E' hE => kx E' j I1 R1 (Or.inr ⟨z7, Or.inl ⟨j, by rw [← n1n]; exact hD, rfl⟩⟩) s1 h3⟩))
    cases hv
    rw [n1n] at hD
    have kd : I1 (p + 2 + q) 0 = I (p + 2 + q) 0 := s1.2 q hq
    refine wl_pR hy rfl (wl_gI hy rfl rfl ?_)
    have h1' : CTs K B V p I1 (up2 R1 (p + 2 + q) 7 r) i1 c1 := ⟨h1.1.wr hy (by decide), h1.2⟩
    rw [kd]
    refine wl_ite (fun z4 => wl_bd2 (v_kindHere h1'.1 ?_)) (fun z4 => ?_)
    · dsimp only
      refine wl_ite (fun z5 => ?_) (fun z5 => ?_)
      · refine wl_bd (v_advance hV h1'.1 (by rw [z5]; decide) (by rw [z5]; decide) (fun I2 e2 h2 => ?_))
        have s2 : SF1 p c1 I1 I2 := e2.sf hp (h1.c50 hV)
        refine wl_bdx (Hb (CTs.of h1.2.1 s2 h2 (by have := h1.2.2; omega)) (by omega) (fun r3 i3 c3 I3 R3 hD3 s3 h3 le3 li3 => ⟨fun v hv => ?_, fun E hE => (by cases hE)⟩) (fun E j I3 R3 hD3 s3 h3 => ⟨fun v hv => (by cases hv), fun E' hE => kx E' j I3 R3 (Or.inr ⟨z7, Or.inr ⟨i1, c1, hD, Or.inl ⟨z4, z5, by rw [← n1n]; exact hD3⟩⟩⟩) (s1.trans ((s2.1.trans s3).le le1)) h3⟩))
        cases hv
        rw [n1n] at hD3
        refine wl_pR hy rfl (wl_some (k i3 c3 I3 _ (Or.inr ⟨z7, Or.inr ⟨i1, c1, hD, Or.inl ⟨z4, z5, hD3⟩⟩⟩) (s1.trans ((s2.1.trans s3).le le1)) ⟨h3.1.wr hy (by decide), h3.2⟩ (by omega) (by omega)))
      · exact wl_some (k i1 c1 I1 _ (Or.inr ⟨z7, Or.inr ⟨i1, c1, hD, Or.inr ⟨fun z => z5 z.2, rfl⟩⟩⟩) s1 h1' le1 li1)
    · exact wl_some (k i1 c1 I1 _ (Or.inr ⟨z7, Or.inr ⟨i1, c1, hD, Or.inr ⟨fun z => z4 z.1, rfl⟩⟩⟩) s1 h1' le1 li1)
theorem v_newSt (hx : FXR R) (hp : isP p) {c : Nat} (hcn : (I p 1).toInt = c) {Q : (Option Nat × WW) → Prop} (k : c < 50 → LT (p + 2 + c) = some oT → Q (some (p + 2 + c), mk (up2 I p 1 (I p 1 + 1)) J R)) : wl (f_pg_newStatement p (mk I J R)) Q := by
  unfold f_pg_newStatement
  refine wl_kb (wn_P0 hx hp (wl_gI (isP_lt hp).1 rfl rfl (wl_rN (n := 50) (isP_lt hp).2.1 (fun x hb hr => ?_))))
  have c50 : c < 50 := by omega
  rw [tnat hcn] at hr
  have q2 := rwP8 c c50
  have ex : x = p + 2 + c ∧ LT (p + 2 + c) = some oT := by
    rcases hp with rfl | rfl
    · have e := (hx 8 c (by decide) (by omega) (by simp [mutR, LT, lt0])).trans q2.1.1
      rw [show (7 : Nat) + 1 = 8 from rfl, e] at hr
      exact ⟨by have := Option.some.inj hr; omega, q2.1.2⟩
    · have e := (hx 63 c (by decide) (by omega) (by simp [mutR, LT, lt1])).trans q2.2.1
      rw [show (62 : Nat) + 1 = 63 from rfl, e] at hr
      exact ⟨by have := Option.some.inj hr; omega, q2.2.2⟩
  refine wl_gI (isP_lt hp).1 rfl rfl (wl_pI (isP_lt hp).1 rfl (wl_some ?_))
  rw [ex.1]
  exact k c50 ex.2
theorem v_stmt (hV : NXT K V) (Hr : W4R K B V gR) : W4T K B V (fo_pa_readStatement gS gT gR gB) := by
  intro p i c I J R n Q hc hn k kx
  have hp := hc.1.2.2.1
  have hp' : p = 7 ∨ p = 62 := hp
  have c50 := hc.c50 hV
  unfold fo_pa_readStatement
  refine wl_kb (wl_bd2 (v_kindHere hc.1 ?_))
  dsimp only
  refine wl_bd2 (v_begS (fun z => ?_) (fun z => ?_))
  · dsimp only
    rw [if_neg (by decide)]
    have k0 : (K i).toInt ≠ 0 ∧ (K i).toInt ≠ -1 := by
      rcases z with z | z | z | z | z <;> rw [z] <;> decide
    have lt := (hV.1 i hc.1.2.2.2.2.1 k0.1 k0.2).1
    have h4 := hc.2.2
    have hcn := hc.2.1
    refine wl_gR rfl rfl hc.1.2.1.1 (wl_eq rfl (wl_bd2 ?_))
    unfold f_pg_isFull f_pg_isFull_14
    refine wl_kb (wl_gI (isP_lt hp).1 rfl rfl (wl_ite (fun y => wl_req (fun _ => wl_some ?_)) (fun y => ?_)))
    · dsimp only
      rw [if_pos rfl]
      unfold f_pa_readStatement_28 f_pa_readStatement_109
      refine wl_bdx (v_need hc.1 (fun _ => ⟨fun v hv => ?_, fun E hE => (by cases hE)⟩) (fun y => absurd y (by decide)))
      refine wl_gR rfl rfl hc.1.2.1.1 (wl_eq rfl (wl_bd2 (v_newSt hc.1.1 hp hc.2.1 (fun cl hy => ?_))))
      dsimp only
      generalize hI1 : up2 I p 1 (I p 1 + 1) = I1
      have e1 : ∀ x j, (x ≠ p ∨ j ≠ 1) → I1 x j = I x j := fun x j hx => by rw [← hI1, up2_ne _ _ (by omega)]
      have hc1 : CS K B V p I1 R i := by
        obtain ⟨q1, q2, q3, q4, q5, q6, q7, q8⟩ := hc.1
        refine ⟨q1, q2, q3, ?_, q5, ?_, ?_, ?_⟩
        · rw [e1 _ _ (by omega)]; exact q4
        · funext j; rw [e1 _ _ (by omega), q6]
        · funext j; rw [e1 _ _ (by omega), q7]
        · rw [e1 _ _ (by omega)]; exact q8
      refine wn_1_0 hc.1.1 (wn_2_2 hc.1.1 (wl_gI rfl rfl rfl (wl_rI (n := 201) rfl (fun _ => wn_1_0 hc.1.1 (wn_2_3 hc.1.1 (wl_gI rfl rfl rfl (wl_rI (n := 201) rfl (fun _ => wl_eq rfl (wl_bd ?_)))))))))
      unfold f_st_begin
      refine wl_kb (wl_pI hy rfl (wl_pI hy rfl (wl_pI hy rfl (wl_pR hy rfl (wl_pR hy rfl (wl_pR hy rfl (wl_some ?_)))))))
      generalize hI2 : up2 (up2 (up2 I1 (p + 2 + c) 0 (K i)) (p + 2 + c) 1 (I1 5 (I1 1 1).toInt.toNat)) (p + 2 + c) 2 (I1 6 (I1 1 1).toInt.toNat) = I2
      generalize hR2 : up2 (up2 (up2 R (p + 2 + c) 7 none) (p + 2 + c) 8 none) (p + 2 + c) 9 none = R2
      have h2 : CS K B V p I2 R2 i := by
        rw [← hI2, ← hR2]
        exact (((((hc1.wy hy).wy hy).wy hy).wr hy (by decide)).wr hy (by decide)).wr hy (by decide)
      have kd : I2 (p + 2 + c) 0 = K i := by rw [← hI2, up2_nek (by decide), up2_nek (by decide), up2_s]
      have cn : (I2 p 1).toInt = ((c + 1 : Nat) : Int) := by
        rw [← hI2, up2_nea (by omega), up2_nea (by omega), up2_nea (by omega), ← hI1, up2_s, i32addc (by rw [hcn, l32_1]; omega), hcn, l32_1]; omega
      have s2 : SFr p c I I2 := ⟨fun x j a b => by rw [← hI2, up2_ne _ _ (by omega), up2_ne _ _ (by omega), up2_ne _ _ (by omega), e1 _ _ (by omega)], fun q hq => by rw [← hI2, up2_ne _ _ (by omega), up2_ne _ _ (by omega), up2_ne _ _ (by omega), e1 _ _ (by omega)]⟩
      refine wl_bd (v_advance hV h2 k0.1 k0.2 (fun I3 e3 h3 => ?_))
      have s3 : SF1 p (c + 1) I2 I3 := e3.sf hp (by omega)
      have kd3 : I3 (p + 2 + c) 0 = K i := by rw [s3.1.2 c (by omega)]; exact kd
      have cn3 : (I3 p 1).toInt = ((c + 1 : Nat) : Int) := by rw [s3.2]; exact cn
      have s23 : SFr p c I I3 := s2.trans (s3.1.le (by omega))
      refine wl_ite (fun z2 => ?_) (fun z2 => wl_ite (fun z3 => ?_) (fun z3 => ?_))
      · refine wl_bdx (v_asg hV h3 hy cl (m := c) (Nat.le_refl _) (fun j I4 hA s4 h4' le => ⟨fun v hv => ?_, fun E hE => (by cases hE)⟩) (fun E j I4 hA s4 h4' => ⟨fun v hv => (by cases hv), fun E' hE => kx E' j I4 R2 (.tasgb z2 hA) (s23.trans s4.1) h4'⟩))
        exact wl_some (k (p + 2 + c) j (c + 1) I4 R2 (.tasg z2 hA) (s23.trans s4.1) (CTs.of cn3 s4 h4' (by omega)) (by omega) hy (by omega))
      · refine wl_bdx (v_sto hV h3 hy cl (m := c) (Nat.le_refl _) (fun j I4 hA s4 h4' le => ⟨fun v hv => ?_, fun E hE => (by cases hE)⟩) (fun E j I4 hA s4 h4' => ⟨fun v hv => (by cases hv), fun E' hE => kx E' j I4 R2 (.tstob z3 hA) (s23.trans s4.1) h4'⟩))
        exact wl_some (k (p + 2 + c) j (c + 1) I4 R2 (.tsto z3 hA) (s23.trans s4.1) (CTs.of cn3 s4 h4' (by omega)) (by omega) hy (by omega))
      · have hk : K i = 4 ∨ K i = 6 ∨ K i = 7 := by
          rcases z with z | z | z | z | z
          · exact absurd z z2
          · exact absurd z z3
          · exact Or.inl z
          · exact Or.inr (Or.inl z)
          · exact Or.inr (Or.inr z)
        refine wl_bdx (v_cond hV h3 hy cl (m := c + 1) (Nat.le_refl _) (fun j I4 hA s4 h4' le => ⟨fun v hv => ?_, fun E hE => (by cases hE)⟩) (fun E j I4 hA s4 h4' => ⟨fun v hv => (by cases hv), fun E' hE => kx E' j I4 R2 (.tcob hk hA) (s23.trans (s4.1.le (by omega))) h4'⟩))
        have kd4 : I4 (p + 2 + c) 0 = K i := by rw [s4.1.2 c (by omega)]; exact kd3
        have ct4 : CTs K B V p I4 R2 j (c + 1) := CTs.of cn3 s4 h4' (by omega)
        have s24 : SFr p c I I4 := s23.trans (s4.1.le (by omega))
        refine wl_bdx (Hr ct4 hy (by omega) hn (fun i5 c5 I5 R5 hRR s5 h5 le5 li5 => ⟨fun v hv => ?_, fun E hE => (by cases hE)⟩) (fun E j5 I5 R5 hRR s5 h5 => ⟨fun v hv => (by cases hv), fun E' hE => kx E' j5 I5 R5 (DS.of_rr hk hA (by rw [← kd4]; exact hRR)) (s24.trans (s5.le (by omega))) h5⟩))
        exact wl_some (k (p + 2 + c) i5 c5 I5 R5 (DS.of_rr hk hA (by rw [← kd4]; exact hRR)) (s24.trans (s5.le (by omega))) h5 (by omega) hy (by omega))
    · rw [i32lt, l32_50, hcn] at y
      omega
  · dsimp only
    rw [if_pos rfl]
    unfold f_pa_readStatement_27 f_pa_readStatement_28
    exact wl_bdx (v_need hc.1 (fun y => absurd rfl y) (fun _ I' e' h3 => ⟨fun v hv => (by cases hv), fun E hE => kx E i I' R (.tnone z) (e'.sf hp c50).1 h3⟩))
theorem v_stmts_8 (hV : NXT K V) (Ht : W4T K B V gT) {c0 : Nat} {I0 : IM} {e n : Int32} (hn : 0 ≤ n.toInt ∧ n.toInt ≤ 3) {Q : ((Option Nat ⊕ String) × WW) → Prop} : ∀ (N : Nat) (I : IM) (R : RM) (i c : Nat) (y3 y4 : Option Nat) (y5 : Int32), CTs K B V p I R i c → SFr p c0 I0 I → c0 ≤ c → (∀ y, y4 = some y → LT y = some oT) → 0 ≤ y5.toInt ∧ y5.toInt ≤ c → (∀ (r : Option Nat) (i' c' : Nat) (I' : IM) (R' : RM), DS K 0 n.toInt.toNat e i c (.inl (i', c')) → SFr p c0 I0 I' → CTs K B V p I' R' i' c' → c ≤ c' → K i' = e → i ≤ i' → Q (.inl r, mk I' J R')) → (∀ (E : String) (j : Nat) (I' : IM) (R' : RM), DS K 0 n.toInt.toNat e i c (.inr j) → SFr p c0 I0 I' → I' 1 3 = B j → Q (.inr E, mk I' J R')) → wl (f_pa_readStatements_8 gS gT gR gB N 1 e n y3 y4 y5 (mk I J R)) Q := by
  intro N
  induction N with
  | zero => intro I R i c y3 y4 y5 hc s h0 hy4 hy5 k kx; exact wl_none
  | succ N ih =>
    intro I R i c y3 y4 y5 hc s h0 hy4 hy5 k kx
    rw [f_pa_readStatements_8]
    unfold f_pa_readStatements_58 f_pa_readStatements_48
    refine wl_ite (fun z => ?_) (fun z => wl_bd2 (v_kindHere hc.1 ?_))
    · rw [i32lt, l32_50] at z
      have := hc.c50 hV
      omega
    dsimp only
    refine wl_ite (fun z1 => wl_some (k y3 i c I R (.send z1) s hc (Nat.le_refl _) z1 (Nat.le_refl _))) (fun z1 => ?_)
    refine wl_bdx (Ht hc hn (fun y i1 c1 I1 R1 hD s1 h1 lt1 hy li1 => ⟨fun v hv => ?_, fun E hE => (by cases hE)⟩) (fun E j I1 R1 hD s1 h3 => ⟨fun v hv => (by cases hv), fun E' hE => kx E' j I1 R1 (.sbad z1 hD) (s.trans (s1.le h0)) h3⟩))
    cases hv
    have c50 := h1.c50 hV
    have y51 : (y5 + 1).toInt = y5.toInt + 1 := by rw [i32addc (by rw [l32_1]; omega), l32_1]
    have nxt : ∀ (R2 : RM) (y3' : Option Nat), CTs K B V p I1 R2 i1 c1 → wl (f_pa_readStatements_8 gS gT gR gB N 1 e n y3' (some y) (y5 + 1) (mk I1 J R2)) Q := fun R2 y3' h2 => ih I1 R2 i1 c1 y3' (some y) (y5 + 1) h2 (s.trans (s1.le h0)) (by omega) (fun y' hy' => by cases hy'; exact hy) (by omega) (fun r i' c' I' R' hD' s' h' le' ke' li' => k r i' c' I' R' (.smore z1 hD hD') s' h' (by omega) ke' (by omega)) (fun E j I' R' hD' s' h' => kx E j I' R' (.smore z1 hD hD') s' h')
    cases y4 with
    | none => exact nxt R1 _ h1
    | some y4 => exact wl_pR (hy4 y4 rfl) rfl (nxt _ _ ⟨h1.1.wr (hy4 y4 rfl) (by decide), h1.2⟩)
theorem v_stmts (hV : NXT K V) (Ht : W4T K B V gT) : W4S K B V (fo_pa_readStatements gS gT gR gB) := by
  intro p i c I J R e n Q hc hn k kx
  unfold fo_pa_readStatements
  exact wl_kb (v_stmts_8 hV Ht hn KK I R i c none none 0 hc ⟨fun _ _ _ _ => rfl, fun _ _ => rfl⟩ (Nat.le_refl _) (fun y hy => by cases hy) (by rw [l32_0]; omega) k kx)
end FOUR
theorem v_pa4 (hV : NXT K V) : ∀ e : Nat, W4S K B V (sc_pa4 e).1 ∧ W4T K B V (sc_pa4 e).2.1 ∧ W4R K B V (sc_pa4 e).2.2.1 ∧ W4B K B V (sc_pa4 e).2.2.2 := by
  intro e
  induction e with
  | zero =>
    refine ⟨?_, ?_, ?_, ?_⟩
    · intro p i c I J R e n Q hc hn k kx; exact wl_none
    · intro p i c I J R n Q hc hn k kx; exact wl_none
    · intro p i c q I J R n Q hc hy hq hn k kx; exact wl_none
    · intro p i c I J R n Q hc hn k kx; exact wl_none
  | succ e ih => exact ⟨v_stmts hV ih.2.1, v_stmt hV ih.2.2.1, v_rest hV ih.2.2.2, v_block hV ih.1⟩
theorem nxt_vi {c : Nat → Int32} {L : Nat} (hL : L ≤ 200) : NXT K (VTk c L K B) := ⟨fun i h h0 h1 => h.next hL h0 h1, fun i h => h.le hL⟩
set_option maxRecDepth 100000 in
theorem v_program (h : FXR R) (hp : isP p) (h05 : R 0 5 = some p) {L : Nat} (hL : (I 2 4).toInt = L) (hL2 : L ≤ 200) {Q : ((Unit ⊕ String) × WW) → Prop} (k : ∀ (K B : Nat → Int32) (i' c' : Nat) (I' : IM) (R' : RM), TL (I 3) L K B 0 0 → DS K 0 0 0 0 0 (.inl (i', c')) → I' 3 = I 3 → I' 1 3 = -2 → (I' p 1).toInt = c' → R' 0 5 = some p → Q (.inl (), mk I' J R')) (kx : ∀ (E : String) (K B : Nat → Int32) (j : Nat) (I' : IM) (R' : RM), TL (I 3) L K B 0 0 → DS K 0 0 0 0 0 (.inr j) → I' 3 = I 3 → I' 1 3 = B j → Q (.inr E, mk I' J R')) : wl (f_pa_readProgram 1 p (mk I J R)) Q := by
  have hp' : p = 7 ∨ p = 62 := hp
  have hf : FXR (up2 R 1 2 (some p)) := h.w (by decide +kernel)
  unfold f_pa_readProgram f_pg_empty
  refine wl_kb (wl_pR (x := some p) rfl rfl (wl_gR rfl rfl up2_s (wl_eq rfl (wl_bd (wl_kb (wl_pI (isP_lt hp).1 rfl (wl_pI (isP_lt hp).1 rfl (wl_some ?_))))))))
  refine wl_pI rfl rfl (wn_1_0 hf ?_)
  generalize hI1 : up2 (up2 (up2 I p 1 0) p 5 0) 1 3 (-2) = I1
  have e1 : ∀ x j, (x ≠ p ∨ (j ≠ 1 ∧ j ≠ 5)) → (x ≠ 1 ∨ j ≠ 3) → I1 x j = I x j := fun x j a b => by rw [← hI1, up2_ne _ _ (by omega), up2_ne _ _ (by omega), up2_ne _ _ (by omega)]
  have r3 : I1 3 = I 3 := by funext j; exact e1 _ _ (by omega) (by omega)
  have f1 : I1 1 3 = -2 := by rw [← hI1, up2_s]
  have n1 : I1 p 1 = 0 := by rw [← hI1, up2_ne _ _ (by omega), up2_ne _ _ (by omega), up2_s]
  refine wl_bd (v_readAll hf (L := L) (by rw [e1 _ _ (by omega) (by omega)]; exact hL) hL2 (fun I2 e2 hT => ?_))
  rw [r3] at hT
  refine wl_pI rfl rfl (wl_gR rfl rfl up2_s ?_)
  generalize hI3 : up2 I2 1 1 0 = I3
  have e3 : ∀ x j, (x ≠ 1 ∨ j ≠ 1) → I3 x j = I2 x j := fun x j a => by rw [← hI3, up2_ne _ _ (by omega)]
  have r33 : I3 3 = I 3 := by funext j; rw [e3 _ _ (by omega), e2 _ _ (by omega) (by omega), r3]
  have hc : CS (I2 4) (I2 5) (VTk (I 3) L (I2 4) (I2 5)) p I3 (up2 R 1 2 (some p)) 0 := by
    refine ⟨hf, ⟨up2_s, by rw [up2_nea (by decide)]; exact h05⟩, hp, ?_, ⟨0, Nat.le_refl _, Nat.zero_le _, hT⟩, ?_, ?_, ?_⟩
    · rw [← hI3, up2_s]; exact l32_0
    · funext j; exact e3 _ _ (by omega)
    · funext j; exact e3 _ _ (by omega)
    · rw [e3 _ _ (by omega), e2 _ _ (by omega) (by omega)]; exact f1
  have ct : CTs (I2 4) (I2 5) (VTk (I 3) L (I2 4) (I2 5)) p I3 (up2 R 1 2 (some p)) 0 0 := ⟨hc, by rw [e3 _ _ (by omega), e2 _ _ (by omega) (by omega), n1]; exact l32_0, Nat.le_refl _⟩
  unfold f_pa_readStatements
  refine wl_bdx ((v_pa4 (nxt_vi hL2) 64).1 ct (by decide) (fun r i' c' I4 R4 hD s4 h4 le ke li => ⟨fun v hv => ?_, fun E hE => (by cases hE)⟩) (fun E j I4 R4 hD s4 h3 => ⟨fun v hv => (by cases hv), fun E' hE => kx E' _ _ j I4 R4 hT hD ?_ h3⟩))
  · refine wl_eq rfl (wl_pR (isP_lt hp).1 rfl (wl_some (k _ _ i' c' I4 _ hT hD ?_ h4.1.2.2.2.2.2.2.2 h4.2.1 ?_)))
    · funext j; rw [s4.1 3 j (by omega) (by omega), r33]
    · rw [up2_nea (by omega)]; exact h4.1.2.1.2
  · funext j; rw [s4.1 3 j (by omega) (by omega), r33]
end CSTM
