/-! TOKENS of a text, said once for both sides. -/
def FS (P : Nat → Prop) (p q : Nat) : Prop := p ≤ q ∧ (∀ j, p ≤ j → j < q → P j) ∧ ¬ P q
theorem FS.uniq {P : Nat → Prop} {p q q' : Nat} (h : FS P p q) (h' : FS P p q') : q = q' := by
  obtain ⟨h1, h2, h3⟩ := h
  obtain ⟨g1, g2, g3⟩ := h'
  by_cases c : q < q'
  · exact absurd (g2 q h1 c) h3
  · by_cases c' : q' < q
    · exact absurd (h2 q' g1 c') g3
    · omega
theorem FS.bnd {P : Nat → Prop} {p q L : Nat} (h : FS P p q) (hP : ∀ j, P j → j < L) (hp : p ≤ L) : p ≤ q ∧ q ≤ L := by
  obtain ⟨h1, h2, h3⟩ := h
  by_cases c : q ≤ L
  · exact ⟨h1, c⟩
  · have := hP (q - 1) (h2 (q - 1) (by omega) (by omega))
    omega
theorem FS.more {P : Nat → Prop} {p q : Nat} (h : FS P p q) (hp : P p) : p + 1 ≤ q := by
  obtain ⟨h1, h2, h3⟩ := h
  by_cases c : p = q
  · subst c; exact absurd hp h3
  · omega
def blk (x : Int32) : Prop := x.toInt = 32 ∨ x.toInt = 10
def dgt (x : Int32) : Prop := 48 ≤ x.toInt ∧ x.toInt ≤ 57
def ltr (x : Int32) : Prop := (65 ≤ x.toInt ∧ x.toInt ≤ 90) ∨ (97 ≤ x.toInt ∧ x.toInt ≤ 122)
def SGN (x : Int) : Prop := x = 37 ∨ (40 ≤ x ∧ x ≤ 43) ∨ x = 45 ∨ x = 47 ∨ (59 ≤ x ∧ x ≤ 61) ∨ x = 91 ∨ x = 93 ∨ x = 123 ∨ x = 125
def splAt (c : Nat → Int32) : Nat → List Int → Bool
  | _, [] => true
  | b, x :: l => decide ((c b).toInt = x) && splAt c (b + 1) l
def spl (c : Nat → Int32) (b q : Nat) (l : List Int) : Bool := decide (q = b + l.length) && splAt c b l
def wkd (c : Nat → Int32) (b q : Nat) : Int := if spl c b q [105, 102] = true then 4 else if spl c b q [101, 108, 115, 101] = true then 5 else if spl c b q [119, 104, 105, 108, 101] = true then 6 else if spl c b q [97, 115, 115, 101, 114, 116] = true then 7 else if spl c b q [105, 110] = true then 8 else -1
def wk1 (x : Int) : Int := if 97 ≤ x ∧ x ≤ 102 then 2 else if x = 65 ∨ x = 66 then 3 else -1
def wk (c : Nat → Int32) (b q : Nat) : Int := if q = b + 1 then wk1 (c b).toInt else wkd c b q
theorem spl_len {c : Nat → Int32} {b q : Nat} {l : List Int} (h : q ≠ b + l.length) : spl c b q l = false := by
  unfold spl
  rw [decide_eq_false h, Bool.false_and]
theorem spl_at {c : Nat → Int32} {b q : Nat} {l : List Int} (h : q = b + l.length) : spl c b q l = splAt c b l := by
  unfold spl
  rw [decide_eq_true h, Bool.true_and]
def PAIR (c : Nat → Int32) (L b : Nat) : Prop := b + 1 < L ∧ (c (b + 1)).toInt = 61 ∧ ((c b).toInt = 61 ∨ (c b).toInt = 33 ∨ (c b).toInt = 60)
def SG (c : Nat → Int32) (L b q : Nat) (k : Int) : Prop :=
  (¬ PAIR c L b ∧ q = b + 1 ∧ ((SGN (c b).toInt ∧ k = (c b).toInt) ∨ (¬ SGN (c b).toInt ∧ k = -1))) ∨
  (PAIR c L b ∧ q = b + 2 ∧ (((c b).toInt = 61 ∧ k = 256) ∨ ((c b).toInt = 33 ∧ k = 257) ∨ ((c b).toInt = 60 ∧ k = 258)))
/-- from p on: the TOKEN's place b, its end q, its kind k -/
def TK (c : Nat → Int32) (L p b q : Nat) (k : Int) : Prop :=
  FS (fun j => j < L ∧ blk (c j)) p b ∧
  ((L ≤ b ∧ q = b ∧ k = 0) ∨
   (b < L ∧ dgt (c b) ∧ k = 1 ∧ FS (fun j => j < L ∧ j < b + 9 ∧ dgt (c j)) b q) ∨
   (b < L ∧ ¬ dgt (c b) ∧ ltr (c b) ∧ FS (fun j => j < L ∧ ltr (c j)) b q ∧ k = wk c b q) ∨
   (b < L ∧ ¬ dgt (c b) ∧ ¬ ltr (c b) ∧ SG c L b q k))
theorem SG.uniq {c : Nat → Int32} {L b q q' : Nat} {k k' : Int} (h : SG c L b q k) (h' : SG c L b q' k') : q = q' ∧ k = k' := by
  rcases h with ⟨h1, h2, h3⟩ | ⟨h1, h2, h3⟩ <;> rcases h' with ⟨g1, g2, g3⟩ | ⟨g1, g2, g3⟩
  · refine ⟨by omega, ?_⟩
    rcases h3 with ⟨a, b⟩ | ⟨a, b⟩ <;> rcases g3 with ⟨a', b'⟩ | ⟨a', b'⟩
    · omega
    · exact absurd a a'
    · exact absurd a' a
    · omega
  · exact absurd g1 h1
  · exact absurd h1 g1
  · exact ⟨by omega, by omega⟩
theorem TK.uniq {c : Nat → Int32} {L p b q b' q' : Nat} {k k' : Int} (h : TK c L p b q k) (h' : TK c L p b' q' k') : b = b' ∧ q = q' ∧ k = k' := by
  obtain ⟨h1, h2⟩ := h
  obtain ⟨g1, g2⟩ := h'
  have e := h1.uniq g1
  subst e
  refine ⟨rfl, ?_⟩
  rcases h2 with ⟨a, a1, a2⟩ | ⟨a, a1, a2, a3⟩ | ⟨a, a1, a2, a3, a4⟩ | ⟨a, a1, a2, a3⟩ <;> rcases g2 with ⟨b, b1, b2⟩ | ⟨b, b1, b2, b3⟩ | ⟨b, b1, b2, b3, b4⟩ | ⟨b, b1, b2, b3⟩
  · exact ⟨by omega, by omega⟩
  · omega
  · omega
  · omega
  · omega
  · exact ⟨a3.uniq b3, by omega⟩
  · exact absurd a1 b1
  · exact absurd a1 b1
  · omega
  · exact absurd b1 a1
  · have e := a3.uniq b3
    subst e
    exact ⟨rfl, by rw [a4, b4]⟩
  · exact absurd a2 b2
  · omega
  · exact absurd b1 a1
  · exact absurd b2 a2
  · exact a3.uniq b3
theorem TK.bnd {c : Nat → Int32} {L p b q : Nat} {k : Int} (h : TK c L p b q k) (hp : p ≤ L) : p ≤ b ∧ b ≤ L ∧ b ≤ q ∧ q ≤ L ∧ (k ≠ 0 → b < L ∧ b + 1 ≤ q) := by
  obtain ⟨h1, h2⟩ := h
  have e := h1.bnd (L := L) (fun j z => z.1) hp
  rcases h2 with ⟨a, a1, a2⟩ | ⟨a, a1, a2, a3⟩ | ⟨a, a1, a2, a3, a4⟩ | ⟨a, a1, a2, a3⟩
  · exact ⟨by omega, by omega, by omega, by omega, fun z => absurd a2 z⟩
  · have f := a3.bnd (L := L) (fun j z => z.1) (by omega)
    have g := a3.more ⟨a, by omega, a1⟩
    exact ⟨by omega, by omega, by omega, by omega, fun _ => ⟨a, g⟩⟩
  · have f := a3.bnd (L := L) (fun j z => z.1) (by omega)
    have g := a3.more ⟨a, a2⟩
    exact ⟨by omega, by omega, by omega, by omega, fun _ => ⟨a, g⟩⟩
  · rcases a3 with ⟨g1, g2, g3⟩ | ⟨g1, g2, g3⟩
    · exact ⟨by omega, by omega, by omega, by omega, fun _ => ⟨a, by omega⟩⟩
    · have := g1.1
      exact ⟨by omega, by omega, by omega, by omega, fun _ => ⟨a, by omega⟩⟩
def nmv (c : Nat → Int32) (b : Nat) : Nat → Int32
  | 0 => 0
  | n + 1 => nmv c b n * 10 + (c (b + n) - 48)
/-- the class's number m of a TOKEN of the kind k from b to q -/
def NM (c : Nat → Int32) (b q : Nat) (k : Int) (m : Int32) : Prop := (k = 1 → m = nmv c b (q - b)) ∧ (k = 2 → m = c b - 97) ∧ (k = 3 → m = (c b - 65) * 4)
/-- the reference's value v of a token t from b to q -/
def VQ (c : Nat → Int32) (b q : Nat) (t v : Int32) : Prop := (t.toInt = 1 → v = nmv c b (q - b)) ∧ (t.toInt = 2 → v = c b - 97) ∧ (t.toInt = 3 → v = c b - 65)
theorem NM.no {c : Nat → Int32} {b q : Nat} {k : Int} {m : Int32} (h : ¬ (1 ≤ k ∧ k ≤ 3)) : NM c b q k m := ⟨fun z => by omega, fun z => by omega, fun z => by omega⟩
theorem VQ.no {c : Nat → Int32} {b q : Nat} {t v : Int32} (h : ¬ (1 ≤ t.toInt ∧ t.toInt ≤ 3)) : VQ c b q t v := ⟨fun z => by omega, fun z => by omega, fun z => by omega⟩
theorem SG.no {c : Nat → Int32} {L b q : Nat} {k : Int} (h : SG c L b q k) : ¬ (1 ≤ k ∧ k ≤ 3) := by
  rcases h with ⟨_, _, ⟨h, rfl⟩ | ⟨_, rfl⟩⟩ | ⟨_, _, h⟩
  · unfold SGN at h; omega
  · omega
  · omega
theorem SG.nm {c : Nat → Int32} {L b q : Nat} {k : Int} {m : Int32} (h : SG c L b q k) : NM c b q k m := NM.no h.no
/-- the rows K, B and M hold the TOKENS from place p on, from their index i on -/
def TLC (c : Nat → Int32) (L : Nat) (K B M : Nat → Int32) (Pz : Nat → Nat → Prop) : Prop :=
  (∀ (i p b q : Nat), TK c L p b q (K i).toInt → (B i).toInt = b → NM c b q (K i).toInt (M i) → ((K i).toInt = 0 ∨ (K i).toInt = -1) → Pz i p) ∧
  (∀ (i p b q : Nat), TK c L p b q (K i).toInt → (B i).toInt = b → NM c b q (K i).toInt (M i) → Pz (i + 1) q → Pz i p)
def TL (c : Nat → Int32) (L : Nat) (K B M : Nat → Int32) (x1 : Nat) (x2 : Nat) : Prop := ∀ Pz : Nat → Nat → Prop, TLC c L K B M Pz → Pz x1 x2
theorem TL.last {c : Nat → Int32} {L : Nat} {K B M : Nat → Int32} {i p b q : Nat} (a1 : TK c L p b q (K i).toInt) (a2 : (B i).toInt = b) (a3 : NM c b q (K i).toInt (M i)) (a4 : ((K i).toInt = 0 ∨ (K i).toInt = -1)) : TL c L K B M i p := fun Pz cz => cz.1 _ _ _ _ a1 a2 a3 a4
theorem TL.more {c : Nat → Int32} {L : Nat} {K B M : Nat → Int32} {i p b q : Nat} (a1 : TK c L p b q (K i).toInt) (a2 : (B i).toInt = b) (a3 : NM c b q (K i).toInt (M i)) (a4 : TL c L K B M (i + 1) q) : TL c L K B M i p := fun Pz cz => cz.2 _ _ _ _ a1 a2 a3 (a4 Pz cz)
theorem TL.ind {c : Nat → Int32} {L : Nat} {K B M : Nat → Int32} {W : Nat → Nat → Prop} (last : ∀ (i p b q : Nat), TK c L p b q (K i).toInt → (B i).toInt = b → NM c b q (K i).toInt (M i) → ((K i).toInt = 0 ∨ (K i).toInt = -1) → W i p) (more : ∀ (i p b q : Nat), TK c L p b q (K i).toInt → (B i).toInt = b → NM c b q (K i).toInt (M i) → TL c L K B M (i + 1) q → W (i + 1) q → W i p) {x1 : Nat} {x2 : Nat} (t : TL c L K B M x1 x2) : W x1 x2 := (t (fun x1 x2 => TL c L K B M x1 x2 ∧ W x1 x2) ⟨fun i p b q a1 a2 a3 a4 => ⟨TL.last a1 a2 a3 a4, last i p b q a1 a2 a3 a4⟩,
  fun i p b q a1 a2 a3 a4 => ⟨TL.more a1 a2 a3 a4.1, more i p b q a1 a2 a3 a4.1 a4.2⟩⟩).2
theorem TL.inv {c : Nat → Int32} {L : Nat} {K B M : Nat → Int32} {i p : Nat} (h : TL c L K B M i p) : ∃ b q : Nat, TK c L p b q (K i).toInt ∧ (B i).toInt = b ∧ NM c b q (K i).toInt (M i) ∧ ((K i).toInt ≠ 0 → (K i).toInt ≠ -1 → TL c L K B M (i + 1) q) := by
  refine TL.ind (W := fun i p => ∃ b q : Nat, TK c L p b q (K i).toInt ∧ (B i).toInt = b ∧ NM c b q (K i).toInt (M i) ∧ ((K i).toInt ≠ 0 → (K i).toInt ≠ -1 → TL c L K B M (i + 1) q)) ?_ ?_ h
  · intro i p b q h1 h2 hm h3
    exact ⟨_, _, h1, h2, hm, fun a b => by omega⟩
  · intro i p b q h1 h2 hm h3 _
    exact ⟨_, _, h1, h2, hm, fun _ _ => h3⟩
def VTk (c : Nat → Int32) (L : Nat) (K B M : Nat → Int32) (i : Nat) : Prop := ∃ p, i ≤ p ∧ p ≤ L ∧ TL c L K B M i p
theorem VTk.next {c : Nat → Int32} {L : Nat} {K B M : Nat → Int32} (hL : L ≤ 200) {i : Nat} (h : VTk c L K B M i) (h0 : (K i).toInt ≠ 0) (h1 : (K i).toInt ≠ -1) : i < 200 ∧ VTk c L K B M (i + 1) := by
  obtain ⟨p, a, b, t⟩ := h
  obtain ⟨b', q, t1, t2, _, t3⟩ := t.inv
  have e := t1.bnd b
  have f := e.2.2.2.2 h0
  exact ⟨by omega, q, by omega, e.2.2.2.1, t3 h0 h1⟩
theorem VTk.le {c : Nat → Int32} {L : Nat} {K B M : Nat → Int32} (hL : L ≤ 200) {i : Nat} (h : VTk c L K B M i) : i ≤ 200 := by
  obtain ⟨p, a, b, t⟩ := h
  omega
theorem VTk.pl {c : Nat → Int32} {L : Nat} {K B M : Nat → Int32} (hL : L ≤ 200) {i : Nat} (h : VTk c L K B M i) (h0 : (K i).toInt ≠ 0) : 0 ≤ (B i).toInt ∧ (B i).toInt ≤ 199 := by
  obtain ⟨p, a, b, t⟩ := h
  obtain ⟨b', q, t1, t2, _, t3⟩ := t.inv
  have e := t1.bnd b
  have f := e.2.2.2.2 h0
  omega
/-- the class's kind k, the reference's token t with its value v -/
def COR (k t v : Int) : Prop := (k = 0 ∧ t = 0) ∨ (k = 1 ∧ t = 1) ∨ (k = 2 ∧ t = 2) ∨ (k = 3 ∧ t = 3) ∨ (t = 4 ∧ 0 ≤ v ∧ v ≤ 4 ∧ k = 4 + v) ∨ (t = 5 ∧ v = k ∧ (k = 37 ∨ (40 ≤ k ∧ k ≤ 43) ∨ k = 45 ∨ k = 47 ∨ (59 ≤ k ∧ k ≤ 61) ∨ k = 91 ∨ k = 93 ∨ k = 123 ∨ k = 125)) ∨ (t = 5 ∧ 1000 ≤ v ∧ v ≤ 1002 ∧ k = v - 744) ∨ (t = 6 ∧ k = -1)
