/-! The STATEMENTS of a program that was parsed: what a run may come to, and that its EXPRS fit the stack. -/
theorem grw_1 : grw 1 = 1 := by decide
theorem grw_2 : grw 2 = 1 := by decide
theorem grw_3 : grw 3 = 0 := by decide
theorem grw_259 : grw 259 = 0 := by decide
theorem grw_pr {x : Int32} (h : isPr x) : grw x = -1 := by
  rcases h with z | z | z <;> rw [z] <;> decide
theorem grw_sm {x : Int32} (h : isSm x) : grw x = -1 := by
  rcases h with z | z <;> rw [z] <;> decide
/-- the height of the stack while an EXPR is worked out -/
theorem DE.ws {P : RX} {K B M : Nat → Int32} {tag d : Nat} {h : Int32} {i n : Nat} {r : Res} (hd : DE P K B M tag d h i n r) : ∀ a, r = .inl a → (tag = 0 → d ≤ 10 ∧ ∀ t, t + 1 + 2 * (10 - d) ≤ 24 → WS P n a.2.2 t (t + 1)) ∧ (tag = 1 → ∀ t, t + 2 + 2 * (10 - d) ≤ 24 → WS P n a.2.2 (t + 1) (t + 1)) ∧ (tag = 2 → ∀ t, t + 3 + 2 * (10 - d) ≤ 24 → WS P n a.2.2 (t + 1) (t + 1)) ∧ (tag = 3 → d ≤ 10 ∧ ∀ t, t + 2 + 2 * (10 - d) ≤ 24 → WS P n a.2.2 t (t + 1)) ∧ (tag = 4 → d ≤ 10 ∧ ∀ t, t + 3 + 2 * (10 - d) ≤ 24 → WS P n a.2.2 t (t + 1)) := by
  have no : ∀ {a b : Nat} {P : Prop}, a ≠ b → a = b → P := fun h e => absurd e h
  refine DE.ind (W := fun tag d h i n r => ∀ a, r = .inl a → (tag = 0 → d ≤ 10 ∧ ∀ t, t + 1 + 2 * (10 - d) ≤ 24 → WS P n a.2.2 t (t + 1)) ∧ (tag = 1 → ∀ t, t + 2 + 2 * (10 - d) ≤ 24 → WS P n a.2.2 (t + 1) (t + 1)) ∧ (tag = 2 → ∀ t, t + 3 + 2 * (10 - d) ≤ 24 → WS P n a.2.2 (t + 1) (t + 1)) ∧ (tag = 3 → d ≤ 10 ∧ ∀ t, t + 2 + 2 * (10 - d) ≤ 24 → WS P n a.2.2 t (t + 1)) ∧ (tag = 4 → d ≤ 10 ∧ ∀ t, t + 3 + 2 * (10 - d) ≤ 24 → WS P n a.2.2 t (t + 1))) ?_ ?_ ?_ ?_ ?_ ?_ ?_ ?_ ?_ ?_ ?_ ?_ ?_ ?_ ?_ ?_ ?_ ?_ ?_ ?_ ?_ ?_ ?_ ?_ hd
  · intro d i n h1 a e; cases e
  · intro d i n h1 h2 a e; cases e
  · intro d i n h1 h2 hst a e
    cases e
    refine ⟨fun _ => ⟨h1, fun t ht => ?_⟩, no (by decide), no (by decide), no (by decide), no (by decide)⟩
    have g : grw (P.sk n) = 1 := by
      rw [hst.1]
      rcases h2 with z | z <;> rw [z]
      · exact grw_1
      · exact grw_2
    exact WS.one (by rw [g]; omega) (by omega)
  · intro d i n j n' h h1 h2 h3 hst ih a e
    cases e
    obtain ⟨d1, q⟩ := (ih _ rfl).1 rfl
    have m : n ≤ n' := h3.mn _ rfl
    refine ⟨fun _ => ⟨h1, fun t ht => ?_⟩, no (by decide), no (by decide), no (by decide), no (by decide)⟩
    have q0 : WS P n n' t (t + 1) := q t (by omega)
    exact q0.cat m (Nat.le_succ _) (WS.one (by rw [hst.1, grw_259]; omega) (by omega))
  · intro d i n j h1 h2 h3 ih a e; cases e
  · intro d i n j n' h h1 h2 h3 h4 ih a e
    cases e
    obtain ⟨d1, q⟩ := (ih _ rfl).2.2.2.2 rfl
    refine ⟨fun _ => ⟨h1, fun t ht => ?_⟩, no (by decide), no (by decide), no (by decide), no (by decide)⟩
    exact q t (by omega)
  · intro d i n j n' h h1 h2 h3 h4 ih a e; cases e
  · intro d i n j h1 h2 h3 ih a e; cases e
  · intro d i n h1 h2 h3 a e; cases e
  · intro d i n j n' h h1 h2 h3 h4 h5 hst ih a e
    cases e
    obtain ⟨d1, q⟩ := (ih _ rfl).2.2.2.2 rfl
    have m : n ≤ n' := h4.mn _ rfl
    refine ⟨fun _ => ⟨h1, fun t ht => ?_⟩, no (by decide), no (by decide), no (by decide), no (by decide)⟩
    have q0 : WS P n n' t (t + 1) := q t (by omega)
    exact q0.cat m (Nat.le_succ _) (WS.one (by rw [hst.1, grw_3]; omega) (by omega))
  · intro d i n j n' h h1 h2 h3 h4 h5 ih a e; cases e
  · intro d i n j h1 h2 h3 h4 ih a e; cases e
  · intro d i n h h1 a e
    cases e
    exact ⟨no (by decide), fun _ t _ => .done (Nat.le_refl _), no (by decide), no (by decide), no (by decide)⟩
  · intro d i n h h1 h2 a e; cases e
  · intro d i n j h h1 h2 h3 ih a e; cases e
  · intro d i n j n' h h0 r h1 h2 h3 hst h4 ih3 ih4 a e
    obtain ⟨d1, q⟩ := (ih3 _ rfl).1 rfl
    have q2 := (ih4 a e).2.1 rfl
    have m : n ≤ n' := h3.mn _ rfl
    have m2 : n' + 1 ≤ a.2.2 := h4.mn a e
    refine ⟨no (by decide), fun _ t ht => ?_, no (by decide), no (by decide), no (by decide)⟩
    have q0 : WS P n n' (t + 1) (t + 1 + 1) := q (t + 1) (by omega)
    exact q0.cat m (by omega) ((WS.one (t' := t) (by rw [hst.1, grw_pr h1]; omega) (by omega)).cat (Nat.le_succ _) m2 (q2 t (by omega)))
  · intro d i n h h1 a e
    cases e
    exact ⟨no (by decide), no (by decide), fun _ t _ => .done (Nat.le_refl _), no (by decide), no (by decide)⟩
  · intro d i n h h1 h2 a e; cases e
  · intro d i n j h h1 h2 h3 ih a e; cases e
  · intro d i n j n' h h0 r h1 h2 h3 hst h4 ih3 ih4 a e
    obtain ⟨d1, q⟩ := (ih3 _ rfl).2.2.2.1 rfl
    have q2 := (ih4 a e).2.2.1 rfl
    have m : n ≤ n' := h3.mn _ rfl
    have m2 : n' + 1 ≤ a.2.2 := h4.mn a e
    refine ⟨no (by decide), no (by decide), fun _ t ht => ?_, no (by decide), no (by decide)⟩
    have q0 : WS P n n' (t + 1) (t + 1 + 1) := q (t + 1) (by omega)
    exact q0.cat m (by omega) ((WS.one (t' := t) (by rw [hst.1, grw_sm h1]; omega) (by omega)).cat (Nat.le_succ _) m2 (q2 t (by omega)))
  · intro d i n j n' h r h1 h2 ih1 ih2 a e
    obtain ⟨d1, q⟩ := (ih1 _ rfl).1 rfl
    have q2 := (ih2 a e).2.1 rfl
    have m : n ≤ n' := h1.mn _ rfl
    have m2 : n' ≤ a.2.2 := h2.mn a e
    refine ⟨no (by decide), no (by decide), no (by decide), fun _ => ⟨d1, fun t ht => ?_⟩, no (by decide)⟩
    have q0 : WS P n n' t (t + 1) := q t (by omega)
    exact q0.cat m m2 (q2 t (by omega))
  · intro d i n j h1 ih a e; cases e
  · intro d i n j n' h r h1 h2 ih1 ih2 a e
    obtain ⟨d1, q⟩ := (ih1 _ rfl).2.2.2.1 rfl
    have q2 := (ih2 a e).2.2.1 rfl
    have m : n ≤ n' := h1.mn _ rfl
    have m2 : n' ≤ a.2.2 := h2.mn a e
    refine ⟨no (by decide), no (by decide), no (by decide), no (by decide), fun _ => ⟨d1, fun t ht => ?_⟩⟩
    have q0 : WS P n n' t (t + 1) := q t (by omega)
    exact q0.cat m m2 (q2 t (by omega))
  · intro d i n j h1 ih a e; cases e
theorem exP.ws {P : RX} {K B M : Nat → Int32} {a b : PS} (h : exP P K B M a (.inl b)) : ∀ t, t ≤ 1 → WS P a.2 b.2 t (t + 1) := by
  rcases h with ⟨h, j, n', hD, e⟩ | ⟨j, _, e⟩
  · cases e
    intro t ht
    exact ((hD.ws _ rfl).2.2.2.2 rfl).2 t (by omega)
  · cases e
/-- the EXPRS of a STATEMENT, with their steps up to nm -/
def STF (P : RX) (y nm : Nat) : Prop :=
  P.F y 0 = 8 ∨
  (P.F y 0 = 2 ∧ ∃ n0 n1 : Nat, (P.F y 3).toInt = n0 ∧ (P.F y 5).toInt = n1 ∧ n1 ≤ nm ∧ WS P n0 n1 0 1) ∨
  (P.F y 0 = 3 ∧ ∃ n0 n1 n2 : Nat, (P.F y 3).toInt = n0 ∧ (P.F y 4).toInt = n1 ∧ (P.F y 5).toInt = n2 ∧ n1 ≤ nm ∧ n2 ≤ nm ∧ WS P n0 n1 0 1 ∧ WS P n1 n2 0 1) ∨
  ((P.F y 0 = 4 ∨ P.F y 0 = 6 ∨ P.F y 0 = 7) ∧ ∃ n0 n1 n2 : Nat, (P.F y 3).toInt = n0 ∧ (P.F y 4).toInt = n1 ∧ (P.F y 5).toInt = n2 ∧ n1 ≤ nm ∧ n2 ≤ nm ∧ WS P n0 n1 0 1 ∧ WS P n1 n2 1 2)
theorem fd_val {P : RX} {y k : Nat} {a b : PS} (h : fdP P y k a (.inl b)) : (P.F y k).toInt = a.2 ∧ b = a := ⟨h.1, fd_len h⟩
theorem as_f {P : RX} {K B M : Nat → Int32} {y nm : Nat} {a b : PS} (h : asP P K B M y a (.inl b)) (hn : b.2 ≤ nm) : STF P y nm ∧ (P.F y 0 = 8 ∨ P.F y 0 = 2) := by
  obtain ⟨c, h1, h2⟩ := sq.two h
  rcases h2 with ⟨_, f0, h2⟩ | ⟨_, f0, h2⟩
  · exact ⟨Or.inl f0, Or.inl f0⟩
  · obtain ⟨d, g1, h2⟩ := sq.two h2
    obtain ⟨e, g2, h2⟩ := sq.two h2
    obtain ⟨f, g3, g4⟩ := sq.two h2
    obtain ⟨v1, e1⟩ := fd_val g1
    obtain ⟨v3, e3⟩ := fd_val g3
    subst e1
    subst e3
    have l4 := tk_len g4
    exact ⟨Or.inr (Or.inl ⟨f0, _, _, v1, v3, by omega, g2.ws 0 (by omega)⟩), Or.inr f0⟩
theorem st_f {P : RX} {K B M : Nat → Int32} {y nm : Nat} {a b : PS} (f0 : P.F y 0 = 3) (h : stP P K B M y a (.inl b)) (hn : b.2 ≤ nm) : STF P y nm := by
  obtain ⟨c1, g1, h⟩ := sq.two h
  obtain ⟨c2, g2, h⟩ := sq.two h
  obtain ⟨c3, g3, h⟩ := sq.two h
  obtain ⟨c4, g4, h⟩ := sq.two h
  obtain ⟨c5, g5, h⟩ := sq.two h
  obtain ⟨c6, g6, h⟩ := sq.two h
  obtain ⟨c7, g7, h⟩ := sq.two h
  obtain ⟨c8, g8, g9⟩ := sq.two h
  obtain ⟨v2, e2⟩ := fd_val g2
  obtain ⟨v4, e4⟩ := fd_val g4
  obtain ⟨v8, e8⟩ := fd_val g8
  subst e2
  subst e4
  subst e8
  have l5 := (tk_len g5).2
  have l6 := (tk_len g6).2
  have l9 := (tk_len g9).2
  have m7 := exP.mn _ _ g7
  have w7 := g7.ws 0 (by omega)
  rw [l6, l5] at w7 m7
  exact Or.inr (Or.inr (Or.inl ⟨f0, _, _, _, v2, v4, v8, by omega, by omega, g3.ws 0 (by omega), w7⟩))
theorem co_f {P : RX} {K B M : Nat → Int32} {y nm : Nat} {a b : PS} (f0 : P.F y 0 = 4 ∨ P.F y 0 = 6 ∨ P.F y 0 = 7) (h : coP P K B M y a (.inl b)) (hn : b.2 ≤ nm) : STF P y nm := by
  obtain ⟨c1, g1, h⟩ := sq.two h
  obtain ⟨c2, g2, h⟩ := sq.two h
  obtain ⟨c3, g3, h⟩ := sq.two h
  obtain ⟨c4, g4, h⟩ := sq.two h
  obtain ⟨c5, g5, h⟩ := sq.two h
  obtain ⟨c6, g6, h⟩ := sq.two h
  obtain ⟨c7, g7, g8⟩ := sq.two h
  obtain ⟨v2, e2⟩ := fd_val g2
  obtain ⟨v4, e4⟩ := fd_val g4
  obtain ⟨v7, e7⟩ := fd_val g7
  subst e2
  subst e4
  subst e7
  have l5 := (cm_len g5).2
  have l8 := (tk_len g8).2
  have m6 := exP.mn _ _ g6
  have w6 := g6.ws 1 (by omega)
  rw [l5] at w6 m6
  exact Or.inr (Or.inr (Or.inr ⟨f0, _, _, _, v2, v4, v7, by omega, by omega, g3.ws 0 (by omega), w6⟩))
section DSI
variable {P : RX} {K B M : Nat → Int32} {p : Nat}
theorem DS.i0 {d : Nat} {e : Int32} {i c n i2 c2 n2 y : Nat} (hd : DS P K B M p 0 d e i c n (.inl (i2, c2, n2, some y))) : ∃ i1 c1 n1 o1 o, y = p + 2 + c ∧ DS P K B M p 1 d 0 i c n (.inl (i1, c1, n1, o1)) ∧ DS P K B M p 0 d e i1 c1 n1 (.inl (i2, c2, n2, o)) ∧ P.N (p + 2 + c) 9 = o := by
  refine DS.ind (W := fun tag d e i c n r => tag = 0 → ∀ i2 c2 n2 y, r = .inl (i2, c2, n2, some y) → ∃ i1 c1 n1 o1 o, y = p + 2 + c ∧ DS P K B M p 1 d 0 i c n (.inl (i1, c1, n1, o1)) ∧ DS P K B M p 0 d e i1 c1 n1 (.inl (i2, c2, n2, o)) ∧ P.N (p + 2 + c) 9 = o) ?_ ?_ ?_ ?_ ?_ ?_ ?_ ?_ ?_ ?_ ?_ ?_ ?_ ?_ ?_ ?_ ?_ ?_ ?_ ?_ hd rfl _ _ _ _ rfl
  · intro d i c n e h1 z a1 a2 a3 y hy; cases hy
  · intro d i c n j e h1 h2 ih z a1 a2 a3 y hy; cases hy
  · intro d i c n i1 c1 n1 i2 c2 n2 e o1 o h1 h2 h3 h4 ih2 ih3 z a1 a2 a3 y hy
    cases hy
    exact ⟨_, _, _, _, _, rfl, h2, h3, h4⟩
  · intro d i c n i1 c1 n1 j e o1 h1 h2 h3 ih2 ih3 z a1 a2 a3 y hy; cases hy
  · intro d i c n h1 z; exact absurd z (by decide)
  · intro d i c n j n1 h1 h2 h3 h4 z; exact absurd z (by decide)
  · intro d i c n j h1 h2 z; exact absurd z (by decide)
  · intro d i c n j n1 h1 h2 h3 z; exact absurd z (by decide)
  · intro d i c n j h1 h2 z; exact absurd z (by decide)
  · intro d i c n j h1 h2 z; exact absurd z (by decide)
  · intro d i c n j n1 h1 h2 h3 h4 z; exact absurd z (by decide)
  · intro d i c n j n1 h1 h2 h3 z; exact absurd z (by decide)
  · intro d i c n j n1 j1 h1 h2 h3 ih z; exact absurd z (by decide)
  · intro d i c n j n1 j1 c1 n2 o1 h1 h2 h3 h4 h5 h6 h7 ih z; exact absurd z (by decide)
  · intro d i c n j n1 j1 c1 n2 j3 c3 n3 o1 o3 h1 h2 h3 h4 h5 h6 h7 h8 ih4 ih6 z; exact absurd z (by decide)
  · intro d i c n j n1 j1 c1 n2 j3 o1 h1 h2 h3 h4 h5 ih3 ih5 z; exact absurd z (by decide)
  · intro d i c n h1 z; exact absurd z (by decide)
  · intro d i c n h1 h2 z; exact absurd z (by decide)
  · intro d i c n j h1 h2 h3 ih z; exact absurd z (by decide)
  · intro d i c n j c1 n1 o1 h1 h2 h3 h4 ih z; exact absurd z (by decide)
theorem DS.i2 {d : Nat} {e : Int32} {i c n i2 c2 n2 : Nat} {o : Option Nat} (hd : DS P K B M p 2 d e i c n (.inl (i2, c2, n2, o))) : d ≤ 3 ∧ ∃ j, DS P K B M p 0 d 125 (i + 1) c n (.inl (j, c2, n2, o)) := by
  refine DS.ind (W := fun tag d e i c n r => tag = 2 → ∀ i2 c2 n2 o, r = .inl (i2, c2, n2, o) → d ≤ 3 ∧ ∃ j, DS P K B M p 0 d 125 (i + 1) c n (.inl (j, c2, n2, o))) ?_ ?_ ?_ ?_ ?_ ?_ ?_ ?_ ?_ ?_ ?_ ?_ ?_ ?_ ?_ ?_ ?_ ?_ ?_ ?_ hd rfl _ _ _ _ rfl
  · intro d i c n e h1 z; exact absurd z (by decide)
  · intro d i c n j e h1 h2 ih z; exact absurd z (by decide)
  · intro d i c n i1 c1 n1 i2 c2 n2 e o1 o h1 h2 h3 h4 ih2 ih3 z; exact absurd z (by decide)
  · intro d i c n i1 c1 n1 j e o1 h1 h2 h3 ih2 ih3 z; exact absurd z (by decide)
  · intro d i c n h1 z; exact absurd z (by decide)
  · intro d i c n j n1 h1 h2 h3 h4 z; exact absurd z (by decide)
  · intro d i c n j h1 h2 z; exact absurd z (by decide)
  · intro d i c n j n1 h1 h2 h3 z; exact absurd z (by decide)
  · intro d i c n j h1 h2 z; exact absurd z (by decide)
  · intro d i c n j h1 h2 z; exact absurd z (by decide)
  · intro d i c n j n1 h1 h2 h3 h4 z; exact absurd z (by decide)
  · intro d i c n j n1 h1 h2 h3 z; exact absurd z (by decide)
  · intro d i c n j n1 j1 h1 h2 h3 ih z; exact absurd z (by decide)
  · intro d i c n j n1 j1 c1 n2 o1 h1 h2 h3 h4 h5 h6 h7 ih z; exact absurd z (by decide)
  · intro d i c n j n1 j1 c1 n2 j3 c3 n3 o1 o3 h1 h2 h3 h4 h5 h6 h7 h8 ih4 ih6 z; exact absurd z (by decide)
  · intro d i c n j n1 j1 c1 n2 j3 o1 h1 h2 h3 h4 h5 ih3 ih5 z; exact absurd z (by decide)
  · intro d i c n h1 z a1 a2 a3 y hy; cases hy
  · intro d i c n h1 h2 z a1 a2 a3 y hy; cases hy
  · intro d i c n j h1 h2 h3 ih z a1 a2 a3 y hy; cases hy
  · intro d i c n j c1 n1 o1 h1 h2 h3 h4 ih z a1 a2 a3 y hy
    cases hy
    exact ⟨h1, _, h3⟩
/-- y is the first of a list of STATEMENTS of the depth d -/
def GDS (P : RX) (K B M : Nat → Int32) (p cm nm d y : Nat) : Prop := d ≤ 3 ∧ ∃ (e : Int32) (i c n i2 c2 n2 : Nat), DS P K B M p 0 d e i c n (.inl (i2, c2, n2, some y)) ∧ c2 ≤ cm ∧ n2 ≤ nm
theorem DS.i1 {d : Nat} {e : Int32} {i c n i2 c2 n2 cm nm : Nat} {o : Option Nat} (hd : DS P K B M p 1 d e i c n (.inl (i2, c2, n2, o))) (hc : c2 ≤ cm) (hn : n2 ≤ nm) : STF P (p + 2 + c) nm ∧ ((P.F (p + 2 + c) 0 = 4 ∨ P.F (p + 2 + c) 0 = 6) → d + 1 ≤ 3 ∧ ∀ z, (P.N (p + 2 + c) 7 = some z ∨ (P.F (p + 2 + c) 0 = 4 ∧ P.N (p + 2 + c) 8 = some z)) → GDS P K B M p cm nm (d + 1) z) := by
  refine DS.ind (W := fun tag d e i c n r => tag = 1 → ∀ i2 c2 n2 o, r = .inl (i2, c2, n2, o) → c2 ≤ cm → n2 ≤ nm → STF P (p + 2 + c) nm ∧ ((P.F (p + 2 + c) 0 = 4 ∨ P.F (p + 2 + c) 0 = 6) → d + 1 ≤ 3 ∧ ∀ z, (P.N (p + 2 + c) 7 = some z ∨ (P.F (p + 2 + c) 0 = 4 ∧ P.N (p + 2 + c) 8 = some z)) → GDS P K B M p cm nm (d + 1) z)) ?_ ?_ ?_ ?_ ?_ ?_ ?_ ?_ ?_ ?_ ?_ ?_ ?_ ?_ ?_ ?_ ?_ ?_ ?_ ?_ hd rfl _ _ _ _ rfl hc hn
  · intro d i c n e h1 z; exact absurd z (by decide)
  · intro d i c n j e h1 h2 ih z; exact absurd z (by decide)
  · intro d i c n i1 c1 n1 i2 c2 n2 e o1 o h1 h2 h3 h4 ih2 ih3 z; exact absurd z (by decide)
  · intro d i c n i1 c1 n1 j e o1 h1 h2 h3 ih2 ih3 z; exact absurd z (by decide)
  · intro d i c n h1 z a1 a2 a3 a4 hy; cases hy
  · intro d i c n j n1 h1 h2 h3 h4 z a1 a2 a3 a4 hy gc gn
    cases hy
    obtain ⟨s1, s2⟩ := as_f (nm := nm) h4 gn
    refine ⟨s1, fun q => ?_⟩
    exfalso
    rcases s2 with s2 | s2 <;> (rw [s2] at q; exact absurd q (by decide))
  · intro d i c n j h1 h2 z a1 a2 a3 a4 hy; cases hy
  · intro d i c n j n1 h1 h2 h3 z a1 a2 a3 a4 hy gc gn
    cases hy
    refine ⟨st_f h2.1 h3 gn, fun q => ?_⟩
    rw [h2.1] at q
    exact absurd q (by decide)
  · intro d i c n j h1 h2 z a1 a2 a3 a4 hy; cases hy
  · intro d i c n j h1 h2 z a1 a2 a3 a4 hy; cases hy
  · intro d i c n j n1 h1 h2 h3 h4 z a1 a2 a3 a4 hy gc gn
    cases hy
    refine ⟨co_f (Or.inr (Or.inr h2.1)) h3 gn, fun q => ?_⟩
    rw [h2.1] at q
    exact absurd q (by decide)
  · intro d i c n j n1 h1 h2 h3 z a1 a2 a3 a4 hy; cases hy
  · intro d i c n j n1 j1 h1 h2 h3 ih z a1 a2 a3 a4 hy; cases hy
  · intro d i c n j n1 j1 c1 n2 o1 h1 h2 h3 h4 h5 h6 h7 ih z a1 a2 a3 a4 hy gc gn
    cases hy
    have b1 := h4.b _ _ _ _ rfl
    obtain ⟨d3, j0, hl⟩ := h4.i2
    refine ⟨co_f ?_ h3 (show n1 ≤ nm by omega), fun q => ⟨d3, fun y hy => ?_⟩⟩
    · rw [h2.1]
      rcases h1 with w | w
      · exact Or.inl w
      · exact Or.inr (Or.inl w)
    · rcases hy with hy | ⟨_, hy⟩
      · rw [h6] at hy
        subst hy
        exact ⟨d3, _, _, _, _, _, _, _, hl, gc, gn⟩
      · rw [h7] at hy; cases hy
  · intro d i c n j n1 j1 c1 n2 j3 c3 n3 o1 o3 h1 h2 h3 h4 h5 h6 h7 h8 ih4 ih6 z a1 a2 a3 a4 hy gc gn
    cases hy
    have b1 := h4.b _ _ _ _ rfl
    have b2 := h6.b _ _ _ _ rfl
    obtain ⟨d3, j0, hl⟩ := h4.i2
    obtain ⟨_, j5, hl2⟩ := h6.i2
    refine ⟨co_f (Or.inl (by rw [h2.1]; exact h1)) h3 (show n1 ≤ nm by omega), fun q => ⟨d3, fun y hy => ?_⟩⟩
    rcases hy with hy | ⟨_, hy⟩
    · rw [h7] at hy
      subst hy
      exact ⟨d3, _, _, _, _, _, _, _, hl, by omega, by omega⟩
    · rw [h8] at hy
      subst hy
      exact ⟨d3, _, _, _, _, _, _, _, hl2, gc, gn⟩
  · intro d i c n j n1 j1 c1 n2 j3 o1 h1 h2 h3 h4 h5 ih3 ih5 z a1 a2 a3 a4 hy; cases hy
  · intro d i c n h1 z; exact absurd z (by decide)
  · intro d i c n h1 h2 z; exact absurd z (by decide)
  · intro d i c n j h1 h2 h3 ih z; exact absurd z (by decide)
  · intro d i c n j c1 n1 o1 h1 h2 h3 h4 ih z; exact absurd z (by decide)
theorem GDS.at {cm nm d y : Nat} (h : GDS P K B M p cm nm d y) : ∃ (c : Nat), y = p + 2 + c ∧ c < cm ∧ STF P y nm ∧ ((P.F y 0 = 4 ∨ P.F y 0 = 6) → d + 1 ≤ 3 ∧ ∀ z, (P.N y 7 = some z ∨ (P.F y 0 = 4 ∧ P.N y 8 = some z)) → GDS P K B M p cm nm (d + 1) z) ∧ ∀ z, P.N y 9 = some z → GDS P K B M p cm nm d z := by
  obtain ⟨d3, e, i, c, n, i2, c2, n2, hD, hc, hn⟩ := h
  obtain ⟨i1, c1, n1, o1, o, rfl, h1, h2, h9⟩ := hD.i0
  have b1 := h1.b _ _ _ _ rfl
  have b2 := h2.b _ _ _ _ rfl
  obtain ⟨s1, s2⟩ := h1.i1 (cm := cm) (nm := nm) (by omega) (by omega)
  refine ⟨c, rfl, by have := b1.2.2.2.2 rfl; omega, s1, s2, fun z hz => ?_⟩
  rw [h9] at hz
  subst hz
  exact ⟨d3, _, _, _, _, _, _, _, h2, hc, hn⟩
theorem STF.k {nm y : Nat} (h : STF P y nm) : P.F y 0 = 2 ∨ P.F y 0 = 3 ∨ P.F y 0 = 4 ∨ P.F y 0 = 6 ∨ P.F y 0 = 7 ∨ P.F y 0 = 8 := by
  rcases h with h | ⟨h, _⟩ | ⟨h, _⟩ | ⟨h | h | h, _⟩
  · exact Or.inr (Or.inr (Or.inr (Or.inr (Or.inr h))))
  · exact Or.inl h
  · exact Or.inr (Or.inl h)
  · exact Or.inr (Or.inr (Or.inl h))
  · exact Or.inr (Or.inr (Or.inr (Or.inl h)))
  · exact Or.inr (Or.inr (Or.inr (Or.inr (Or.inl h))))
theorem STF.f2 {nm y : Nat} (h : STF P y nm) (hk : P.F y 0 = 2) : (0 ≤ (P.F y 3).toInt ∧ 0 ≤ (P.F y 5).toInt) ∧ P.f y 5 ≤ nm ∧ WS P (P.f y 3) (P.f y 5) 0 1 := by
  rcases h with h | ⟨_, n0, n1, v3, v5, l, w⟩ | ⟨h, _⟩ | ⟨h | h | h, _⟩
  · rw [h] at hk; exact absurd hk (by decide)
  · have e3 : P.f y 3 = n0 := by show (P.F y 3).toInt.toNat = n0; omega
    have e5 : P.f y 5 = n1 := by show (P.F y 5).toInt.toNat = n1; omega
    rw [e3, e5]
    exact ⟨by omega, l, w⟩
  all_goals (rw [h] at hk; exact absurd hk (by decide))
theorem STF.f3 {nm y : Nat} (h : STF P y nm) (hk : P.F y 0 = 3) : (0 ≤ (P.F y 3).toInt ∧ 0 ≤ (P.F y 5).toInt ∧ 0 ≤ (P.F y 4).toInt) ∧ (P.f y 5 ≤ nm ∧ P.f y 4 ≤ nm) ∧ WS P (P.f y 3) (P.f y 4) 0 1 ∧ WS P (P.f y 4) (P.f y 5) 0 1 := by
  rcases h with h | ⟨h, _⟩ | ⟨_, n0, n1, n2, v3, v4, v5, l1, l2, w⟩ | ⟨h | h | h, _⟩
  · rw [h] at hk; exact absurd hk (by decide)
  · rw [h] at hk; exact absurd hk (by decide)
  · have e3 : P.f y 3 = n0 := by show (P.F y 3).toInt.toNat = n0; omega
    have e4 : P.f y 4 = n1 := by show (P.F y 4).toInt.toNat = n1; omega
    have e5 : P.f y 5 = n2 := by show (P.F y 5).toInt.toNat = n2; omega
    rw [e3, e4, e5]
    exact ⟨by omega, ⟨l2, l1⟩, w⟩
  all_goals (rw [h] at hk; exact absurd hk (by decide))
theorem STF.f4 {nm y : Nat} (h : STF P y nm) (hk : P.F y 0 = 4 ∨ P.F y 0 = 6 ∨ P.F y 0 = 7) : (0 ≤ (P.F y 3).toInt ∧ 0 ≤ (P.F y 5).toInt ∧ 0 ≤ (P.F y 4).toInt) ∧ (P.f y 5 ≤ nm ∧ P.f y 4 ≤ nm) ∧ WS P (P.f y 3) (P.f y 4) 0 1 ∧ WS P (P.f y 4) (P.f y 5) 1 2 := by
  rcases h with h | ⟨h, _⟩ | ⟨h, _⟩ | ⟨_, n0, n1, n2, v3, v4, v5, l1, l2, w⟩
  · rw [h] at hk; exact absurd hk (by decide)
  · rw [h] at hk; exact absurd hk (by decide)
  · rw [h] at hk; exact absurd hk (by decide)
  · have e3 : P.f y 3 = n0 := by show (P.F y 3).toInt.toNat = n0; omega
    have e4 : P.f y 4 = n1 := by show (P.F y 4).toInt.toNat = n1; omega
    have e5 : P.f y 5 = n2 := by show (P.F y 5).toInt.toNat = n2; omega
    rw [e3, e4, e5]
    exact ⟨by omega, ⟨l2, l1⟩, w⟩
theorem GDS.gdn {cm nm : Nat} (hp : isP p) (hc : cm ≤ 50) : GDN P p (GDS P K B M p cm nm) := by
  have hp' : p = 7 ∨ p = 62 := hp
  refine ⟨fun n y h => ?_, fun n y h h8 => ?_, fun n y h h2 => ?_, fun n y h h3 => ?_, fun n y h h4 => ?_, fun n y z h hz => ?_, fun n y z h hk hz => ?_, fun n y h hk => ?_⟩
  · obtain ⟨c, rfl, hcm, s, _⟩ := h.at
    exact ⟨h.1, LT_st (by omega) (by omega) (by omega), by omega, s.k⟩
  · obtain ⟨c, rfl, hcm, s, _⟩ := h.at
    rcases s.k with z | z | z | z | z | z
    · exact ⟨(s.f2 z).1, fun w => absurd z w⟩
    · have q := (s.f3 z).1; exact ⟨⟨q.1, q.2.1⟩, fun _ => q.2.2⟩
    · have q := (s.f4 (Or.inl z)).1; exact ⟨⟨q.1, q.2.1⟩, fun _ => q.2.2⟩
    · have q := (s.f4 (Or.inr (Or.inl z))).1; exact ⟨⟨q.1, q.2.1⟩, fun _ => q.2.2⟩
    · have q := (s.f4 (Or.inr (Or.inr z))).1; exact ⟨⟨q.1, q.2.1⟩, fun _ => q.2.2⟩
    · exact absurd z h8
  · obtain ⟨c, _, hcm, s, _⟩ := h.at
    exact (s.f2 h2).2.2
  · obtain ⟨c, _, hcm, s, _⟩ := h.at
    exact (s.f3 h3).2.2
  · obtain ⟨c, _, hcm, s, _⟩ := h.at
    exact (s.f4 h4).2.2
  · obtain ⟨c, _, hcm, s, _, s9⟩ := h.at
    exact s9 z hz
  · obtain ⟨c, _, hcm, s, s7, _⟩ := h.at
    exact (s7 hk).2 z hz
  · obtain ⟨c, _, hcm, s, s7, _⟩ := h.at
    exact (s7 hk).1
theorem GDS.sen {cm nm : Nat} : SEN P (GDS P K B M p cm nm) nm := by
  intro d y h h8
  obtain ⟨c, _, hcm, s, _⟩ := h.at
  rcases s.k with z | z | z | z | z | z
  · exact ⟨(s.f2 z).2.1, fun w => absurd z w⟩
  · have q := (s.f3 z).2.1; exact ⟨q.1, fun _ => q.2⟩
  · have q := (s.f4 (Or.inl z)).2.1; exact ⟨q.1, fun _ => q.2⟩
  · have q := (s.f4 (Or.inr (Or.inl z))).2.1; exact ⟨q.1, fun _ => q.2⟩
  · have q := (s.f4 (Or.inr (Or.inr z))).2.1; exact ⟨q.1, fun _ => q.2⟩
  · exact absurd z h8
theorem GDS.srl {cm nm H : Nat} {o : Option Nat} {I : IM} (h : RCS P H p cm nm o I) : SRL P (GDS P K B M p cm nm) H p I := by
  intro d y hy
  obtain ⟨c, rfl, hcm, _⟩ := hy.at
  exact ⟨c, rfl, h.1 c hcm⟩
end DSI
/-- the program that lies at p is, of the reference, that of the half H -/
def PGR (p H : Nat) (I : IM) (R : RM) : Prop := (isP p ∧ H ≤ 1) ∧ ∃ (G : Nat → Nat → Prop) (n : Nat), GDN (XM I R p) p G ∧ SEN (XM I R p) G n ∧ SRL (XM I R p) G H p I ∧ RLS (XM I R p) H n I ∧ n ≤ 200 ∧ (∀ y, R p 6 = some y → G 0 y) ∧ lnk H p (R p 6) (I 388 H)
/-- a program that both have parsed -/
theorem pgr_of {K B M : Nat → Int32} {p H i c n : Nat} {o : Option Nat} {I1 I : IM} {R1 R : RM} (hp : isP p) (hH : H ≤ 1) (hc : c ≤ 50) (hD : DS (XM I1 R1 p) K B M p 0 0 0 0 0 0 (.inl (i, c, n, o))) (hr : RCS (XM I1 R1 p) H p c n o I) (h6 : R p 6 = o) (e : XM I R p = XM I1 R1 p) : PGR p H I R := by
  refine ⟨⟨hp, hH⟩, GDS (XM I1 R1 p) K B M p c n, n, ?_, ?_, ?_, ?_, hr.2.2.1, fun y hy => ?_, ?_⟩
  · rw [e]; exact GDS.gdn hp hc
  · rw [e]; exact GDS.sen
  · rw [e]; exact GDS.srl hr
  · rw [e]; exact hr.2.1
  · rw [h6] at hy
    subst hy
    exact ⟨by omega, _, _, _, _, _, _, _, hD, Nat.le_refl _, Nat.le_refl _⟩
  · rw [h6]; exact hr.2.2.2
/-- what a program's relation looks at -/
theorem PGR.keep {p H : Nat} {I I' : IM} {R R' : RM} (h : PGR p H I R) (e : ∀ x j, p + 2 ≤ x → x ≤ p + 54 → I' x j = I x j) (r : ∀ y k, p + 2 ≤ y → y < p + 52 → R' y k = R y k) (r6 : R' p 6 = R p 6) (q : ∀ x j, ((376 ≤ x ∧ x ≤ 387 ∧ 80 * H ≤ j ∧ j < 80 * H + 80) ∨ (x = 388 ∧ j = H) ∨ (391 ≤ x ∧ x ≤ 393 ∧ 220 * H ≤ j ∧ j < 220 * H + 220)) → I' x j = I x j) : PGR p H I' R' := by
  obtain ⟨⟨hp, hH⟩, G, n, g1, g2, g3, g4, g5, g6, g7⟩ := h
  have eX := XM.eq e r
  refine ⟨⟨hp, hH⟩, G, n, by rw [eX]; exact g1, by rw [eX]; exact g2, ?_, ?_, g5, fun y hy => g6 y (by rw [← r6]; exact hy), by rw [r6, q 388 H (Or.inr (Or.inl ⟨rfl, rfl⟩))]; exact g7⟩
  · rw [eX]
    intro d y hy
    obtain ⟨c, e1, a, b⟩ := g3 d y hy
    have hb := (g1.t d y hy).2.2.1
    exact ⟨c, e1, a.keep (fun x a1 a2 a3 => q x _ (Or.inl (by omega))), b.keep (q _ _ (Or.inl (by omega)))⟩
  · rw [eX]
    intro k hk
    have w := g4 k hk
    rw [q 391 _ (Or.inr (Or.inr (by omega))), q 392 _ (Or.inr (Or.inr (by omega))), q 393 _ (Or.inr (Or.inr (by omega)))]
    exact w
