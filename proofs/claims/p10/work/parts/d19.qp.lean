/-! The reference parses a whole text by the same rules, and leaves the same records. -/
theorem DE.mn {P : RX} {K B M : Nat → Int32} {tag d : Nat} {h : Int32} {i n : Nat} {r : Res} (hd : DE P K B M tag d h i n r) : ∀ a, r = .inl a → n ≤ a.2.2 := by
  refine DE.ind (W := fun tag d h i n r => ∀ a, r = .inl a → n ≤ a.2.2) ?_ ?_ ?_ ?_ ?_ ?_ ?_ ?_ ?_ ?_ ?_ ?_ ?_ ?_ ?_ ?_ ?_ ?_ ?_ ?_ ?_ ?_ ?_ ?_ hd
  · intro d i n h1 a e; cases e
  · intro d i n h1 h2 a e; cases e
  · intro d i n h1 h2 hst a e; cases e; exact Nat.le_succ _
  · intro d i n j n' h h1 h2 h3 hst ih a e; cases e; have q : n ≤ n' := ih _ rfl; show n ≤ n' + 1; omega
  · intro d i n j h1 h2 h3 ih a e; cases e
  · intro d i n j n' h h1 h2 h3 h4 ih a e; cases e; have q : n ≤ n' := ih _ rfl; exact q
  · intro d i n j n' h h1 h2 h3 h4 ih a e; cases e
  · intro d i n j h1 h2 h3 ih a e; cases e
  · intro d i n h1 h2 h3 a e; cases e
  · intro d i n j n' h h1 h2 h3 h4 h5 hst ih a e; cases e; have q : n ≤ n' := ih _ rfl; show n ≤ n' + 1; omega
  · intro d i n j n' h h1 h2 h3 h4 h5 ih a e; cases e
  · intro d i n j h1 h2 h3 h4 ih a e; cases e
  · intro d i n h h1 a e; cases e; exact Nat.le_refl _
  · intro d i n h h1 h2 a e; cases e
  · intro d i n j h h1 h2 h3 ih a e; cases e
  · intro d i n j n' h h0 r h1 h2 h3 hst h4 ih3 ih4 a e; have q : n ≤ n' := ih3 _ rfl; have := ih4 a e; omega
  · intro d i n h h1 a e; cases e; exact Nat.le_refl _
  · intro d i n h h1 h2 a e; cases e
  · intro d i n j h h1 h2 h3 ih a e; cases e
  · intro d i n j n' h h0 r h1 h2 h3 hst h4 ih3 ih4 a e; have q : n ≤ n' := ih3 _ rfl; have := ih4 a e; omega
  · intro d i n j n' h r h1 h2 ih1 ih2 a e; have q : n ≤ n' := ih1 _ rfl; have := ih2 a e; omega
  · intro d i n j h1 ih a e; cases e
  · intro d i n j n' h r h1 h2 ih1 ih2 a e; have q : n ≤ n' := ih1 _ rfl; have := ih2 a e; omega
  · intro d i n j h1 ih a e; cases e
theorem exP.mn {P : RX} {K B M : Nat → Int32} : ∀ a b : PS, exP P K B M a (.inl b) → a.2 ≤ b.2 := by
  intro a b h
  rcases h with ⟨h, j, n', hD, e⟩ | ⟨j, _, e⟩
  · cases e; exact hD.mn _ rfl
  · cases e
/-- how far the parts of a STATEMENT go -/
theorem tk_len {K : Nat → Int32} {t : Int32} {a b : PS} (h : tkP K t a (.inl b)) : b.1 = a.1 + 1 ∧ b.2 = a.2 := by
  rcases h with ⟨_, e⟩ | ⟨_, e⟩
  · cases e; exact ⟨rfl, rfl⟩
  · cases e
theorem fd_len {P : RX} {y k : Nat} {a b : PS} (h : fdP P y k a (.inl b)) : b = a := by
  obtain ⟨_, e⟩ := h
  cases e; rfl
theorem sq.two {P1 P2 : PS → PR → Prop} {a b : PS} (h : sq P1 P2 a (.inl b)) : ∃ c, P1 a (.inl c) ∧ P2 c (.inl b) := by
  rcases h with ⟨j, _, e⟩ | ⟨c, h1, h2⟩
  · cases e
  · exact ⟨c, h1, h2⟩
theorem cm_len {P : RX} {K : Nat → Int32} {y : Nat} {a b : PS} (h : cmP P K y a (.inl b)) : b.1 = a.1 + 1 ∧ b.2 = a.2 := by
  rcases h with ⟨_, _, e⟩ | ⟨_, e⟩
  · cases e; exact ⟨rfl, rfl⟩
  · cases e
theorem as_len {P : RX} {K B M : Nat → Int32} {y : Nat} {a b : PS} (h : asP P K B M y a (.inl b)) : a.1 + 3 ≤ b.1 ∧ a.2 ≤ b.2 := by
  obtain ⟨c, h1, h2⟩ := sq.two h
  have l1 := tk_len h1
  rcases h2 with ⟨_, _, h2⟩ | ⟨_, _, h2⟩
  · have l2 := tk_len h2
    have l3 : b.1 = c.1 + 1 + 1 := l2.1
    have l4 : b.2 = c.2 := l2.2
    omega
  · obtain ⟨d, g1, h2⟩ := sq.two h2
    obtain ⟨e, g2, h2⟩ := sq.two h2
    obtain ⟨f, g3, g4⟩ := sq.two h2
    have e1 := fd_len g1
    have e3 := fd_len g3
    subst e1
    subst e3
    have := g2.le
    have := exP.mn _ _ g2
    have := tk_len g4
    omega
theorem st_len {P : RX} {K B M : Nat → Int32} {y : Nat} {a b : PS} (h : stP P K B M y a (.inl b)) : a.1 + 3 ≤ b.1 ∧ a.2 ≤ b.2 := by
  obtain ⟨c1, g1, h⟩ := sq.two h
  obtain ⟨c2, g2, h⟩ := sq.two h
  obtain ⟨c3, g3, h⟩ := sq.two h
  obtain ⟨c4, g4, h⟩ := sq.two h
  obtain ⟨c5, g5, h⟩ := sq.two h
  obtain ⟨c6, g6, h⟩ := sq.two h
  obtain ⟨c7, g7, h⟩ := sq.two h
  obtain ⟨c8, g8, g9⟩ := sq.two h
  have e2 := fd_len g2
  have e4 := fd_len g4
  have e8 := fd_len g8
  subst e2
  subst e4
  subst e8
  have := tk_len g1
  have := g3.le
  have := exP.mn _ _ g3
  have := tk_len g5
  have := tk_len g6
  have := g7.le
  have := exP.mn _ _ g7
  have := tk_len g9
  omega
theorem co_len {P : RX} {K B M : Nat → Int32} {y : Nat} {a b : PS} (h : coP P K B M y a (.inl b)) : a.1 + 3 ≤ b.1 ∧ a.2 ≤ b.2 := by
  obtain ⟨c1, g1, h⟩ := sq.two h
  obtain ⟨c2, g2, h⟩ := sq.two h
  obtain ⟨c3, g3, h⟩ := sq.two h
  obtain ⟨c4, g4, h⟩ := sq.two h
  obtain ⟨c5, g5, h⟩ := sq.two h
  obtain ⟨c6, g6, h⟩ := sq.two h
  obtain ⟨c7, g7, g8⟩ := sq.two h
  have e2 := fd_len g2
  have e4 := fd_len g4
  have e7 := fd_len g7
  subst e2
  subst e4
  subst e7
  have := tk_len g1
  have := g3.le
  have := exP.mn _ _ g3
  have := cm_len g5
  have := g6.le
  have := exP.mn _ _ g6
  have := tk_len g8
  omega
theorem DS.b {P : RX} {K B M : Nat → Int32} {p tag d : Nat} {e : Int32} {i c n : Nat} {r : SR} (hd : DS P K B M p tag d e i c n r) : ∀ i' c' n' o, r = .inl (i', c', n', o) → 4 * c' + i ≤ 4 * c + i' ∧ c ≤ c' ∧ n ≤ n' ∧ i ≤ i' ∧ (tag = 1 → c < c') := by
  refine DS.ind (W := fun tag d e i c n r => ∀ i' c' n' o, r = .inl (i', c', n', o) → 4 * c' + i ≤ 4 * c + i' ∧ c ≤ c' ∧ n ≤ n' ∧ i ≤ i' ∧ (tag = 1 → c < c')) ?_ ?_ ?_ ?_ ?_ ?_ ?_ ?_ ?_ ?_ ?_ ?_ ?_ ?_ ?_ ?_ ?_ ?_ ?_ ?_ hd
  · intro d i c n e h1 i' c' n' o z; cases z; omega
  · intro d i c n j e h1 h2 ih i' c' n' o z; cases z
  · intro d i c n i1 c1 n1 i2 c2 n2 e o1 o h1 h2 h3 h4 ih2 ih3 i' c' n' o' z
    cases z
    have a1 := ih2 _ _ _ _ rfl
    have a2 := ih3 _ _ _ _ rfl
    omega
  · intro d i c n i1 c1 n1 j e o1 h1 h2 h3 ih2 ih3 i' c' n' o' z; cases z
  · intro d i c n h1 i' c' n' o z; cases z
  · intro d i c n j n1 h1 h2 h3 h4 i' c' n' o z
    cases z
    have l := as_len h4
    have l1 : i + 1 + 3 ≤ j := l.1
    have l2 : n ≤ n1 := l.2
    omega
  · intro d i c n j h1 h2 i' c' n' o z; cases z
  · intro d i c n j n1 h1 h2 h3 i' c' n' o z
    cases z
    have l := st_len h3
    have l1 : i + 1 + 3 ≤ j := l.1
    have l2 : n ≤ n1 := l.2
    omega
  · intro d i c n j h1 h2 i' c' n' o z; cases z
  · intro d i c n j h1 h2 i' c' n' o z; cases z
  · intro d i c n j n1 h1 h2 h3 h4 i' c' n' o z
    cases z
    have l := co_len h3
    have l1 : i + 1 + 3 ≤ j := l.1
    have l2 : n ≤ n1 := l.2
    omega
  · intro d i c n j n1 h1 h2 h3 i' c' n' o z; cases z
  · intro d i c n j n1 j1 h1 h2 h3 ih i' c' n' o z; cases z
  · intro d i c n j n1 j1 c1 n2 o1 h1 h2 h3 h4 h5 h6 h7 ih i' c' n' o z
    cases z
    have l := co_len h3
    have l1 : i + 1 + 3 ≤ j := l.1
    have l2 : n ≤ n1 := l.2
    have a1 := ih _ _ _ _ rfl
    omega
  · intro d i c n j n1 j1 c1 n2 j3 c3 n3 o1 o3 h1 h2 h3 h4 h5 h6 h7 h8 ih4 ih6 i' c' n' o z
    cases z
    have l := co_len h3
    have l1 : i + 1 + 3 ≤ j := l.1
    have l2 : n ≤ n1 := l.2
    have a1 := ih4 _ _ _ _ rfl
    have a2 := ih6 _ _ _ _ rfl
    omega
  · intro d i c n j n1 j1 c1 n2 j3 o1 h1 h2 h3 h4 h5 ih3 ih5 i' c' n' o z; cases z
  · intro d i c n h1 i' c' n' o z; cases z
  · intro d i c n h1 h2 i' c' n' o z; cases z
  · intro d i c n j h1 h2 h3 ih i' c' n' o z; cases z
  · intro d i c n j c1 n1 o1 h1 h2 h3 h4 ih i' c' n' o z
    cases z
    have a1 := ih _ _ _ _ rfl
    omega
/-- the reference's number of the STATEMENT at y -/
def sid (H p y : Nat) : Nat := 80 * H + (y - (p + 2))
def lnk (H p : Nat) (o : Option Nat) (x : Int32) : Prop := match o with
  | none => x.toInt < 0
  | some y => x.toInt = (sid H p y : Nat)
theorem lnk_c {H p c : Nat} {x : Int32} (h : x.toInt = ((80 * H + c : Nat) : Int)) : lnk H p (some (p + 2 + c)) x := by
  show x.toInt = (sid H p (p + 2 + c) : Nat)
  unfold sid
  rw [h]
  omega
/-- links 7 and 8 of the STATEMENT q -/
def RECL (P : RX) (H p q : Nat) (I : IM) : Prop := ((P.F (p + 2 + q) 0 = 4 ∨ P.F (p + 2 + q) 0 = 6) → lnk H p (P.N (p + 2 + q) 7) (I 384 (80 * H + q))) ∧ (P.F (p + 2 + q) 0 = 4 → (I 387 (80 * H + q) = 0 ∧ P.N (p + 2 + q) 8 = none) ∨ (¬ I 387 (80 * H + q) = 0 ∧ lnk H p (P.N (p + 2 + q) 8) (I 385 (80 * H + q)))) ∧ (P.F (p + 2 + q) 0 = 6 → I 387 (80 * H + q) = 0)
/-- all that is kept of the STATEMENT q but its link to the next -/
def RECQ (P : RX) (H p q : Nat) (I : IM) : Prop := RECF P (p + 2 + q) H (80 * H + q) I ∧ RECL P H p q I
def RECN (P : RX) (H p q : Nat) (I : IM) : Prop := lnk H p (P.N (p + 2 + q) 9) (I 386 (80 * H + q))
theorem RECQ.keep {P : RX} {H p q : Nat} {I I' : IM} (h : RECQ P H p q I) (e : ∀ x, 376 ≤ x → x ≤ 387 → x ≠ 386 → I' x (80 * H + q) = I x (80 * H + q)) : RECQ P H p q I' := by
  refine ⟨h.1.keep (fun x a b => e x a (by omega) (by omega)), ?_⟩
  have h2 := h.2
  unfold RECL at h2 ⊢
  rw [e 384 (by omega) (by omega) (by omega), e 385 (by omega) (by omega) (by omega), e 387 (by omega) (by omega) (by omega)]
  exact h2
theorem RECN.keep {P : RX} {H p q : Nat} {I I' : IM} (h : RECN P H p q I) (e : I' 386 (80 * H + q) = I 386 (80 * H + q)) : RECN P H p q I' := by
  unfold RECN at h ⊢
  rw [e]
  exact h
/-- the cells that the parsing of STATEMENTS from c on keeps, in BLOCKS of the depth d; the last ones below the depth f -/
def PC (H d f c x j : Nat) : Prop := x < 373 ∨ x = 374 ∨ x = 375 ∨ (376 ≤ x ∧ x ≤ 387 ∧ (j < 80 * H + c ∨ 80 * H + 80 ≤ j)) ∨ x = 388 ∨ ((x = 389 ∨ x = 390) ∧ j ≠ H) ∨ (391 ≤ x ∧ x ≤ 393 ∧ (j < 220 * H ∨ 220 * H + 220 ≤ j)) ∨ ((x = 394 ∨ x = 395) ∧ j ≤ d) ∨ (x = 396 ∧ j < f) ∨ 400 < x ∨ (x = 373 ∧ (j < 4 ∨ (4 < j ∧ j < 28) ∨ j = 32 ∨ (34 < j ∧ j < 42) ∨ 44 < j))
theorem PC.mono {H d f c d' f' c' x j : Nat} (h : PC H d f c x j) (hd : d ≤ d') (hf : f ≤ f') (hc : c ≤ c') : PC H d' f' c' x j := by
  unfold PC at h ⊢
  rcases h with h | h | h | h | h | h | h | h | h | h | h
  · exact Or.inl h
  · exact Or.inr (Or.inl h)
  · exact Or.inr (Or.inr (Or.inl h))
  · exact Or.inr (Or.inr (Or.inr (Or.inl ⟨h.1, h.2.1, by omega⟩)))
  · exact Or.inr (Or.inr (Or.inr (Or.inr (Or.inl h))))
  · exact Or.inr (Or.inr (Or.inr (Or.inr (Or.inr (Or.inl h)))))
  · exact Or.inr (Or.inr (Or.inr (Or.inr (Or.inr (Or.inr (Or.inl h))))))
  · exact Or.inr (Or.inr (Or.inr (Or.inr (Or.inr (Or.inr (Or.inr (Or.inl ⟨h.1, by omega⟩)))))))
  · exact Or.inr (Or.inr (Or.inr (Or.inr (Or.inr (Or.inr (Or.inr (Or.inr (Or.inl ⟨h.1, by omega⟩))))))))
  · exact Or.inr (Or.inr (Or.inr (Or.inr (Or.inr (Or.inr (Or.inr (Or.inr (Or.inr (Or.inl h)))))))))
  · exact Or.inr (Or.inr (Or.inr (Or.inr (Or.inr (Or.inr (Or.inr (Or.inr (Or.inr (Or.inr h)))))))))
theorem PC.ne {H d f c x j r : Nat} (h : PC H d f c x j) (hc : c < 80) (hr : 376 ≤ r ∧ r ≤ 387) : x ≠ r ∨ j ≠ 80 * H + c := by
  unfold PC at h
  by_cases z : x = r
  · exact Or.inr (by omega)
  · exact Or.inl z
theorem PC.n373 {H d f c x j : Nat} (h : PC H d f c x j) : (x ≠ 373 ∨ (j < 28 ∨ 31 < j)) ∧ (x ≠ 373 ∨ (j < 28 ∨ 33 < j ∨ j = 32)) := by
  unfold PC at h
  by_cases z : x = 373
  · exact ⟨Or.inr (by omega), Or.inr (by omega)⟩
  · exact ⟨Or.inl z, Or.inl z⟩
theorem PC.rec {H d f c x q : Nat} (hx : 376 ≤ x ∧ x ≤ 387) (hq : q < c) : PC H d f c x (80 * H + q) := Or.inr (Or.inr (Or.inr (Or.inl ⟨hx.1, hx.2, Or.inl (by omega)⟩)))
theorem PC.slot {H d f c c' row idx : Nat} (hrow : row = 384 ∨ row = 385 ∨ row = 386 ∨ row = 388) (hlt : row = 388 ∨ idx < 80 * H + c) (hc : c ≤ c') : PC H d f c' row idx := by
  by_cases z : row = 388
  · exact Or.inr (Or.inr (Or.inr (Or.inr (Or.inl z))))
  · exact Or.inr (Or.inr (Or.inr (Or.inl ⟨by omega, by omega, Or.inl (by omega)⟩)))
theorem PC.l396 {H d f c j : Nat} (h : j < f) : PC H d f c 396 j := Or.inr (Or.inr (Or.inr (Or.inr (Or.inr (Or.inr (Or.inr (Or.inr (Or.inl ⟨rfl, h⟩))))))))
theorem PC.l394 {H d f c x j : Nat} (hx : x = 394 ∨ x = 395) (h : j ≤ d) : PC H d f c x j := Or.inr (Or.inr (Or.inr (Or.inr (Or.inr (Or.inr (Or.inr (Or.inl ⟨hx, h⟩)))))))
theorem ix_ne {H q c : Nat} (h : q ≠ c) : 80 * H + q ≠ 80 * H + c := by omega
theorem slt_ne {H c row idx r : Nat} (hlt : row = 388 ∨ idx < 80 * H + c) (hr : r ≠ 388) : row ≠ r ∨ idx ≠ 80 * H + c := by
  rcases hlt with z | z
  · exact Or.inl (fun w => hr (w.symm.trans z))
  · exact Or.inr (Nat.ne_of_lt z)
theorem slt_n373 {row : Nat} (hrow : row = 384 ∨ row = 385 ∨ row = 386 ∨ row = 388) : row ≠ 373 := by omega
def PF (H d f c row idx : Nat) (I I' : IM) : Prop := ∀ x j, PC H d f c x j → (x ≠ row ∨ j ≠ idx) → I' x j = I x j
theorem SB.pf {Y : YC} {d c row idx : Nat} {I I' : IM} {r : PR} (h : SB Y d c row idx I r I') (hc : c < 80) : PF Y.H d d c row idx I I' := fun x j hx hr => h.1 x j (by unfold PC at hx; unfold FC; omega) (by unfold PC at hx; omega) (by unfold PC at hx; omega) hr (by unfold PC at hx; omega)
abbrev YC.lp (Y : YC) (N : Nat) (I : IM) : Prop := wl (f_q_parse_72 N 373 (mk I Y.J Y.R)) Y.Q
def YB (Y : YC) (j : Nat) : Prop := ∀ (I : IM) (N : Nat), Y.T (.inr j) I → Y.lp N I
def SKR (f : Nat → Nat → Nat → Option Nat → Prop) (g : Nat → Prop) : SR → Prop
  | .inl a => f a.1 a.2.1 a.2.2.1 a.2.2.2
  | .inr j => g j
/-- the STATEMENTS from a up to b are kept, with their links -/
def ALL (Y : YC) (a b : Nat) (I : IM) : Prop := ∀ q, a ≤ q → q < b → RECQ Y.P Y.H Y.p q I ∧ RECN Y.P Y.H Y.p q I
def YS (Y : YC) (d c row idx : Nat) (I : IM) (e : Int32) (i' c' n' : Nat) (o : Option Nat) : Prop := ∀ (I' : IM) (N : Nat), PQ Y i' d c' n' I' → Y.K i' = e → PF Y.H d d c row idx I I' → lnk Y.H Y.p o (I' row idx) → ALL Y c c' I' → Y.lp N I'
def YT (Y : YC) (d c row idx : Nat) (I : IM) (i' c' n' : Nat) (o : Option Nat) : Prop := ∀ (I' : IM) (N : Nat), PQ Y i' d c' n' I' → PF Y.H d d c row idx I I' → (I' row idx).toInt = ((80 * Y.H + c : Nat) : Int) → (I' 396 d).toInt = ((80 * Y.H + c : Nat) : Int) → (I' 386 (80 * Y.H + c)).toInt = -1 → RECQ Y.P Y.H Y.p c I' → ALL Y (c + 1) c' I' → Y.lp N I'
/-- what is left of the end of a BLOCK of the STATEMENT s, its part pt -/
def eb_rest (s pt : Int32) (w11 : WW) : Option WW :=
  (gN w11 373 9 9).bind fun x12 =>
  (rI w11 x12 0 s).bind fun x13 =>
  if x13 = (3 : Int32) then
    if pt = 0 then
      (gI w11 373 9 30).bind fun x16 =>
      if x16 = (4 : Int32) then
        (gI w11 373 9 31).bind fun x18 =>
        if x18 = (1 : Int32) then
          (f_q_read 373 w11).bind fun w20 =>
          (gN w20 373 9 20).bind fun x21 =>
          (sI w20 x21 2 s (vp_nar .boolean (1 : Int32))).bind fun w22 =>
          (f_q_openBlock 373 s (1 : Int32) w22).bind fun w23 =>
          f_q_endBlock_93 w23
        else
          f_q_endBlock_93 w11
      else
        f_q_endBlock_93 w11
    else
      f_q_endBlock_93 w11
  else
    f_q_endBlock_93 w11
/-- the row that a BLOCK's first STATEMENT is linked from -/
def rpt (pt : Int32) : Nat := if pt = 0 then 384 else 385
def YK (Y : YC) (d c q : Nat) (I : IM) (ss pt : Int32) (i' c' n' : Nat) (o : Option Nat) : Prop := ∀ (I' : IM) (N : Nat), PQ Y i' d c' n' I' → PF Y.H d (d + 1) c (rpt pt) (80 * Y.H + q) I I' → lnk Y.H Y.p o (I' (rpt pt) (80 * Y.H + q)) → ALL Y c c' I' → wl (eb_rest ss pt (mk I' Y.J Y.R)) (fun w => wl (f_q_parse_72 N 373 w) Y.Q)
def SREF0 (Y : YC) (d : Nat) (e : Int32) (i c n : Nat) (r : SR) : Prop := ∀ (I : IM) (N row idx : Nat), (d = 0 → e = 0) → (d ≠ 0 → e = 125) → PQ Y i d c n I → SLT Y d I row idx → (row = 388 ∨ idx < 80 * Y.H + c) → (I row idx).toInt < 0 → SKR (YS Y d c row idx I e) (YB Y) r → Y.lp N I
def SREF1 (Y : YC) (d i c n : Nat) (r : SR) : Prop := ∀ (I : IM) (N row idx : Nat), (d = 0 → ¬ Y.K i = 0) → (d ≠ 0 → ¬ Y.K i = 125) → PQ Y i d c n I → SLT Y d I row idx → (row = 388 ∨ idx < 80 * Y.H + c) → SKR (YT Y d c row idx I) (YB Y) r → Y.lp N I
def SREF2 (Y : YC) (d i c n : Nat) (r : SR) : Prop := ∀ (m : Nat), d = m + 1 → ∀ (I : IM) (N q : Nat) (ss pt : Int32), ss.toInt = ((80 * Y.H + q : Nat) : Int) → q < c → PQ Y i m c n I → SKR (YK Y m c q I ss pt) (YB Y) r → wl (f_q_openBlock 373 ss pt (mk I Y.J Y.R)) (fun w => wl (f_q_parse_72 N 373 w) Y.Q)
def SREFA (Y : YC) (tag d : Nat) (e : Int32) (i c n : Nat) (r : SR) : Prop := (tag = 0 → SREF0 Y d e i c n r) ∧ (tag = 1 → SREF1 Y d i c n r) ∧ (tag = 2 → SREF2 Y d i c n r)
section QPA
variable {Y : YC} {I I' : IM} {i d c n row idx : Nat}
theorem PQ.q (hp : PQ Y i d c n I) : QS Y.c Y.L Y.K Y.B Y.M i I := (YC.q hp.1.1).1
theorem PQ.c80 (hL2 : Y.L ≤ 200) (hp : PQ Y i d c n I) : c ≤ 50 := by
  have := hp.q.le
  have := hp.2
  omega
/-- a turn of the loop, at a TOKEN that does not end it -/
theorem p_turn (hp : PQ Y i d c n I) (h0 : d = 0 → ¬ Y.K i = 0) {N : Nat} (k : wl (f_q_parse_93 (f_q_parse_72 N) 373 (mk I Y.J Y.R)) Y.Q) : Y.lp (N + 1) I := by
  have hs := hp.q
  obtain ⟨⟨hT, h33, hn3, h32, h389⟩, h4⟩ := hp
  have hc := hs.2.2.2.2.1
  unfold COR at hc
  show wl (f_q_parse_72 (N + 1) 373 (mk I Y.J Y.R)) Y.Q
  rw [f_q_parse_72]
  refine wl_gI rfl rfl rfl ?_
  rw [if_pos (i32eq.mpr (by rw [hs.2.1, l32_0]))]
  refine wl_gI rfl rfl rfl (wl_ite (fun z => wl_gI rfl rfl rfl (wl_ite (fun z2 => ?_) (fun _ => k))) (fun _ => k))
  exfalso
  rw [i32eq, l32_0] at z
  rw [i32le, l32_0, h33] at z2
  exact h0 (by omega) (i32eq.mpr (by rw [l32_0]; omega))
/-- a fault stands: the loop ends -/
theorem p_bad {j : Nat} (hb : Y.T (.inr j) I) (k : ∀ I', (∀ x k, (x ≠ 373 ∨ k ≠ 5) → I' x k = I x k) → I' 373 5 = 1 → ∀ v, Y.Q (v, mk I' Y.J Y.R)) {N : Nat} : Y.lp N I := by
  have hb' : (I 373 34).toInt ≠ 0 ∧ I 373 4 = Y.B j := hb
  have hn : ¬ I 373 34 = 0 := fun z => hb'.1 (by rw [z, l32_0])
  show wl (f_q_parse_72 N 373 (mk I Y.J Y.R)) Y.Q
  cases N with
  | zero => exact wl_none
  | succ N =>
    rw [f_q_parse_72]
    refine wl_gI rfl rfl rfl ?_
    rw [if_neg hn]
    unfold f_q_parse_177 f_q_fail
    refine wl_gI rfl rfl rfl ?_
    rw [if_neg hn]
    exact wl_bd2 (wl_kb (wl_pI rfl rfl (wl_some (wl_some (k _ (fun x j hj => up2_ne _ _ hj) up2_s _)))))
/-- the parts behind the word of a STATEMENT, up to its BLOCK or its end -/
theorem p_byWord (hR : QR Y.R) (hL2 : Y.L ≤ 200) (hH : Y.H ≤ 1) (hp : PQ Y i d c n I) (hsl : SLT Y d I row idx) (hlt : row = 388 ∨ idx < 80 * Y.H + c) (hk : Y.K i = 4 ∨ Y.K i = 6 ∨ Y.K i = 7) {r : PR} (hP : coP Y.P Y.K Y.B Y.M (Y.p + 2 + c) (i + 1, n) r) {Q : WW → Prop} (k : ∀ (ss : Int32) (I' : IM), ss.toInt = ((80 * Y.H + c : Nat) : Int) → SB Y d c row idx I r I' → ((Y.K i = 4 → I' 376 (80 * Y.H + c) = 3) ∧ (Y.K i = 6 → I' 376 (80 * Y.H + c) = 4) ∧ (Y.K i = 7 → I' 376 (80 * Y.H + c) = 5)) → (∀ q, r = .inl q → HDR Y.P (Y.p + 2 + c) (Y.K i) (Y.B i) (Y.M i) → RECF Y.P (Y.p + 2 + c) Y.H (80 * Y.H + c) I') → wl (if I' 376 (80 * Y.H + c) = (5 : Int32) then (f_q_expect 373 (59 : Int32) (mk I' Y.J Y.R)).bind fun w14 => f_q_byWord_71 w14 else (f_q_openBlock 373 ss (0 : Int32) (mk I' Y.J Y.R)).bind fun w13 => f_q_byWord_71 w13) Q) : wl (f_q_byWord 373 (mk I Y.J Y.R)) Q := by
  obtain ⟨r1, p1, q1⟩ := sq.lp hP
  obtain ⟨ra, pa, q1⟩ := q1.sq
  obtain ⟨r2, p2, q2⟩ := q1.sq
  obtain ⟨rb, pb, q2⟩ := q2.sq
  obtain ⟨r3, p3, q3⟩ := q2.sq
  obtain ⟨r4, p4, q4⟩ := q3.sq
  obtain ⟨rc, pc, p5⟩ := q4.sq
  obtain ⟨za, fa⟩ := pa.fd
  obtain ⟨zb, fb⟩ := pb.fd
  obtain ⟨zc, fc⟩ := pc.fd
  subst za
  subst zb
  subst zc
  have hrow := hsl.row
  have hs := hp.q
  have hc := hs.2.2.2.2.1
  unfold COR at hc
  have hk' : (Y.K i).toInt = 4 ∨ (Y.K i).toInt = 6 ∨ (Y.K i).toInt = 7 := by
    rcases hk with z | z | z <;> rw [z] <;> decide
  have go : ∀ a1 : Int32, ((Y.K i = 4 → a1 = 3) ∧ (Y.K i = 6 → a1 = 4) ∧ (Y.K i = 7 → a1 = 5)) → wl (f_q_byWord_25 373 373 a1 (mk I Y.J Y.R)) Q := by
    intro a1 ha
    unfold f_q_byWord_25
    refine wl_bd2 (s_stmt hR hL2 hH hp hsl hlt (by omega) (by omega) (fun ss I1 sv e1 k376 k377 k378 k386 k387 kr k396 pt1 => ?_))
    dsimp only
    have sb1 : SB Y d c row idx I (.inl (i + 1, n)) I1 := ⟨e1, by rw [kr]; exact sv, by rw [k396]; exact sv, k386, k387, pt1, hrow⟩
    refine wl_bd (s_expect hR hL2 (s := 80 * Y.H + c) (a := 384) (b := 383) sg_40 pt1.1 (LPr.at p1) (fun I2 e2 h2 => ?_))
    have sb2 := sb1.fq (e2.wid (a' := 379) (b' := 383)) h2
    refine wl_bd (s_cond hR hH hL2 sv (y := Y.p + 2 + c) h2 sb2.2.2.2.2.2.1.2.2.2.1 p2 p3 p4 (fun I3 e3 h3 cn => ?_))
    have sb3 := sb2.fq e3 h3
    refine wl_bd (s_expect hR hL2 (s := 80 * Y.H + c) (a := 384) (b := 383) sg_41 h3 p5 (fun I4 e4 h4 => ?_))
    have w4 : ∀ x, 376 ≤ x → x ≤ 383 → I4 x (80 * Y.H + c) = I3 x (80 * Y.H + c) := fun x a b => e4 x _ (by unfold FC; omega) (by omega)
    have w3 : ∀ x, 376 ≤ x → x ≤ 378 → I3 x (80 * Y.H + c) = I1 x (80 * Y.H + c) := fun x a b => by rw [e3 x _ (by unfold FC; omega) (by omega), e2 x _ (by unfold FC; omega) (by omega)]
    have k4 : I4 376 (80 * Y.H + c) = a1 := by rw [w4 _ (by omega) (by omega), w3 _ (by omega) (by omega)]; exact k376
    refine wq_9 hR (wl_rI (n := 160) rfl (fun _ => ?_))
    rw [tnat sv]
    refine k ss I4 sv (sb3.fq (e4.wid (a' := 379) (b' := 383)) h4) (by rw [k4]; exact ha) (fun q hr hh => ?_)
    obtain ⟨q4', hq4, _⟩ := p5.back hr
    obtain ⟨q3', hq3, hx2⟩ := p4.back hq4
    obtain ⟨q2', hq2, hcm⟩ := p3.back hq3
    obtain ⟨q1', hq1, hx1⟩ := p2.back hq2
    obtain ⟨f0, f1, f2⟩ := hh
    have st3 := (cm_len hcm).2
    have l1 := exP.mn _ _ hx1
    have l2 := exP.mn _ _ hx2
    have n4 : q4'.2 ≤ 200 := YC.n200 hL2 (by rw [← hq4]; exact h3)
    obtain ⟨c1, c2, c3⟩ := cn
    obtain ⟨c4, c5, c6, c7⟩ := c3 q4' hq4
    have F0 : Y.P.F (Y.p + 2 + c) 0 = 4 ∨ Y.P.F (Y.p + 2 + c) 0 = 6 ∨ Y.P.F (Y.p + 2 + c) 0 = 7 := by rw [f0]; exact hk
    refine ⟨?_, ?_, Or.inr (Or.inr (Or.inr ⟨F0, c6, ?_, two_of (n0 := q1'.2) (n1 := q2'.2) (n2 := q4'.2) ⟨l1, by omega, n4⟩ (fa q1' hq1) (fb q2' hq2) (fc q4' hq4) ?_ ?_ ?_ ?_⟩))⟩
    · rw [k4, f0]
      rcases hk with z | z | z
      · rw [z, ha.1 z]; decide
      · rw [z, ha.2.1 z]; decide
      · rw [z, ha.2.2 z]; decide
    · rw [w4 _ (by omega) (by omega), w3 _ (by omega) (by omega), k378, f1]
    · rw [w4 _ (by omega) (by omega)]; exact c7
    · rw [w4 _ (by omega) (by omega)]; exact c1 q1' hq1
    · rw [w4 _ (by omega) (by omega)]; exact c2 q2' hq2
    · rw [w4 _ (by omega) (by omega), c4 q3' hq3, st3]
    · rw [w4 _ (by omega) (by omega)]; exact c5
  unfold f_q_byWord
  refine wl_kb (wl_gI rfl rfl rfl (wl_ite (fun z => go 3 ?_) (fun z => wl_gI rfl rfl rfl (wl_ite (fun z2 => go 4 ?_) (fun z2 => go 5 ?_)))))
  · rw [i32eq, l32_0] at z
    refine ⟨fun _ => rfl, fun y => ?_, fun y => ?_⟩
    · exfalso; rw [y, l32_6] at hc; omega
    · exfalso; rw [y, l32_7] at hc; omega
  · rw [i32eq, l32_2] at z2
    refine ⟨fun y => ?_, fun _ => rfl, fun y => ?_⟩
    · exfalso; rw [y, l32_4] at hc; omega
    · exfalso; rw [y, l32_7] at hc; omega
  · rw [i32eq, l32_0] at z
    rw [i32eq, l32_2] at z2
    refine ⟨fun y => ?_, fun y => ?_, fun _ => rfl⟩
    · exfalso; rw [y, l32_4] at hc; omega
    · exfalso; rw [y, l32_6] at hc; omega
/-- at the beginning of a STATEMENT the loop calls what it must -/
theorem p_93 (hp : PQ Y i d c n I) (h125 : ¬ Y.K i = 125) {N : Nat} (k2 : Y.K i = 2 → wl (f_q_assignment 373 (mk I Y.J Y.R)) (fun w => wl (f_q_parse_72 N 373 w) Y.Q)) (k3 : Y.K i = 3 → wl (f_q_storing 373 (mk I Y.J Y.R)) (fun w => wl (f_q_parse_72 N 373 w) Y.Q)) (k4 : (Y.K i = 4 ∨ Y.K i = 6 ∨ Y.K i = 7) → wl (f_q_byWord 373 (mk I Y.J Y.R)) (fun w => wl (f_q_parse_72 N 373 w) Y.Q)) (k0 : ¬ (Y.K i = 2 ∨ Y.K i = 3 ∨ Y.K i = 4 ∨ Y.K i = 6 ∨ Y.K i = 7) → YB Y i) : wl (f_q_parse_93 (f_q_parse_72 N) 373 (mk I Y.J Y.R)) Y.Q := by
  have hs := hp.q
  have hc := hs.2.2.2.2.1
  unfold COR at hc
  have bad : ¬ (Y.K i = 2 ∨ Y.K i = 3 ∨ Y.K i = 4 ∨ Y.K i = 6 ∨ Y.K i = 7) → wl (f_q_parse_170 (f_q_parse_72 N) 373 (mk I Y.J Y.R)) Y.Q := by
    intro z
    unfold f_q_parse_170
    exact wl_bd (x_wrong (X := Y.X) hs (fun I2 e2 w1 w2 => k0 z I2 N (show _ ∧ _ from ⟨by omega, w2⟩)))
  have ne : ∀ a : Int32, (Y.K i).toInt ≠ a.toInt → ¬ Y.K i = a := fun a h e => h (by rw [e])
  unfold f_q_parse_93
  refine wl_bd2 (x_isK (X := Y.X) hs sg_125 (fun z => absurd z h125) (fun z => ?_))
  dsimp only
  rw [if_pos rfl]
  refine wl_gI rfl rfl rfl (wl_ite (fun z2 => ?_) (fun z2 => wl_gI rfl rfl rfl (wl_ite (fun z3 => ?_) (fun z3 => wl_gI rfl rfl rfl (wl_ite (fun z4 => ?_) (fun z4 => bad ?_))))))
  · rw [i32eq, l32_2] at z2
    exact wl_bd (k2 (i32eq.mpr (by rw [l32_2]; omega)))
  · rw [i32eq, l32_3] at z3
    exact wl_bd (k3 (i32eq.mpr (by rw [l32_3]; omega)))
  · rw [i32eq, l32_4] at z4
    have hk : (Y.K i).toInt = 4 + (I 373 31).toInt ∧ 0 ≤ (I 373 31).toInt ∧ (I 373 31).toInt ≤ 4 := by omega
    refine wl_gI rfl rfl rfl (wl_ite (fun z5 => bad ?_) (fun z5 => wl_gI rfl rfl rfl (wl_ite (fun z6 => bad ?_) (fun z6 => wl_bd (k4 ?_)))))
    · rw [i32eq, l32_1] at z5
      intro w
      rcases w with w | w | w | w | w
      · exact ne 2 (by rw [l32_2]; omega) w
      · exact ne 3 (by rw [l32_3]; omega) w
      · exact ne 4 (by rw [l32_4]; omega) w
      · exact ne 6 (by rw [l32_6]; omega) w
      · exact ne 7 (by rw [l32_7]; omega) w
    · rw [i32eq, l32_4] at z6
      intro w
      rcases w with w | w | w | w | w
      · exact ne 2 (by rw [l32_2]; omega) w
      · exact ne 3 (by rw [l32_3]; omega) w
      · exact ne 4 (by rw [l32_4]; omega) w
      · exact ne 6 (by rw [l32_6]; omega) w
      · exact ne 7 (by rw [l32_7]; omega) w
    · rw [i32eq, l32_1] at z5
      rw [i32eq, l32_4] at z6
      have h3 : (Y.K i).toInt = 4 ∨ (Y.K i).toInt = 6 ∨ (Y.K i).toInt = 7 := by omega
      rcases h3 with h3 | h3 | h3
      · exact Or.inl (i32eq.mpr (by rw [h3, l32_4]))
      · exact Or.inr (Or.inl (i32eq.mpr (by rw [h3, l32_6])))
      · exact Or.inr (Or.inr (i32eq.mpr (by rw [h3, l32_7])))
  · rw [i32eq, l32_2] at z2
    rw [i32eq, l32_3] at z3
    rw [i32eq, l32_4] at z4
    intro w
    rcases w with w | w | w | w | w
    · exact ne 2 (by rw [l32_2]; omega) w
    · exact ne 3 (by rw [l32_3]; omega) w
    · exact ne 4 (by rw [l32_4]; omega) w
    · exact ne 6 (by rw [l32_6]; omega) w
    · exact ne 7 (by rw [l32_7]; omega) w
/-- a BLOCK is opened, or not -/
theorem p_open (hR : QR Y.R) (hL2 : Y.L ≤ 200) {ss pt : Int32} {q : Nat} (sv : ss.toInt = ((80 * Y.H + q : Nat) : Int)) (hq : q < c) (hp : PQ Y i d c n I) {Q : WW → Prop} (kb : (3 < d + 1 ∨ ¬ Y.K i = 123) → ∀ I', Y.T (.inr i) I' → Q (mk I' Y.J Y.R)) (k : d + 1 ≤ 3 → Y.K i = 123 → ∀ I', PQ Y (i + 1) (d + 1) c n I' → PF Y.H d (d + 1) c (rpt pt) (80 * Y.H + q) I I' → I' 394 (d + 1) = ss → I' 395 (d + 1) = pt → SLT Y (d + 1) I' (rpt pt) (80 * Y.H + q) → (I' (rpt pt) (80 * Y.H + q)).toInt = -1 → Q (mk I' Y.J Y.R)) : wl (f_q_openBlock 373 ss pt (mk I Y.J Y.R)) Q := by
  have hs := hp.q
  have c50 := hp.c80 hL2
  obtain ⟨⟨hT, h33, hn3, h32, h389⟩, h4⟩ := hp
  have wr : (3 < d + 1 ∨ ¬ Y.K i = 123) → wl (f_q_openBlock_25 373 (mk I Y.J Y.R)) Q := by
    intro z
    unfold f_q_openBlock_25
    exact wl_bd (x_wrong (X := Y.X) hs (fun I2 e2 w1 w2 => wl_some (kb z I2 (show _ ∧ _ from ⟨by omega, w2⟩))))
  unfold f_q_openBlock
  refine wl_kb (wl_gI rfl rfl rfl ?_)
  rw [if_pos (i32eq.mpr (by rw [hs.2.1, l32_0]))]
  refine wl_bd2 (x_isK (X := Y.X) hs sg_123 (fun z => ?_) (fun z => ?_))
  · dsimp only
    rw [if_neg (by decide)]
    refine wl_gI rfl rfl rfl (wl_ite (fun z3 => wr (Or.inl ?_)) (fun z3 => ?_))
    · rw [i32eq, l32_3, h33] at z3; omega
    rw [i32eq, l32_3, h33] at z3
    have z' : Y.K i = 123 := z
    refine wl_bd (s_next hR hL2 hT (show (Y.K i).toInt ≠ 0 by rw [z']; decide) (show (Y.K i).toInt ≠ -1 by rw [z']; decide) (fun I1 e1 hT1 => ?_))
    have h33' : (I1 373 33).toInt = d := by rw [e1 _ _ (by omega)]; exact h33
    have x33 : (I1 373 33 + 1).toInt = ((d + 1 : Nat) : Int) := by rw [i32addc (by rw [h33', l32_1]; omega), h33', l32_1]; omega
    refine wl_gI rfl rfl rfl (wl_pIa rfl rfl (fun I2 e2 f2 => ?_))
    have v2 : (I2 373 33).toInt = ((d + 1 : Nat) : Int) := by rw [f2]; exact x33
    refine wq_35 hR (wl_gI rfl rfl rfl (wl_sIa (n := 8) rfl (fun I3 e3 f3 _ => ?_)))
    rw [tnat v2] at e3 f3
    have v3 : (I3 373 33).toInt = ((d + 1 : Nat) : Int) := by rw [e3 _ _ (by omega)]; exact v2
    refine wq_36 hR (wl_gI rfl rfl rfl (wl_sIa (n := 8) rfl (fun I4 e4 f4 _ => ?_)))
    rw [tnat v3] at e4 f4
    have v4 : (I4 373 33).toInt = ((d + 1 : Nat) : Int) := by rw [e4 _ _ (by omega)]; exact v3
    refine wq_37 hR (wl_gI rfl rfl rfl (wl_sIa (n := 8) rfl (fun I5 e5 f5 _ => ?_)))
    rw [tnat v4] at e5 f5
    have hrp : rpt pt = 384 ∨ rpt pt = 385 := by unfold rpt; split <;> omega
    have fin : ∀ I6 : IM, (∀ x j, (x ≠ rpt pt ∨ j ≠ 80 * Y.H + q) → I6 x j = I5 x j) → I6 (rpt pt) (80 * Y.H + q) = -1 → Q (mk I6 Y.J Y.R) := by
      intro I6 e6 f6
      have g5 : ∀ x j, (x ≠ 373 ∨ (j < 28 ∨ 33 < j ∨ j = 32)) → (x ≠ 394 ∨ j ≠ d + 1) → (x ≠ 395 ∨ j ≠ d + 1) → (x ≠ 396 ∨ j ≠ d + 1) → I5 x j = I x j := fun x j a b c' d' => by rw [e5 x j d', e4 x j c', e3 x j b, e2 x j (by omega), e1 x j (by omega)]
      have k394 : I6 394 (d + 1) = ss := by rw [e6 _ _ (by omega), e5 _ _ (by omega), e4 _ _ (by omega)]; exact f3
      have k395 : I6 395 (d + 1) = pt := by rw [e6 _ _ (by omega), e5 _ _ (by omega)]; exact f4
      have k396 : I6 396 (d + 1) = -1 := by rw [e6 _ _ (by omega)]; exact f5
      refine k (by omega) z I6 ⟨⟨hT1.keep (fun x j hx => ?_), ?_, by omega, ?_, ?_⟩, by omega⟩ (fun x j hx hr => ?_) k394 k395 (Or.inr ⟨by rw [k396]; decide, ?_⟩) (by rw [f6]; rfl)
      · rw [e6 x j (by omega), e5 x j (by omega), e4 x j (by omega), e3 x j (by omega), e2 x j (by omega)]
      · rw [e6 _ _ (by omega), e5 _ _ (by omega)]; exact v4
      · rw [e6 _ _ (by omega), g5 _ _ (by omega) (by omega) (by omega) (by omega)]; exact h32
      · rw [e6 _ _ (by omega), g5 _ _ (by omega) (by omega) (by omega) (by omega)]; exact h389
      · rw [e6 x j hr]
        unfold PC at hx
        exact g5 x j (by omega) (by omega) (by omega) (by omega)
      · right
        unfold rpt
        by_cases hz : pt = 0
        · left
          rw [if_pos hz]
          exact ⟨by omega, by rw [k395]; exact hz, rfl, by rw [k394]; exact sv⟩
        · right
          rw [if_neg hz]
          exact ⟨by omega, by rw [k395]; exact hz, rfl, by rw [k394]; exact sv⟩
    unfold f_q_openBlock_95
    refine wl_ite (fun hz => wq_17 hR (wl_sIa (n := 160) rfl (fun I6 e6 f6 _ => wl_some (fin I6 ?_ ?_)))) (fun hz => wq_18 hR (wl_sIa (n := 160) rfl (fun I6 e6 f6 _ => wl_some (fin I6 ?_ ?_))))
    · rw [tnat sv] at e6
      unfold rpt
      rw [if_pos hz]
      exact e6
    · rw [tnat sv] at f6
      unfold rpt
      rw [if_pos hz]
      exact f6
    · rw [tnat sv] at e6
      unfold rpt
      rw [if_neg hz]
      exact e6
    · rw [tnat sv] at f6
      unfold rpt
      rw [if_neg hz]
      exact f6
  · dsimp only
    rw [if_pos rfl]
    exact wr (Or.inr z)
/-- a BLOCK ends -/
theorem p_end (hR : QR Y.R) (hL2 : Y.L ≤ 200) {ss pt : Int32} (hp : PQ Y i (d + 1) c n I) (hk : Y.K i = 125) (hs4 : I 394 (d + 1) = ss) (hs5 : I 395 (d + 1) = pt) {N : Nat} (k : ∀ I', PQ Y (i + 1) d c n I' → (∀ x j, (x ≠ 373 ∨ (j < 28 ∨ 33 < j ∨ j = 32)) → I' x j = I x j) → wl (eb_rest ss pt (mk I' Y.J Y.R)) (fun w => wl (f_q_parse_72 N 373 w) Y.Q)) : Y.lp (N + 1) I := by
  refine p_turn hp (fun z => by omega) ?_
  have hs := hp.q
  obtain ⟨⟨hT, h33, hn3, h32, h389⟩, h4⟩ := hp
  unfold f_q_parse_93
  refine wl_bd2 (x_isK (X := Y.X) hs sg_125 (fun z => ?_) (fun z => absurd hk z))
  dsimp only
  rw [if_neg (by decide)]
  refine wl_bd ?_
  unfold f_q_endBlock
  refine wl_kb (wq_35 hR (wl_gI rfl rfl rfl (wl_rI (n := 8) rfl (fun _ => wq_36 hR (wl_gI rfl rfl rfl (wl_rI (n := 8) rfl (fun _ => wl_gI rfl rfl rfl ?_)))))))
  rw [tnat h33, hs4, hs5]
  rw [if_neg (fun y => by rw [i32eq, l32_0, h33] at y; omega)]
  have x33 : (I 373 33 - 1).toInt = d := by rw [i32subc (by rw [h33, l32_1]; omega), h33, l32_1]; omega
  refine wl_gI rfl rfl rfl (wl_pIa rfl rfl (fun I1 e1 f1 => ?_))
  have hT1 : Y.T (.inl (i, n)) I1 := hT.keep (fun x j hx => e1 x j (by omega))
  refine wl_bd (s_next hR hL2 hT1 (by rw [hk]; decide) (by rw [hk]; decide) (fun I2 e2 hT2 => ?_))
  exact k I2 ⟨⟨hT2, by rw [e2 _ _ (by omega), f1]; exact x33, by omega, by rw [e2 _ _ (by omega), e1 _ _ (by omega)]; exact h32, by rw [e2 _ _ (by omega), e1 _ _ (by omega)]; exact h389⟩, by omega⟩ (fun x j hx => by rw [e2 x j (by omega), e1 x j (by omega)])
/-- behind a BLOCK, if its STATEMENT has no other -/
theorem p_rest0 (hR : QR Y.R) {ss pt : Int32} {q : Nat} (sv : ss.toInt = q) (h : I 376 q ≠ 3 ∨ ¬ pt = 0 ∨ (QS Y.c Y.L Y.K Y.B Y.M i I ∧ ¬ Y.K i = 5)) {Q : WW → Prop} (k : Q (mk I Y.J Y.R)) : wl (eb_rest ss pt (mk I Y.J Y.R)) Q := by
  unfold eb_rest f_q_endBlock_93
  refine wq_9 hR (wl_rI (n := 160) rfl (fun _ => ?_))
  rw [tnat sv]
  refine wl_ite (fun z => wl_ite (fun z2 => ?_) (fun _ => wl_some k)) (fun _ => wl_some k)
  rcases h with h | h | ⟨hs, h⟩
  · exact absurd z h
  · exact absurd z2 h
  · have hc := hs.2.2.2.2.1
    unfold COR at hc
    refine wl_gI rfl rfl rfl (wl_ite (fun z3 => wl_gI rfl rfl rfl (wl_ite (fun z4 => ?_) (fun _ => wl_some k))) (fun _ => wl_some k))
    exfalso
    rw [i32eq, l32_4] at z3
    rw [i32eq, l32_1] at z4
    exact h (i32eq.mpr (by rw [l32_5]; omega))
/-- behind a BLOCK: else -/
theorem p_rest1 (hR : QR Y.R) (hL2 : Y.L ≤ 200) {ss : Int32} {q : Nat} (sv : ss.toInt = q) (h3 : I 376 q = 3) (hp : PQ Y i d c n I) (hk : Y.K i = 5) {Q : WW → Prop} (k : ∀ I', PQ Y (i + 1) d c n I' → (∀ x j, (x ≠ 373 ∨ (j < 28 ∨ 31 < j)) → (x ≠ 387 ∨ j ≠ q) → I' x j = I x j) → ¬ I' 387 q = 0 → wl (f_q_openBlock 373 ss 1 (mk I' Y.J Y.R)) Q) : wl (eb_rest ss 0 (mk I Y.J Y.R)) Q := by
  have hs := hp.q
  obtain ⟨⟨hT, h33, hn3, h32, h389⟩, h4⟩ := hp
  have hc := hs.2.2.2.2.1
  unfold COR at hc
  have k5 : (Y.K i).toInt = 5 := by rw [hk]; exact l32_5
  unfold eb_rest f_q_endBlock_93
  refine wq_9 hR (wl_rI (n := 160) rfl (fun _ => ?_))
  rw [tnat sv, h3, if_pos rfl, if_pos rfl]
  refine wl_gI rfl rfl rfl ?_
  rw [if_pos (i32eq.mpr (by rw [l32_4]; omega))]
  refine wl_gI rfl rfl rfl ?_
  rw [if_pos (i32eq.mpr (by rw [l32_1]; omega))]
  refine wl_bd (s_next hR hL2 hT (by omega) (by omega) (fun I1 e1 hT1 => ?_))
  refine wq_20 hR (wl_sIa (n := 160) rfl (fun I2 e2 f2 _ => ?_))
  rw [tnat sv] at e2 f2
  refine wl_bd (wl_mono (k I2 ⟨⟨hT1.keep (fun x j hx => e2 x j (by omega)), ?_, hn3, ?_, ?_⟩, by omega⟩ (fun x j hx hy => ?_) ?_) (fun w hw => wl_some hw))
  · rw [e2 _ _ (by omega), e1 _ _ (by omega)]; exact h33
  · rw [e2 _ _ (by omega), e1 _ _ (by omega)]; exact h32
  · rw [e2 _ _ (by omega), e1 _ _ (by omega)]; exact h389
  · rw [e2 x j (by omega), e1 x j (by omega)]
  · rw [f2]; decide
/-- IF and WHILE, up to their BLOCK -/
theorem p_blk (hR : QR Y.R) (hL2 : Y.L ≤ 200) (hH : Y.H ≤ 1) (hp : PQ Y i d c n I) (hsl : SLT Y d I row idx) (hlt : row = 388 ∨ idx < 80 * Y.H + c) (hk : Y.K i = 4 ∨ Y.K i = 6) {j n' : Nat} (hP : coP Y.P Y.K Y.B Y.M (Y.p + 2 + c) (i + 1, n) (.inl (j, n'))) {N : Nat} (h0 : d = 0 → ¬ Y.K i = 0) (k : ∀ (ss : Int32) (I' : IM), ss.toInt = ((80 * Y.H + c : Nat) : Int) → SB Y d c row idx I (.inl (j, n')) I' → ((Y.K i = 4 → I' 376 (80 * Y.H + c) = 3) ∧ (Y.K i = 6 → I' 376 (80 * Y.H + c) = 4)) → (HDR Y.P (Y.p + 2 + c) (Y.K i) (Y.B i) (Y.M i) → RECF Y.P (Y.p + 2 + c) Y.H (80 * Y.H + c) I') → PQ Y j d (c + 1) n' I' → wl (f_q_openBlock 373 ss 0 (mk I' Y.J Y.R)) (fun w => wl (f_q_parse_72 N 373 w) Y.Q)) : Y.lp (N + 1) I := by
  refine p_turn hp h0 (p_93 hp (fun z => ?_) (fun z => ?_) (fun z => ?_) (fun hk3 => ?_) (fun z => ?_))
  · rcases hk with y | y <;> (rw [y] at z; exact absurd z (by decide))
  · rcases hk with y | y <;> (rw [y] at z; exact absurd z (by decide))
  · rcases hk with y | y <;> (rw [y] at z; exact absurd z (by decide))
  · refine p_byWord hR hL2 hH hp hsl hlt hk3 hP (fun ss I' sv sb ks rf => ?_)
    have n5 : ¬ I' 376 (80 * Y.H + c) = 5 := by
      rcases hk with y | y
      · rw [ks.1 y]; decide
      · rw [ks.2.1 y]; decide
    rw [if_neg n5]
    unfold f_q_byWord_71
    have l := co_len hP
    have l1 : i + 1 + 3 ≤ j := l.1
    have h4 := hp.2
    exact wl_bd (wl_mono (k ss I' sv sb ⟨ks.1, ks.2.1⟩ (rf _ rfl) ⟨sb.2.2.2.2.2.1, by omega⟩) (fun w hw => wl_some hw))
  · exfalso
    rcases hk with y | y
    · exact z (Or.inr (Or.inr (Or.inl y)))
    · exact z (Or.inr (Or.inr (Or.inr (Or.inl y))))
theorem RECF.kind {P : RX} {y H s : Nat} {I : IM} (h : RECF P y H s I) : P.F y 0 = 8 ∨ P.F y 0 = 2 ∨ P.F y 0 = 3 ∨ P.F y 0 = 4 ∨ P.F y 0 = 6 ∨ P.F y 0 = 7 := by
  rcases h.2.2 with ⟨h, _⟩ | ⟨h, _⟩ | ⟨h, _⟩ | ⟨h, _⟩
  · exact Or.inl h
  · exact Or.inr (Or.inl h)
  · exact Or.inr (Or.inr (Or.inl h))
  · exact Or.inr (Or.inr (Or.inr h))
/-- a STATEMENT without BLOCKS has no links but to the next -/
theorem RECL.no {P : RX} {H p q : Nat} {I : IM} (h : ¬ P.F (p + 2 + q) 0 = 4 ∧ ¬ P.F (p + 2 + q) 0 = 6) : RECL P H p q I := ⟨fun z => by
    rcases z with z | z
    · exact absurd z h.1
    · exact absurd z h.2, fun z => absurd z h.1, fun z => absurd z h.2⟩
theorem ALL.nil {a : Nat} : ALL Y a a I := fun q a b => by omega
theorem ALL.keep {a b : Nat} (h : ALL Y a b I) (e : ∀ x q, a ≤ q → q < b → 376 ≤ x → x ≤ 387 → I' x (80 * Y.H + q) = I x (80 * Y.H + q)) : ALL Y a b I' := fun q q1 q2 => ⟨(h q q1 q2).1.keep (fun x a b _ => e x q q1 q2 a b), (h q q1 q2).2.keep (e 386 q q1 q2 (by omega) (by omega))⟩
set_option maxHeartbeats 4000000 in
theorem sref_all (hR : QR Y.R) (hL2 : Y.L ≤ 200) (hH : Y.H ≤ 1) {tag d : Nat} {e : Int32} {i c n : Nat} {r : SR} (hd : DS Y.P Y.K Y.B Y.M Y.p tag d e i c n r) : SREFA Y tag d e i c n r := by
  have no : ∀ {a b : Nat} {P : Prop}, a ≠ b → a = b → P := fun h e => absurd e h
  have ne : ∀ {a b c : Int32}, a = b → b ≠ c → ¬ a = c := fun h1 h2 h3 => h2 (h1.symm.trans h3)
  refine DS.ind (W := fun tag d e i c n r => SREFA Y tag d e i c n r) ?_ ?_ ?_ ?_ ?_ ?_ ?_ ?_ ?_ ?_ ?_ ?_ ?_ ?_ ?_ ?_ ?_ ?_ ?_ ?_ hd
  · intro d i c n e h1
    refine ⟨fun _ => ?_, no (by decide), no (by decide)⟩
    intro I N row idx he0 he1 hp hsl hlt hneg k
    exact k I N hp h1 (fun _ _ _ _ => rfl) hneg ALL.nil
  · intro d i c n j e h1 h2 ih
    refine ⟨fun _ => ?_, no (by decide), no (by decide)⟩
    intro I N row idx he0 he1 hp hsl hlt hneg k
    exact ih.2.1 rfl I N row idx (fun z => by rw [← he0 z]; exact h1) (fun z => by rw [← he1 z]; exact h1) hp hsl hlt k
  · intro d i c n i1 c1 n1 i2 c2 n2 e o1 o h1 h2 h3 h4 ih2 ih3
    refine ⟨fun _ => ?_, no (by decide), no (by decide)⟩
    intro I N row idx he0 he1 hp hsl hlt hneg k
    have hrow := hsl.row
    have b1 := h2.b _ _ _ _ rfl
    have c50 := hp.c80 hL2
    refine ih2.2.1 rfl I N row idx (fun z => by rw [← he0 z]; exact h1) (fun z => by rw [← he1 z]; exact h1) hp hsl hlt (fun I1 N1 hp1 f1 v1 l1 m1 rq al => ?_)
    have c51 := hp1.c80 hL2
    refine ih3.1 rfl I1 N1 386 (80 * Y.H + c) he0 he1 hp1 (Or.inl ⟨rfl, l1⟩) (Or.inr (by omega)) (by omega) (fun I2 N2 hp2 ke f2 lk al2 => ?_)
    have c52 := hp2.c80 hL2
    have hb2 := h3.b _ _ _ _ rfl
    have g2 : ∀ x q, q < c1 → 376 ≤ x → x ≤ 387 → (x ≠ 386 ∨ q ≠ c) → I2 x (80 * Y.H + q) = I1 x (80 * Y.H + q) := fun x q hq a b h => f2 x _ (PC.rec ⟨a, b⟩ hq) (h.imp id ix_ne)
    refine k I2 N2 hp2 ke (fun x j hx hr => ?_) ?_ (fun q q1 q2 => ?_)
    · rw [f2 x j (hx.mono (Nat.le_refl _) (Nat.le_refl _) b1.2.1) (hx.ne (Nat.lt_of_le_of_lt c50 (by decide)) (by decide))]
      exact f1 x j hx hr
    · rw [f2 row idx (PC.slot hrow hlt b1.2.1) (slt_ne hlt (by decide))]
      exact lnk_c v1
    · by_cases z : q < c1
      · by_cases y : q = c
        · subst y
          refine ⟨rq.keep (fun x a b h => g2 x q z a b (Or.inl h)), ?_⟩
          unfold RECN
          rw [h4]
          exact lk
        · obtain ⟨w1, w2⟩ := al q (by omega) z
          exact ⟨w1.keep (fun x a b h => g2 x q z a b (Or.inl h)), w2.keep (g2 386 q z (by omega) (by omega) (Or.inr y))⟩
      · exact al2 q (by omega) q2
  · intro d i c n i1 c1 n1 j e o1 h1 h2 h3 ih2 ih3
    refine ⟨fun _ => ?_, no (by decide), no (by decide)⟩
    intro I N row idx he0 he1 hp hsl hlt hneg k
    have b1 := h2.b _ _ _ _ rfl
    refine ih2.2.1 rfl I N row idx (fun z => by rw [← he0 z]; exact h1) (fun z => by rw [← he1 z]; exact h1) hp hsl hlt (fun I1 N1 hp1 f1 v1 l1 m1 rq al => ?_)
    exact ih3.1 rfl I1 N1 386 (80 * Y.H + c) he0 he1 hp1 (Or.inl ⟨rfl, l1⟩) (Or.inr (by omega)) (by omega) k
  · intro d i c n h1
    refine ⟨no (by decide), fun _ => ?_, no (by decide)⟩
    intro I N row idx h0 h125 hp hsl hlt k
    cases N with
    | zero => exact wl_none
    | succ N =>
      refine p_turn hp h0 ?_
      by_cases z : Y.K i = 125
      · have n0 : d = 0 := by
          by_cases y : d = 0
          · exact y
          · exact absurd z (h125 y)
        have hs := hp.q
        obtain ⟨⟨hT, h33, hn3, h32, h389⟩, h4⟩ := hp
        unfold f_q_parse_93
        refine wl_bd2 (x_isK (X := Y.X) hs sg_125 (fun z => ?_) (fun y => absurd z y))
        dsimp only
        rw [if_neg (by decide)]
        refine wl_bd ?_
        unfold f_q_endBlock
        refine wl_kb (wq_35 hR (wl_gI rfl rfl rfl (wl_rI (n := 8) rfl (fun _ => wq_36 hR (wl_gI rfl rfl rfl (wl_rI (n := 8) rfl (fun _ => wl_gI rfl rfl rfl ?_)))))))
        rw [if_pos (i32eq.mpr (by rw [h33, l32_0, n0]; rfl))]
        exact wl_bd (x_wrong (X := Y.X) hs (fun I2 e2 w1 w2 => wl_some (k I2 N (show _ ∧ _ from ⟨by omega, w2⟩))))
      · exact p_93 hp z (fun y => absurd (Or.inl y) h1) (fun y => absurd (Or.inr (Or.inl y)) h1) (fun y => absurd (Or.inr (Or.inr y)) h1) (fun _ => k)
  · intro d i c n j n' h1 hf1 hf2 h2
    refine ⟨no (by decide), fun _ => ?_, no (by decide)⟩
    intro I N row idx h0 h125 hp hsl hlt k
    have l := as_len h2
    have l1 : i + 1 + 3 ≤ j := l.1
    have h4 := hp.2
    have c50 := hp.c80 hL2
    cases N with
    | zero => exact wl_none
    | succ N =>
      refine p_turn hp h0 (p_93 hp (ne h1 (by decide)) (fun _ => s_asg hR hL2 hH hp hsl hlt h1 h2 (fun _ _ => ⟨hf1, hf2⟩) exP.mn (fun I1 sb rf => ?_)) (fun y => absurd y (ne h1 (by decide))) (fun y => absurd y (by rw [h1]; decide)) (fun y => absurd (Or.inl h1) y))
      have rf' := rf _ rfl
      refine k I1 N ⟨sb.2.2.2.2.2.1, show 4 * (c + 1) ≤ j by omega⟩ (sb.pf (by omega)) sb.2.1 sb.2.2.1 sb.2.2.2.1 ⟨rf', RECL.no ?_⟩ ALL.nil
      obtain ⟨c', h', _⟩ := sq.two h2
      rcases h2 with ⟨_, _, e⟩ | ⟨s', _, h2⟩
      · cases e
      · rcases h2 with ⟨_, f0, _⟩ | ⟨_, f0, _⟩ <;> rw [f0] <;> exact ⟨by decide, by decide⟩
  · intro d i c n j h1 h2
    refine ⟨no (by decide), fun _ => ?_, no (by decide)⟩
    intro I N row idx h0 h125 hp hsl hlt k
    cases N with
    | zero => exact wl_none
    | succ N => exact p_turn hp h0 (p_93 hp (ne h1 (by decide)) (fun _ => s_asg hR hL2 hH hp hsl hlt h1 h2 (fun q e => by cases e) exP.mn (fun I1 sb rf => k I1 N sb.2.2.2.2.2.1.1)) (fun y => absurd y (ne h1 (by decide))) (fun y => absurd y (by rw [h1]; decide)) (fun y => absurd (Or.inl h1) y))
  · intro d i c n j n' h1 hh h2
    refine ⟨no (by decide), fun _ => ?_, no (by decide)⟩
    intro I N row idx h0 h125 hp hsl hlt k
    have l := st_len h2
    have l1 : i + 1 + 3 ≤ j := l.1
    have h4 := hp.2
    have c50 := hp.c80 hL2
    cases N with
    | zero => exact wl_none
    | succ N =>
      refine p_turn hp h0 (p_93 hp (ne h1 (by decide)) (fun y => absurd y (ne h1 (by decide))) (fun _ => s_sto hR hL2 hH hp hsl hlt h1 h2 (fun _ _ => hh) exP.mn (fun I1 sb rf => ?_)) (fun y => absurd y (by rw [h1]; decide)) (fun y => absurd (Or.inr (Or.inl h1)) y))
      exact k I1 N ⟨sb.2.2.2.2.2.1, show 4 * (c + 1) ≤ j by omega⟩ (sb.pf (by omega)) sb.2.1 sb.2.2.1 sb.2.2.2.1 ⟨rf _ rfl, RECL.no (by rw [hh.1]; exact ⟨by decide, by decide⟩)⟩ ALL.nil
  · intro d i c n j h1 h2
    refine ⟨no (by decide), fun _ => ?_, no (by decide)⟩
    intro I N row idx h0 h125 hp hsl hlt k
    cases N with
    | zero => exact wl_none
    | succ N => exact p_turn hp h0 (p_93 hp (ne h1 (by decide)) (fun y => absurd y (ne h1 (by decide))) (fun _ => s_sto hR hL2 hH hp hsl hlt h1 h2 (fun q e => by cases e) exP.mn (fun I1 sb rf => k I1 N sb.2.2.2.2.2.1.1)) (fun y => absurd y (by rw [h1]; decide)) (fun y => absurd (Or.inr (Or.inl h1)) y))
  · intro d i c n j h1 h2
    refine ⟨no (by decide), fun _ => ?_, no (by decide)⟩
    intro I N row idx h0 h125 hp hsl hlt k
    have hne : ∀ a : Int32, a ≠ 4 → a ≠ 6 → a ≠ 7 → ¬ Y.K i = a := fun a a1 a2 a3 z => by
      rcases h1 with y | y | y
      · exact a1 (z.symm.trans y)
      · exact a2 (z.symm.trans y)
      · exact a3 (z.symm.trans y)
    cases N with
    | zero => exact wl_none
    | succ N =>
      refine p_turn hp h0 (p_93 hp (hne _ (by decide) (by decide) (by decide)) (fun y => absurd y (hne _ (by decide) (by decide) (by decide))) (fun y => absurd y (hne _ (by decide) (by decide) (by decide))) (fun _ => p_byWord hR hL2 hH hp hsl hlt h1 h2 (fun ss I1 sv sb ks rf => ?_)) (fun y => absurd (Or.inr (Or.inr h1)) y))
      have hT1 := sb.2.2.2.2.2.1.1
      have hb : (I1 373 34).toInt ≠ 0 ∧ I1 373 4 = Y.B j := hT1
      unfold f_q_byWord_71
      refine wl_ite (fun _ => wl_bd (s_expect hR hL2 (s := 0) (a := 384) (b := 383) sg_59 hT1 (Or.inl ⟨j, rfl, rfl⟩) (fun I2 e2 h2 => wl_some (k I2 N h2)))) (fun _ => wl_bd ?_)
      unfold f_q_openBlock
      refine wl_kb (wl_gI rfl rfl rfl ?_)
      rw [if_neg (fun z => hb.1 (by rw [z, l32_0]))]
      exact wl_some (wl_some (k I1 N hT1))
  · intro d i c n j n' h1 hh h2 h3
    refine ⟨no (by decide), fun _ => ?_, no (by decide)⟩
    intro I N row idx h0 h125 hp hsl hlt k
    have l := co_len h2
    have l1 : i + 1 + 3 ≤ j := l.1
    have h4 := hp.2
    have c50 := hp.c80 hL2
    cases N with
    | zero => exact wl_none
    | succ N =>
      refine p_turn hp h0 (p_93 hp (ne h1 (by decide)) (fun y => absurd y (ne h1 (by decide))) (fun y => absurd y (ne h1 (by decide))) (fun hk => p_byWord hR hL2 hH hp hsl hlt hk h2 (fun ss I1 sv sb ks rf => ?_)) (fun y => absurd (Or.inr (Or.inr (Or.inr (Or.inr h1)))) y))
      rw [if_pos (ks.2.2 h1)]
      unfold f_q_byWord_71
      refine wl_bd (s_expect hR hL2 (s := 80 * Y.H + c) (a := 384) (b := 383) sg_59 sb.2.2.2.2.2.1.1 (LPr.at (Or.inl ⟨h3, rfl⟩)) (fun I2 e2 h2' => wl_some ?_))
      have sb2 := sb.fq (e2.wid (a' := 379) (b' := 383)) h2'
      refine k I2 N ⟨sb2.2.2.2.2.2.1, show 4 * (c + 1) ≤ j + 1 by omega⟩ (sb2.pf (by omega)) sb2.2.1 sb2.2.2.1 sb2.2.2.2.1 ⟨(rf _ rfl (by rw [h1]; exact hh)).keep (fun x a b => e2 x _ (by unfold FC; omega) (by omega)), RECL.no (by rw [hh.1]; exact ⟨by decide, by decide⟩)⟩ ALL.nil
  · intro d i c n j n' h1 h2 h3
    refine ⟨no (by decide), fun _ => ?_, no (by decide)⟩
    intro I N row idx h0 h125 hp hsl hlt k
    cases N with
    | zero => exact wl_none
    | succ N =>
      refine p_turn hp h0 (p_93 hp (ne h1 (by decide)) (fun y => absurd y (ne h1 (by decide))) (fun y => absurd y (ne h1 (by decide))) (fun hk => p_byWord hR hL2 hH hp hsl hlt hk h2 (fun ss I1 sv sb ks rf => ?_)) (fun y => absurd (Or.inr (Or.inr (Or.inr (Or.inr h1)))) y))
      rw [if_pos (ks.2.2 h1)]
      unfold f_q_byWord_71
      exact wl_bd (s_expect hR hL2 (s := 80 * Y.H + c) (a := 384) (b := 383) sg_59 sb.2.2.2.2.2.1.1 (LPr.at (Or.inr ⟨h3, rfl⟩)) (fun I2 e2 h2' => wl_some (k I2 N h2')))
  · intro d i c n j n' j1 h1 h2 h3 ih
    refine ⟨no (by decide), fun _ => ?_, no (by decide)⟩
    intro I N row idx h0 h125 hp hsl hlt k
    cases N with
    | zero => exact wl_none
    | succ N => exact p_blk hR hL2 hH hp hsl hlt h1 h2 h0 (fun ss I1 sv sb ks rf hp1 => ih.2.2 rfl _ rfl I1 N c ss 0 sv (by omega) hp1 k)
  · intro d i c n j n' j1 c1 n2 o h1 hh h2 h3 h4 h7 h8 ih
    refine ⟨no (by decide), fun _ => ?_, no (by decide)⟩
    intro I N row idx h0 h125 hp hsl hlt k
    have hrow := hsl.row
    have c50 := hp.c80 hL2
    have c8 : c < 80 := Nat.lt_of_le_of_lt c50 (by decide)
    have hb := h3.b _ _ _ _ rfl
    cases N with
    | zero => exact wl_none
    | succ N =>
      refine p_blk hR hL2 hH hp hsl hlt h1 h2 h0 (fun ss I1 sv sb ks rf hp1 => ih.2.2 rfl _ rfl I1 N c ss 0 sv (by omega) hp1 (fun I2 N2 hp2 f2 lk al => ?_))
      have e0 : rpt 0 = 384 := rfl
      rw [e0] at f2 lk
      have g2 : ∀ x, 376 ≤ x → x ≤ 387 → x ≠ 384 → I2 x (80 * Y.H + c) = I1 x (80 * Y.H + c) := fun x a b h => f2 x _ (PC.rec ⟨a, b⟩ (Nat.lt_succ_self c)) (Or.inl h)
      have r12 := rf hh
      refine p_rest0 hR sv (i := j1) ?_ (k I2 N2 hp2 (fun x y hx hr => ?_) ?_ ?_ ?_ ⟨r12.keep (fun x a b => g2 x a (by omega) (by omega)), ?_⟩ al)
      · rcases h1 with y | y
        · exact Or.inr (Or.inr ⟨hp2.q, fun z => h4 ⟨y, z⟩⟩)
        · left
          rw [g2 376 (by omega) (by omega) (by omega), ks.2 y]; decide
      · rw [f2 x y (hx.mono (Nat.le_refl _) (Nat.le_succ _) (Nat.le_succ _)) (hx.ne c8 (by decide))]
        exact sb.pf c8 x y hx hr
      · rw [f2 row idx (PC.slot hrow hlt (Nat.le_succ _)) (slt_ne hlt (by decide))]; exact sb.2.1
      · rw [f2 396 d (PC.l396 (Nat.lt_succ_self _)) (Or.inl (by decide))]; exact sb.2.2.1
      · rw [g2 386 (by omega) (by omega) (by omega)]; exact sb.2.2.2.1
      · have k387 : I2 387 (80 * Y.H + c) = 0 := by rw [g2 387 (by omega) (by omega) (by omega)]; exact sb.2.2.2.2.1
        exact ⟨fun _ => by rw [h7]; exact lk, fun _ => Or.inl ⟨k387, h8⟩, fun _ => k387⟩
  · intro d i c n j n' j1 c1 n2 j3 c3 n3 o o3 h1 hh h2 h3 h4 h5 h7 h8 ih3 ih5
    refine ⟨no (by decide), fun _ => ?_, no (by decide)⟩
    intro I N row idx h0 h125 hp hsl hlt k
    have hrow := hsl.row
    have c50 := hp.c80 hL2
    have c8 : c < 80 := Nat.lt_of_le_of_lt c50 (by decide)
    have hb := h3.b _ _ _ _ rfl
    have hb5 := h5.b _ _ _ _ rfl
    cases N with
    | zero => exact wl_none
    | succ N =>
      refine p_blk hR hL2 hH hp hsl hlt (Or.inl h1) h2 h0 (fun ss I1 sv sb ks rf hp1 => ih3.2.2 rfl _ rfl I1 N c ss 0 sv (by omega) hp1 (fun I2 N2 hp2 f2 lk al => ?_))
      have e0 : rpt 0 = 384 := rfl
      rw [e0] at f2 lk
      have c52 := hp2.c80 hL2
      have g2 : ∀ x, 376 ≤ x → x ≤ 387 → x ≠ 384 → I2 x (80 * Y.H + c) = I1 x (80 * Y.H + c) := fun x a b h => f2 x _ (PC.rec ⟨a, b⟩ (Nat.lt_succ_self c)) (Or.inl h)
      refine p_rest1 hR hL2 sv (by rw [g2 376 (by omega) (by omega) (by omega)]; exact ks.1 h1) hp2 h4 (fun I3 hp3 f3 v3 => ih5.2.2 rfl _ rfl I3 N2 c ss 1 sv (by omega) hp3 (fun I4 N4 hp4 f4 lk4 al4 => ?_))
      have e1 : rpt 1 = 385 := rfl
      rw [e1] at f4 lk4
      have c54 := hp4.c80 hL2
      have g4 : ∀ x q, q < c1 → 376 ≤ x → x ≤ 387 → (x ≠ 385 ∨ q ≠ c) → I4 x (80 * Y.H + q) = I3 x (80 * Y.H + q) := fun x q hq a b h => f4 x _ (PC.rec ⟨a, b⟩ hq) (h.imp id ix_ne)
      have g3 : ∀ x q, 376 ≤ x → x ≤ 387 → (x ≠ 387 ∨ q ≠ c) → I3 x (80 * Y.H + q) = I2 x (80 * Y.H + q) := fun x q a b h => f3 x _ (by omega) (by omega)
      have w : ∀ x, 376 ≤ x → x ≤ 387 → x ≠ 384 → x ≠ 385 → x ≠ 387 → I4 x (80 * Y.H + c) = I1 x (80 * Y.H + c) := fun x a b h1 h2 h3 => by rw [g4 x c (by omega) a b (Or.inl h2), g3 x c a b (Or.inl h3), g2 x a b h1]
      refine p_rest0 hR sv (i := j3) (Or.inr (Or.inl (by decide))) (k I4 N4 hp4 (fun x y hx hr => ?_) ?_ ?_ ?_ ⟨(rf hh).keep (fun x a b => w x a (by omega) (by omega) (by omega) (by omega)), ?_⟩ (fun q q1 q2 => ?_))
      · rw [f4 x y (hx.mono (Nat.le_refl _) (Nat.le_succ _) (Nat.le_of_succ_le hb.2.1)) (hx.ne c8 (by decide)), f3 x y hx.n373.1 (hx.ne c8 (by decide)), f2 x y (hx.mono (Nat.le_refl _) (Nat.le_succ _) (Nat.le_succ _)) (hx.ne c8 (by decide))]
        exact sb.pf c8 x y hx hr
      · rw [f4 row idx (PC.slot hrow hlt (Nat.le_of_succ_le hb.2.1)) (slt_ne hlt (by decide)), f3 row idx (Or.inl (slt_n373 hrow)) (slt_ne hlt (by decide)), f2 row idx (PC.slot hrow hlt (Nat.le_succ _)) (slt_ne hlt (by decide))]; exact sb.2.1
      · rw [f4 396 d (PC.l396 (Nat.lt_succ_self _)) (Or.inl (by decide)), f3 396 d (Or.inl (by decide)) (Or.inl (by decide)), f2 396 d (PC.l396 (Nat.lt_succ_self _)) (Or.inl (by decide))]; exact sb.2.2.1
      · rw [w 386 (by omega) (by omega) (by omega) (by omega) (by omega)]; exact sb.2.2.2.1
      · have k387 : ¬ I4 387 (80 * Y.H + c) = 0 := by rw [g4 387 c (by omega) (by omega) (by omega) (by omega)]; exact v3
        have k384 : I4 384 (80 * Y.H + c) = I2 384 (80 * Y.H + c) := by rw [g4 384 c (by omega) (by omega) (by omega) (by omega), g3 384 c (by omega) (by omega) (by omega)]
        refine ⟨fun _ => by rw [h7, k384]; exact lk, fun _ => Or.inr ⟨k387, by rw [h8]; exact lk4⟩, fun z => ?_⟩
        exfalso
        rw [hh.1, h1] at z
        exact absurd z (by decide)
      · by_cases z : q < c1
        · obtain ⟨w1, w2⟩ := al q (by omega) z
          exact ⟨w1.keep (fun x a b h => by rw [g4 x q z a b (Or.inr (by omega)), g3 x q a b (Or.inr (by omega))]), w2.keep (by rw [g4 386 q z (by omega) (by omega) (Or.inr (by omega)), g3 386 q (by omega) (by omega) (Or.inr (by omega))])⟩
        · exact al4 q (by omega) q2
  · intro d i c n j n' j1 c1 n2 j3 o h1 h2 h3 h4 h5 ih3 ih5
    refine ⟨no (by decide), fun _ => ?_, no (by decide)⟩
    intro I N row idx h0 h125 hp hsl hlt k
    have hb := h3.b _ _ _ _ rfl
    have c50 := hp.c80 hL2
    cases N with
    | zero => exact wl_none
    | succ N =>
      refine p_blk hR hL2 hH hp hsl hlt (Or.inl h1) h2 h0 (fun ss I1 sv sb ks rf hp1 => ih3.2.2 rfl _ rfl I1 N c ss 0 sv (by omega) hp1 (fun I2 N2 hp2 f2 lk al => ?_))
      have e0 : rpt 0 = 384 := rfl
      rw [e0] at f2 lk
      have g2 : ∀ x, 376 ≤ x → x ≤ 387 → x ≠ 384 → I2 x (80 * Y.H + c) = I1 x (80 * Y.H + c) := fun x a b h => f2 x _ (PC.rec ⟨a, b⟩ (Nat.lt_succ_self c)) (Or.inl h)
      exact p_rest1 hR hL2 sv (by rw [g2 376 (by omega) (by omega) (by omega)]; exact ks.1 h1) hp2 h4 (fun I3 hp3 f3 v3 => ih5.2.2 rfl _ rfl I3 N2 c ss 1 sv (by omega) hp3 k)
  · intro d i c n h1
    refine ⟨no (by decide), no (by decide), fun _ => ?_⟩
    intro m hm I N q ss pt sv hq hp k
    exact p_open hR hL2 sv hq hp (fun _ I' hb => k I' N hb) (fun z => absurd z (by omega))
  · intro d i c n h1 h2
    refine ⟨no (by decide), no (by decide), fun _ => ?_⟩
    intro m hm I N q ss pt sv hq hp k
    exact p_open hR hL2 sv hq hp (fun _ I' hb => k I' N hb) (fun _ z => absurd z h2)
  · intro d i c n j h1 h2 h3 ih
    refine ⟨no (by decide), no (by decide), fun _ => ?_⟩
    intro m hm I N q ss pt sv hq hp k
    subst hm
    exact p_open hR hL2 sv hq hp (fun z => by rcases z with z | z; exact absurd h1 (by omega); exact absurd h2 z) (fun _ _ I1 hp1 f1 s4 s5 sl v1 => ih.1 rfl I1 N _ _ (fun z => by omega) (fun _ => rfl) hp1 sl (Or.inr (by omega)) (by omega) k)
  · intro d i c n j c1 n1 o h1 h2 h3 h4 ih
    refine ⟨no (by decide), no (by decide), fun _ => ?_⟩
    intro m hm I N q ss pt sv hq hp k
    subst hm
    have hrp : rpt pt = 384 ∨ rpt pt = 385 := by unfold rpt; split <;> omega
    refine p_open hR hL2 sv hq hp (fun z => by rcases z with z | z; exact absurd h1 (by omega); exact absurd h2 z) (fun _ _ I1 hp1 f1 s4 s5 sl v1 => ih.1 rfl I1 N _ _ (fun z => by omega) (fun _ => rfl) hp1 sl (Or.inr (by omega)) (by omega) (fun I2 N2 hp2 ke f2 lk al => ?_))
    cases N2 with
    | zero => exact wl_none
    | succ N2 =>
      refine p_end hR hL2 hp2 ke (by rw [f2 394 _ (PC.l394 (Or.inl rfl) (Nat.le_refl _)) (Or.inl (by rcases hrp with z | z <;> rw [z] <;> decide))]; exact s4) (by rw [f2 395 _ (PC.l394 (Or.inr rfl) (Nat.le_refl _)) (Or.inl (by rcases hrp with z | z <;> rw [z] <;> decide))]; exact s5) (fun I3 hp3 f3 => k I3 N2 hp3 (fun x y hx hr => ?_) ?_ (al.keep (fun x q' a b a1 a2 => f3 x _ (by omega))))
      · rw [f3 x y hx.n373.2, f2 x y (hx.mono (Nat.le_succ _) (Nat.le_refl _) (Nat.le_refl _)) hr]
        exact f1 x y hx hr
      · rw [f3 _ _ (by omega)]; exact lk
end QPA
/-- what a parse leaves: the STATEMENTS' records, their steps, the first of them -/
def RCS (P : RX) (H p c n : Nat) (o : Option Nat) (I : IM) : Prop := (∀ q, q < c → RECQ P H p q I ∧ RECN P H p q I) ∧ RLS P H n I ∧ n ≤ 200 ∧ lnk H p o (I 388 H)
/-- the reference's parse, by the rules -/
theorem z_parse {c : Nat → Int32} {L : Nat} {K B M : Nat → Int32} {P : RX} {p : Nat} {J : JM} {R : RM} {I : IM} (hR : QR R) (hL2 : L ≤ 200) (ht : TXQ c L I) (h27 : 0 ≤ (I 373 27).toInt ∧ (I 373 27).toInt ≤ 1) (hT : TL c L K B M 0 0) {r : SR} (hD : DS P K B M p 0 0 0 0 0 0 r) {Q : (Int32 × WW) → Prop} (k : ∀ (H : Nat) (v : Int32) (I' : IM), (H : Int) = 1 - (I 373 27).toInt → SKR (fun _ c' n' o => (I' 373 4 = -2 ∧ I' 373 5 = 0 ∧ v.toInt = c') ∧ (I' 373 8 = 1 ∧ (I' 373 27).toInt = H) ∧ RCS P H p c' n' o I') (fun j => I' 373 4 = B j ∧ I' 373 5 = 1) r → Q (v, mk I' J R)) : wl (f_q_parse 373 (mk I J R)) Q := by
  have x32 : ((1 : Int32) - I 373 27).toInt = 1 - (I 373 27).toInt := by rw [i32subc (by rw [l32_1]; omega), l32_1]
  obtain ⟨H, hH⟩ : ∃ H : Nat, (H : Int) = 1 - (I 373 27).toInt := ⟨(1 - (I 373 27).toInt).toNat, by omega⟩
  have hH1 : H ≤ 1 := by omega
  unfold f_q_parse
  refine wl_kb (wl_gI rfl rfl rfl (wl_pIa rfl rfl (fun I1 e1 f1 => ?_)))
  have v1 : (I1 373 32).toInt = H := by rw [f1, x32, hH]
  refine wq_21 hR (wl_gI rfl rfl rfl (wl_sIa (n := 2) rfl (fun I2 e2 f2 _ => ?_)))
  rw [tnat v1] at e2 f2
  have v2 : (I2 373 32).toInt = H := by rw [e2 _ _ (by omega)]; exact v1
  refine wq_22 hR (wl_gI rfl rfl rfl (wl_sIa (n := 2) rfl (fun I3 e3 f3 _ => ?_)))
  rw [tnat v2] at e3 f3
  have v3 : (I3 373 32).toInt = H := by rw [e3 _ _ (by omega)]; exact v2
  refine wq_23 hR (wl_gI rfl rfl rfl (wl_sIa (n := 2) rfl (fun I4 e4 f4 _ => ?_)))
  rw [tnat v3] at e4 f4
  refine wl_pIa rfl rfl (fun I5 e5 f5 => wq_37 hR (wl_sIa (n := 8) rfl (fun I6 e6 f6 _ => wl_pIa rfl rfl (fun I7 e7 f7 => wl_req (fun _ => wl_pIa rfl rfl (fun I8 e8 f8 => wl_pIa rfl rfl (fun I9 e9 f9 => wl_bd ?_)))))))
  have n0 : (0 : Int32).toInt.toNat = 0 := rfl
  rw [n0] at e6 f6
  have g9 : ∀ x j, (x ≠ 373 ∨ (j ≠ 4 ∧ j ≠ 28 ∧ j ≠ 32 ∧ j ≠ 33 ∧ j ≠ 34)) → (x < 388 ∨ 390 < x ∨ j ≠ H) → (x ≠ 396 ∨ j ≠ 0) → I9 x j = I x j := fun x j a b d => by rw [e9 _ _ (by omega), e8 _ _ (by omega), e7 _ _ (by omega), e6 _ _ (by omega), e5 _ _ (by omega), e4 _ _ (by omega), e3 _ _ (by omega), e2 _ _ (by omega), e1 _ _ (by omega)]
  have t9 : TXQ c L I9 := ⟨by rw [g9 _ _ (by omega) (by omega) (by omega)]; exact ht.1, fun j hj => by rw [g9 _ _ (by omega) (by omega) (by omega)]; exact ht.2 j hj⟩
  have p9 : (I9 373 28).toInt = ((0 : Nat) : Int) := by rw [e9 _ _ (by omega), e8 _ _ (by omega), f7]; exact l32_0
  obtain ⟨b2, q2, t1, t2, tm, t3⟩ := hT.inv
  refine u_read hR t9 p9 hL2 (Nat.zero_le _) (fun I10 b q kk e10 h29 h28 hk hc hv => ?_)
  obtain ⟨u1, u2, u3⟩ := hk.uniq t1
  have hb := t1.bnd (Nat.zero_le _)
  let Y : YC := ⟨c, L, K, B, M, P, p, H, J, R, Q⟩
  have hc' := hc
  rw [u3] at hc'
  have hs : QS c L K B M 0 I10 := by
    refine ⟨e10.tx t9, ?_, ?_, i32eq.mpr (by rw [h29, t2, u1]), hc', ?_, q, h28, by omega, ⟨Nat.zero_le _, fun z => by have := hb.2.2.2.2 z; omega⟩, fun z0 z1 => ?_⟩
    · rw [e10 _ _ (by omega), e9 _ _ (by omega), f8]; exact l32_0
    · rw [e10 _ _ (by omega), f9]
    · subst u1
      subst u2
      unfold COR at hc'
      refine ⟨fun z => ?_, fun z => ?_⟩
      · rcases z with z | z
        · have z' : (K 0).toInt = 1 := by rw [z]; exact l32_1
          rw [hv.1 (by omega), tm.1 z']
        · have z' : (K 0).toInt = 2 := by rw [z]; exact l32_2
          rw [hv.2.1 (by omega), tm.2.1 z']
      · have z' : (K 0).toInt = 3 := by rw [z]; exact l32_3
        rw [hv.2.2 (by omega), tm.2.2 z', Int32.mul_comm]
    · rw [u2]; exact t3 z0 z1
  have k390 : (I10 390 H).toInt = ((0 : Nat) : Int) := by rw [e10 _ _ (by omega), e9 _ _ (by omega), e8 _ _ (by omega), e7 _ _ (by omega), e6 _ _ (by omega), e5 _ _ (by omega), f4]; exact l32_0
  have k389 : (I10 389 H).toInt = ((0 : Nat) : Int) := by rw [e10 _ _ (by omega), e9 _ _ (by omega), e8 _ _ (by omega), e7 _ _ (by omega), e6 _ _ (by omega), e5 _ _ (by omega), e4 _ _ (by omega), f3]; exact l32_0
  have k388 : (I10 388 H).toInt = -1 := by rw [e10 _ _ (by omega), e9 _ _ (by omega), e8 _ _ (by omega), e7 _ _ (by omega), e6 _ _ (by omega), e5 _ _ (by omega), e4 _ _ (by omega), e3 _ _ (by omega), f2]; exact l32_m1
  have k396 : (I10 396 0).toInt = -1 := by rw [e10 _ _ (by omega), e9 _ _ (by omega), e8 _ _ (by omega), e7 _ _ (by omega), f6]; exact l32_m1
  have hp : PQ Y 0 0 0 0 I10 := by
    refine ⟨⟨show STQ c L K B M P H (.inl (0, 0)) I10 from ⟨hs, k390, fun k hk => absurd hk (Nat.not_lt_zero _), Nat.le_refl _⟩, ?_, by decide, ?_, k389⟩, Nat.le_refl _⟩
    · rw [e10 _ _ (by omega), e9 _ _ (by omega), e8 _ _ (by omega), e7 _ _ (by omega), e6 _ _ (by omega), f5]; exact l32_0
    · rw [e10 _ _ (by omega), e9 _ _ (by omega), e8 _ _ (by omega), e7 _ _ (by omega), e6 _ _ (by omega), e5 _ _ (by omega), e4 _ _ (by omega)]; exact v3
  refine (sref_all (Y := Y) hR hL2 hH1 hD).1 rfl I10 KK 388 H (fun _ => rfl) (fun z => absurd rfl z) hp (Or.inr ⟨by omega, Or.inl ⟨rfl, rfl, rfl⟩⟩) (Or.inl rfl) (by omega) ?_
  cases r with
  | inl a =>
    obtain ⟨i', c', n', o⟩ := a
    intro I11 N hp11 ke f11 lk al
    have hq11 := hp11.q
    have h20 := YC.n200 (Y := Y) hL2 hp11.1.1
    obtain ⟨⟨hT11, h33, _, h32, h389⟩, _⟩ := hp11
    have hrl : RLS P H n' I11 := (YC.q (Y := Y) hT11).2.2.1
    have hc11 : COR (K i').toInt (I11 373 30).toInt (I11 373 31).toInt := hq11.2.2.2.2.1
    have ke' : (K i').toInt = 0 := by rw [show K i' = 0 from ke]; exact l32_0
    unfold COR at hc11
    have h34 : (I11 373 34).toInt = 0 := hq11.2.1
    have h4 : I11 373 4 = -2 := hq11.2.2.1
    show wl (f_q_parse_72 N 373 (mk I11 J R)) Q
    cases N with
    | zero => exact wl_none
    | succ N =>
      rw [f_q_parse_72]
      refine wl_gI rfl rfl rfl ?_
      rw [if_pos (i32eq.mpr (by rw [h34, l32_0]))]
      refine wl_gI rfl rfl rfl ?_
      rw [if_pos (i32eq.mpr (by rw [l32_0]; omega))]
      refine wl_gI rfl rfl rfl ?_
      rw [if_pos (by rw [i32le, l32_0, h33]; exact Int.le_refl _)]
      unfold f_q_parse_177
      refine wl_gI rfl rfl rfl ?_
      rw [if_pos (i32eq.mpr (by rw [h34, l32_0]))]
      refine wl_pIa rfl rfl (fun I12 e12 f12 => wl_gI rfl rfl rfl (wl_pIa rfl rfl (fun I13 e13 f13 => wl_req (fun _ => wl_pIa rfl rfl (fun I14 e14 f14 => wq_22 hR (wl_gI rfl rfl rfl (wl_rI (n := 2) rfl (fun _ => wl_some ?_))))))))
      have v14 : (I14 373 27).toInt = H := by rw [e14 _ _ (by omega), f13, e12 _ _ (by omega)]; exact h32
      have g14 : ∀ x j, x ≠ 373 → I14 x j = I11 x j := fun x j hx => by rw [e14 _ _ (by omega), e13 _ _ (by omega), e12 _ _ (by omega)]
      rw [tnat v14]
      refine k H _ I14 hH ⟨⟨?_, ?_, ?_⟩, ⟨f14, v14⟩, fun q hq => ?_, fun k hk => ?_, h20, ?_⟩
      · rw [e14 _ _ (by omega), e13 _ _ (by omega), e12 _ _ (by omega)]; exact h4
      · rw [e14 _ _ (by omega), e13 _ _ (by omega)]; exact f12
      · rw [g14 _ _ (by omega)]; exact h389
      · obtain ⟨w1, w2⟩ := al q (Nat.zero_le _) hq
        exact ⟨w1.keep (fun x a b c => g14 _ _ (by omega)), w2.keep (g14 _ _ (by omega))⟩
      · have w := hrl k hk
        rw [g14 _ _ (by omega), g14 _ _ (by omega), g14 _ _ (by omega)]
        exact w
      · rw [g14 _ _ (by omega)]; exact lk
  | inr j =>
    intro I11 N hb
    have hb' : (I11 373 34).toInt ≠ 0 ∧ I11 373 4 = B j := hb
    exact p_bad (Y := Y) hb (fun I12 e12 f12 v => k H v I12 hH ⟨by rw [e12 _ _ (by omega)]; exact hb'.2, f12⟩)
