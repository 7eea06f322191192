/-! The reference parses STATEMENTS by the same rules, and leaves the same records. -/
theorem DE.pr {P : RX} {K B M : Nat → Int32} {tag d : Nat} {h : Int32} {i n : Nat} {r : Res} (hd : DE P K B M tag d h i n r) : ∀ a, r = .inl a → ((tag = 0 ∨ tag = 3 ∨ tag = 4) → i < a.2.1) ∧ i ≤ a.2.1 := by
  refine DE.ind (W := fun tag d h i n r => ∀ a, r = .inl a → ((tag = 0 ∨ tag = 3 ∨ tag = 4) → i < a.2.1) ∧ i ≤ a.2.1) ?_ ?_ ?_ ?_ ?_ ?_ ?_ ?_ ?_ ?_ ?_ ?_ ?_ ?_ ?_ ?_ ?_ ?_ ?_ ?_ ?_ ?_ ?_ ?_ hd
  · intro d i n h1 a e; cases e
  · intro d i n h1 h2 a e; cases e
  · intro d i n h1 h2 hst a e; cases e; exact ⟨fun _ => Nat.lt_succ_self _, Nat.le_succ _⟩
  · intro d i n j n' h h1 h2 h3 hst ih a e
    cases e
    have q := ih _ rfl
    have q1 : i + 1 ≤ j := q.2
    exact ⟨fun _ => (by show i < j; omega), (by show i ≤ j; omega)⟩
  · intro d i n j h1 h2 h3 ih a e; cases e
  · intro d i n j n' h h1 h2 h3 h4 ih a e
    cases e
    have q1 : i + 1 ≤ j := (ih _ rfl).2
    exact ⟨fun _ => (by show i < j + 1; omega), (by show i ≤ j + 1; omega)⟩
  · intro d i n j n' h h1 h2 h3 h4 ih a e; cases e
  · intro d i n j h1 h2 h3 ih a e; cases e
  · intro d i n h1 h2 h3 a e; cases e
  · intro d i n j n' h h1 h2 h3 h4 h5 hst ih a e
    cases e
    have q1 : i + 1 + 1 ≤ j := (ih _ rfl).2
    exact ⟨fun _ => (by show i < j + 1; omega), (by show i ≤ j + 1; omega)⟩
  · intro d i n j n' h h1 h2 h3 h4 h5 ih a e; cases e
  · intro d i n j h1 h2 h3 h4 ih a e; cases e
  · intro d i n h h1 a e; cases e; exact ⟨fun z => by omega, Nat.le_refl _⟩
  · intro d i n h h1 h2 a e; cases e
  · intro d i n j h h1 h2 h3 ih a e; cases e
  · intro d i n j n' h h0 r h1 h2 h3 hst h4 ih3 ih4 a e
    have q1 : i + 1 ≤ j := (ih3 _ rfl).2
    have q2 := (ih4 a e).2
    exact ⟨fun z => by omega, by omega⟩
  · intro d i n h h1 a e; cases e; exact ⟨fun z => by omega, Nat.le_refl _⟩
  · intro d i n h h1 h2 a e; cases e
  · intro d i n j h h1 h2 h3 ih a e; cases e
  · intro d i n j n' h h0 r h1 h2 h3 hst h4 ih3 ih4 a e
    have q1 : i + 1 ≤ j := (ih3 _ rfl).2
    have q2 := (ih4 a e).2
    exact ⟨fun z => by omega, by omega⟩
  · intro d i n j n' h r h1 h2 ih1 ih2 a e
    have q1 : i < j := (ih1 _ rfl).1 (Or.inl rfl)
    have q2 := (ih2 a e).2
    exact ⟨fun _ => by omega, by omega⟩
  · intro d i n j h1 ih a e; cases e
  · intro d i n j n' h r h1 h2 ih1 ih2 a e
    have q1 : i < j := (ih1 _ rfl).1 (Or.inr (Or.inl rfl))
    have q2 := (ih2 a e).2
    exact ⟨fun _ => by omega, by omega⟩
  · intro d i n j h1 ih a e; cases e
section WLA
variable {I : IM} {J : JM} {R : RM} {a ci k t n : Nat} {ts : List Nat} {β : Type} {Q : β → Prop}
theorem wl_sIa {f : WW → Option β} {i x : Int32} (hl : LT a = some (.inl (t, n, 0))) (K : ∀ I', (∀ y j, (y ≠ a ∨ j ≠ i.toInt.toNat) → I' y j = I y j) → I' a i.toInt.toNat = x → 0 ≤ i.toInt ∧ i.toInt < n → wl (f (mk I' J R)) Q) : wl ((sI (mk I J R) a t i x).bind f) Q := wl_sI hl (fun hi => K _ (fun y j h => up2_ne _ _ h) up2_s hi)
theorem wl_pIa {f : WW → Option β} {x : Int32} (hl : LT a = some (.inr (ci, ts))) (hk : ts[k]? = some 0) (K : ∀ I', (∀ y j, (y ≠ a ∨ j ≠ k) → I' y j = I y j) → I' a k = x → wl (f (mk I' J R)) Q) : wl ((pv (mk I J R) a ci k (.int x)).bind f) Q := wl_pI hl hk (K _ (fun y j h => up2_ne _ _ h) up2_s)
end WLA
def LPr (P : PS → PR → Prop) (r1 r : PR) : Prop := (∃ j, r1 = .inr j ∧ r = .inr j) ∨ (∃ s, r1 = .inl s ∧ P s r)
theorem sq.lp {P1 P2 : PS → PR → Prop} {s : PS} {r : PR} (h : sq P1 P2 s r) : ∃ r1, P1 s r1 ∧ LPr P2 r1 r := by
  rcases h with ⟨j, a, rfl⟩ | ⟨j, a, b⟩
  · exact ⟨_, a, Or.inl ⟨j, rfl, rfl⟩⟩
  · exact ⟨_, a, Or.inr ⟨j, rfl, b⟩⟩
theorem LPr.sq {P1 P2 : PS → PR → Prop} {r0 r : PR} (h : LPr (sq P1 P2) r0 r) : ∃ r1, LPr P1 r0 r1 ∧ LPr P2 r1 r := by
  rcases h with ⟨j, rfl, rfl⟩ | ⟨i, rfl, h⟩
  · exact ⟨_, Or.inl ⟨j, rfl, rfl⟩, Or.inl ⟨j, rfl, rfl⟩⟩
  · obtain ⟨r1, a, b⟩ := h.lp
    exact ⟨r1, Or.inr ⟨i, rfl, a⟩, b⟩
theorem LPr.at {P : PS → PR → Prop} {s : PS} {r : PR} (h : P s r) : LPr P (.inl s) r := Or.inr ⟨s, rfl, h⟩
/-- a check leaves all as it is -/
theorem LPr.fd {P : RX} {y k : Nat} {r1 r : PR} (h : LPr (fdP P y k) r1 r) : r = r1 ∧ ∀ s, r1 = .inl s → (P.F y k).toInt = s.2 := by
  rcases h with ⟨j, rfl, rfl⟩ | ⟨s, rfl, h1, rfl⟩
  · exact ⟨rfl, fun s e => by cases e⟩
  · exact ⟨rfl, fun s' e => by cases e; exact h1⟩
/-- the cells that an EXPR's parsing keeps -/
def FC (H x j : Nat) : Prop := x < 373 ∨ (373 < x ∧ x < 390) ∨ (x = 390 ∧ j ≠ H) ∨ (391 ≤ x ∧ x ≤ 393 ∧ (j < 220 * H ∨ 220 * H + 220 ≤ j)) ∨ (393 < x ∧ x < 397) ∨ 400 < x ∨ (x = 373 ∧ (j < 4 ∨ (4 < j ∧ j < 28) ∨ j = 32 ∨ j = 33 ∨ (34 < j ∧ j < 42) ∨ 44 < j))
/-- these are kept, but for the rows from a up to b at s -/
def FQ (H s a b : Nat) (I I' : IM) : Prop := ∀ x j, FC H x j → (j ≠ s ∨ x < a ∨ b < x) → I' x j = I x j
theorem FQ.trans {H s a b : Nat} {I I' I'' : IM} (h : FQ H s a b I I') (h2 : FQ H s a b I' I'') : FQ H s a b I I'' := fun x j hx hs => (h2 x j hx hs).trans (h x j hx hs)
theorem FQ.wid {H s a b a' b' : Nat} {I I' : IM} (h : FQ H s a b I I') (ha : a' ≤ a := by omega) (hb : b ≤ b' := by omega) : FQ H s a' b' I I' := fun x j hx hs => h x j hx (by omega)
theorem FX9.fq {H s a b : Nat} {I I' : IM} (h : FX9 H I I') : FQ H s a b I I' := fun x j hx _ => h x j (by unfold FC at hx; exact hx)
theorem RDQ.fq {H s a b : Nat} {I I' : IM} (h : RDQ I I') : FQ H s a b I I' := fun x j hx _ => h x j (by unfold FC at hx; omega)
abbrev YC : Type := (Nat → Int32) × (Nat) × (Nat → Int32) × (Nat → Int32) × (Nat → Int32) × (RX) × (Nat) × (Nat) × (JM) × (RM) × ((Int32 × WW) → Prop)
abbrev YC.c (X : YC) : Nat → Int32 := X.1
abbrev YC.L (X : YC) : Nat := X.2.1
abbrev YC.K (X : YC) : Nat → Int32 := X.2.2.1
abbrev YC.B (X : YC) : Nat → Int32 := X.2.2.2.1
abbrev YC.M (X : YC) : Nat → Int32 := X.2.2.2.2.1
abbrev YC.P (X : YC) : RX := X.2.2.2.2.2.1
abbrev YC.p (X : YC) : Nat := X.2.2.2.2.2.2.1
abbrev YC.H (X : YC) : Nat := X.2.2.2.2.2.2.2.1
abbrev YC.J (X : YC) : JM := X.2.2.2.2.2.2.2.2.1
abbrev YC.R (X : YC) : RM := X.2.2.2.2.2.2.2.2.2.1
abbrev YC.Q (X : YC) : (Int32 × WW) → Prop := X.2.2.2.2.2.2.2.2.2.2
abbrev YC.X (Y : YC) : XC := ⟨Y.c, Y.L, Y.K, Y.B, Y.M, Y.P, Y.H, fun _ _ => 0, Y.J, Y.R, 0, fun _ => True⟩
abbrev YC.T (Y : YC) (r : PR) (I : IM) : Prop := STQ Y.c Y.L Y.K Y.B Y.M Y.P Y.H r I
theorem STQ.keep {c : Nat → Int32} {L : Nat} {K B M : Nat → Int32} {P : RX} {H : Nat} {r : PR} {I I' : IM} (h : STQ c L K B M P H r I) (e : ∀ x j, (x = 374 ∨ (390 ≤ x ∧ x ≤ 393) ∨ (x = 373 ∧ (j = 2 ∨ j = 4 ∨ (28 ≤ j ∧ j ≤ 31) ∨ j = 34))) → I' x j = I x j) : STQ c L K B M P H r I' := by
  cases r with
  | inl s =>
    have h' : QS c L K B M s.1 I ∧ (I 390 H).toInt = s.2 ∧ RLS P H s.2 I ∧ s.2 ≤ s.1 := h
    obtain ⟨h1, h2, h3, h4⟩ := h'
    exact (show _ ∧ _ from ⟨h1.keep (fun x j hx => e x j (by omega)), by rw [e _ _ (by omega)]; exact h2, h3.same (fun x k a b _ => e x _ (by omega)), h4⟩)
  | inr j =>
    have h' : (I 373 34).toInt ≠ 0 ∧ I 373 4 = B j := h
    show (I' 373 34).toInt ≠ 0 ∧ I' 373 4 = B j
    rw [e 373 34 (by omega), e 373 4 (by omega)]
    exact h'
section QST
variable {Y : YC} {I I' : IM} {i n s a b : Nat} {r r1 : PR}
theorem YC.q (h : Y.T (.inl (i, n)) I) : QS Y.c Y.L Y.K Y.B Y.M i I ∧ (I 390 Y.H).toInt = n ∧ RLS Y.P Y.H n I ∧ n ≤ i := h
/-- the reference reads on, with no step more -/
theorem s_next (hR : QR Y.R) (hL2 : Y.L ≤ 200) (hs : Y.T (.inl (i, n)) I) (h0 : (Y.K i).toInt ≠ 0) (h1 : (Y.K i).toInt ≠ -1) {Q : WW → Prop} (k : ∀ I', RDQ I I' → Y.T (.inl (i + 1, n)) I' → Q (mk I' Y.J Y.R)) : wl (f_q_read 373 (mk I Y.J Y.R)) Q := by
  obtain ⟨q1, q2, q3, q4⟩ := YC.q hs
  refine x_next (X := Y.X) hR hL2 q1 h0 h1 (fun I' e h' => k I' e (show _ ∧ _ from ⟨h', ?_, ?_, ?_⟩))
  · show (I' 390 Y.H).toInt = n
    rw [e _ _ (by omega)]; exact q2
  · exact q3.same (fun x k _ _ _ => e x _ (by omega))
  · show n ≤ i + 1
    omega
theorem s_expect (hR : QR Y.R) (hL2 : Y.L ≤ 200) {t : Int32} (ha : SGN t.toInt) (hs : Y.T r1 I) (hP : LPr (tkP Y.K t) r1 r) {Q : WW → Prop} (k : ∀ I', FQ Y.H s a b I I' → Y.T r I' → Q (mk I' Y.J Y.R)) : wl (f_q_expect 373 t (mk I Y.J Y.R)) Q := by
  unfold f_q_expect f_q_expect_27
  rcases hP with ⟨j, rfl, rfl⟩ | ⟨⟨i, n⟩, rfl, hP⟩
  · have hs' : (I 373 34).toInt ≠ 0 ∧ I 373 4 = Y.B j := hs
    refine wl_kb (wl_gI rfl rfl rfl ?_)
    rw [if_neg (fun z => hs'.1 (by rw [z, l32_0]))]
    exact wl_some (k I (fun _ _ _ _ => rfl) hs)
  · obtain ⟨hs', _, _, _⟩ := YC.q hs
    refine wl_kb (wl_gI rfl rfl rfl ?_)
    rw [if_pos (i32eq.mpr (by rw [hs'.2.1, l32_0]))]
    refine wl_bd2 (x_isK (X := Y.X) hs' ha (fun z => ?_) (fun z => ?_))
    · dsimp only
      rw [if_neg (by decide)]
      rcases hP with ⟨_, rfl⟩ | ⟨y, _⟩
      · have z' : Y.K i = t := z
        have k0 : (Y.K i).toInt ≠ 0 ∧ (Y.K i).toInt ≠ -1 := by rw [z']; unfold SGN at ha; omega
        exact wl_bd (s_next hR hL2 hs k0.1 k0.2 (fun I2 e2 h2 => wl_some (k I2 e2.fq h2)))
      · exact absurd z y
    · dsimp only
      rw [if_pos rfl]
      rcases hP with ⟨y, _⟩ | ⟨_, rfl⟩
      · exact absurd y z
      · exact wl_bd (x_wrong (X := Y.X) hs' (fun I2 e2 w1 w2 => wl_some (k I2 (fun x j hx _ => e2 x j (by unfold FC at hx; omega)) (show _ ∧ _ from ⟨by omega, w2⟩))))
theorem s_expr (hR : QR Y.R) (hH : Y.H ≤ 1) (hL2 : Y.L ≤ 200) (hs : Y.T r1 I) (h32 : (I 373 32).toInt = Y.H) (hP : LPr (exP Y.P Y.K Y.B Y.M) r1 r) {Q : (Int32 × WW) → Prop} (k : ∀ (v : Int32) (I' : IM), (∀ s, r1 = .inl s → v.toInt = ((220 * Y.H + s.2 : Nat) : Int)) → FX9 Y.H I I' → Y.T r I' → Q (v, mk I' Y.J Y.R)) : wl (f_q_expression 373 (mk I Y.J Y.R)) Q := by
  rcases hP with ⟨j, rfl, rfl⟩ | ⟨s1, rfl, hP⟩
  · have hs' : (I 373 34).toInt ≠ 0 ∧ I 373 4 = Y.B j := hs
    exact z_exprb hR hs'.1 (fun v I2 e2 a b => k v I2 (fun s e => by cases e) e2 (show _ ∧ _ from ⟨by rw [a]; exact hs'.1, by rw [b]; exact hs'.2⟩))
  · exact z_expr hR hH hL2 hs h32 hP (fun v I' hv e h' => k v I' (fun s e => by cases e; exact hv) e h')
/-- an EXPR, and where its steps begin and end, kept for a STATEMENT -/
theorem s_exm (hR : QR Y.R) (hH : Y.H ≤ 1) (hL2 : Y.L ≤ 200) {ra rb kf : Nat} (hra : (ra = 379 ∧ rb = 380) ∨ (ra = 381 ∧ rb = 382)) (la : LT ra = some (.inl (0, 160, 0))) (lb : LT rb = some (.inl (0, 160, 0))) (hk : ∀ (I' : IM) {β : Type} {Q : β → Prop} {f : Nat → Option β}, wl (f rb) Q → wl ((gN (mk I' Y.J Y.R) 373 9 kf).bind f) Q) (hs : Y.T r1 I) (h32 : (I 373 32).toInt = Y.H) (hP : LPr (exP Y.P Y.K Y.B Y.M) r1 r) {ss : Int32} (hss : ss.toInt = s) {γ : Type} {F : WW → Option γ} {Q : γ → Prop} (k : ∀ I', FQ Y.H s ra rb I I' → Y.T r I' → (∀ q, r1 = .inl q → (I' ra s).toInt = ((220 * Y.H + q.2 : Nat) : Int)) → (∀ q, r = .inl q → (I' rb s).toInt = ((220 * Y.H + q.2 : Nat) : Int)) → wl (F (mk I' Y.J Y.R)) Q) : wl (bd2 (f_q_expression 373 (mk I Y.J Y.R)) fun x8 w7 => (sI w7 ra 0 ss x8).bind fun w9 => (gN w9 373 9 kf).bind fun x10 => (gI w9 373 9 32).bind fun x11 => (gN w9 373 9 23).bind fun x12 => (gI w9 373 9 32).bind fun x13 => (rI w9 x12 0 x13).bind fun x14 => (sI w9 x10 0 ss (((220 : Int32) * x11) + x14)).bind F) Q := by
  refine wl_bd2 (s_expr hR hH hL2 hs h32 hP (fun v I2 hv e2 h2 => ?_))
  dsimp only
  refine wl_sIa la (fun I3 e3 f3 _ => hk I3 (wl_gI rfl rfl rfl (wq_23 hR (wl_gI rfl rfl rfl (wl_rI (n := 2) rfl (fun _ => wl_sIa lb (fun I4 e4 f4 _ => ?_)))))))
  rw [tnat hss] at e3 f3 e4 f4
  have e34 : ∀ x j, (x ≠ ra ∨ j ≠ s) → (x ≠ rb ∨ j ≠ s) → I4 x j = I2 x j := fun x j a b => by rw [e4 x j b, e3 x j a]
  have g32 : (I3 373 32).toInt = Y.H := by rw [e3 _ _ (by omega), e2 _ _ (by omega)]; exact h32
  refine k I4 (fun x j hx hj => ?_) (h2.keep (fun x j hx => e34 x j (by omega) (by omega))) (fun q hq => ?_) (fun q hq => ?_)
  · rw [e34 x j (by omega) (by omega)]
    exact e2 x j hx
  · rw [e4 _ _ (by omega), f3]; exact hv q hq
  · subst hq
    have h2' : QS Y.c Y.L Y.K Y.B Y.M q.1 I2 ∧ (I2 390 Y.H).toInt = q.2 ∧ RLS Y.P Y.H q.2 I2 ∧ q.2 ≤ q.1 := h2
    obtain ⟨q1, q2, q3, q4⟩ := h2'
    have ql := q1.le
    have m1 := m32_220 (x := I3 373 32) (by omega)
    rw [f4, tnat g32, e3 390 Y.H (by omega), i32addc (by rw [m1, g32, q2]; omega), m1, g32, q2]
    omega
/-- the parse goes on, or a fault stands; at the depth d, with c STATEMENTS -/
def PT (Y : YC) (d c : Nat) (r : PR) (I : IM) : Prop := Y.T r I ∧ (I 373 33).toInt = d ∧ d ≤ 3 ∧ (I 373 32).toInt = Y.H ∧ (I 389 Y.H).toInt = c
theorem PT.fq {d c : Nat} {r r' : PR} (h : PT Y d c r I) (e : FQ Y.H s a b I I') (ha : 376 ≤ a := by omega) (hb : b ≤ 387 := by omega) (h' : Y.T r' I') : PT Y d c r' I' := by
  obtain ⟨_, h2, h3, h4, h5⟩ := h
  exact ⟨h', by rw [e _ _ (by unfold FC; omega) (by omega)]; exact h2, h3, by rw [e _ _ (by unfold FC; omega) (by omega)]; exact h4, by rw [e _ _ (by unfold FC; omega) (by omega)]; exact h5⟩
/-- where a STATEMENT's parsing stands -/
def PQ (Y : YC) (i d c n : Nat) (I : IM) : Prop := PT Y d c (.inl (i, n)) I ∧ 4 * c ≤ i
/-- the link that the next STATEMENT is put into -/
def SLT (Y : YC) (d : Nat) (I : IM) (row idx : Nat) : Prop := (row = 386 ∧ (I 396 d).toInt = idx) ∨ ((I 396 d).toInt < 0 ∧ ((d = 0 ∧ row = 388 ∧ idx = Y.H) ∨ (d ≠ 0 ∧ I 395 d = 0 ∧ row = 384 ∧ (I 394 d).toInt = idx) ∨ (d ≠ 0 ∧ ¬ I 395 d = 0 ∧ row = 385 ∧ (I 394 d).toInt = idx)))
/-- what the beginning of the STATEMENT s keeps -/
def FB (H d s row idx : Nat) (I I' : IM) : Prop := ∀ x j, FC H x j → (x ≠ 389 ∨ j ≠ H) → (x ≠ 396 ∨ j ≠ d) → (x ≠ row ∨ j ≠ idx) → (j ≠ s ∨ x < 376 ∨ 387 < x) → I' x j = I x j
theorem s_stmt (hR : QR Y.R) (hL2 : Y.L ≤ 200) (hH : Y.H ≤ 1) {d c row idx : Nat} (hp : PQ Y i d c n I) (hsl : SLT Y d I row idx) (hlt : row = 388 ∨ idx < 80 * Y.H + c) (h0 : (Y.K i).toInt ≠ 0) (h1 : (Y.K i).toInt ≠ -1) {a1 : Int32} {Q : (Int32 × WW) → Prop} (k : ∀ (ss : Int32) (I' : IM), ss.toInt = ((80 * Y.H + c : Nat) : Int) → FB Y.H d (80 * Y.H + c) row idx I I' → I' 376 (80 * Y.H + c) = a1 → VM Y.K Y.M i (I' 377 (80 * Y.H + c)) → I' 378 (80 * Y.H + c) = Y.B i → (I' 386 (80 * Y.H + c)).toInt = -1 → I' 387 (80 * Y.H + c) = 0 → I' row idx = ss → I' 396 d = ss → PT Y d (c + 1) (.inl (i + 1, n)) I' → Q (ss, mk I' Y.J Y.R)) : wl (f_q_statement 373 a1 (mk I Y.J Y.R)) Q := by
  obtain ⟨⟨hT, h33, hn3, h32, h389⟩, h4⟩ := hp
  obtain ⟨hs, h390, hrl, hni⟩ := YC.q hT
  have hi := hs.le
  have m80 := m32_80 (x := I 373 32) (by omega)
  have b9 := i32b (I 389 Y.H)
  have sv : ((80 : Int32) * I 373 32 + I 389 Y.H).toInt = ((80 * Y.H + c : Nat) : Int) := by rw [i32addc (by rw [m80, h32, h389]; omega), m80, h32, h389]; omega
  unfold f_q_statement
  refine wl_kb (wl_gI rfl rfl rfl (wq_22 hR (wl_gI rfl rfl rfl (wl_rI (n := 2) rfl (fun _ => wq_22 hR (wl_gI rfl rfl rfl (wl_rI (n := 2) rfl (fun _ => wl_sIa (n := 2) rfl (fun I1 e1 f1 _ => wq_9 hR (wl_sIa (n := 160) rfl (fun I2 e2 f2 hb => ?_)))))))))))
  rw [tnat h32] at e1 f1 hb e2 f2 ⊢
  generalize (80 : Int32) * I 373 32 + I 389 Y.H = ss at sv hb e2 f2 ⊢
  have sn : ss.toInt.toNat = 80 * Y.H + c := tnat sv
  rw [sn] at e2 f2
  have f1' : (I1 389 Y.H).toInt = ((c + 1 : Nat) : Int) := by rw [f1, i32addc (by rw [h389, l32_1]; omega), h389, l32_1]; omega
  refine wq_19 hR (wl_sIa (n := 160) rfl (fun I3 e3 f3 _ => wq_20 hR (wl_sIa (n := 160) rfl (fun I4 e4 f4 _ => wq_11 hR (wl_gI rfl rfl rfl (wl_sIa (n := 160) rfl (fun I5 e5 f5 _ => wq_10 hR (wl_gI rfl rfl rfl (wl_sIa (n := 160) rfl (fun I6 e6 f6 _ => wq_37 hR (wl_gI rfl rfl rfl (wl_rI (n := 8) rfl (fun _ => ?_)))))))))))))
  rw [sn] at e3 f3 e4 f4 e5 f5 e6 f6
  have g6 : ∀ x j, (x ≠ 389 ∨ j ≠ Y.H) → (j ≠ 80 * Y.H + c ∨ (x ≠ 376 ∧ x ≠ 386 ∧ x ≠ 387 ∧ x ≠ 378 ∧ x ≠ 377)) → I6 x j = I x j := fun x j a b => by rw [e6 x j (by omega), e5 x j (by omega), e4 x j (by omega), e3 x j (by omega), e2 x j (by omega), e1 x j (by omega)]
  have k376 : I6 376 (80 * Y.H + c) = a1 := by rw [e6 _ _ (by omega), e5 _ _ (by omega), e4 _ _ (by omega), e3 _ _ (by omega)]; exact f2
  have k386 : I6 386 (80 * Y.H + c) = -1 := by rw [e6 _ _ (by omega), e5 _ _ (by omega), e4 _ _ (by omega)]; exact f3
  have k387 : I6 387 (80 * Y.H + c) = 0 := by rw [e6 _ _ (by omega), e5 _ _ (by omega), f4]; rfl
  have k378 : I6 378 (80 * Y.H + c) = Y.B i := by rw [e6 _ _ (by omega), f5, e4 _ _ (by omega), e3 _ _ (by omega), e2 _ _ (by omega), e1 _ _ (by omega)]; exact hs.2.2.2.1
  have k377 : I6 377 (80 * Y.H + c) = I 373 31 := by rw [f6, e5 _ _ (by omega), e4 _ _ (by omega), e3 _ _ (by omega), e2 _ _ (by omega), e1 _ _ (by omega)]
  have k389 : (I6 389 Y.H).toInt = ((c + 1 : Nat) : Int) := by rw [e6 _ _ (by omega), e5 _ _ (by omega), e4 _ _ (by omega), e3 _ _ (by omega), e2 _ _ (by omega)]; exact f1'
  have g33 : (I6 373 33).toInt = d := by rw [g6 _ _ (by omega) (by omega)]; exact h33
  have g396 : I6 396 d = I 396 d := g6 _ _ (by omega) (by omega)
  rw [tnat g33, g396]
  have hrow : row = 386 ∨ row = 388 ∨ row = 384 ∨ row = 385 := by
    rcases hsl with ⟨z, _⟩ | ⟨_, ⟨_, z, _⟩ | ⟨_, _, z, _⟩ | ⟨_, _, z, _⟩⟩ <;> omega
  have tail : ∀ I7 : IM, (∀ x j, (x ≠ row ∨ j ≠ idx) → I7 x j = I6 x j) → I7 row idx = ss → wl (f_q_statement_167 373 ss (mk I7 Y.J Y.R)) Q := by
    intro I7 e7 f7
    unfold f_q_statement_167
    refine wq_37 hR (wl_gI rfl rfl rfl (wl_sIa (n := 8) rfl (fun I8 e8 f8 _ => ?_)))
    have g33' : (I7 373 33).toInt = d := by rw [e7 _ _ (by omega)]; exact g33
    rw [tnat g33'] at e8 f8
    have hT8 : Y.T (.inl (i, n)) I8 := hT.keep (fun x j hx => by rw [e8 x j (by omega), e7 x j (by omega), g6 x j (by omega) (by omega)])
    refine wl_bd (s_next hR hL2 hT8 h0 h1 (fun I9 e9 h9 => wl_some (k ss I9 sv (fun x j hx a1 a2 a3 a4 => ?_) ?_ ?_ ?_ ?_ ?_ ?_ ?_ ⟨h9, ?_, hn3, ?_, ?_⟩)))
    · rw [e9 x j (by unfold FC at hx; omega), e8 x j (by omega), e7 x j (by omega), g6 x j a1 (by omega)]
    · rw [e9 _ _ (by omega), e8 _ _ (by omega), e7 _ _ (by omega)]; exact k376
    · rw [e9 _ _ (by omega), e8 _ _ (by omega), e7 _ _ (by omega), k377]; exact hs.2.2.2.2.2.1
    · rw [e9 _ _ (by omega), e8 _ _ (by omega), e7 _ _ (by omega)]; exact k378
    · rw [e9 _ _ (by omega), e8 _ _ (by omega), e7 _ _ (by omega), k386]; rfl
    · rw [e9 _ _ (by omega), e8 _ _ (by omega), e7 _ _ (by omega)]; exact k387
    · rw [e9 _ _ (by omega), e8 _ _ (by omega)]; exact f7
    · rw [e9 _ _ (by omega)]; exact f8
    · rw [e9 _ _ (by omega), e8 _ _ (by omega), e7 _ _ (by omega)]; exact g33
    · rw [e9 _ _ (by omega), e8 _ _ (by omega), e7 _ _ (by omega), g6 _ _ (by omega) (by omega)]; exact h32
    · rw [e9 _ _ (by omega), e8 _ _ (by omega), e7 _ _ (by omega)]; exact k389
  rcases hsl with ⟨rfl, h6⟩ | ⟨h6, hsl⟩
  · rw [if_neg (by rw [i32lt, l32_0, h6]; omega)]
    refine wq_19 hR (wq_37 hR (wl_gI rfl rfl rfl (wl_rI (n := 8) rfl (fun _ => ?_))))
    rw [tnat g33, g396]
    refine wl_sIa (n := 160) rfl (fun I7 e7 f7 _ => ?_)
    rw [tnat h6] at e7 f7
    exact tail I7 e7 f7
  · rw [if_pos (by rw [i32lt, l32_0]; exact h6)]
    refine wl_gI rfl rfl rfl ?_
    rcases hsl with ⟨d0, rfl, rfl⟩ | ⟨d0, h5, rfl, h7⟩ | ⟨d0, h5, rfl, h7⟩
    · rw [if_pos (i32eq.mpr (by rw [g33, l32_0]; omega))]
      refine wq_21 hR (wl_gI rfl rfl rfl (wl_sIa (n := 2) rfl (fun I7 e7 f7 _ => ?_)))
      rw [g6 373 32 (by omega) (by omega), tnat h32] at e7 f7
      exact tail I7 e7 f7
    · rw [if_neg (fun z => by rw [i32eq, g33, l32_0] at z; omega)]
      refine wq_36 hR (wl_gI rfl rfl rfl (wl_rI (n := 8) rfl (fun _ => ?_)))
      rw [tnat g33, g6 395 d (by omega) (by omega), if_pos h5]
      refine wq_17 hR (wq_35 hR (wl_gI rfl rfl rfl (wl_rI (n := 8) rfl (fun _ => ?_))))
      rw [tnat g33, g6 394 d (by omega) (by omega)]
      refine wl_sIa (n := 160) rfl (fun I7 e7 f7 _ => ?_)
      rw [tnat h7] at e7 f7
      exact tail I7 e7 f7
    · rw [if_neg (fun z => by rw [i32eq, g33, l32_0] at z; omega)]
      refine wq_36 hR (wl_gI rfl rfl rfl (wl_rI (n := 8) rfl (fun _ => ?_)))
      rw [tnat g33, g6 395 d (by omega) (by omega), if_neg h5]
      refine wq_18 hR (wq_35 hR (wl_gI rfl rfl rfl (wl_rI (n := 8) rfl (fun _ => ?_))))
      rw [tnat g33, g6 394 d (by omega) (by omega)]
      refine wl_sIa (n := 160) rfl (fun I7 e7 f7 _ => ?_)
      rw [tnat h7] at e7 f7
      exact tail I7 e7 f7
def ckd (k : Int32) : Int32 := if k = 2 then 0 else if k = 8 then 1 else if k = 3 then 2 else if k = 4 then 3 else if k = 6 then 4 else 5
def csg (k : Int32) : Int32 := if k = 256 then 0 else if k = 257 then 1 else if k = 60 then 2 else 3
/-- steps from n0 to n1 are the STATEMENT's first EXPR, from n1 to n2 its second -/
def TWO (P : RX) (y H s : Nat) (I : IM) : Prop := ∃ n0 n1 n2 : Nat, (n0 ≤ n1 ∧ n1 ≤ n2 ∧ n2 ≤ 200) ∧ (P.F y 3).toInt = n0 ∧ (P.F y 4).toInt = n1 ∧ (P.F y 5).toInt = n2 ∧ (I 379 s).toInt = ((220 * H + n0 : Nat) : Int) ∧ (I 380 s).toInt = ((220 * H + n1 : Nat) : Int) ∧ (I 381 s).toInt = ((220 * H + n1 : Nat) : Int) ∧ (I 382 s).toInt = ((220 * H + n2 : Nat) : Int)
/-- the reference's record s is the STATEMENT y, its links aside -/
def RECF (P : RX) (y H s : Nat) (I : IM) : Prop := I 376 s = ckd (P.F y 0) ∧ I 378 s = P.F y 1 ∧ ((P.F y 0 = 8 ∧ P.F y 2 = I 377 s) ∨ (P.F y 0 = 2 ∧ P.F y 2 = I 377 s ∧ ∃ n0 n1 : Nat, (n0 ≤ n1 ∧ n1 ≤ 200) ∧ (P.F y 3).toInt = n0 ∧ (P.F y 5).toInt = n1 ∧ (I 379 s).toInt = ((220 * H + n0 : Nat) : Int) ∧ (I 380 s).toInt = ((220 * H + n1 : Nat) : Int)) ∨ (P.F y 0 = 3 ∧ P.F y 2 = (4 : Int32) * I 377 s ∧ TWO P y H s I) ∨ ((P.F y 0 = 4 ∨ P.F y 0 = 6 ∨ P.F y 0 = 7) ∧ isCm (P.F y 6) ∧ I 383 s = csg (P.F y 6) ∧ TWO P y H s I))
theorem RECF.keep {P : RX} {y H s : Nat} {I I' : IM} (h : RECF P y H s I) (e : ∀ x, 376 ≤ x → x ≤ 383 → I' x s = I x s) : RECF P y H s I' := by
  unfold RECF TWO at h ⊢
  rw [e 376 (by omega) (by omega), e 377 (by omega) (by omega), e 378 (by omega) (by omega), e 379 (by omega) (by omega), e 380 (by omega) (by omega), e 381 (by omega) (by omega), e 382 (by omega) (by omega), e 383 (by omega) (by omega)]
  exact h
/-- behind the beginning of the STATEMENT c -/
def SB (Y : YC) (d c row idx : Nat) (I : IM) (r : PR) (I' : IM) : Prop := FB Y.H d (80 * Y.H + c) row idx I I' ∧ (I' row idx).toInt = ((80 * Y.H + c : Nat) : Int) ∧ (I' 396 d).toInt = ((80 * Y.H + c : Nat) : Int) ∧ (I' 386 (80 * Y.H + c)).toInt = -1 ∧ I' 387 (80 * Y.H + c) = 0 ∧ PT Y d (c + 1) r I' ∧ (row = 384 ∨ row = 385 ∨ row = 386 ∨ row = 388)
theorem SB.fq {d c row idx : Nat} {I2 : IM} {r' : PR} (h : SB Y d c row idx I r I') (e : FQ Y.H (80 * Y.H + c) a b I' I2) (h' : Y.T r' I2) (ha : 376 ≤ a := by omega) (hb : b ≤ 383 := by omega) : SB Y d c row idx I r' I2 := by
  obtain ⟨h1, h2, h3, h4, h5, h6, h7⟩ := h
  refine ⟨fun x j hx a1 a2 a3 a4 => ?_, ?_, ?_, ?_, ?_, PT.fq h6 e ha (by omega) h', h7⟩
  · rw [e x j hx (by omega)]; exact h1 x j hx a1 a2 a3 a4
  · rw [e row idx (by unfold FC; omega) (by omega)]; exact h2
  · rw [e _ _ (by unfold FC; omega) (by omega)]; exact h3
  · rw [e _ _ (by unfold FC; omega) (by omega)]; exact h4
  · rw [e _ _ (by unfold FC; omega) (by omega)]; exact h5
theorem SLT.row {d row idx : Nat} (h : SLT Y d I row idx) : row = 384 ∨ row = 385 ∨ row = 386 ∨ row = 388 := by
  rcases h with ⟨z, _⟩ | ⟨_, ⟨_, z, _⟩ | ⟨_, _, z, _⟩ | ⟨_, _, z, _⟩⟩ <;> omega
theorem YC.n200 (hL2 : Y.L ≤ 200) {q : PS} (h : Y.T (.inl q) I) : q.2 ≤ 200 := by
  obtain ⟨i, n⟩ := q
  obtain ⟨h1, _, _, h4⟩ := YC.q h
  have := h1.le
  show n ≤ 200
  omega
/-- steps never go back -/
theorem exP.le {P : RX} {K B M : Nat → Int32} {s1 q : PS} (h : exP P K B M s1 (.inl q)) : s1.1 < q.1 := by
  rcases h with ⟨h, j, n', hD, e⟩ | ⟨j, _, e⟩
  · cases e
    exact (hD.pr _ rfl).1 (Or.inr (Or.inr rfl))
  · cases e
theorem s_asg (hR : QR Y.R) (hL2 : Y.L ≤ 200) (hH : Y.H ≤ 1) {d c row idx : Nat} (hp : PQ Y i d c n I) (hsl : SLT Y d I row idx) (hlt : row = 388 ∨ idx < 80 * Y.H + c) (hk : Y.K i = 2) (hP : asP Y.P Y.K Y.B Y.M (Y.p + 2 + c) (i + 1, n) r) (hF : ∀ q, r = .inl q → Y.P.F (Y.p + 2 + c) 1 = Y.B i ∧ Y.P.F (Y.p + 2 + c) 2 = Y.M i) (hmn : ∀ a b, exP Y.P Y.K Y.B Y.M a (.inl b) → a.2 ≤ b.2) {Q : WW → Prop} (k : ∀ I', SB Y d c row idx I r I' → (∀ q, r = .inl q → RECF Y.P (Y.p + 2 + c) Y.H (80 * Y.H + c) I') → Q (mk I' Y.J Y.R)) : wl (f_q_assignment 373 (mk I Y.J Y.R)) Q := by
  obtain ⟨r1, p1, p2⟩ := sq.lp hP
  have hrow := hsl.row
  unfold f_q_assignment
  refine wl_kb (wl_bd2 (s_stmt hR hL2 hH hp hsl hlt (by rw [hk]; decide) (by rw [hk]; decide) (fun ss I1 sv e1 k376 k377 k378 k386 k387 kr k396 pt1 => ?_)))
  dsimp only
  have sb1 : SB Y d c row idx I (.inl (i + 1, n)) I1 := ⟨e1, by rw [kr]; exact sv, by rw [k396]; exact sv, k386, k387, pt1, hrow⟩
  refine wl_bd (s_expect hR hL2 (s := 80 * Y.H + c) (a := 379) (b := 383) sg_61 pt1.1 (LPr.at p1) (fun I2 e2 h2 => ?_))
  have sb2 := sb1.fq e2 h2
  have v2 : ∀ x, 376 ≤ x → x ≤ 378 → I2 x (80 * Y.H + c) = I1 x (80 * Y.H + c) := fun x a b => e2 x _ (by unfold FC; omega) (by omega)
  have tg : I1 377 (80 * Y.H + c) = Y.M i := k377.1 (Or.inr hk)
  have h49 : LPr (sq (fdP Y.P (Y.p + 2 + c) 3) (sq (exP Y.P Y.K Y.B Y.M) (sq (fdP Y.P (Y.p + 2 + c) 5) (tkP Y.K 59)))) r1 r → (∀ q, r = .inl q → Y.P.F (Y.p + 2 + c) 0 = 2) → wl (f_q_assignment_49 373 ss (mk I2 Y.J Y.R)) Q := by
    intro hq h0
    obtain ⟨r2, a1, b1⟩ := hq.sq
    obtain ⟨r3, a2, b2⟩ := b1.sq
    obtain ⟨r4, a3, a4⟩ := b2.sq
    obtain ⟨z1, f3⟩ := a1.fd
    obtain ⟨z3, f5⟩ := a3.fd
    replace z1 := z1.symm
    replace z3 := z3.symm
    subst z1
    subst z3
    unfold f_q_assignment_49 f_q_assignment_83
    refine wq_12 hR (s_exm hR hH hL2 (Or.inl ⟨rfl, rfl⟩) rfl rfl (fun I' => by intro _ _ _ h; exact wq_13 hR h) h2 sb2.2.2.2.2.2.1.2.2.2.1 a2 sv (fun I3 e3 h3 x1 x2 => ?_))
    have sb3 := sb2.fq (e3.wid (a' := 379) (b' := 383)) h3
    refine wl_bd (s_expect hR hL2 (s := 80 * Y.H + c) (a := 384) (b := 383) sg_59 h3 a4 (fun I4 e4 h4 => wl_some (k I4 (sb3.fq (e4.wid (a' := 379) (b' := 383)) h4) (fun q hr => ?_))))
    obtain ⟨q1, hq1⟩ : ∃ q1, r3 = .inl q1 := by
      rcases a4 with ⟨j, _, e⟩ | ⟨q1, e, _⟩
      · rw [hr] at e; cases e
      · exact ⟨q1, e⟩
    obtain ⟨q0, hq0⟩ : ∃ q0, r1 = .inl q0 := by
      rcases a2 with ⟨j, _, e⟩ | ⟨q0, e, _⟩
      · rw [hq1] at e; cases e
      · exact ⟨q0, e⟩
    have hex : exP Y.P Y.K Y.B Y.M q0 (.inl q1) := by
      rcases a2 with ⟨j, e, _⟩ | ⟨q0', e, h⟩
      · rw [hq0] at e; cases e
      · rw [hq0] at e; cases e; rw [hq1] at h; exact h
    have n1 : q1.2 ≤ 200 := YC.n200 hL2 (by rw [← hq1]; exact h3)
    have w4 : ∀ x, 376 ≤ x → x ≤ 383 → I4 x (80 * Y.H + c) = I3 x (80 * Y.H + c) := fun x a b => e4 x _ (by unfold FC; omega) (by omega)
    have w3 : ∀ x, 376 ≤ x → x ≤ 378 → I3 x (80 * Y.H + c) = I2 x (80 * Y.H + c) := fun x a b => e3 x _ (by unfold FC; omega) (by omega)
    have F0 := h0 q hr
    refine ⟨?_, ?_, Or.inr (Or.inl ⟨F0, ?_, q0.2, q1.2, ⟨hmn _ _ hex, n1⟩, f3 q0 hq0, f5 q1 hq1, ?_, ?_⟩)⟩
    · rw [w4 _ (by omega) (by omega), w3 _ (by omega) (by omega), v2 _ (by omega) (by omega), k376, F0]; decide
    · rw [w4 _ (by omega) (by omega), w3 _ (by omega) (by omega), v2 _ (by omega) (by omega), k378, (hF q hr).1]
    · rw [w4 _ (by omega) (by omega), w3 _ (by omega) (by omega), v2 _ (by omega) (by omega), tg, (hF q hr).2]
    · rw [w4 _ (by omega) (by omega)]; exact x1 q0 hq0
    · rw [w4 _ (by omega) (by omega)]; exact x2 q1 hq1
  rcases p2 with ⟨j, rfl, rfl⟩ | ⟨⟨i2, n2⟩, rfl, p2⟩
  · have hb : (I2 373 34).toInt ≠ 0 ∧ I2 373 4 = Y.B j := h2
    refine wl_gI rfl rfl rfl ?_
    rw [if_neg (fun z => hb.1 (by rw [z, l32_0]))]
    exact h49 (Or.inl ⟨j, rfl, rfl⟩) (fun q e => by cases e)
  · obtain ⟨hs2, _, _, _⟩ := YC.q h2
    have hc := hs2.2.2.2.2.1
    unfold COR at hc
    refine wl_gI rfl rfl rfl ?_
    rw [if_pos (i32eq.mpr (by rw [hs2.2.1, l32_0]))]
    rcases p2 with ⟨z8, f0, p2⟩ | ⟨z8, f0, p2⟩
    · have z8' : Y.K i2 = 8 := z8
      have k8 : (Y.K i2).toInt = 8 := by rw [z8']; exact l32_8
      refine wl_gI rfl rfl rfl ?_
      rw [if_pos (i32eq.mpr (by rw [l32_4]; omega))]
      refine wl_gI rfl rfl rfl ?_
      rw [if_pos (i32eq.mpr (by rw [l32_4]; omega))]
      refine wq_9 hR (wl_sIa (n := 160) rfl (fun I3 e3 f3 _ => ?_))
      rw [tnat sv] at e3 f3
      have h3 : Y.T (.inl (i2, n2)) I3 := h2.keep (fun x j hx => e3 x j (by omega))
      refine wl_bd (s_next hR hL2 h3 (by omega) (by omega) (fun I4 e4 h4 => ?_))
      unfold f_q_assignment_83
      have fr : FQ Y.H (80 * Y.H + c) 376 376 I2 I4 := fun x j hx hj => by rw [e4 x j (by unfold FC at hx; omega), e3 x j (by omega)]
      have sb4 := sb2.fq fr h4
      refine wl_bd (s_expect hR hL2 (s := 80 * Y.H + c) (a := 384) (b := 383) sg_59 h4 (LPr.at p2) (fun I5 e5 h5 => wl_some (k I5 (sb4.fq (e5.wid (a' := 379) (b' := 383)) h5) (fun q hr => ?_))))
      have w5 : ∀ x, 376 ≤ x → x ≤ 383 → I5 x (80 * Y.H + c) = I4 x (80 * Y.H + c) := fun x a b => e5 x _ (by unfold FC; omega) (by omega)
      refine ⟨?_, ?_, Or.inl ⟨f0, ?_⟩⟩
      · rw [w5 _ (by omega) (by omega), e4 _ _ (by omega), f3, f0]; decide
      · rw [w5 _ (by omega) (by omega), fr _ _ (by unfold FC; omega) (by omega), v2 _ (by omega) (by omega), k378, (hF q hr).1]
      · rw [w5 _ (by omega) (by omega), fr _ _ (by unfold FC; omega) (by omega), v2 _ (by omega) (by omega), tg, (hF q hr).2]
    · have k8 : (Y.K i2).toInt ≠ 8 := fun w => z8 (i32eq.mpr (by rw [l32_8]; exact w))
      have go := h49 (LPr.at p2) (fun _ _ => f0)
      refine wl_gI rfl rfl rfl (wl_ite (fun z4 => wl_gI rfl rfl rfl (wl_ite (fun z5 => ?_) (fun z5 => go))) (fun z4 => go))
      exfalso
      rw [i32eq, l32_4] at z4 z5
      omega
/-- two EXPRS' steps, told from what both sides have kept -/
theorem two_of {y s n0 n1 n2 : Nat} (hb : n0 ≤ n1 ∧ n1 ≤ n2 ∧ n2 ≤ 200) (a3 : (Y.P.F y 3).toInt = n0) (a4 : (Y.P.F y 4).toInt = n1) (a5 : (Y.P.F y 5).toInt = n2) (b1 : (I 379 s).toInt = ((220 * Y.H + n0 : Nat) : Int)) (b2 : (I 380 s).toInt = ((220 * Y.H + n1 : Nat) : Int)) (b3 : (I 381 s).toInt = ((220 * Y.H + n1 : Nat) : Int)) (b4 : (I 382 s).toInt = ((220 * Y.H + n2 : Nat) : Int)) : TWO Y.P y Y.H s I := ⟨n0, n1, n2, hb, a3, a4, a5, b1, b2, b3, b4⟩
/-- a part that ends well began well -/
theorem LPr.back {P : PS → PR → Prop} {r1 r : PR} (h : LPr P r1 r) {q : PS} (hr : r = .inl q) : ∃ q0, r1 = .inl q0 ∧ P q0 (.inl q) := by
  rcases h with ⟨j, _, e⟩ | ⟨q0, e, h⟩
  · rw [hr] at e; cases e
  · exact ⟨q0, e, by rw [← hr]; exact h⟩
theorem s_sto (hR : QR Y.R) (hL2 : Y.L ≤ 200) (hH : Y.H ≤ 1) {d c row idx : Nat} (hp : PQ Y i d c n I) (hsl : SLT Y d I row idx) (hlt : row = 388 ∨ idx < 80 * Y.H + c) (hk : Y.K i = 3) (hP : stP Y.P Y.K Y.B Y.M (Y.p + 2 + c) (i + 1, n) r) (hF : ∀ q, r = .inl q → HDR Y.P (Y.p + 2 + c) 3 (Y.B i) (Y.M i)) (hmn : ∀ a b, exP Y.P Y.K Y.B Y.M a (.inl b) → a.2 ≤ b.2) {Q : WW → Prop} (k : ∀ I', SB Y d c row idx I r I' → (∀ q, r = .inl q → RECF Y.P (Y.p + 2 + c) Y.H (80 * Y.H + c) I') → Q (mk I' Y.J Y.R)) : wl (f_q_storing 373 (mk I Y.J Y.R)) Q := by
  obtain ⟨r1, p1, q1⟩ := sq.lp hP
  obtain ⟨ra, pa, q1⟩ := q1.sq
  obtain ⟨r2, p2, q2⟩ := q1.sq
  obtain ⟨rb, pb, q2⟩ := q2.sq
  obtain ⟨r3, p3, q3⟩ := q2.sq
  obtain ⟨r4, p4, q4⟩ := q3.sq
  obtain ⟨r5, p5, q5⟩ := q4.sq
  obtain ⟨rc, pc, p6⟩ := q5.sq
  obtain ⟨za, fa⟩ := pa.fd
  obtain ⟨zb, fb⟩ := pb.fd
  obtain ⟨zc, fc⟩ := pc.fd
  subst za
  subst zb
  subst zc
  have hrow := hsl.row
  unfold f_q_storing
  refine wl_kb (wl_bd2 (s_stmt hR hL2 hH hp hsl hlt (by rw [hk]; decide) (by rw [hk]; decide) (fun ss I1 sv e1 k376 k377 k378 k386 k387 kr k396 pt1 => ?_)))
  dsimp only
  have sb1 : SB Y d c row idx I (.inl (i + 1, n)) I1 := ⟨e1, by rw [kr]; exact sv, by rw [k396]; exact sv, k386, k387, pt1, hrow⟩
  refine wl_bd (s_expect hR hL2 (s := 80 * Y.H + c) (a := 384) (b := 383) sg_91 pt1.1 (LPr.at p1) (fun I2 e2 h2 => ?_))
  have sb2 := sb1.fq (e2.wid (a' := 379) (b' := 383)) h2
  refine wq_12 hR (s_exm hR hH hL2 (Or.inl ⟨rfl, rfl⟩) rfl rfl (fun I' => by intro _ _ _ h; exact wq_13 hR h) h2 sb2.2.2.2.2.2.1.2.2.2.1 p2 sv (fun I3 e3 h3 x1 x2 => ?_))
  have sb3 := sb2.fq (e3.wid (a' := 379) (b' := 383)) h3
  refine wl_bd (s_expect hR hL2 (s := 80 * Y.H + c) (a := 384) (b := 383) sg_93 h3 p3 (fun I4 e4 h4 => ?_))
  have sb4 := sb3.fq (e4.wid (a' := 379) (b' := 383)) h4
  refine wl_bd (s_expect hR hL2 (s := 80 * Y.H + c) (a := 384) (b := 383) sg_61 h4 p4 (fun I5 e5 h5 => ?_))
  have sb5 := sb4.fq (e5.wid (a' := 379) (b' := 383)) h5
  refine wq_14 hR (s_exm hR hH hL2 (Or.inr ⟨rfl, rfl⟩) rfl rfl (fun I' => by intro _ _ _ h; exact wq_15 hR h) h5 sb5.2.2.2.2.2.1.2.2.2.1 p5 sv (fun I6 e6 h6 x3 x4 => ?_))
  have sb6 := sb5.fq (e6.wid (a' := 379) (b' := 383)) h6
  refine wl_bd (s_expect hR hL2 (s := 80 * Y.H + c) (a := 384) (b := 383) sg_59 h6 p6 (fun I7 e7 h7 => wl_some (k I7 (sb6.fq (e7.wid (a' := 379) (b' := 383)) h7) (fun q hr => ?_))))
  obtain ⟨q5', hq5, _⟩ := p6.back hr
  obtain ⟨q4', hq4, hx2⟩ := p5.back hq5
  obtain ⟨q3', hq3, t4⟩ := p4.back hq4
  obtain ⟨q2', hq2, t3⟩ := p3.back hq3
  obtain ⟨q1', hq1, hx1⟩ := p2.back hq2
  obtain ⟨f0, f1, f2⟩ := hF q hr
  have st3 : q3'.2 = q2'.2 := by rcases t3 with ⟨_, e⟩ | ⟨_, e⟩ <;> cases e <;> rfl
  have st4 : q4'.2 = q3'.2 := by rcases t4 with ⟨_, e⟩ | ⟨_, e⟩ <;> cases e <;> rfl
  have l1 := hmn _ _ hx1
  have l2 := hmn _ _ hx2
  have n5 : q5'.2 ≤ 200 := YC.n200 hL2 (by rw [← hq5]; exact h6)
  have w7 : ∀ x, 376 ≤ x → x ≤ 383 → I7 x (80 * Y.H + c) = I6 x (80 * Y.H + c) := fun x a b => e7 x _ (by unfold FC; omega) (by omega)
  have w6 : ∀ x, 376 ≤ x → x ≤ 380 → I6 x (80 * Y.H + c) = I3 x (80 * Y.H + c) := fun x a b => by rw [e6 x _ (by unfold FC; omega) (by omega), e5 x _ (by unfold FC; omega) (by omega), e4 x _ (by unfold FC; omega) (by omega)]
  have w3 : ∀ x, 376 ≤ x → x ≤ 378 → I3 x (80 * Y.H + c) = I1 x (80 * Y.H + c) := fun x a b => by rw [e3 x _ (by unfold FC; omega) (by omega), e2 x _ (by unfold FC; omega) (by omega)]
  refine ⟨?_, ?_, Or.inr (Or.inr (Or.inl ⟨f0, ?_, two_of (n0 := q1'.2) (n1 := q2'.2) (n2 := q5'.2) ⟨l1, by omega, n5⟩ (fa q1' hq1) (fb q2' hq2) (fc q5' hq5) ?_ ?_ ?_ ?_⟩))⟩
  · rw [w7 _ (by omega) (by omega), w6 _ (by omega) (by omega), w3 _ (by omega) (by omega), k376, f0]; decide
  · rw [w7 _ (by omega) (by omega), w6 _ (by omega) (by omega), w3 _ (by omega) (by omega), k378, f1]
  · rw [w7 _ (by omega) (by omega), w6 _ (by omega) (by omega), w3 _ (by omega) (by omega), f2]; exact k377.2 hk
  · rw [w7 _ (by omega) (by omega), w6 _ (by omega) (by omega)]; exact x1 q1' hq1
  · rw [w7 _ (by omega) (by omega), w6 _ (by omega) (by omega)]; exact x2 q2' hq2
  · rw [w7 _ (by omega) (by omega), x3 q4' hq4]; omega
  · rw [w7 _ (by omega) (by omega)]; exact x4 q5' hq5
/-- what a COND leaves -/
def CNV (Y : YC) (y s : Nat) (r1 r2 r3 r4 : PR) (I : IM) : Prop := (∀ q, r1 = .inl q → (I 379 s).toInt = ((220 * Y.H + q.2 : Nat) : Int)) ∧ (∀ q, r2 = .inl q → (I 380 s).toInt = ((220 * Y.H + q.2 : Nat) : Int)) ∧ (∀ q, r4 = .inl q → (∀ q3, r3 = .inl q3 → (I 381 s).toInt = ((220 * Y.H + q3.2 : Nat) : Int)) ∧ (I 382 s).toInt = ((220 * Y.H + q.2 : Nat) : Int) ∧ isCm (Y.P.F y 6) ∧ I 383 s = csg (Y.P.F y 6))
theorem s_cond (hR : QR Y.R) (hH : Y.H ≤ 1) (hL2 : Y.L ≤ 200) {ss : Int32} (sv : ss.toInt = s) {y : Nat} {r2 r3 r4 : PR} (hs : Y.T r1 I) (h32 : (I 373 32).toInt = Y.H) (p1 : LPr (exP Y.P Y.K Y.B Y.M) r1 r2) (p2 : LPr (cmP Y.P Y.K y) r2 r3) (p3 : LPr (exP Y.P Y.K Y.B Y.M) r3 r4) {Q : WW → Prop} (k : ∀ I', FQ Y.H s 379 383 I I' → Y.T r4 I' → CNV Y y s r1 r2 r3 r4 I' → Q (mk I' Y.J Y.R)) : wl (f_q_condition 373 ss (mk I Y.J Y.R)) Q := by
  unfold f_q_condition
  refine wl_kb (wq_12 hR (s_exm hR hH hL2 (Or.inl ⟨rfl, rfl⟩) rfl rfl (fun I' => by intro _ _ _ h; exact wq_13 hR h) hs h32 p1 sv (fun I2 e2 h2 x1 x2 => ?_)))
  have g2 : FQ Y.H s 379 383 I I2 := e2.wid
  have w32 : (I2 373 32).toInt = Y.H := by rw [e2 _ _ (by unfold FC; omega) (by omega)]; exact h32
  -- behind the sign: I5 with the sign kept
  have h132 : ∀ I5 : IM, FQ Y.H s 383 383 I2 I5 → ((∃ j, r3 = .inr j ∧ Y.T (.inr j) I5) ∨ ∃ i n, r3 = .inl (i + 1, n) ∧ Y.T (.inl (i, n)) I5 ∧ (Y.K i).toInt ≠ 0 ∧ (Y.K i).toInt ≠ -1 ∧ isCm (Y.P.F y 6) ∧ I5 383 s = csg (Y.P.F y 6)) → wl (f_q_condition_132 373 ss (mk I5 Y.J Y.R)) Q := by
    intro I5 e5 hy
    have f5 : ∀ x, 376 ≤ x → x ≤ 382 → I5 x s = I2 x s := fun x a b => e5 x s (by unfold FC; omega) (by omega)
    unfold f_q_condition_132
    refine wl_gI rfl rfl rfl ?_
    rcases hy with ⟨j, hj, h5⟩ | ⟨i, n, hj, h5, k0, k1, hcm, h383⟩
    · have hb : (I5 373 34).toInt ≠ 0 ∧ I5 373 4 = Y.B j := h5
      rw [if_neg (fun z => hb.1 (by rw [z, l32_0]))]
      subst hj
      have e4 : r4 = .inr j := by
        rcases p3 with ⟨j', e, e'⟩ | ⟨q, e, _⟩
        · cases e; exact e'
        · cases e
      subst e4
      refine wl_some (k I5 (g2.trans e5.wid) h5 ⟨fun q hq => ?_, fun q hq => ?_, fun q hq => by cases hq⟩)
      · rw [f5 _ (by omega) (by omega)]; exact x1 q hq
      · rw [f5 _ (by omega) (by omega)]; exact x2 q hq
    · obtain ⟨hs5, _, _, _⟩ := YC.q h5
      rw [if_pos (i32eq.mpr (by rw [hs5.2.1, l32_0]))]
      refine wl_bd (s_next hR hL2 h5 k0 k1 (fun I6 e6 h6 => ?_))
      have w36 : (I6 373 32).toInt = Y.H := by rw [e6 _ _ (by omega), e5 _ _ (by unfold FC; omega) (by omega)]; exact w32
      rw [← hj] at h6
      refine wq_14 hR (s_exm hR hH hL2 (Or.inr ⟨rfl, rfl⟩) rfl rfl (fun I' => by intro _ _ _ h; exact wq_15 hR h) h6 w36 p3 sv (fun I7 e7 h7 x3 x4 => ?_))
      have f7 : ∀ x, 376 ≤ x → x ≤ 383 → x ≠ 381 → x ≠ 382 → I7 x s = I5 x s := fun x a b c d => by rw [e7 x s (by unfold FC; omega) (by omega), e6 x s (by omega)]
      refine wl_some (k I7 (g2.trans (e5.wid.trans (e6.fq.trans e7.wid))) h7 ⟨fun q hq => ?_, fun q hq => ?_, fun q hq => ⟨x3, x4 q hq, hcm, ?_⟩⟩)
      · rw [f7 _ (by omega) (by omega) (by omega) (by omega), f5 _ (by omega) (by omega)]; exact x1 q hq
      · rw [f7 _ (by omega) (by omega) (by omega) (by omega), f5 _ (by omega) (by omega)]; exact x2 q hq
      · rw [f7 _ (by omega) (by omega) (by omega) (by omega)]; exact h383
  have h81 : ∀ z2 : Int32, (∀ i n, r2 = .inl (i, n) → isCm (Y.K i) → z2 = csg (Y.K i)) → wl (f_q_condition_81 373 ss 383 ss z2 (mk I2 Y.J Y.R)) Q := by
    intro z2 hz2
    unfold f_q_condition_81
    refine wl_sIa (n := 160) rfl (fun I3 e3 f3 _ => wl_gI rfl rfl rfl ?_)
    rw [tnat sv] at e3 f3
    have g3 : FQ Y.H s 383 383 I2 I3 := fun x j hx hj => e3 x j (by omega)
    have h3 : Y.T r2 I3 := h2.keep (fun x j hx => e3 x j (by omega))
    rcases p2 with ⟨j, hr2, hr3⟩ | ⟨⟨i, n⟩, hr2, p2⟩
    · subst hr2
      have hb : (I3 373 34).toInt ≠ 0 ∧ I3 373 4 = Y.B j := h3
      rw [if_neg (fun z => hb.1 (by rw [z, l32_0]))]
      exact h132 I3 g3 (Or.inl ⟨j, hr3, h3⟩)
    · subst hr2
      obtain ⟨hs3, _, _, _⟩ := YC.q h3
      have hc := hs3.2.2.2.2.1
      unfold COR at hc
      have good : isCm (Y.K i) → wl (f_q_condition_132 373 ss (mk I3 Y.J Y.R)) Q := by
        intro hz
        rcases p2 with ⟨_, h6, hr3⟩ | ⟨y', _⟩
        · have k0 : (Y.K i).toInt ≠ 0 ∧ (Y.K i).toInt ≠ -1 := by
            rcases hz with z | z | z | z <;> rw [z] <;> decide
          have h6' : Y.P.F y 6 = Y.K i := h6
          exact h132 I3 g3 (Or.inr ⟨i, n, hr3, h3, k0.1, k0.2, by rw [h6']; exact hz, by rw [f3, h6']; exact hz2 i n rfl hz⟩)
        · exact absurd hz y'
      rw [if_pos (i32eq.mpr (by rw [hs3.2.1, l32_0]))]
      refine wl_bd2 (x_is (fun a b => ?_) (fun n1 => ?_))
      · dsimp only
        rw [if_neg (by decide)]
        rw [l32_1000] at b
        exact good (Or.inl (i32eq.mpr (by rw [l32_256]; omega)))
      rw [l32_1000] at n1
      dsimp only
      rw [if_pos rfl]
      refine wl_bd2 (x_is (fun a b => ?_) (fun n2 => ?_))
      · dsimp only
        rw [if_neg (by decide)]
        rw [l32_1001] at b
        exact good (Or.inr (Or.inl (i32eq.mpr (by rw [l32_257]; omega))))
      rw [l32_1001] at n2
      dsimp only
      rw [if_pos rfl]
      refine wl_bd2 (x_is (fun a b => ?_) (fun n3 => ?_))
      · dsimp only
        rw [if_neg (by decide)]
        rw [l32_60] at b
        exact good (Or.inr (Or.inr (Or.inl (i32eq.mpr (by rw [l32_60]; omega)))))
      rw [l32_60] at n3
      dsimp only
      rw [if_pos rfl]
      refine wl_bd2 (x_is (fun a b => ?_) (fun n4 => ?_))
      · dsimp only
        rw [if_neg (by decide)]
        rw [l32_1002] at b
        exact good (Or.inr (Or.inr (Or.inr (i32eq.mpr (by rw [l32_258]; omega)))))
      rw [l32_1002] at n4
      dsimp only
      rw [if_pos rfl]
      have nc : ¬ isCm (Y.K i) := by
        intro hz
        have hz' : (Y.K i).toInt = 256 ∨ (Y.K i).toInt = 257 ∨ (Y.K i).toInt = 60 ∨ (Y.K i).toInt = 258 := by
          rcases hz with z | z | z | z <;> rw [z] <;> decide
        omega
      rcases p2 with ⟨y', _⟩ | ⟨_, hr3⟩
      · exact absurd y' nc
      · refine wl_bd (x_wrong (X := Y.X) hs3 (fun I4 e4 w1 w2 => ?_))
        have h4 : Y.T (.inr i) I4 := (show _ ∧ _ from ⟨by omega, w2⟩)
        exact h132 I4 (g3.trans (fun x j hx _ => e4 x j (by unfold FC at hx; omega))) (Or.inl ⟨i, hr3, h4⟩)
  -- the sign's code
  have kz : ∀ i n, r2 = .inl (i, n) → COR (Y.K i).toInt (I2 373 30).toInt (I2 373 31).toInt := by
    intro i n e
    subst e
    exact (YC.q h2).1.2.2.2.2.1
  refine wq_16 hR (wl_bd2 (x_is (fun a b => ?_) (fun n1 => ?_)))
  · dsimp only
    rw [if_neg (by decide)]
    rw [l32_1000] at b
    refine h81 _ (fun i n e _ => ?_)
    have hc := kz i n e
    unfold COR at hc
    rw [show Y.K i = 256 from i32eq.mpr (by rw [l32_256]; omega)]; decide
  rw [l32_1000] at n1
  dsimp only
  rw [if_pos rfl]
  refine wl_bd2 (x_is (fun a b => ?_) (fun n2 => ?_))
  · dsimp only
    rw [if_neg (by decide)]
    rw [l32_1001] at b
    refine h81 _ (fun i n e _ => ?_)
    have hc := kz i n e
    unfold COR at hc
    rw [show Y.K i = 257 from i32eq.mpr (by rw [l32_257]; omega)]; decide
  rw [l32_1001] at n2
  dsimp only
  rw [if_pos rfl]
  refine wl_bd2 (x_is (fun a b => ?_) (fun n3 => ?_))
  · dsimp only
    rw [if_neg (by decide)]
    rw [l32_60] at b
    refine h81 _ (fun i n e _ => ?_)
    have hc := kz i n e
    unfold COR at hc
    rw [show Y.K i = 60 from i32eq.mpr (by rw [l32_60]; omega)]; decide
  rw [l32_60] at n3
  dsimp only
  rw [if_pos rfl]
  refine h81 _ (fun i n e hz => ?_)
  have hc := kz i n e
  unfold COR at hc
  rcases hz with z | z | z | z
  · exfalso; rw [z, l32_256] at hc; omega
  · exfalso; rw [z, l32_257] at hc; omega
  · exfalso; rw [z, l32_60] at hc; omega
  · rw [z]; decide
end QST
