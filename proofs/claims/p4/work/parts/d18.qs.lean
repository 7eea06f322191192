/-! The reference parses STATEMENTS by the same rules. -/
section WLA
variable {I : IM} {J : JM} {R : RM} {a ci k t n : Nat} {ts : List Nat} {β : Type} {Q : β → Prop}
theorem wl_sIa {f : WW → Option β} {i x : Int32} (hl : LT a = some (.inl (t, n, 0))) (K : ∀ I', (∀ y j, (y ≠ a ∨ j ≠ i.toInt.toNat) → I' y j = I y j) → I' a i.toInt.toNat = x → 0 ≤ i.toInt ∧ i.toInt < n → wl (f (mk I' J R)) Q) : wl ((sI (mk I J R) a t i x).bind f) Q := wl_sI hl (fun hi => K _ (fun y j h => up2_ne _ _ h) up2_s hi)
theorem wl_pIa {f : WW → Option β} {x : Int32} (hl : LT a = some (.inr (ci, ts))) (hk : ts[k]? = some 0) (K : ∀ I', (∀ y j, (y ≠ a ∨ j ≠ k) → I' y j = I y j) → I' a k = x → wl (f (mk I' J R)) Q) : wl ((pv (mk I J R) a ci k (.int x)).bind f) Q := wl_pI hl hk (K _ (fun y j h => up2_ne _ _ h) up2_s)
end WLA
def LPr (P : Nat → Nat ⊕ Nat → Prop) (r1 r : Nat ⊕ Nat) : Prop := (∃ j, r1 = .inr j ∧ r = .inr j) ∨ (∃ i, r1 = .inl i ∧ P i r)
theorem sq.lp {P1 P2 : Nat → Nat ⊕ Nat → Prop} {i : Nat} {r : Nat ⊕ Nat} (h : sq P1 P2 i r) : ∃ r1, P1 i r1 ∧ LPr P2 r1 r := by
  rcases h with ⟨j, a, rfl⟩ | ⟨j, a, b⟩
  · exact ⟨_, a, Or.inl ⟨j, rfl, rfl⟩⟩
  · exact ⟨_, a, Or.inr ⟨j, rfl, b⟩⟩
theorem LPr.sq {P1 P2 : Nat → Nat ⊕ Nat → Prop} {r0 r : Nat ⊕ Nat} (h : LPr (sq P1 P2) r0 r) : ∃ r1, LPr P1 r0 r1 ∧ LPr P2 r1 r := by
  rcases h with ⟨j, rfl, rfl⟩ | ⟨i, rfl, h⟩
  · exact ⟨_, Or.inl ⟨j, rfl, rfl⟩, Or.inl ⟨j, rfl, rfl⟩⟩
  · obtain ⟨r1, a, b⟩ := h.lp
    exact ⟨r1, Or.inr ⟨i, rfl, a⟩, b⟩
theorem LPr.at {P : Nat → Nat ⊕ Nat → Prop} {i : Nat} {r : Nat ⊕ Nat} (h : P i r) : LPr P (.inl i) r := Or.inr ⟨i, rfl, h⟩
/-- what the parts of a STATEMENT keep: kinds below m among them -/
def FRP (m : Nat) (I I' : IM) : Prop := ∀ x j, (x < 373 ∨ x = 374 ∨ (x = 376 ∧ j < m) ∨ x = 394 ∨ x = 395 ∨ (x = 373 ∧ (j = 2 ∨ j = 32 ∨ j = 33))) → I' x j = I x j
def FR8 (m : Nat) (I I' : IM) : Prop := FRP m I I' ∧ ∀ j, I' 389 j = I 389 j
theorem FRP.trans {m : Nat} {I I' I'' : IM} (h : FRP m I I') (h2 : FRP m I' I'') : FRP m I I'' := fun x j hx => (h2 x j hx).trans (h x j hx)
theorem FR8.trans {m : Nat} {I I' I'' : IM} (h : FR8 m I I') (h2 : FR8 m I' I'') : FR8 m I I'' := ⟨h.1.trans h2.1, fun j => (h2.2 j).trans (h.2 j)⟩
theorem FRP.le {m m' : Nat} {I I' : IM} (h : FRP m I I') (hm : m' ≤ m) : FRP m' I I' := fun x j hx => h x j (by omega)
theorem FR8.le {m m' : Nat} {I I' : IM} (h : FR8 m I I') (hm : m' ≤ m) : FR8 m' I I' := ⟨h.1.le hm, h.2⟩
theorem FX9.fr {m : Nat} {I I' : IM} (h : FX9 I I') : FR8 m I I' := ⟨fun x j hx => h x j (by omega), fun j => h _ _ (by omega)⟩
theorem RDQ.fr {m : Nat} {I I' : IM} (h : RDQ I I') : FR8 m I I' := ⟨fun x j hx => h x j (by omega), fun j => h _ _ (by omega)⟩
abbrev YC : Type := (Nat → Int32) × (Nat) × (Nat → Int32) × (Nat → Int32) × (JM) × (RM) × (Nat) × ((Int32 × WW) → Prop)
abbrev YC.c (X : YC) : Nat → Int32 := X.1
abbrev YC.L (X : YC) : Nat := X.2.1
abbrev YC.K (X : YC) : Nat → Int32 := X.2.2.1
abbrev YC.B (X : YC) : Nat → Int32 := X.2.2.2.1
abbrev YC.J (X : YC) : JM := X.2.2.2.2.1
abbrev YC.R (X : YC) : RM := X.2.2.2.2.2.1
abbrev YC.H (X : YC) : Nat := X.2.2.2.2.2.2.1
abbrev YC.Q (X : YC) : (Int32 × WW) → Prop := X.2.2.2.2.2.2.2
abbrev YC.X (Y : YC) : XC := ⟨Y.c, Y.L, Y.K, Y.B, fun _ _ => 0, Y.J, Y.R, 0, fun _ => True⟩
abbrev YC.T (Y : YC) (r : Nat ⊕ Nat) (I : IM) : Prop := STQ Y.c Y.L Y.K Y.B r I
theorem STQ.keep {c : Nat → Int32} {L : Nat} {K B : Nat → Int32} {r : Nat ⊕ Nat} {I I' : IM} (h : STQ c L K B r I) (e : ∀ x j, (x = 374 ∨ (x = 373 ∧ (j = 2 ∨ j = 4 ∨ (28 ≤ j ∧ j ≤ 31) ∨ j = 34))) → I' x j = I x j) : STQ c L K B r I' := by
  cases r with
  | inl i => exact QS.keep h e
  | inr j =>
    have h' : (I 373 34).toInt ≠ 0 ∧ I 373 4 = B j := h
    show (I' 373 34).toInt ≠ 0 ∧ I' 373 4 = B j
    rw [e 373 34 (by omega), e 373 4 (by omega)]
    exact h'
section QST
variable {Y : YC} {I I' : IM} {i m : Nat} {r r1 : Nat ⊕ Nat}
theorem s_expect (hR : QR Y.R) (hL2 : Y.L ≤ 200) {a : Int32} (ha : SGN a.toInt) (hs : Y.T r1 I) (hP : LPr (tkP Y.K a) r1 r) {Q : WW → Prop} (k : ∀ I', FR8 m I I' → Y.T r I' → Q (mk I' Y.J Y.R)) : wl (f_q_expect 373 a (mk I Y.J Y.R)) Q := by
  unfold f_q_expect f_q_expect_27
  rcases hP with ⟨j, rfl, rfl⟩ | ⟨i, rfl, hP⟩
  · have hs' : (I 373 34).toInt ≠ 0 ∧ I 373 4 = Y.B j := hs
    refine wl_kb (wl_gI rfl rfl rfl ?_)
    rw [if_neg (fun z => hs'.1 (by rw [z, l32_0]))]
    exact wl_some (k I ⟨fun _ _ _ => rfl, fun _ => rfl⟩ hs)
  · have hs' : QS Y.c Y.L Y.K Y.B i I := hs
    refine wl_kb (wl_gI rfl rfl rfl ?_)
    rw [if_pos (i32eq.mpr (by rw [hs'.2.1, l32_0]))]
    refine wl_bd2 (x_isK (X := Y.X) hs' ha (fun z => ?_) (fun z => ?_))
    · dsimp only
      rw [if_neg (by decide)]
      rcases hP with ⟨_, rfl⟩ | ⟨y, _⟩
      · have z' : Y.K i = a := z
        have k0 : (Y.K i).toInt ≠ 0 ∧ (Y.K i).toInt ≠ -1 := by rw [z']; unfold SGN at ha; omega
        exact wl_bd (x_next (X := Y.X) hR hL2 hs' k0.1 k0.2 (fun I2 e2 h2 => wl_some (k I2 e2.fr h2)))
      · exact absurd z y
    · dsimp only
      rw [if_pos rfl]
      rcases hP with ⟨y, _⟩ | ⟨_, rfl⟩
      · exact absurd y z
      · exact wl_bd (x_wrong (X := Y.X) hs' (fun I2 e2 w1 w2 => wl_some (k I2 ⟨fun x j hx => e2 x j (by omega), fun j => e2 _ _ (by omega)⟩ (show _ ∧ _ from ⟨by omega, w2⟩))))
theorem s_expr (hR : QR Y.R) (hL2 : Y.L ≤ 200) (hs : Y.T r1 I) (hP : LPr (exP Y.K) r1 r) {Q : (Int32 × WW) → Prop} (k : ∀ (v : Int32) (I' : IM), FX9 I I' → Y.T r I' → Q (v, mk I' Y.J Y.R)) : wl (f_q_expression 373 (mk I Y.J Y.R)) Q := by
  rcases hP with ⟨j, rfl, rfl⟩ | ⟨i, rfl, hP⟩
  · have hs' : (I 373 34).toInt ≠ 0 ∧ I 373 4 = Y.B j := hs
    exact z_exprb hR hs'.1 (fun v I2 e2 a b => k v I2 e2 (show _ ∧ _ from ⟨by rw [a]; exact hs'.1, by rw [b]; exact hs'.2⟩))
  · exact z_expr hR hL2 hs hP k
/-- an EXPR, and where its steps begin and end, kept for a STATEMENT -/
theorem s_exm (hR : QR Y.R) (hL2 : Y.L ≤ 200) {ra rb kf : Nat} (hra : ra = 379 ∨ ra = 381) (hrb : rb = 380 ∨ rb = 382) (la : LT ra = some (.inl (0, 160, 0))) (lb : LT rb = some (.inl (0, 160, 0))) (hk : ∀ (I' : IM) {β : Type} {Q : β → Prop} {f : Nat → Option β}, wl (f rb) Q → wl ((gN (mk I' Y.J Y.R) 373 9 kf).bind f) Q) (hs : Y.T r1 I) (hP : LPr (exP Y.K) r1 r) {s : Int32} {γ : Type} {F : WW → Option γ} {Q : γ → Prop} (k : ∀ I', FR8 m I I' → Y.T r I' → wl (F (mk I' Y.J Y.R)) Q) : wl (bd2 (f_q_expression 373 (mk I Y.J Y.R)) fun x8 w7 => (sI w7 ra 0 s x8).bind fun w9 => (gN w9 373 9 kf).bind fun x10 => (gI w9 373 9 32).bind fun x11 => (gN w9 373 9 23).bind fun x12 => (gI w9 373 9 32).bind fun x13 => (rI w9 x12 0 x13).bind fun x14 => (sI w9 x10 0 s (((220 : Int32) * x11) + x14)).bind F) Q := by
  refine wl_bd2 (s_expr hR hL2 hs hP (fun v I2 e2 h2 => ?_))
  dsimp only
  refine wl_sIa la (fun I3 e3 _ _ => hk I3 (wl_gI rfl rfl rfl (wq_23 hR (wl_gI rfl rfl rfl (wl_rI (n := 2) rfl (fun _ => wl_sIa lb (fun I4 e4 _ _ => ?_)))))))
  have e34 : ∀ x j, x ≠ ra → x ≠ rb → I4 x j = I2 x j := fun x j a b => by rw [e4 x j (Or.inl b), e3 x j (Or.inl a)]
  refine k I4 (e2.fr.trans ⟨fun x j hx => e34 x j (by omega) (by omega), fun j => e34 _ _ (by omega) (by omega)⟩) (h2.keep (fun x j hx => e34 x j (by omega) (by omega)))
/-- where a STATEMENT's parsing stands -/
def PQ (Y : YC) (i n c : Nat) (I : IM) : Prop := QS Y.c Y.L Y.K Y.B i I ∧ (I 373 33).toInt = n ∧ n ≤ 3 ∧ (I 373 32).toInt = Y.H ∧ (I 389 Y.H).toInt = c
theorem s_stmt (hR : QR Y.R) (hL2 : Y.L ≤ 200) (hH : Y.H ≤ 1) {n c : Nat} (hp : PQ Y i n c I) (h0 : (Y.K i).toInt ≠ 0) (h1 : (Y.K i).toInt ≠ -1) {a1 : Int32} {Q : (Int32 × WW) → Prop} (k : ∀ (s : Int32) (I' : IM), s.toInt = ((80 * Y.H + c : Nat) : Int) → FRP (80 * Y.H + c) I I' → I' 376 (80 * Y.H + c) = a1 → PQ Y (i + 1) n (c + 1) I' → Q (s, mk I' Y.J Y.R)) : wl (f_q_statement 373 a1 (mk I Y.J Y.R)) Q := by
  obtain ⟨hs, h33, hn3, h32, h389⟩ := hp
  have m80 := m32_80 (x := I 373 32) (by omega)
  unfold f_q_statement
  refine wl_kb (wl_gI rfl rfl rfl (wq_22 hR (wl_gI rfl rfl rfl (wl_rI (n := 2) rfl (fun _ => wq_22 hR (wl_gI rfl rfl rfl (wl_rI (n := 2) rfl (fun _ => wl_sIa (n := 2) rfl (fun I1 e1 f1 _ => wq_9 hR (wl_sIa (n := 160) rfl (fun I2 e2 f2 hb => ?_)))))))))))
  rw [tnat h32] at e1 f1 hb e2 f2 ⊢
  have sv : ((80 : Int32) * I 373 32 + I 389 Y.H).toInt = ((80 * Y.H + c : Nat) : Int) := by
    have q := i32add ((80 : Int32) * I 373 32) (I 389 Y.H)
    rw [m80, h32, h389] at q
    have b := i32b (I 389 Y.H)
    rw [h389] at b
    rw [q] at hb
    rw [q]
    omega
  have c160 : c < 160 := by omega
  generalize (80 : Int32) * I 373 32 + I 389 Y.H = s at sv hb e2 f2 ⊢
  have sn : s.toInt.toNat = 80 * Y.H + c := tnat sv
  rw [sn] at e2 f2
  have f1' : (I1 389 Y.H).toInt = ((c + 1 : Nat) : Int) := by rw [f1, i32addc (by rw [h389, l32_1]; omega), h389, l32_1]; omega
  refine wq_19 hR (wl_sIa (n := 160) rfl (fun I3 e3 _ _ => wq_20 hR (wl_sIa (n := 160) rfl (fun I4 e4 _ _ => wq_11 hR (wl_gI rfl rfl rfl (wl_sIa (n := 160) rfl (fun I5 e5 _ _ => wq_10 hR (wl_gI rfl rfl rfl (wl_sIa (n := 160) rfl (fun I6 e6 _ _ => wq_37 hR (wl_gI rfl rfl rfl (wl_rI (n := 8) rfl (fun _ => ?_)))))))))))))
  have g6 : ∀ x j, (x ≠ 389 ∧ x ≠ 376 ∧ x ≠ 386 ∧ x ≠ 387 ∧ x ≠ 378 ∧ x ≠ 377) → I6 x j = I x j := fun x j hx => by rw [e6 x j (by omega), e5 x j (by omega), e4 x j (by omega), e3 x j (by omega), e2 x j (by omega), e1 x j (by omega)]
  have k6 : I6 376 (80 * Y.H + c) = a1 := by rw [e6 _ _ (by omega), e5 _ _ (by omega), e4 _ _ (by omega), e3 _ _ (by omega)]; exact f2
  have l6 : ∀ j, j < 80 * Y.H + c → I6 376 j = I 376 j := fun j hj => by rw [e6 _ _ (by omega), e5 _ _ (by omega), e4 _ _ (by omega), e3 _ _ (by omega), e2 _ _ (by omega), e1 _ _ (by omega)]
  have n6 : (I6 389 Y.H).toInt = ((c + 1 : Nat) : Int) := by rw [e6 _ _ (by omega), e5 _ _ (by omega), e4 _ _ (by omega), e3 _ _ (by omega), e2 _ _ (by omega)]; exact f1'
  have tail : ∀ I7 : IM, (∀ x j, (x < 384 ∨ 388 < x) → I7 x j = I6 x j) → wl (f_q_statement_167 373 s (mk I7 Y.J Y.R)) Q := by
    intro I7 e7
    unfold f_q_statement_167
    refine wq_37 hR (wl_gI rfl rfl rfl (wl_sIa (n := 8) rfl (fun I8 e8 _ _ => ?_)))
    have g8 : ∀ x j, (x < 376 ∨ x = 394 ∨ x = 395) → I8 x j = I x j := fun x j hx => by rw [e8 x j (by omega), e7 x j (by omega), g6 x j (by omega)]
    refine wl_bd (x_next (X := Y.X) hR hL2 (i := i) (hs.keep (fun x j hx => g8 x j (by omega))) h0 h1 (fun I9 e9 h9 => wl_some (k s I9 sv (fun x j hx => ?_) ?_ ⟨h9, ?_, hn3, ?_, ?_⟩)))
    · rw [e9 x j (by omega)]
      by_cases z : x = 376
      · subst z
        rw [e8 _ _ (by omega), e7 _ _ (by omega)]
        exact l6 j (by omega)
      · exact g8 x j (by omega)
    · rw [e9 _ _ (by omega), e8 _ _ (by omega), e7 _ _ (by omega)]; exact k6
    · rw [e9 _ _ (by omega), g8 _ _ (by omega)]; exact h33
    · rw [e9 _ _ (by omega), g8 _ _ (by omega)]; exact h32
    · rw [e9 _ _ (by omega), e8 _ _ (by omega), e7 _ _ (by omega)]; exact n6
  refine wl_ite (fun z => ?_) (fun z => ?_)
  · refine wl_gI rfl rfl rfl (wl_ite (fun z2 => ?_) (fun z2 => ?_))
    · exact wq_21 hR (wl_gI rfl rfl rfl (wl_sIa (n := 2) rfl (fun I7 e7 _ _ => tail I7 (fun x j hx => e7 x j (by omega)))))
    · refine wq_36 hR (wl_gI rfl rfl rfl (wl_rI (n := 8) rfl (fun _ => wl_ite (fun z3 => ?_) (fun z3 => ?_))))
      · exact wq_17 hR (wq_35 hR (wl_gI rfl rfl rfl (wl_rI (n := 8) rfl (fun _ => wl_sIa (n := 160) rfl (fun I7 e7 _ _ => tail I7 (fun x j hx => e7 x j (by omega)))))))
      · exact wq_18 hR (wq_35 hR (wl_gI rfl rfl rfl (wl_rI (n := 8) rfl (fun _ => wl_sIa (n := 160) rfl (fun I7 e7 _ _ => tail I7 (fun x j hx => e7 x j (by omega)))))))
  · exact wq_19 hR (wq_37 hR (wl_gI rfl rfl rfl (wl_rI (n := 8) rfl (fun _ => wl_sIa (n := 160) rfl (fun I7 e7 _ _ => tail I7 (fun x j hx => e7 x j (by omega)))))))
/-- the parse goes on, or a fault stands -/
def PT (Y : YC) (n c : Nat) (r : Nat ⊕ Nat) (I : IM) : Prop := Y.T r I ∧ (I 373 33).toInt = n ∧ n ≤ 3 ∧ (I 373 32).toInt = Y.H ∧ (I 389 Y.H).toInt = c
theorem PT.fr {n c : Nat} {r r' : Nat ⊕ Nat} (h : PT Y n c r I) (e : FR8 m I I') (h' : Y.T r' I') : PT Y n c r' I' := by
  obtain ⟨_, h2, h3, h4, h5⟩ := h
  exact ⟨h', by rw [e.1 _ _ (by omega)]; exact h2, h3, by rw [e.1 _ _ (by omega)]; exact h4, by rw [e.2]; exact h5⟩
theorem s_49 (hR : QR Y.R) (hL2 : Y.L ≤ 200) {s : Int32} (hs : Y.T r1 I) (hP : LPr (sq (exP Y.K) (tkP Y.K 59)) r1 r) {Q : WW → Prop} (k : ∀ I', FR8 m I I' → Y.T r I' → Q (mk I' Y.J Y.R)) : wl (f_q_assignment_49 373 s (mk I Y.J Y.R)) Q := by
  obtain ⟨r2, p1, p2⟩ := hP.sq
  unfold f_q_assignment_49
  refine wq_12 hR (s_exm hR hL2 (m := m) (Or.inl rfl) (Or.inl rfl) rfl rfl (fun I' => by intro _ _ _ h; exact wq_13 hR h) hs p1 (fun I2 e2 h2 => ?_))
  unfold f_q_assignment_83
  exact wl_bd (s_expect hR hL2 (m := m) sg_59 h2 p2 (fun I3 e3 h3 => wl_some (k I3 (e2.trans e3) h3)))
theorem s_asg (hR : QR Y.R) (hL2 : Y.L ≤ 200) (hH : Y.H ≤ 1) {n c : Nat} (hp : PQ Y i n c I) (hk : Y.K i = 2) (hP : asP Y.K (i + 1) r) {Q : WW → Prop} (k : ∀ I', FRP (80 * Y.H + c) I I' → PT Y n (c + 1) r I' → Q (mk I' Y.J Y.R)) : wl (f_q_assignment 373 (mk I Y.J Y.R)) Q := by
  obtain ⟨r1, p1, p2⟩ := sq.lp hP
  unfold f_q_assignment
  refine wl_kb (wl_bd2 (s_stmt hR hL2 hH hp (by rw [hk]; decide) (by rw [hk]; decide) (fun s I1 sv e1 k1 hp1 => ?_)))
  dsimp only
  have pt1 : PT Y n (c + 1) (.inl (i + 1)) I1 := hp1
  refine wl_bd (s_expect hR hL2 (m := 80 * Y.H + c) sg_61 pt1.1 (LPr.at p1) (fun I2 e2 h2 => ?_))
  have pt2 := pt1.fr e2 h2
  have h49 : ∀ {r0 : Nat ⊕ Nat}, r0 = r1 → LPr (sq (exP Y.K) (tkP Y.K 59)) r1 r → wl (f_q_assignment_49 373 s (mk I2 Y.J Y.R)) Q := fun _ hq => s_49 hR hL2 (m := 80 * Y.H + c) h2 hq (fun I3 e3 h3 => k I3 (e1.trans (e2.trans e3).1) (pt2.fr e3 h3))
  rcases p2 with ⟨j, rfl, rfl⟩ | ⟨i2, rfl, p2⟩
  · have hb : (I2 373 34).toInt ≠ 0 ∧ I2 373 4 = Y.B j := h2
    refine wl_gI rfl rfl rfl ?_
    rw [if_neg (fun z => hb.1 (by rw [z, l32_0]))]
    exact h49 rfl (Or.inl ⟨j, rfl, rfl⟩)
  · have hs2 : QS Y.c Y.L Y.K Y.B i2 I2 := h2
    have hc := hs2.2.2.2.2.1
    unfold COR at hc
    refine wl_gI rfl rfl rfl ?_
    rw [if_pos (i32eq.mpr (by rw [hs2.2.1, l32_0]))]
    rcases p2 with ⟨z8, p2⟩ | ⟨z8, p2⟩
    · have k8 : (Y.K i2).toInt = 8 := by rw [z8]; exact l32_8
      refine wl_gI rfl rfl rfl ?_
      rw [if_pos (i32eq.mpr (by rw [l32_4]; omega))]
      refine wl_gI rfl rfl rfl ?_
      rw [if_pos (i32eq.mpr (by rw [l32_4]; omega))]
      refine wq_9 hR (wl_sIa (n := 160) rfl (fun I3 e3 _ _ => ?_))
      rw [tnat sv] at e3
      refine wl_bd (x_next (X := Y.X) hR hL2 (i := i2) (hs2.keep (fun x j hx => e3 x j (by omega))) (show (Y.K i2).toInt ≠ 0 by omega) (show (Y.K i2).toInt ≠ -1 by omega) (fun I4 e4 h4 => ?_))
      unfold f_q_assignment_83
      have fr : FR8 (80 * Y.H + c) I2 I4 := ⟨fun x j hx => by rw [e4 x j (by omega), e3 x j (by omega)], fun j => by rw [e4 _ _ (by omega), e3 _ _ (by omega)]⟩
      exact wl_bd (s_expect hR hL2 (m := 80 * Y.H + c) sg_59 (r1 := .inl (i2 + 1)) h4 (LPr.at p2) (fun I5 e5 h5 => wl_some (k I5 (e1.trans (e2.trans (fr.trans e5)).1) (pt2.fr (fr.trans e5) h5))))
    · have k8 : (Y.K i2).toInt ≠ 8 := fun w => z8 (i32eq.mpr (by rw [w, l32_8]))
      refine wl_gI rfl rfl rfl (wl_ite (fun z4 => wl_gI rfl rfl rfl (wl_ite (fun z5 => ?_) (fun z5 => h49 rfl (LPr.at p2)))) (fun z4 => h49 rfl (LPr.at p2)))
      exfalso
      rw [i32eq, l32_4] at z4 z5
      omega
theorem s_sto (hR : QR Y.R) (hL2 : Y.L ≤ 200) (hH : Y.H ≤ 1) {n c : Nat} (hp : PQ Y i n c I) (hk : Y.K i = 3) (hP : stP Y.K (i + 1) r) {Q : WW → Prop} (k : ∀ I', FRP (80 * Y.H + c) I I' → PT Y n (c + 1) r I' → Q (mk I' Y.J Y.R)) : wl (f_q_storing 373 (mk I Y.J Y.R)) Q := by
  obtain ⟨r1, p1, q1⟩ := sq.lp hP
  obtain ⟨r2, p2, q2⟩ := q1.sq
  obtain ⟨r3, p3, q3⟩ := q2.sq
  obtain ⟨r4, p4, q4⟩ := q3.sq
  obtain ⟨r5, p5, p6⟩ := q4.sq
  unfold f_q_storing
  refine wl_kb (wl_bd2 (s_stmt hR hL2 hH hp (by rw [hk]; decide) (by rw [hk]; decide) (fun s I1 sv e1 k1 hp1 => ?_)))
  dsimp only
  have pt1 : PT Y n (c + 1) (.inl (i + 1)) I1 := hp1
  refine wl_bd (s_expect hR hL2 (m := 80 * Y.H + c) sg_91 pt1.1 (LPr.at p1) (fun I2 e2 h2 => ?_))
  refine wq_12 hR (s_exm hR hL2 (m := 80 * Y.H + c) (Or.inl rfl) (Or.inl rfl) rfl rfl (fun I' => by intro _ _ _ h; exact wq_13 hR h) h2 p2 (fun I3 e3 h3 => ?_))
  refine wl_bd (s_expect hR hL2 (m := 80 * Y.H + c) sg_93 h3 p3 (fun I4 e4 h4 => ?_))
  refine wl_bd (s_expect hR hL2 (m := 80 * Y.H + c) sg_61 h4 p4 (fun I5 e5 h5 => ?_))
  refine wq_14 hR (s_exm hR hL2 (m := 80 * Y.H + c) (Or.inr rfl) (Or.inr rfl) rfl rfl (fun I' => by intro _ _ _ h; exact wq_15 hR h) h5 p5 (fun I6 e6 h6 => ?_))
  refine wl_bd (s_expect hR hL2 (m := 80 * Y.H + c) sg_59 h6 p6 (fun I7 e7 h7 => ?_))
  have fr : FR8 (80 * Y.H + c) I1 I7 := e2.trans (e3.trans (e4.trans (e5.trans (e6.trans e7))))
  exact wl_some (k I7 (e1.trans fr.1) (pt1.fr fr h7))
theorem s_cond (hR : QR Y.R) (hL2 : Y.L ≤ 200) {s : Int32} {r2 r3 r4 : Nat ⊕ Nat} (hs : Y.T r1 I) (p1 : LPr (exP Y.K) r1 r2) (p2 : LPr (cmP Y.K) r2 r3) (p3 : LPr (exP Y.K) r3 r4) {Q : WW → Prop} (k : ∀ I', FR8 m I I' → Y.T r4 I' → Q (mk I' Y.J Y.R)) : wl (f_q_condition 373 s (mk I Y.J Y.R)) Q := by
  unfold f_q_condition
  refine wl_kb (wq_12 hR (s_exm hR hL2 (m := m) (Or.inl rfl) (Or.inl rfl) rfl rfl (fun I' => by intro _ _ _ h; exact wq_13 hR h) hs p1 (fun I2 e2 h2 => ?_)))
  have h132 : ∀ I5 : IM, FR8 m I I5 → Y.T r3 I5 ∨ (∃ i, r3 = .inl (i + 1) ∧ Y.T (.inl i) I5 ∧ (Y.K i).toInt ≠ 0 ∧ (Y.K i).toInt ≠ -1) → ((∃ j, r3 = .inr j) ∨ ∃ i, r3 = .inl (i + 1) ∧ Y.T (.inl i) I5 ∧ (Y.K i).toInt ≠ 0 ∧ (Y.K i).toInt ≠ -1) → wl (f_q_condition_132 373 s (mk I5 Y.J Y.R)) Q := by
    intro I5 e5 hx hy
    unfold f_q_condition_132
    refine wl_gI rfl rfl rfl ?_
    rcases hy with ⟨j, rfl⟩ | ⟨i, rfl, hi, k0, k1⟩
    · have hb : (I5 373 34).toInt ≠ 0 ∧ I5 373 4 = Y.B j := by
        rcases hx with hx | ⟨i, hx, _⟩
        · exact hx
        · cases hx
      rw [if_neg (fun z => hb.1 (by rw [z, l32_0]))]
      rcases p3 with ⟨j', e, rfl⟩ | ⟨i', e, _⟩
      · cases e; exact wl_some (k I5 e5 hb)
      · cases e
    · have hs5 : QS Y.c Y.L Y.K Y.B i I5 := hi
      rw [if_pos (i32eq.mpr (by rw [hs5.2.1, l32_0]))]
      refine wl_bd (x_next (X := Y.X) hR hL2 hs5 k0 k1 (fun I6 e6 h6 => ?_))
      refine wq_14 hR (s_exm hR hL2 (m := m) (Or.inr rfl) (Or.inr rfl) rfl rfl (fun I' => by intro _ _ _ h; exact wq_15 hR h) (r1 := .inl (i + 1)) h6 p3 (fun I7 e7 h7 => ?_))
      exact wl_some (k I7 (e5.trans (e6.fr.trans e7)) h7)
  have h81 : ∀ z2 : Int32, wl (f_q_condition_81 373 s 383 s z2 (mk I2 Y.J Y.R)) Q := by
    intro z2
    unfold f_q_condition_81
    refine wl_sIa (n := 160) rfl (fun I3 e3 _ _ => wl_gI rfl rfl rfl ?_)
    have f3 : FR8 m I2 I3 := ⟨fun x j hx => e3 x j (by omega), fun j => e3 _ _ (by omega)⟩
    have h3 : Y.T r2 I3 := h2.keep (fun x j hx => e3 x j (by omega))
    have f13 := e2.trans f3
    rcases p2 with ⟨j, rfl, rfl⟩ | ⟨i, rfl, p2⟩
    · have hb : (I3 373 34).toInt ≠ 0 ∧ I3 373 4 = Y.B j := h3
      rw [if_neg (fun z => hb.1 (by rw [z, l32_0]))]
      exact h132 I3 f13 (Or.inl h3) (Or.inl ⟨j, rfl⟩)
    · have hs3 : QS Y.c Y.L Y.K Y.B i I3 := h3
      have hc := hs3.2.2.2.2.1
      unfold COR at hc
      have good : isCm (Y.K i) → wl (f_q_condition_132 373 s (mk I3 Y.J Y.R)) Q := by
        intro hz
        rcases p2 with ⟨_, rfl⟩ | ⟨y, _⟩
        · have k0 : (Y.K i).toInt ≠ 0 ∧ (Y.K i).toInt ≠ -1 := by
            rcases hz with z | z | z | z <;> rw [z] <;> decide
          exact h132 I3 f13 (Or.inr ⟨i, rfl, h3, k0.1, k0.2⟩) (Or.inr ⟨i, rfl, h3, k0.1, k0.2⟩)
        · exact absurd hz y
      rw [if_pos (i32eq.mpr (by rw [hs3.2.1, l32_0]))]
      refine wl_bd2 (x_is (fun a b => ?_) (fun n1 => ?_))
      · dsimp only
        rw [if_neg (by decide)]
        rw [l32_1000] at b
        exact good (Or.inl (i32eq.mpr (by rw [l32_256]; omega)))
      rw [l32_1000] at n1
      dsimp only
      rw [if_pos rfl]
      refine wl_bd2 (x_is (fun a b => ?_) (fun n2 => ?_))
      · dsimp only
        rw [if_neg (by decide)]
        rw [l32_1001] at b
        exact good (Or.inr (Or.inl (i32eq.mpr (by rw [l32_257]; omega))))
      rw [l32_1001] at n2
      dsimp only
      rw [if_pos rfl]
      refine wl_bd2 (x_is (fun a b => ?_) (fun n3 => ?_))
      · dsimp only
        rw [if_neg (by decide)]
        rw [l32_60] at b
        exact good (Or.inr (Or.inr (Or.inl (i32eq.mpr (by rw [l32_60]; omega)))))
      rw [l32_60] at n3
      dsimp only
      rw [if_pos rfl]
      refine wl_bd2 (x_is (fun a b => ?_) (fun n4 => ?_))
      · dsimp only
        rw [if_neg (by decide)]
        rw [l32_1002] at b
        exact good (Or.inr (Or.inr (Or.inr (i32eq.mpr (by rw [l32_258]; omega)))))
      rw [l32_1002] at n4
      dsimp only
      rw [if_pos rfl]
      have nc : ¬ isCm (Y.K i) := by
        intro hz
        have hz' : (Y.K i).toInt = 256 ∨ (Y.K i).toInt = 257 ∨ (Y.K i).toInt = 60 ∨ (Y.K i).toInt = 258 := by
          rcases hz with z | z | z | z <;> rw [z] <;> decide
        omega
      rcases p2 with ⟨y, _⟩ | ⟨_, rfl⟩
      · exact absurd y nc
      · refine wl_bd (x_wrong (X := Y.X) hs3 (fun I4 e4 w1 w2 => ?_))
        have h4 : Y.T (.inr i) I4 := (show _ ∧ _ from ⟨by omega, w2⟩)
        exact h132 I4 (f13.trans ⟨fun x j hx => e4 x j (by omega), fun j => e4 _ _ (by omega)⟩) (Or.inl h4) (Or.inl ⟨i, rfl⟩)
  refine wq_16 hR (wl_bd2 (x_is (fun _ _ => ?_) (fun _ => ?_)))
  · dsimp only
    rw [if_neg (by decide)]
    exact h81 _
  dsimp only
  rw [if_pos rfl]
  refine wl_bd2 (x_is (fun _ _ => ?_) (fun _ => ?_))
  · dsimp only
    rw [if_neg (by decide)]
    exact h81 _
  dsimp only
  rw [if_pos rfl]
  refine wl_bd2 (x_is (fun _ _ => ?_) (fun _ => ?_))
  · dsimp only
    rw [if_neg (by decide)]
    exact h81 _
  dsimp only
  rw [if_pos rfl]
  exact h81 _
end QST
