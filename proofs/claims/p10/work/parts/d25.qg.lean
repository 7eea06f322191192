/-! The reference runs a program by the same rules. -/
/-- the reference's STATEMENTS of the half H are the program's -/
def SRL (X : RX) (G : Nat → Nat → Prop) (H p : Nat) (I : IM) : Prop := ∀ d y, G d y → ∃ q, y = p + 2 + q ∧ RECQ X H p q I ∧ RECN X H p q I
/-- the steps of these STATEMENTS are below n -/
def SEN (X : RX) (G : Nat → Nat → Prop) (n : Nat) : Prop := ∀ d y, G d y → ¬ X.F y 0 = 8 → X.f y 5 ≤ n ∧ (¬ X.F y 0 = 2 → X.f y 4 ≤ n)
section SRL
variable {X : RX} {G : Nat → Nat → Prop} {H p : Nat} {I : IM} {d y : Nat}
theorem sid_q {q : Nat} : sid H p (p + 2 + q) = 80 * H + q := by unfold sid; omega
theorem SRL.kd (h : SRL X G H p I) (d y : Nat) (hy : G d y) : I 376 (sid H p y) = ckd (X.F y 0) := by
  obtain ⟨q, rfl, a, _⟩ := h d y hy
  rw [sid_q]; exact a.1.1
theorem SRL.pl (h : SRL X G H p I) (d y : Nat) (hy : G d y) : I 378 (sid H p y) = X.F y 1 := by
  obtain ⟨q, rfl, a, _⟩ := h d y hy
  rw [sid_q]; exact a.1.2.1
theorem SRL.tg (h : SRL X G H p I) (d y : Nat) (hy : G d y) (hk : X.F y 0 = 2 ∨ X.F y 0 = 8) : X.F y 2 = I 377 (sid H p y) := by
  obtain ⟨q, rfl, a, _⟩ := h d y hy
  rw [sid_q]
  rcases a.1.2.2 with b | b | b | b
  · exact b.2
  · exact b.2.1
  · rw [b.1] at hk; exact absurd hk (by decide)
  · rcases b.1 with z | z | z <;> (rw [z] at hk; exact absurd hk (by decide))
theorem SRL.tg3 (h : SRL X G H p I) (d y : Nat) (hy : G d y) (hk : X.F y 0 = 3) : X.F y 2 = (4 : Int32) * I 377 (sid H p y) := by
  obtain ⟨q, rfl, a, _⟩ := h d y hy
  rw [sid_q]
  rcases a.1.2.2 with b | b | b | b
  · rw [b.1] at hk; exact absurd hk (by decide)
  · rw [b.1] at hk; exact absurd hk (by decide)
  · exact b.2.1
  · rcases b.1 with z | z | z <;> (rw [z] at hk; exact absurd hk (by decide))
theorem SRL.o2 (h : SRL X G H p I) (d y : Nat) (hy : G d y) (hk : X.F y 0 = 2) : (I 379 (sid H p y)).toInt = ((220 * H + X.f y 3 : Nat) : Int) ∧ (I 380 (sid H p y)).toInt = ((220 * H + X.f y 5 : Nat) : Int) := by
  obtain ⟨q, rfl, a, _⟩ := h d y hy
  rw [sid_q]
  rcases a.1.2.2 with b | b | b | b
  · rw [b.1] at hk; exact absurd hk (by decide)
  · obtain ⟨_, _, n0, n1, _, c3, c5, c1, c2⟩ := b
    have f3 : X.f (p + 2 + q) 3 = n0 := by show (X.F (p + 2 + q) 3).toInt.toNat = n0; omega
    have f5 : X.f (p + 2 + q) 5 = n1 := by show (X.F (p + 2 + q) 5).toInt.toNat = n1; omega
    rw [f3, f5]; exact ⟨c1, c2⟩
  · rw [b.1] at hk; exact absurd hk (by decide)
  · rcases b.1 with z | z | z <;> (rw [z] at hk; exact absurd hk (by decide))
theorem TWO.f {q : Nat} (b : TWO X (p + 2 + q) H (80 * H + q) I) : (I 379 (80 * H + q)).toInt = ((220 * H + X.f (p + 2 + q) 3 : Nat) : Int) ∧ (I 380 (80 * H + q)).toInt = ((220 * H + X.f (p + 2 + q) 4 : Nat) : Int) ∧ (I 381 (80 * H + q)).toInt = ((220 * H + X.f (p + 2 + q) 4 : Nat) : Int) ∧ (I 382 (80 * H + q)).toInt = ((220 * H + X.f (p + 2 + q) 5 : Nat) : Int) := by
  obtain ⟨n0, n1, n2, _, c3, c4, c5, r⟩ := b
  have f3 : X.f (p + 2 + q) 3 = n0 := by show (X.F (p + 2 + q) 3).toInt.toNat = n0; omega
  have f4 : X.f (p + 2 + q) 4 = n1 := by show (X.F (p + 2 + q) 4).toInt.toNat = n1; omega
  have f5 : X.f (p + 2 + q) 5 = n2 := by show (X.F (p + 2 + q) 5).toInt.toNat = n2; omega
  rw [f3, f4, f5]; exact r
theorem SRL.tw (h : SRL X G H p I) (d y : Nat) (hy : G d y) (hk : X.F y 0 = 3 ∨ X.F y 0 = 4 ∨ X.F y 0 = 6 ∨ X.F y 0 = 7) : (I 379 (sid H p y)).toInt = ((220 * H + X.f y 3 : Nat) : Int) ∧ (I 380 (sid H p y)).toInt = ((220 * H + X.f y 4 : Nat) : Int) ∧ (I 381 (sid H p y)).toInt = ((220 * H + X.f y 4 : Nat) : Int) ∧ (I 382 (sid H p y)).toInt = ((220 * H + X.f y 5 : Nat) : Int) := by
  obtain ⟨q, rfl, a, _⟩ := h d y hy
  rw [sid_q]
  rcases a.1.2.2 with b | b | b | b
  · rw [b.1] at hk; exact absurd hk (by decide)
  · rw [b.1] at hk; exact absurd hk (by decide)
  · exact b.2.2.f
  · exact b.2.2.2.f
theorem SRL.sg (h : SRL X G H p I) (d y : Nat) (hy : G d y) (hk : X.F y 0 = 4 ∨ X.F y 0 = 6 ∨ X.F y 0 = 7) : I 383 (sid H p y) = csg (X.F y 6) ∧ (X.F y 6 = 256 ∨ X.F y 6 = 257 ∨ X.F y 6 = 60 ∨ X.F y 6 = 258) := by
  obtain ⟨q, rfl, a, _⟩ := h d y hy
  rw [sid_q]
  rcases a.1.2.2 with b | b | b | b
  · rw [b.1] at hk; exact absurd hk (by decide)
  · rw [b.1] at hk; exact absurd hk (by decide)
  · rw [b.1] at hk; exact absurd hk (by decide)
  · exact ⟨b.2.2.1, b.2.1⟩
theorem SRL.bd (h : SRL X G H p I) (d y : Nat) (hy : G d y) (hk : X.F y 0 = 4 ∨ X.F y 0 = 6) : lnk H p (X.N y 7) (I 384 (sid H p y)) := by
  obtain ⟨q, rfl, a, _⟩ := h d y hy
  rw [sid_q]; exact a.2.1 hk
theorem SRL.ot (h : SRL X G H p I) (d y : Nat) (hy : G d y) (hk : X.F y 0 = 4) : (I 387 (sid H p y) = 0 ∧ X.N y 8 = none) ∨ (¬ I 387 (sid H p y) = 0 ∧ lnk H p (X.N y 8) (I 385 (sid H p y))) := by
  obtain ⟨q, rfl, a, _⟩ := h d y hy
  rw [sid_q]; exact a.2.2.1 hk
theorem SRL.wh (h : SRL X G H p I) (d y : Nat) (hy : G d y) (hk : X.F y 0 = 6) : I 387 (sid H p y) = 0 := by
  obtain ⟨q, rfl, a, _⟩ := h d y hy
  rw [sid_q]; exact a.2.2.2 hk
theorem SRL.nx (h : SRL X G H p I) (d y : Nat) (hy : G d y) : lnk H p (X.N y 9) (I 386 (sid H p y)) := by
  obtain ⟨q, rfl, _, b⟩ := h d y hy
  rw [sid_q]; exact b
end SRL
abbrev ZC : Type := (RX) × (Nat → Nat → Prop) × (Nat) × (Nat) × (Nat) × (Nat) × (Nat) × (Nat → Int32) × (IM) × (JM) × (RM) × (Int32) × ((Int32 × WW) → Prop)
abbrev ZC.X (X : ZC) : RX := X.1
abbrev ZC.G (X : ZC) : Nat → Nat → Prop := X.2.1
abbrev ZC.H (X : ZC) : Nat := X.2.2.1
abbrev ZC.p (X : ZC) : Nat := X.2.2.2.1
abbrev ZC.n (X : ZC) : Nat := X.2.2.2.2.1
abbrev ZC.lim (X : ZC) : Nat := X.2.2.2.2.2.1
abbrev ZC.ic (X : ZC) : Nat := X.2.2.2.2.2.2.1
abbrev ZC.inp (X : ZC) : Nat → Int32 := X.2.2.2.2.2.2.2.1
abbrev ZC.I0 (X : ZC) : IM := X.2.2.2.2.2.2.2.2.1
abbrev ZC.J (X : ZC) : JM := X.2.2.2.2.2.2.2.2.2.1
abbrev ZC.R (X : ZC) : RM := X.2.2.2.2.2.2.2.2.2.2.1
abbrev ZC.y1 (X : ZC) : Int32 := X.2.2.2.2.2.2.2.2.2.2.2.1
abbrev ZC.Q (X : ZC) : (Int32 × WW) → Prop := X.2.2.2.2.2.2.2.2.2.2.2.2
/-- what a run of the reference keeps -/
def GOF (I I' : IM) : Prop := ∀ x j, (x < 401 ∨ 405 < x) → (x ≠ 373 ∨ (j ≠ 5 ∧ (j < 50 ∨ 53 < j))) → I' x j = I x j
theorem GOF.trans {I I' I'' : IM} (h : GOF I I') (h2 : GOF I' I'') : GOF I I'' := fun x j a b => (h2 x j a b).trans (h x j a b)
theorem WQ.go {I I' : IM} (h : WQ I I') : GOF I I' := fun x j a b => h x j (by omega) (by omega)
/-- what holds of the program at all times of the run -/
def ZOK (Z : ZC) : Prop := (QR Z.R) ∧ (GDN Z.X Z.p Z.G) ∧ (SRL Z.X Z.G Z.H Z.p Z.I0) ∧ (RLS Z.X Z.H Z.n Z.I0) ∧ (SEN Z.X Z.G Z.n) ∧ (220 * Z.H + Z.n ≤ 440) ∧ (Z.y1.toInt = Z.lim) ∧ ((Z.I0 373 3).toInt = Z.ic) ∧ (∀ j, j < Z.ic → Z.I0 375 j = Z.inp j)
theorem ZOK.hR {Z : ZC} (h : ZOK Z) : QR Z.R := h.1
theorem ZOK.hG {Z : ZC} (h : ZOK Z) : GDN Z.X Z.p Z.G := h.2.1
theorem ZOK.st {Z : ZC} (h : ZOK Z) : SRL Z.X Z.G Z.H Z.p Z.I0 := h.2.2.1
theorem ZOK.sp {Z : ZC} (h : ZOK Z) : RLS Z.X Z.H Z.n Z.I0 := h.2.2.2.1
theorem ZOK.en {Z : ZC} (h : ZOK Z) : SEN Z.X Z.G Z.n := h.2.2.2.2.1
theorem ZOK.hn {Z : ZC} (h : ZOK Z) : 220 * Z.H + Z.n ≤ 440 := h.2.2.2.2.2.1
theorem ZOK.hl {Z : ZC} (h : ZOK Z) : Z.y1.toInt = Z.lim := h.2.2.2.2.2.2.1
theorem ZOK.hi {Z : ZC} (h : ZOK Z) : (Z.I0 373 3).toInt = Z.ic := h.2.2.2.2.2.2.2.1
theorem ZOK.hp {Z : ZC} (h : ZOK Z) : ∀ j, j < Z.ic → Z.I0 375 j = Z.inp j := h.2.2.2.2.2.2.2.2
def OWNR (H p : Nat) (I : IM) : List Nat → Prop
  | [] => True
  | y :: O => (I 404 O.length).toInt = (sid H p y : Nat) ∧ OWNR H p I O
theorem OWNR.keep {H p : Nat} {I I' : IM} : ∀ O : List Nat, OWNR H p I O → (∀ j, j < O.length → I' 404 j = I 404 j) → OWNR H p I' O := by
  intro O
  induction O with
  | nil => intro _ _; trivial
  | cons y O ih =>
    intro h e
    refine ⟨?_, ih h.2 (fun j hj => e j (Nat.lt_succ_of_lt hj))⟩
    rw [e O.length (Nat.lt_succ_self _)]; exact h.1
/-- the reference at work -/
def QGO (Z : ZC) (s : SGM) (O : List Nat) (I : IM) : Prop := GOF Z.I0 I ∧ VRL s.V s.U s.C I ∧ (I 373 52).toInt = s.bg ∧ (I 373 53).toInt = s.tk ∧ s.bg ≤ Z.lim ∧ OWNR Z.H Z.p I O ∧ (∀ y, y ∈ O → ∃ d, Z.G d y) ∧ I 373 51 = 0 ∧ I 373 5 = 0
/-- the reference behind an error -/
def QGE (Z : ZC) (s : SGM) (I : IM) : Prop := GOF Z.I0 I ∧ VRL s.V s.U s.C I ∧ (I 373 52).toInt = s.bg ∧ (I 373 53).toInt = s.tk
section QGS
variable {Z : ZC} {s : SGM} {O : List Nat} {I I' : IM} {d y : Nat}
theorem QGO.wq (h : QGO Z s O I) (e : WQ I I') (e1 : I' 373 51 = I 373 51) : QGO Z s O I' := by
  obtain ⟨h1, h2, h3, h4, h5, h6, h7, h8⟩ := h
  exact ⟨h1.trans e.go, h2.keep e, by rw [e _ _ (by omega) (by omega)]; exact h3, by rw [e _ _ (by omega) (by omega)]; exact h4, h5, h6.keep O (fun j hj => e _ _ (by omega) (by omega)), h7, e1.trans h8.1, by rw [e _ _ (by omega) (by omega)]; exact h8.2⟩
theorem QGO.we (h : QGO Z s O I) (e : WQ I I') : QGE Z s I' := by
  obtain ⟨h1, h2, h3, h4, _⟩ := h
  exact ⟨h1.trans e.go, h2.keep e, by rw [e _ _ (by omega) (by omega)]; exact h3, by rw [e _ _ (by omega) (by omega)]; exact h4⟩
theorem QGO.fr (h : QGO Z s O I) {x j : Nat} (hx : 374 ≤ x ∧ x < 401) : I x j = Z.I0 x j := h.1 x j (by omega) (by omega)
theorem QGO.rls (hz : ZOK Z) (h : QGO Z s O I) : RLS Z.X Z.H Z.n I := fun k hk => by
  have q := hz.sp k hk
  rw [h.fr (by omega), h.fr (by omega), h.fr (by omega)]
  exact q
theorem z_work (hz : ZOK Z) (h : QGO Z s O I) {k e b : Nat} {S : Nat → Int32} {r : (Nat → Int32) ⊕ Int32} (hE : EV Z.X s.V s.U s.C k e b S r) (hW : WS Z.X k e b (b + 1)) (he : e ≤ Z.n) {kk ee : Int32} (hkk : kk.toInt = ((220 * Z.H + k : Nat) : Int)) (hee : ee.toInt = ((220 * Z.H + e : Nat) : Int)) {Q : (Int32 × WW) → Prop} (k1 : ∀ S', r = .inl S' → ∀ I', QGO Z s O I' → I' 373 50 = S' b → I' 373 51 = I 373 51 → Q (1, mk I' Z.J Z.R)) (kx : ∀ z, r = .inr z → ∀ I', QGE Z s I' → I' 373 51 = z → Q (0, mk I' Z.J Z.R)) : wl (f_q_work 373 kk ee (mk I Z.J Z.R)) Q := by
  unfold f_q_work
  exact wl_kb (z_work_5 hz.hR (h.rls hz) h.2.1 hz.hn hE he ee hee (fun S' hr I' w a1 a2 => k1 S' hr I' (h.wq w a2) a1 a2) (fun z hr I' w a1 => kx z hr I' (h.we w) a1) KK 0 I kk 0 hW rfl hkk l32_0 (fun _ _ _ _ => rfl) rfl (fun j hj => by omega))
theorem cmp_256 {x y : Int32} : cmpv 256 x y = decide (x = y) := by unfold cmpv; rw [if_neg (by decide), if_pos rfl]
theorem cmp_257 {x y : Int32} : cmpv 257 x y = !(decide (x = y)) := by unfold cmpv; rw [if_neg (by decide), if_neg (by decide), if_pos rfl]
theorem cmp_60 {x y : Int32} : cmpv 60 x y = !(decide (y ≤ x)) := by unfold cmpv; rw [if_pos rfl]
theorem cmp_258 {x y : Int32} : cmpv 258 x y = !(decide (y < x)) := by unfold cmpv; rw [if_neg (by decide), if_neg (by decide), if_neg (by decide)]
theorem z_holds {c cc x v : Int32} (hc : cc = csg c) (ho : c = 256 ∨ c = 257 ∨ c = 60 ∨ c = 258) {w : WW} {Q : (Int32 × WW) → Prop} (k : Q ((if cmpv c x v = true then 1 else 0), w)) : wl (f_q_holds cc x v w) Q := by
  unfold f_q_holds f_q_holds_63
  rcases ho with o | o | o | o
  · subst o
    rw [show csg 256 = 0 from by decide] at hc
    rw [cmp_256] at k
    rw [hc, if_pos rfl]
    refine wl_ite (fun z => wl_req (fun _ => wl_some ?_)) (fun z => wl_req (fun _ => wl_some ?_))
    · rw [decide_eq_true z] at k; exact k
    · rw [decide_eq_false z] at k; exact k
  · subst o
    rw [show csg 257 = 1 from by decide] at hc
    rw [cmp_257] at k
    rw [hc, if_neg (by decide), if_pos rfl]
    refine wl_ite (fun z => wl_req (fun _ => wl_some ?_)) (fun z => wl_req (fun _ => wl_some ?_))
    · rw [decide_eq_true z] at k; exact k
    · rw [decide_eq_false z] at k; exact k
  · subst o
    rw [show csg 60 = 2 from by decide] at hc
    rw [cmp_60] at k
    rw [hc, if_neg (by decide), if_neg (by decide), if_pos rfl]
    refine wl_ite (fun z => wl_req (fun _ => wl_some ?_)) (fun z => wl_req (fun _ => wl_some ?_))
    · rw [decide_eq_true z] at k; exact k
    · rw [decide_eq_false z] at k; exact k
  · subst o
    rw [show csg 258 = 3 from by decide] at hc
    rw [cmp_258] at k
    rw [hc, if_neg (by decide), if_neg (by decide), if_neg (by decide)]
    refine wl_ite (fun z => wl_req (fun _ => wl_some ?_)) (fun z => wl_req (fun _ => wl_some ?_))
    · rw [decide_eq_true z] at k; exact k
    · rw [decide_eq_false z] at k; exact k
theorem z_ask (hz : ZOK Z) (hy : Z.G d y) (hk : Z.X.F y 0 = 4 ∨ Z.X.F y 0 = 6 ∨ Z.X.F y 0 = 7) {ss : Int32} (hss : ss.toInt = (sid Z.H Z.p y : Nat)) (h : QGO Z s O I) {r : Bool ⊕ Int32} (hH : HLD Z.X s.V s.U s.C y r) {Q : (Int32 × WW) → Prop} (k1 : ∀ b, r = .inl b → ∀ I', QGO Z s O I' → I' 373 51 = I 373 51 → Q ((if b = true then 1 else 0), mk I' Z.J Z.R)) (kx : ∀ z, r = .inr z → ∀ I', QGE Z s I' → I' 373 51 = z → Q (-1, mk I' Z.J Z.R)) : wl (f_q_ask 373 ss (mk I Z.J Z.R)) Q := by
  obtain ⟨w1, w2⟩ := hz.hG.e4 d y hy hk
  have n2 : ¬ Z.X.F y 0 = 2 := by rcases hk with c | c | c <;> rw [c] <;> decide
  have n8 : ¬ Z.X.F y 0 = 8 := by rcases hk with c | c | c <;> rw [c] <;> decide
  obtain ⟨e2, e1⟩ := hz.en d y hy n8
  replace e1 := e1 n2
  obtain ⟨a1, a2, a3, a4⟩ := hz.st.tw d y hy (Or.inr hk)
  obtain ⟨a5, a6⟩ := hz.st.sg d y hy hk
  have bad : ∀ (x : Int32) (I1 : IM), Q (-1, mk I1 Z.J Z.R) → wl (f_q_ask_49 373 ss x (mk I1 Z.J Z.R)) Q := by
    intro x I1 q
    unfold f_q_ask_49 f_q_ask_50 f_q_ask_81
    rw [if_pos rfl]
    exact wl_some q
  unfold f_q_ask
  refine wl_kb (wq_12 hz.hR (wl_rI (n := 160) rfl (fun _ => wq_13 hz.hR (wl_rI (n := 160) rfl (fun _ => wl_bd2 ?_)))))
  rw [tnat hss, h.fr (by omega), h.fr (by omega)]
  rcases hH with ⟨S, z0, hE, rfl⟩ | ⟨S, S1, S2, z0, hE, hE2, rfl⟩ | ⟨S, S1, S2, S3, hE, hE2, rfl⟩
  · -- the first EXPR has an error
    refine z_work hz h hE w1 e1 a1 a2 (fun S' hr => by cases hr) (fun z hr I1 h1 t1 => ?_)
    cases hr
    dsimp only
    refine wl_gI rfl rfl rfl ?_
    rw [if_pos rfl]
    exact bad _ _ (kx _ rfl I1 h1 t1)
  · -- the second
    refine z_work hz h hE w1 e1 a1 a2 (fun S' hr I1 h1 r1 t1 => ?_) (fun z hr => by cases hr)
    dsimp only
    refine wl_gI rfl rfl rfl ?_
    rw [if_neg (by decide)]
    refine wq_14 hz.hR (wl_rI (n := 160) rfl (fun _ => wq_15 hz.hR (wl_rI (n := 160) rfl (fun _ => wl_bd2 ?_))))
    rw [tnat hss, h1.fr (by omega), h1.fr (by omega)]
    refine z_work hz h1 hE2 w2 e2 a3 a4 (fun S' hr => by cases hr) (fun z hr I2 h2 t2 => ?_)
    cases hr
    dsimp only
    rw [if_pos rfl]
    exact bad _ _ (kx _ rfl I2 h2 t2)
  · -- none
    refine z_work hz h hE w1 e1 a1 a2 (fun S' hr I1 h1 r1 t1 => ?_) (fun z hr => by cases hr)
    cases hr
    dsimp only
    refine wl_gI rfl rfl r1 ?_
    rw [if_neg (by decide)]
    refine wq_14 hz.hR (wl_rI (n := 160) rfl (fun _ => wq_15 hz.hR (wl_rI (n := 160) rfl (fun _ => wl_bd2 ?_))))
    rw [tnat hss, h1.fr (by omega), h1.fr (by omega)]
    refine z_work hz h1 hE2 w2 e2 a3 a4 (fun S' hr I2 h2 r2 t2 => ?_) (fun z hr => by cases hr)
    cases hr
    dsimp only
    rw [if_neg (by decide)]
    unfold f_q_ask_50 f_q_ask_81
    rw [if_neg (by decide)]
    refine wq_16 hz.hR (wl_rI (n := 160) rfl (fun _ => wl_gI rfl rfl r2 (wl_bd2 ?_)))
    rw [tnat hss, h2.fr (by omega)]
    refine z_holds a5 a6 ?_
    have fin := k1 _ rfl I2 h2 (t2.trans t1)
    generalize cmpv (Z.X.F y 6) _ _ = b at fin ⊢
    cases b with
    | false => exact wl_some fin
    | true => exact wl_some fin
end QGS
