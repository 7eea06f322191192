/-! The reference parses EXPRS by the same rules, and leaves the same steps. -/
def VM (K M : Nat → Int32) (i : Nat) (v : Int32) : Prop := ((K i = 1 ∨ K i = 2) → v = M i) ∧ (K i = 3 → M i = (4 : Int32) * v)
/-- the reference's parser stands at the TOKEN i, without a fault -/
def QS (c : Nat → Int32) (L : Nat) (K B M : Nat → Int32) (i : Nat) (I : IM) : Prop := TXQ c L I ∧ (I 373 34).toInt = 0 ∧ I 373 4 = -2 ∧ I 373 29 = B i ∧ COR (K i).toInt (I 373 30).toInt (I 373 31).toInt ∧ VM K M i (I 373 31) ∧ ∃ q : Nat, (I 373 28).toInt = q ∧ q ≤ L ∧ (i ≤ q ∧ ((K i).toInt ≠ 0 → i + 1 ≤ q)) ∧ ((K i).toInt ≠ 0 → (K i).toInt ≠ -1 → TL c L K B M (i + 1) q)
theorem QS.keep {c : Nat → Int32} {L : Nat} {K B M : Nat → Int32} {i : Nat} {I I' : IM} (h : QS c L K B M i I) (e : ∀ x j, (x = 374 ∨ (x = 373 ∧ (j = 2 ∨ j = 4 ∨ (28 ≤ j ∧ j ≤ 31) ∨ j = 34))) → I' x j = I x j) : QS c L K B M i I' := by
  obtain ⟨h1, h2, h3, h4, h5, h6, h7⟩ := h
  unfold QS TXQ
  rw [e 373 34 (by omega), e 373 4 (by omega), e 373 29 (by omega), e 373 30 (by omega), e 373 31 (by omega), e 373 28 (by omega), e 373 2 (by omega)]
  exact ⟨⟨h1.1, fun j hj => by rw [e 374 j (by omega)]; exact h1.2 j hj⟩, h2, h3, h4, h5, h6, h7⟩
theorem QS.le {c : Nat → Int32} {L : Nat} {K B M : Nat → Int32} {i : Nat} {I : IM} (h : QS c L K B M i I) : i ≤ L := by
  obtain ⟨_, _, _, _, _, _, q, _, h2, h3, _⟩ := h
  omega
def cop (k : Int32) : Int32 := if k = 1 then 1 else if k = 2 then 2 else if k = 3 then 3 else if k = 259 then 4 else if k = 43 then 5 else if k = 45 then 6 else if k = 42 then 7 else if k = 47 then 8 else 9
def okk (k : Int32) : Prop := k = 1 ∨ k = 2 ∨ k = 3 ∨ k = 259 ∨ k = 43 ∨ k = 45 ∨ k = 42 ∨ k = 47 ∨ k = 37
/-- a step of the reference (a1, a2, a3) is the program's step k -/
def RL1 (X : RX) (k : Nat) (a1 a2 a3 : Int32) : Prop := okk (X.sk k) ∧ a1 = cop (X.sk k) ∧ a3 = X.sp k ∧ ((X.sk k = 1 ∨ X.sk k = 2) → X.sn k = a2) ∧ (X.sk k = 3 → X.sn k = (4 : Int32) * a2)
/-- the reference's first n steps of the half H are the program's -/
def RLS (X : RX) (H n : Nat) (I : IM) : Prop := ∀ k, k < n → RL1 X k (I 391 (220 * H + k)) (I 392 (220 * H + k)) (I 393 (220 * H + k))
abbrev XC : Type := (Nat → Int32) × (Nat) × (Nat → Int32) × (Nat → Int32) × (Nat → Int32) × (RX) × (Nat) × (IM) × (JM) × (RM) × (Int32) × ((Int32 × WW) → Prop)
abbrev XC.c (X : XC) : Nat → Int32 := X.1
abbrev XC.L (X : XC) : Nat := X.2.1
abbrev XC.K (X : XC) : Nat → Int32 := X.2.2.1
abbrev XC.B (X : XC) : Nat → Int32 := X.2.2.2.1
abbrev XC.M (X : XC) : Nat → Int32 := X.2.2.2.2.1
abbrev XC.P (X : XC) : RX := X.2.2.2.2.2.1
abbrev XC.H (X : XC) : Nat := X.2.2.2.2.2.2.1
abbrev XC.I0 (X : XC) : IM := X.2.2.2.2.2.2.2.1
abbrev XC.J (X : XC) : JM := X.2.2.2.2.2.2.2.2.1
abbrev XC.R (X : XC) : RM := X.2.2.2.2.2.2.2.2.2.1
abbrev XC.y1 (X : XC) : Int32 := X.2.2.2.2.2.2.2.2.2.2.1
abbrev XC.Q (X : XC) : (Int32 × WW) → Prop := X.2.2.2.2.2.2.2.2.2.2.2
abbrev XC.S (X : XC) (i : Nat) (I : IM) : Prop := QS X.c X.L X.K X.B X.M i I
/-- what is open: its kind, its value and its place -/
abbrev OL := List (Int32 × (Int32 × Int32))
def OPN (I : IM) : OL → Prop
  | [] => True
  | s :: S => I 397 S.length = s.1 ∧ I 399 S.length = s.2.1 ∧ I 398 S.length = s.2.2 ∧ OPN I S
def HGT (I : IM) : List Int32 → Prop
  | [] => True
  | h :: H => I 400 H.length = h ∧ HGT I H
def ins : OL → Nat
  | [] => 0
  | s :: S => (if s.1.toInt < 4 then 1 else 0) + ins S
theorem ins_le : ∀ S : OL, ins S ≤ S.length := by
  intro S
  induction S with
  | nil => exact Nat.le_refl _
  | cons s S ih =>
    show (if s.1.toInt < 4 then 1 else 0) + ins S ≤ S.length + 1
    split <;> omega
theorem ins1 (v : Int32 × Int32) (S : OL) : ins ((1, v) :: S) = ins S + 1 := by
  show (if (1 : Int32).toInt < 4 then 1 else 0) + ins S = ins S + 1
  rw [if_pos (by decide)]; omega
theorem ins2 (v : Int32 × Int32) (S : OL) : ins ((2, v) :: S) = ins S + 1 := by
  show (if (2 : Int32).toInt < 4 then 1 else 0) + ins S = ins S + 1
  rw [if_pos (by decide)]; omega
theorem ins3 (v : Int32 × Int32) (S : OL) : ins ((3, v) :: S) = ins S + 1 := by
  show (if (3 : Int32).toInt < 4 then 1 else 0) + ins S = ins S + 1
  rw [if_pos (by decide)]; omega
theorem ins4 (v : Int32 × Int32) (S : OL) : ins ((4, v) :: S) = ins S := by
  show (if (4 : Int32).toInt < 4 then 1 else 0) + ins S = ins S
  rw [if_neg (by decide)]; omega
theorem OPN.keep {I I' : IM} : ∀ S : OL, OPN I S → (∀ x j, (x = 397 ∨ x = 398 ∨ x = 399) → j < S.length → I' x j = I x j) → OPN I' S := by
  intro S
  induction S with
  | nil => intro _ _; trivial
  | cons s S ih =>
    intro h e
    obtain ⟨h1, h2, h3, h4⟩ := h
    refine ⟨?_, ?_, ?_, ih h4 (fun x j hx hj => e x j hx (Nat.lt_succ_of_lt hj))⟩
    · rw [e 397 S.length (Or.inl rfl) (Nat.lt_succ_self _)]; exact h1
    · rw [e 399 S.length (Or.inr (Or.inr rfl)) (Nat.lt_succ_self _)]; exact h2
    · rw [e 398 S.length (Or.inr (Or.inl rfl)) (Nat.lt_succ_self _)]; exact h3
theorem HGT.keep {I I' : IM} : ∀ H : List Int32, HGT I H → (∀ j, j < H.length → I' 400 j = I 400 j) → HGT I' H := by
  intro H
  induction H with
  | nil => intro _ _; trivial
  | cons s H ih =>
    intro h e
    obtain ⟨h1, h2⟩ := h
    refine ⟨?_, ih h2 (fun j hj => e j (Nat.lt_succ_of_lt hj))⟩
    rw [e H.length (Nat.lt_succ_self _)]; exact h1
/-- what an EXPR's parsing keeps: of the steps all but those of the half H -/
def FX9 (H : Nat) (I I' : IM) : Prop := ∀ x j, (x < 373 ∨ (373 < x ∧ x < 390) ∨ (x = 390 ∧ j ≠ H) ∨ (391 ≤ x ∧ x ≤ 393 ∧ (j < 220 * H ∨ 220 * H + 220 ≤ j)) ∨ (393 < x ∧ x < 397) ∨ 400 < x ∨ (x = 373 ∧ (j < 4 ∨ (4 < j ∧ j < 28) ∨ j = 32 ∨ j = 33 ∨ (34 < j ∧ j < 42) ∨ 44 < j))) → I' x j = I x j
theorem FX9.trans {H : Nat} {I I' I'' : IM} (h : FX9 H I I') (h2 : FX9 H I' I'') : FX9 H I I'' := fun x j hx => (h2 x j hx).trans (h x j hx)
def EXS (X : XC) (S : OL) (H : List Int32) (i m n : Nat) (I : IM) : Prop := FX9 X.H X.I0 I ∧ X.S i I ∧ (I 373 42).toInt = S.length ∧ OPN I S ∧ (I 373 43).toInt = ins S ∧ (I 373 44).toInt = H.length ∧ HGT I H ∧ (I 373 32).toInt = X.H ∧ (I 390 X.H).toInt = n ∧ RLS X.P X.H n I ∧ n + S.length ≤ m
def BDS (X : XC) (j : Nat) (I : IM) : Prop := FX9 X.H X.I0 I ∧ (I 373 34).toInt ≠ 0 ∧ I 373 4 = X.B j
section QEX
variable {X : XC} {I I' : IM} {S : OL} {H : List Int32} {i m n : Nat}
theorem x_next (hR : QR X.R) (hL2 : X.L ≤ 200) (hx : X.S i I) (h0 : (X.K i).toInt ≠ 0) (h1 : (X.K i).toInt ≠ -1) {Q : WW → Prop} (k : ∀ I', RDQ I I' → X.S (i + 1) I' → Q (mk I' X.J X.R)) : wl (f_q_read 373 (mk I X.J X.R)) Q := by
  obtain ⟨a1, a2, a3, a4, a5, _, q, a6, a7, a9, a8⟩ := hx
  obtain ⟨b2, q2, t1, t2, tm, t3⟩ := (a8 h0 h1).inv
  refine u_read hR a1 a6 hL2 a7 (fun I' b q' kk e h29 h28 hk hc hv => k I' e ?_)
  obtain ⟨u1, u2, u3⟩ := hk.uniq t1
  have hb := t1.bnd a7
  have a10 := a9.2 h0
  have hc' := hc
  rw [u3] at hc'
  refine ⟨e.tx a1, by rw [e _ _ (by omega)]; exact a2, by rw [e _ _ (by omega)]; exact a3, i32eq.mpr (by rw [h29, t2, u1]), hc', ?_, q', h28, by omega, ⟨by omega, fun z => by have := hb.2.2.2.2 z; omega⟩, fun z0 z1 => ?_⟩
  · subst u1
    subst u2
    unfold COR at hc'
    refine ⟨fun z => ?_, fun z => ?_⟩
    · rcases z with z | z
      · have z' : (X.K (i + 1)).toInt = 1 := by rw [z]; exact l32_1
        rw [hv.1 (by omega), tm.1 z']
      · have z' : (X.K (i + 1)).toInt = 2 := by rw [z]; exact l32_2
        rw [hv.2.1 (by omega), tm.2.1 z']
    · have z' : (X.K (i + 1)).toInt = 3 := by rw [z]; exact l32_3
      rw [hv.2.2 (by omega), tm.2.2 z', Int32.mul_comm]
  · rw [u2]; exact t3 z0 z1
/-- reading on where a fault stands: no more than the TOKEN changes -/
theorem x_readb (hR : QR X.R) (hL2 : X.L ≤ 200) (hx : X.S i I) {I2 : IM} (e : ∀ x j, (x = 374 ∨ (x = 373 ∧ (j = 2 ∨ j = 28))) → I2 x j = I x j) {Q : WW → Prop} (k : ∀ I', RDQ I2 I' → Q (mk I' X.J X.R)) : wl (f_q_read 373 (mk I2 X.J X.R)) Q := by
  obtain ⟨a1, a2, a3, a4, a5, _, q, a6, a7, _, a8⟩ := hx
  refine u_read hR (c := X.c) (L := X.L) ⟨by rw [e _ _ (by omega)]; exact a1.1, fun j hj => by rw [e _ _ (by omega)]; exact a1.2 j hj⟩ (p := q) (by rw [e _ _ (by omega)]; exact a6) hL2 a7 (fun I' b q' kk e' _ _ _ _ _ => k I' e')
theorem x_wrong (hx : X.S i I) {Q : WW → Prop} (k : ∀ I', (∀ x j, (x ≠ 373 ∨ (j ≠ 4 ∧ j ≠ 34)) → I' x j = I x j) → (I' 373 34).toInt = 1 → I' 373 4 = X.B i → Q (mk I' X.J X.R)) : wl (f_q_wrong 373 (mk I X.J X.R)) Q := by
  obtain ⟨a1, a2, a3, a4, a5, a6⟩ := hx
  unfold f_q_wrong f_q_wrong_15
  refine wl_kb (wl_gI rfl rfl rfl (wl_ite (fun z => wl_gI rfl rfl rfl (wl_pI rfl rfl (wl_req (fun _ => wl_pI rfl rfl (wl_some (k _ (fun x j hj => ?_) ?_ ?_)))))) (fun z => ?_)))
  · rw [up2_ne _ _ (by omega), up2_ne _ _ (by omega)]
  · rw [up2_s]; exact l32_1
  · rw [up2_nek (by decide), up2_s]; exact a4
  · exact absurd (i32eq.mpr (by rw [a2, l32_0])) z
/-- a fault stands already -/
theorem x_wrongb (hb : (I 373 34).toInt ≠ 0) {Q : WW → Prop} (k : ∀ I', (∀ x j, (x ≠ 373 ∨ j ≠ 34) → I' x j = I x j) → (I' 373 34).toInt = 1 → Q (mk I' X.J X.R)) : wl (f_q_wrong 373 (mk I X.J X.R)) Q := by
  unfold f_q_wrong f_q_wrong_15
  refine wl_kb (wl_gI rfl rfl rfl (wl_ite (fun z => ?_) (fun z => wl_req (fun _ => wl_pI rfl rfl (wl_some (k _ (fun x j hj => ?_) ?_))))))
  · exact absurd (by rw [z, l32_0]) hb
  · rw [up2_ne _ _ (by omega)]
  · rw [up2_s]; exact l32_1
theorem x_is {a : Int32} {J : JM} {R : RM} {Q : (Int32 × WW) → Prop} (k1 : (I 373 30).toInt = 5 → (I 373 31).toInt = a.toInt → Q (1, mk I J R)) (k0 : ¬ ((I 373 30).toInt = 5 ∧ (I 373 31).toInt = a.toInt) → Q (0, mk I J R)) : wl (f_q_is 373 a (mk I J R)) Q := by
  unfold f_q_is f_q_is_20 f_q_is_21
  refine wl_kb (wl_gI rfl rfl rfl (wl_ite (fun z => wl_gI rfl rfl rfl (wl_ite (fun z2 => wl_req (fun _ => wl_some (k1 ?_ ?_))) (fun z2 => wl_req (fun _ => wl_some (k0 (fun y => z2 (i32eq.mpr y.2))))))) (fun z => wl_req (fun _ => wl_some (k0 (fun y => z (i32eq.mpr (by rw [y.1, l32_5]))))))))
  · rw [z]; exact l32_5
  · rw [z2]
theorem x_isK (hx : X.S i I) {a : Int32} (ha : SGN a.toInt) {Q : (Int32 × WW) → Prop} (k1 : X.K i = a → Q (1, mk I X.J X.R)) (k0 : ¬ X.K i = a → Q (0, mk I X.J X.R)) : wl (f_q_is 373 a (mk I X.J X.R)) Q := by
  have hc := hx.2.2.2.2.1
  unfold SGN at ha
  unfold COR at hc
  refine x_is (fun z1 z2 => k1 (i32eq.mpr (by omega))) (fun z => k0 (fun y => z ?_))
  rw [y] at hc
  omega
theorem sg_43 : SGN (43 : Int32).toInt := by unfold SGN; rw [l32_43]; omega
theorem sg_45 : SGN (45 : Int32).toInt := by unfold SGN; rw [l32_45]; omega
theorem sg_40 : SGN (40 : Int32).toInt := by unfold SGN; rw [l32_40]; omega
theorem sg_41 : SGN (41 : Int32).toInt := by unfold SGN; rw [l32_41]; omega
theorem sg_91 : SGN (91 : Int32).toInt := by unfold SGN; rw [l32_91]; omega
theorem sg_93 : SGN (93 : Int32).toInt := by unfold SGN; rw [l32_93]; omega
theorem sg_59 : SGN (59 : Int32).toInt := by unfold SGN; rw [l32_59]; omega
theorem sg_60 : SGN (60 : Int32).toInt := by unfold SGN; rw [l32_60]; omega
theorem sg_61 : SGN (61 : Int32).toInt := by unfold SGN; rw [l32_61]; omega
theorem sg_123 : SGN (123 : Int32).toInt := by unfold SGN; rw [l32_123]; omega
theorem sg_125 : SGN (125 : Int32).toInt := by unfold SGN; rw [l32_125]; omega
/-- a step is emitted -/
def EMF (H n : Nat) (I I' : IM) : Prop := ∀ x j, (x < 390 ∨ 393 < x ∨ (x = 390 ∧ j ≠ H) ∨ (391 ≤ x ∧ x ≤ 393 ∧ j ≠ 220 * H + n)) → I' x j = I x j
theorem RLS.le {X : RX} {H n n' : Nat} {I : IM} (h : RLS X H n' I) (hn : n ≤ n') : RLS X H n I := fun k hk => h k (by omega)
theorem RLS.same {X : RX} {H n : Nat} {I I' : IM} (h : RLS X H n I) (e : ∀ x k, 391 ≤ x → x ≤ 393 → k < n → I' x (220 * H + k) = I x (220 * H + k)) : RLS X H n I' := fun k hk => by
  have q := h k hk
  rw [e 391 k (by omega) (by omega) hk, e 392 k (by omega) (by omega) hk, e 393 k (by omega) (by omega) hk]
  exact q
theorem x_emit (hR : QR X.R) (hH : X.H ≤ 1) (h32 : (I 373 32).toInt = X.H) (h390 : (I 390 X.H).toInt = n) (hn : n < 220) (hl : RLS X.P X.H n I) {a1 a2 a3 : Int32} (st : RL1 X.P n a1 a2 a3) {Q : WW → Prop} (k : ∀ I', EMF X.H n I I' → (I' 390 X.H).toInt = ((n + 1 : Nat) : Int) → RLS X.P X.H (n + 1) I' → Q (mk I' X.J X.R)) : wl (f_q_emit 373 a1 a2 a3 (mk I X.J X.R)) Q := by
  have b1 := i32b (I 373 32)
  have m1 : ((220 : Int32) * I 373 32).toInt = 220 * (X.H : Int) := by rw [m32_220 (by omega), h32]
  have m2 : ((220 : Int32) * I 373 32 + I 390 X.H).toInt = ((220 * X.H + n : Nat) : Int) := by rw [i32addc (by rw [m1, h390]; omega), m1, h390]; omega
  have m3 : (I 390 X.H + 1).toInt = ((n + 1 : Nat) : Int) := by rw [i32addc (by rw [h390, l32_1]; omega), h390, l32_1]; omega
  unfold f_q_emit
  refine wl_kb (wl_gI rfl rfl rfl (wq_23 hR (wl_gI rfl rfl rfl (wl_rI (n := 2) rfl (fun _ => wq_24 hR ?_)))))
  rw [tnat h32]
  refine wl_sI (n := 440) rfl (fun _ => wq_25 hR (wl_sI (n := 440) rfl (fun _ => wq_26 hR (wl_sI (n := 440) rfl (fun _ => wq_23 hR (wl_gI rfl rfl ((up2_nea (by decide)).trans ((up2_nea (by decide)).trans (up2_nea (by decide)))) (wl_rI (n := 2) rfl (fun _ => wl_sI (n := 2) rfl (fun _ => wl_some ?_)))))))))
  rw [tnat m2, tnat h32, up2_nea (by decide), up2_nea (by decide), up2_nea (by decide)]
  generalize hI1 : up2 (up2 (up2 (up2 I 391 (220 * X.H + n) a1) 392 (220 * X.H + n) a2) 393 (220 * X.H + n) a3) 390 X.H (I 390 X.H + 1) = I1
  have e : EMF X.H n I I1 := fun x j hx => by rw [← hI1, up2_ne _ _ (by omega), up2_ne _ _ (by omega), up2_ne _ _ (by omega), up2_ne _ _ (by omega)]
  refine k I1 e (by rw [← hI1, up2_s]; exact m3) (fun j hj => ?_)
  by_cases z : j = n
  · subst z
    have q1 : I1 391 (220 * X.H + j) = a1 := by rw [← hI1, up2_nea (by decide), up2_nea (by decide), up2_nea (by decide), up2_s]
    have q2 : I1 392 (220 * X.H + j) = a2 := by rw [← hI1, up2_nea (by decide), up2_nea (by decide), up2_s]
    have q3 : I1 393 (220 * X.H + j) = a3 := by rw [← hI1, up2_nea (by decide), up2_s]
    rw [q1, q2, q3]
    exact st
  · have q := hl j (by omega)
    rw [e 391 _ (by omega), e 392 _ (by omega), e 393 _ (by omega)]
    exact q
theorem x_push (hR : QR X.R) {n : Nat} (h42 : (I 373 42).toInt = n) (h43 : 0 ≤ (I 373 43).toInt ∧ (I 373 43).toInt ≤ n) {a1 a2 a3 : Int32} {Q : WW → Prop} (k : ∀ I', (∀ x j, (x < 397 ∨ 399 < x ∨ j ≠ n) → (x ≠ 373 ∨ (j ≠ 42 ∧ j ≠ 43)) → I' x j = I x j) → I' 397 n = a1 → I' 399 n = a2 → I' 398 n = a3 → (I' 373 42).toInt = (n : Int) + 1 → (I' 373 43).toInt = (I 373 43).toInt + (if a1.toInt < 4 then 1 else 0) → Q (mk I' X.J X.R)) : wl (f_q_push 373 a1 a2 a3 (mk I X.J X.R)) Q := by
  unfold f_q_push f_q_push_55
  refine wl_kb (wq_38 hR (wl_gI rfl rfl rfl (wl_sI (n := 300) rfl (fun hb => wq_40 hR (wl_gI rfl rfl (up2_nea (by decide)) (wl_sI (n := 300) rfl (fun _ => wq_39 hR (wl_gI rfl rfl ((up2_nea (by decide)).trans (up2_nea (by decide))) (wl_sI (n := 300) rfl (fun _ => wl_gI rfl rfl ((up2_nea (by decide)).trans ((up2_nea (by decide)).trans (up2_nea (by decide)))) (wl_pI rfl rfl ?_)))))))))))
  rw [tnat h42]
  have x42 : (I 373 42 + 1).toInt = (n : Int) + 1 := by rw [i32addc (by rw [h42, l32_1]; omega), h42, l32_1]
  refine wl_ite (fun z => ?_) (fun z => ?_)
  · rw [i32le, l32_4] at z
    refine wl_some (k _ (fun x j hx1 hx2 => ?_) ?_ ?_ ?_ ?_ ?_)
    · rw [up2_ne _ _ (by omega), up2_ne _ _ (by omega), up2_ne _ _ (by omega), up2_ne _ _ (by omega)]
    · rw [up2_nea (by decide), up2_nea (by decide), up2_nea (by decide), up2_s]
    · rw [up2_nea (by decide), up2_nea (by decide), up2_s]
    · rw [up2_nea (by decide), up2_s]
    · rw [up2_s]; exact x42
    · rw [if_neg (by omega), up2_nek (by decide), up2_nea (by decide), up2_nea (by decide), up2_nea (by decide)]; omega
  · rw [i32le, l32_4] at z
    refine wl_gI rfl rfl ((up2_nek (by decide)).trans ((up2_nea (by decide)).trans ((up2_nea (by decide)).trans (up2_nea (by decide))))) (wl_pI rfl rfl (wl_some (k _ (fun x j hx1 hx2 => ?_) ?_ ?_ ?_ ?_ ?_)))
    · rw [up2_ne _ _ (by omega), up2_ne _ _ (by omega), up2_ne _ _ (by omega), up2_ne _ _ (by omega), up2_ne _ _ (by omega)]
    · rw [up2_nea (by decide), up2_nea (by decide), up2_nea (by decide), up2_nea (by decide), up2_s]
    · rw [up2_nea (by decide), up2_nea (by decide), up2_nea (by decide), up2_s]
    · rw [up2_nea (by decide), up2_nea (by decide), up2_s]
    · rw [up2_nek (by decide), up2_s]; exact x42
    · rw [if_pos (by omega), up2_s, i32addc (by rw [l32_1]; omega), l32_1]
theorem EXS.b43 (h : EXS X S H i m n I) : 0 ≤ (I 373 43).toInt ∧ (I 373 43).toInt ≤ S.length := by
  have := ins_le S
  have := h.2.2.2.2.1
  omega
theorem EXS.push (h : EXS X S H i m n I) {a1 a2 a3 : Int32} (e : ∀ x j, (x < 397 ∨ 399 < x ∨ j ≠ S.length) → (x ≠ 373 ∨ (j ≠ 42 ∧ j ≠ 43)) → I' x j = I x j) (e1 : I' 397 S.length = a1) (e2 : I' 399 S.length = a2) (e2' : I' 398 S.length = a3) (e3 : (I' 373 42).toInt = (S.length : Int) + 1) (e4 : (I' 373 43).toInt = (I 373 43).toInt + (if a1.toInt < 4 then 1 else 0)) : EXS X ((a1, a2, a3) :: S) H i (m + 1) n I' := by
  obtain ⟨h1, h2, h3, h4, h5, h6, h7, h8, h9, h10, h11⟩ := h
  refine ⟨fun x j hx => ?_, h2.keep (fun x j hx => e x j (by omega) (by omega)), ?_, ⟨e1, e2, e2', h4.keep S (fun x j hx hj => e x j (by omega) (by omega))⟩, ?_, ?_, h7.keep H (fun j hj => e 400 j (by omega) (by omega)), ?_, ?_, h10.same (fun x k hx hx' hk => e x _ (by omega) (by omega)), ?_⟩
  · rw [e x j (by omega) (by omega)]; exact h1 x j hx
  · rw [e3]; show (S.length : Int) + 1 = ((S.length + 1 : Nat) : Int); omega
  · rw [e4, h5]
    show (ins S : Int) + (if a1.toInt < 4 then 1 else 0) = (((if a1.toInt < 4 then 1 else 0) + ins S : Nat) : Int)
    by_cases z : a1.toInt < 4
    · rw [if_pos z, if_pos z]; omega
    · rw [if_neg z, if_neg z]; omega
  · rw [e 373 44 (by omega) (by omega)]; exact h6
  · rw [e 373 32 (by omega) (by omega)]; exact h8
  · rw [e 390 _ (by omega) (by omega)]; exact h9
  · show n + (S.length + 1) ≤ m + 1
    omega
theorem EXS.rd (h : EXS X S H i m n I) (e : RDQ I I') {i' : Nat} (hs : X.S i' I') : EXS X S H i' m n I' := by
  obtain ⟨h1, h2, h3, h4, h5, h6, h7, h8, h9, h10, h11⟩ := h
  refine ⟨fun x j hx => ?_, hs, ?_, h4.keep S (fun x j hx hj => e x j (by omega)), ?_, ?_, h7.keep H (fun j hj => e 400 j (by omega)), ?_, ?_, h10.same (fun x k hx hx' hk => e x _ (by omega)), h11⟩
  · rw [e x j (by omega)]; exact h1 x j hx
  · rw [e _ _ (by omega)]; exact h3
  · rw [e _ _ (by omega)]; exact h5
  · rw [e _ _ (by omega)]; exact h6
  · rw [e _ _ (by omega)]; exact h8
  · rw [e _ _ (by omega)]; exact h9
theorem EXS.em (h : EXS X S H i m n I) (hn : n < 220) (e : EMF X.H n I I') (e1 : (I' 390 X.H).toInt = ((n + 1 : Nat) : Int)) (e2 : RLS X.P X.H (n + 1) I') : EXS X S H i (m + 1) (n + 1) I' := by
  obtain ⟨h1, h2, h3, h4, h5, h6, h7, h8, h9, h10, h11⟩ := h
  refine ⟨fun x j hx => ?_, h2.keep (fun x j hx => e x j (by omega)), ?_, h4.keep S (fun x j hx hj => e x j (by omega)), ?_, ?_, h7.keep H (fun j hj => e 400 j (by omega)), ?_, e1, e2, by omega⟩
  · rw [e x j (by omega)]; exact h1 x j hx
  · rw [e _ _ (by omega)]; exact h3
  · rw [e _ _ (by omega)]; exact h5
  · rw [e _ _ (by omega)]; exact h6
  · rw [e _ _ (by omega)]; exact h8
/-- a step is emitted where an EXPR is parsed -/
theorem x_em (hR : QR X.R) (hH : X.H ≤ 1) (h : EXS X S H i m n I) (hm : m ≤ 200) {a1 a2 a3 : Int32} (st : RL1 X.P n a1 a2 a3) {Q : WW → Prop} (k : ∀ I', EMF X.H n I I' → EXS X S H i (m + 1) (n + 1) I' → Q (mk I' X.J X.R)) : wl (f_q_emit 373 a1 a2 a3 (mk I X.J X.R)) Q := by
  obtain ⟨_, _, _, _, _, _, _, h8, h9, h10, h11⟩ := id h
  have hn : n < 220 := by omega
  exact x_emit hR hH h8 h9 hn h10 st (fun I' e e1 e2 => k I' e (h.em hn e e1 e2))
/-- the topmost height anew -/
theorem EXS.top {h h' : Int32} (hx : EXS X S (h :: H) i m n I) : EXS X S (h' :: H) i m n (up2 I 400 H.length h') := by
  obtain ⟨h1, h2, h3, h4, h5, h6, h7, h8, h9, h10, h11⟩ := hx
  refine ⟨fun x j hx => ?_, h2.keep (fun x j hx => up2_nea (by omega)), ?_, h4.keep S (fun x j hx hj => up2_nea (by omega)), ?_, ?_, ⟨up2_s, h7.2.keep H (fun j hj => up2_nek (by omega))⟩, ?_, ?_, h10.same (fun x k hx hx' hk => up2_nea (by omega)), h11⟩
  · by_cases z : x = 400
    · omega
    · rw [up2_nea z]; exact h1 x j hx
  · rw [up2_nea (by decide)]; exact h3
  · rw [up2_nea (by decide)]; exact h5
  · rw [up2_nea (by decide)]; exact h6
  · rw [up2_nea (by decide)]; exact h8
  · rw [up2_nea (by decide)]; exact h9
/-- the topmost open one is taken away -/
theorem EXS.pop {s : Int32 × (Int32 × Int32)} (hx : EXS X (s :: S) H i m n I) (e : ∀ x j, (x ≠ 373 ∨ (j ≠ 42 ∧ j ≠ 43)) → I' x j = I x j) (e42 : (I' 373 42).toInt = S.length) (e43 : (I' 373 43).toInt = ins S) : EXS X S H i (m - 1) n I' ∧ 1 ≤ m := by
  obtain ⟨h1, h2, h3, h4, h5, h6, h7, h8, h9, h10, h11⟩ := hx
  have h11' : n + (S.length + 1) ≤ m := h11
  refine ⟨⟨fun x j hx => ?_, h2.keep (fun x j hx => e x j (by omega)), e42, h4.2.2.2.keep S (fun x j hx hj => e x j (by omega)), e43, ?_, h7.keep H (fun j hj => e 400 j (by omega)), ?_, ?_, h10.same (fun x k hx hx' hk => e x _ (by omega)), by omega⟩, by omega⟩
  · rw [e x j (by omega)]; exact h1 x j hx
  · rw [e _ _ (by omega)]; exact h6
  · rw [e _ _ (by omega)]; exact h8
  · rw [e _ _ (by omega)]; exact h9
theorem x_opp_stop (hR : QR X.R) (hx : EXS X S H i m n I) (h3 : ∀ s S', S = s :: S' → ¬ s.1 = 3) {Q : WW → Prop} (k : Q (mk I X.J X.R)) : ∀ M : Nat, wl (f_q_opposites_0 M 373 (mk I X.J X.R)) Q := by
  intro M
  cases M with
  | zero => exact wl_none
  | succ M =>
    rw [f_q_opposites_0]
    unfold f_q_opposites_75
    refine wl_gI rfl rfl rfl (wl_ite (fun _ => wl_some k) (fun z => ?_))
    rw [i32le, l32_0, hx.2.2.1] at z
    cases S with
    | nil => exact absurd (Int.le_refl 0) z
    | cons s S =>
      have x1 : (I 373 42 - 1).toInt = S.length := by
        have h := hx.2.2.1
        have e : ((s :: S).length : Int) = (S.length : Int) + 1 := by show ((S.length + 1 : Nat) : Int) = (S.length : Int) + 1; omega
        have b := i32b (I 373 42)
        rw [i32subc (by rw [l32_1]; omega), l32_1]; omega
      refine wq_38 hR (wl_gI rfl rfl rfl (wl_rI (n := 300) rfl (fun _ => ?_)))
      rw [tnat x1, hx.2.2.2.1.1, if_neg (h3 s S rfl)]
      exact wl_some k
theorem x_opp (hR : QR X.R) (hH : X.H ≤ 1) {v : Int32 × Int32} {h : Int32} (hx : EXS X ((3, v) :: S) (h :: H) i m n I) (hm : m ≤ 200) {sn : Int32} (hs : STE X.P n 259 sn v.2) {Q : WW → Prop} (k : ∀ (I' : IM) (M : Nat), EXS X S ((h + 1) :: H) i m (n + 1) I' → wl (f_q_opposites_0 M 373 (mk I' X.J X.R)) Q) : ∀ M : Nat, wl (f_q_opposites_0 M 373 (mk I X.J X.R)) Q := by
  intro M
  cases M with
  | zero => exact wl_none
  | succ M =>
    have h42 : (I 373 42).toInt = (S.length : Int) + 1 := by
      have e : (I 373 42).toInt = ((S.length + 1 : Nat) : Int) := hx.2.2.1
      omega
    have h43 : (I 373 43).toInt = (ins S : Int) + 1 := by
      have h := hx.2.2.2.2.1
      rw [ins3] at h; omega
    have b42 := i32b (I 373 42)
    have b43 := i32b (I 373 43)
    have x1 : (I 373 42 - 1).toInt = S.length := by rw [i32subc (by rw [l32_1]; omega), l32_1]; omega
    have x3 : (I 373 43 - 1).toInt = ins S := by rw [i32subc (by rw [l32_1]; omega), l32_1]; omega
    rw [f_q_opposites_0]
    refine wl_gI rfl rfl rfl (wl_ite (fun z => ?_) (fun z => wq_38 hR (wl_gI rfl rfl rfl (wl_rI (n := 300) rfl (fun _ => ?_)))))
    · rw [i32le, l32_0, h42] at z; omega
    have o3 : I 397 S.length = 3 := hx.2.2.2.1.1
    rw [tnat x1, o3, if_pos rfl]
    refine wl_gI rfl rfl rfl (wl_pI rfl rfl (wl_gI rfl rfl (up2_nek (by decide)) (wl_pI rfl rfl ?_)))
    generalize hI1 : up2 (up2 I 373 42 (I 373 42 - 1)) 373 43 (I 373 43 - 1) = I1
    have e1 : ∀ x j, (x ≠ 373 ∨ (j ≠ 42 ∧ j ≠ 43)) → I1 x j = I x j := fun x j hj => by rw [← hI1, up2_ne _ _ (by omega), up2_ne _ _ (by omega)]
    have f42 : (I1 373 42).toInt = S.length := by rw [← hI1, up2_nek (by decide), up2_s]; exact x1
    obtain ⟨hx1, m1⟩ := hx.pop e1 f42 (by rw [← hI1, up2_s]; exact x3)
    have o8 : I1 398 S.length = v.2 := by rw [e1 _ _ (by omega)]; exact hx.2.2.2.1.2.2.1
    refine wq_39 hR (wl_gI rfl rfl rfl (wl_rI (n := 300) rfl (fun _ => wl_bd ?_)))
    rw [tnat f42, o8]
    refine x_em hR hH hx1 (by omega) ?_ (fun I2 e2 hx2 => ?_)
    · obtain ⟨s1, s2, s3⟩ := hs
      refine ⟨by rw [s1]; unfold okk; decide, by rw [s1]; decide, s3.symm, fun z => ?_, fun z => ?_⟩
      · rw [s1] at z; exact absurd z (by decide)
      · rw [s1] at z; exact absurd z (by decide)
    have em : m - 1 + 1 = m := by omega
    rw [em] at hx2
    have h44 : (I2 373 44).toInt = (H.length : Int) + 1 := by
      have e : (I2 373 44).toInt = ((H.length + 1 : Nat) : Int) := hx2.2.2.2.2.2.1
      omega
    have b44 := i32b (I2 373 44)
    have x4 : (I2 373 44 - 1).toInt = H.length := by rw [i32subc (by rw [l32_1]; omega), l32_1]; omega
    refine wq_41 hR (wl_gI rfl rfl rfl (wl_rI (n := 300) rfl (fun _ => wl_sI (n := 300) rfl (fun _ => ?_))))
    rw [tnat x4, hx2.2.2.2.2.2.2.1.1]
    exact k _ M hx2.top
def rnk (v : Int32) : Int32 := if v = 43 then 1 else if v = 45 then 1 else 2
theorem x_rank {v : Int32} {w : WW} {Q : (Int32 × WW) → Prop} (k : Q (rnk v, w)) : wl (f_q_rank v w) Q := by
  unfold f_q_rank f_q_rank_12 f_q_rank_17
  unfold rnk at k
  refine wl_ite (fun z => wl_some ?_) (fun z => wl_ite (fun z2 => wl_some ?_) (fun z2 => wl_some ?_))
  · rw [if_pos z] at k; exact k
  · rw [if_neg z, if_pos z2] at k; exact k
  · rw [if_neg z, if_neg z2] at k; exact k
theorem rnk_pr {v : Int32} (h : isPr v) : rnk v = 2 := by
  unfold rnk
  rcases h with h | h | h <;> (subst h; decide)
theorem rnk_sm {v : Int32} (h : isSm v) : rnk v = 1 := by
  unfold rnk
  rcases h with h | h <;> (subst h; decide)
theorem x_red_stop (hR : QR X.R) {y : Int32} (hx : EXS X S H i m n I) (h3 : ∀ s S', S = s :: S' → ¬ s.1 = 4 ∨ rnk s.2.1 < y) {Q : WW → Prop} (k : Q (mk I X.J X.R)) : ∀ M : Nat, wl (f_q_reduce_0 M 373 y (mk I X.J X.R)) Q := by
  intro M
  cases M with
  | zero => exact wl_none
  | succ M =>
    rw [f_q_reduce_0]
    unfold f_q_reduce_150
    refine wl_gI rfl rfl rfl (wl_ite (fun _ => wl_some k) (fun z => ?_))
    rw [i32le, l32_0, hx.2.2.1] at z
    cases S with
    | nil => exact absurd (Int.le_refl 0) z
    | cons s S =>
      have x1 : (I 373 42 - 1).toInt = S.length := by
        have h := hx.2.2.1
        have e : ((s :: S).length : Int) = (S.length : Int) + 1 := by show ((S.length + 1 : Nat) : Int) = (S.length : Int) + 1; omega
        have b := i32b (I 373 42)
        rw [i32subc (by rw [l32_1]; omega), l32_1]; omega
      refine wq_38 hR (wl_gI rfl rfl rfl (wl_rI (n := 300) rfl (fun _ => ?_)))
      rw [tnat x1, hx.2.2.2.1.1]
      refine wl_ite (fun z4 => wq_40 hR (wl_gI rfl rfl rfl (wl_rI (n := 300) rfl (fun _ => wl_bd2 ?_)))) (fun _ => wl_some k)
      rw [tnat x1, hx.2.2.2.1.2.1]
      refine x_rank ?_
      dsimp only
      rw [if_pos ((h3 s S rfl).resolve_left (fun y => y z4))]
      exact wl_some k
/-- the code of an operator -/
theorem x_stepOf {v : Int32} (hv : isPr v ∨ isSm v) {w : WW} {Q : (Int32 × WW) → Prop} (k : Q (cop v, w)) : wl (f_q_stepOf v w) Q := by
  unfold f_q_stepOf f_q_stepOf_45
  unfold cop at k
  rcases hv with (z | z | z) | (z | z)
  all_goals
    subst z
    refine wl_ite (fun c1 => wl_some ?_) (fun c1 => wl_ite (fun c2 => wl_some ?_) (fun c2 => wl_ite (fun c3 => wl_some ?_) (fun c3 => wl_ite (fun c4 => wl_some ?_) (fun c4 => wl_some ?_)))) <;> first | exact k | exact absurd c1 (by decide) | exact absurd c2 (by decide) | exact absurd c3 (by decide) | exact absurd c4 (by decide) | exact absurd rfl c1 | exact absurd rfl c2 | exact absurd rfl c3 | exact absurd rfl c4
theorem okk_op {v : Int32} (hv : isPr v ∨ isSm v) : okk v ∧ ¬ (v = 1 ∨ v = 2) ∧ ¬ v = 3 := by
  rcases hv with (z | z | z) | (z | z) <;> subst z <;> exact ⟨by unfold okk; decide, by decide, by decide⟩
theorem x_red (hR : QR X.R) (hH : X.H ≤ 1) {y : Int32} {v : Int32 × Int32} {a b : Int32} (hv : isPr v.1 ∨ isSm v.1) (hy : ¬ rnk v.1 < y) (hx : EXS X ((4, v) :: S) (b :: a :: H) i m n I) (hm : m ≤ 200) {sn : Int32} (hs : STE X.P n v.1 sn v.2) {Q : WW → Prop} (k : ∀ (I' : IM) (M : Nat), EXS X S (mx a b :: H) i m (n + 1) I' → wl (f_q_reduce_0 M 373 y (mk I' X.J X.R)) Q) : ∀ M : Nat, wl (f_q_reduce_0 M 373 y (mk I X.J X.R)) Q := by
  intro M
  cases M with
  | zero => exact wl_none
  | succ M =>
    have h42 : (I 373 42).toInt = (S.length : Int) + 1 := by
      have e : (I 373 42).toInt = ((S.length + 1 : Nat) : Int) := hx.2.2.1
      omega
    have h43 : (I 373 43).toInt = (ins S : Int) := by
      have h := hx.2.2.2.2.1
      rw [ins4] at h; omega
    have b42 := i32b (I 373 42)
    have x1 : (I 373 42 - 1).toInt = S.length := by rw [i32subc (by rw [l32_1]; omega), l32_1]; omega
    rw [f_q_reduce_0]
    refine wl_gI rfl rfl rfl (wl_ite (fun z => ?_) (fun z => wq_38 hR (wl_gI rfl rfl rfl (wl_rI (n := 300) rfl (fun _ => ?_)))))
    · rw [i32le, l32_0, h42] at z; omega
    have o4 : I 397 S.length = 4 := hx.2.2.2.1.1
    have ov : I 399 S.length = v.1 := hx.2.2.2.1.2.1
    have op : I 398 S.length = v.2 := hx.2.2.2.1.2.2.1
    rw [tnat x1, o4, if_pos rfl]
    refine wq_40 hR (wl_gI rfl rfl rfl (wl_rI (n := 300) rfl (fun _ => wl_bd2 ?_)))
    rw [tnat x1, ov]
    refine x_rank ?_
    dsimp only
    rw [if_neg hy]
    refine wl_gI rfl rfl rfl (wl_pI rfl rfl ?_)
    generalize hI1 : up2 I 373 42 (I 373 42 - 1) = I1
    have e1 : ∀ x j, (x ≠ 373 ∨ j ≠ 42) → I1 x j = I x j := fun x j hj => by rw [← hI1, up2_ne _ _ (by omega)]
    have f42 : (I1 373 42).toInt = S.length := by rw [← hI1, up2_s]; exact x1
    obtain ⟨hx1, m1⟩ := hx.pop (fun x j hj => e1 x j (by omega)) f42 (by rw [e1 _ _ (by omega)]; exact h43)
    refine wq_40 hR (wl_gI rfl rfl rfl (wl_rI (n := 300) rfl (fun _ => wl_bd2 ?_)))
    rw [tnat f42, e1 399 S.length (by omega), ov]
    refine x_stepOf hv ?_
    dsimp only
    refine wq_39 hR (wl_gI rfl rfl rfl (wl_rI (n := 300) rfl (fun _ => wl_bd ?_)))
    rw [tnat f42, e1 398 S.length (by omega), op]
    refine x_em hR hH hx1 (by omega) ?_ (fun I2 e2 hx2 => ?_)
    · obtain ⟨s1, s2, s3⟩ := hs
      obtain ⟨o1, o2, o3⟩ := okk_op hv
      refine ⟨by rw [s1]; exact o1, by rw [s1], s3.symm, fun z => ?_, fun z => ?_⟩
      · rw [s1] at z; exact absurd z o2
      · rw [s1] at z; exact absurd z o3
    have em : m - 1 + 1 = m := by omega
    rw [em] at hx2
    have h44 : (I2 373 44).toInt = (H.length : Int) + 2 := by
      have h : (I2 373 44).toInt = ((H.length + 1 + 1 : Nat) : Int) := hx2.2.2.2.2.2.1
      omega
    have b44 := i32b (I2 373 44)
    have x4 : (I2 373 44 - 1).toInt = (H.length : Int) + 1 := by rw [i32subc (by rw [l32_1]; omega), l32_1]; omega
    have x5 : (I2 373 44 - 1 - 1).toInt = H.length := by rw [i32subc (by rw [x4, l32_1]; omega), x4, l32_1]; omega
    have x4n : (I2 373 44 - 1).toInt.toNat = H.length + 1 := by omega
    refine wl_gI rfl rfl rfl (wl_pI rfl rfl ?_)
    generalize hI3 : up2 I2 373 44 (I2 373 44 - 1) = I3
    have e44 : I3 373 44 = I2 373 44 - 1 := by rw [← hI3, up2_s]
    have e3 : ∀ x j, (x ≠ 373 ∨ j ≠ 44) → I3 x j = I2 x j := fun x j hj => by rw [← hI3, up2_ne _ _ (by omega)]
    have hb : I3 400 (H.length + 1) = b := by rw [e3 _ _ (by omega)]; exact hx2.2.2.2.2.2.2.1.1
    have ha : I3 400 H.length = a := by rw [e3 _ _ (by omega)]; exact hx2.2.2.2.2.2.2.1.2.1
    have hx3 : EXS X S (a :: H) i m (n + 1) I3 := by
      obtain ⟨q1, q2, q3, q4, q5, q6, q7, q8, q9, q10, q11⟩ := hx2
      refine ⟨fun x j hx => ?_, q2.keep (fun x j hx => e3 x j (by omega)), ?_, q4.keep S (fun x j hx hj => e3 x j (by omega)), ?_, ?_, q7.2.keep _ (fun j hj => e3 _ _ (by omega)), ?_, ?_, q10.same (fun x k hx hx' hk => e3 x _ (by omega)), q11⟩
      · rw [e3 x j (by omega)]; exact q1 x j hx
      · rw [e3 _ _ (by omega)]; exact q3
      · rw [e3 _ _ (by omega)]; exact q5
      · rw [e44, x4]; show (H.length : Int) + 1 = ((H.length + 1 : Nat) : Int); omega
      · rw [e3 _ _ (by omega)]; exact q8
      · rw [e3 _ _ (by omega)]; exact q9
    have fin : ∀ z : Int32, z + 1 = mx a b → wl (f_q_reduce_132 (f_q_reduce_0 M) 373 y z (mk I3 X.J X.R)) Q := by
      intro z hz
      unfold f_q_reduce_132
      refine wq_41 hR (wl_gI rfl rfl e44 (wl_sI (n := 300) rfl (fun _ => ?_)))
      rw [tnat x5, hz]
      exact k _ M hx3.top
    refine wq_41 hR (wl_gI rfl rfl e44 (wl_rI (n := 300) rfl (fun _ => wq_41 hR (wl_gI rfl rfl e44 (wl_rI (n := 300) rfl (fun _ => ?_))))))
    rw [x4n, tnat x5, hb, ha]
    refine wl_ite (fun z => wq_41 hR (wl_gI rfl rfl e44 (wl_rI (n := 300) rfl (fun _ => ?_)))) (fun z => wq_41 hR (wl_gI rfl rfl e44 (wl_rI (n := 300) rfl (fun _ => ?_))))
    · rw [tnat x5, ha]
      refine fin a ?_
      unfold mx
      rw [if_neg (by rw [i32lt]; rw [i32le] at z; omega)]
    · rw [x4n, hb]
      refine fin b ?_
      unfold mx
      rw [if_pos (by rw [i32lt]; rw [i32le] at z; omega)]
/-- a product, perhaps with its last step still to be emitted -/
def LZ2 (X : XC) (S : OL) (h : Int32) (H : List Int32) (i n : Nat) (I : IM) : Prop := EXS X S (h :: H) i i n I ∨ ∃ (v : Int32 × Int32) (a b : Int32) (l : Nat) (sn : Int32), isPr v.1 ∧ h = mx a b ∧ n = l + 1 ∧ STE X.P l v.1 sn v.2 ∧ EXS X ((4, v) :: S) (b :: a :: H) i i l I
def LZ1 (X : XC) (S : OL) (h : Int32) (H : List Int32) (i n : Nat) (I : IM) : Prop := LZ2 X S h H i n I ∨ ∃ (v : Int32 × Int32) (a t : Int32) (l : Nat) (sn : Int32), isSm v.1 ∧ h = mx a t ∧ n = l + 1 ∧ STE X.P l v.1 sn v.2 ∧ LZ2 X ((4, v) :: S) t (a :: H) i l I
def T3 (S : OL) : Prop := ∀ s S', S = s :: S' → ¬ s.1 = 3 ∧ (s.1 = 4 → isSm s.2.1)
def T4 (S : OL) : Prop := ∀ s S', S = s :: S' → s.1 = 1 ∨ s.1 = 2
theorem T4.t3 (h : T4 S) : T3 S := by
  intro s S' e
  rcases h s S' e with z | z <;> rw [z] <;> exact ⟨by decide, fun y => absurd y (by decide)⟩
def brk : OL → Int32
  | [] => 0
  | s :: S => if s.1 ≤ 2 then s.1 else brk S
theorem brk4 (v : Int32 × Int32) (S : OL) : brk ((4, v) :: S) = brk S := by
  show (if (4 : Int32) ≤ 2 then (4 : Int32) else brk S) = brk S
  rw [if_neg (by decide)]
theorem LZ2.ex {h : Int32} (z : LZ2 X S h H i n I) : ∃ S' H' n', EXS X S' H' i i n' I ∧ brk S' = brk S := by
  rcases z with z | ⟨v, a, b, l, sn, _, _, _, _, z⟩
  · exact ⟨_, _, _, z, rfl⟩
  · exact ⟨_, _, _, z, brk4 v S⟩
theorem LZ1.ex {h : Int32} (z : LZ1 X S h H i n I) : ∃ S' H' n', EXS X S' H' i i n' I ∧ brk S' = brk S := by
  rcases z with z | ⟨v, a, t, l, sn, _, _, _, _, z⟩
  · exact z.ex
  · obtain ⟨S', H', n', e, q⟩ := z.ex
    exact ⟨S', H', n', e, q.trans (brk4 v S)⟩
theorem x_red2 (hR : QR X.R) (hH : X.H ≤ 1) (hi : i ≤ 200) {h : Int32} (hx : LZ2 X S h H i n I) (hT : T3 S) {Q : WW → Prop} (k : ∀ I', EXS X S (h :: H) i i n I' → Q (mk I' X.J X.R)) : ∀ M : Nat, wl (f_q_reduce_0 M 373 2 (mk I X.J X.R)) Q := by
  have st : ∀ s S', S = s :: S' → ¬ s.1 = 4 ∨ rnk s.2.1 < 2 := by
    intro s S' e
    by_cases z : s.1 = 4
    · right; rw [rnk_sm ((hT s S' e).2 z)]; decide
    · exact Or.inl z
  rcases hx with hx | ⟨v, a, b, l, sn, hv, he, hn, hs, hx⟩
  · exact x_red_stop hR hx st (k I hx)
  · subst he
    subst hn
    exact x_red hR hH (Or.inl hv) (by rw [rnk_pr hv]; decide) hx hi hs (fun I' M h' => x_red_stop hR h' st (k I' h') M)
theorem x_red1 (hR : QR X.R) (hH : X.H ≤ 1) (hi : i ≤ 200) {h : Int32} (hx : LZ1 X S h H i n I) (hT : T4 S) {Q : WW → Prop} (k : ∀ I', EXS X S (h :: H) i i n I' → Q (mk I' X.J X.R)) : ∀ M : Nat, wl (f_q_reduce_0 M 373 1 (mk I X.J X.R)) Q := by
  have st : ∀ s S', S = s :: S' → ¬ s.1 = 4 ∨ rnk s.2.1 < 1 := by
    intro s S' e
    left
    rcases hT s S' e with z | z <;> rw [z] <;> decide
  rcases hx with (hx | ⟨v, a, b, l, sn, hv, he, hn, hs, hx⟩) | ⟨v, a, t, l, sn, hv, he, hn, hs, (hx | ⟨v2, a2, b2, l2, sn2, hv2, he2, hn2, hs2, hx⟩)⟩
  · exact x_red_stop hR hx st (k I hx)
  · subst he
    subst hn
    exact x_red hR hH (Or.inl hv) (by rw [rnk_pr hv]; decide) hx hi hs (fun I' M h' => x_red_stop hR h' st (k I' h') M)
  · subst he
    subst hn
    exact x_red hR hH (Or.inr hv) (by rw [rnk_sm hv]; decide) hx hi hs (fun I' M h' => x_red_stop hR h' st (k I' h') M)
  · subst he
    subst he2
    subst hn
    subst hn2
    exact x_red hR hH (Or.inl hv2) (by rw [rnk_pr hv2]; decide) hx hi hs2 (fun I' M h' => x_red hR hH (Or.inr hv) (by rw [rnk_sm hv]; decide) h' hi hs (fun I2 M2 h2 => x_red_stop hR h2 st (k I2 h2) M2) M)
theorem x_bracket (hR : QR X.R) (hx : EXS X S H i m n I) {Q : (Int32 × WW) → Prop} (k : Q (brk S, mk I X.J X.R)) : wl (f_q_bracket 373 (mk I X.J X.R)) Q := by
  have loop : ∀ (S' : OL) (N : Nat) (y : Int32), OPN I S' → y.toInt = (S'.length : Int) - 1 → brk S' = brk S → wl (f_q_bracket_7 N 373 y (mk I X.J X.R)) Q := by
    intro S'
    induction S' with
    | nil =>
      intro N y _ hy hb
      cases N with
      | zero => exact wl_none
      | succ N =>
        have hy' : y.toInt = -1 := by rw [hy]; rfl
        rw [f_q_bracket_7, if_pos (by rw [i32lt, l32_0]; omega)]
        unfold f_q_bracket_27 f_q_bracket_41
        rw [if_neg (by rw [i32le, l32_0]; omega)]
        rw [← hb] at k
        exact wl_some k
    | cons s S' ih =>
      intro N y ho hy hb
      have hy' : y.toInt = (S'.length : Int) := by
        rw [hy]
        have e : ((s :: S').length : Int) = (S'.length : Int) + 1 := by show ((S'.length + 1 : Nat) : Int) = (S'.length : Int) + 1; omega
        omega
      cases N with
      | zero => exact wl_none
      | succ N =>
        rw [f_q_bracket_7, if_neg (by rw [i32lt, l32_0]; omega)]
        refine wq_38 hR (wl_rI (n := 300) rfl (fun _ => ?_))
        rw [tnat hy', ho.1]
        have e : brk (s :: S') = if s.1 ≤ 2 then s.1 else brk S' := rfl
        refine wl_ite (fun z => ?_) (fun z => ?_)
        · unfold f_q_bracket_27 f_q_bracket_41
          rw [if_pos (by rw [i32le, l32_0]; omega)]
          refine wq_38 hR (wl_rI (n := 300) rfl (fun _ => wl_some ?_))
          rw [tnat hy', ho.1]
          rw [if_pos z] at e
          rw [← e, hb]
          exact k
        · rw [if_neg z] at e
          exact ih N _ ho.2.2.2 (by rw [i32addc (by rw [l32_m1]; omega), l32_m1]; omega) (by rw [← e]; exact hb)
  unfold f_q_bracket
  refine wl_kb (wl_gI rfl rfl rfl (loop S KK _ hx.2.2.2.1 ?_ rfl))
  have h := hx.2.2.1
  have b := i32b (I 373 42)
  rw [i32subc (by rw [l32_1]; omega), l32_1]; omega
end QEX
