/-! Both sides: the invariant between calls, each call keeps it, it holds at first; so the law answers 1. -/
theorem st_bdh {α γ : Type} {Q : γ → Prop} {c : Option ((α ⊕ String) × WW)} {f : α → WW → Option γ} {g : String → WW → Option γ} (h : wp c (fun p => (∀ v, p.1 = .inl v → wp (f v p.2) Q) ∧ (∀ E, p.1 = .inr E → wp (g E p.2) Q))) : wp (bdh c f g) Q := by
  obtain ⟨⟨x, w⟩, h1, h2⟩ := h
  rw [h1]
  cases x with
  | inl v => exact h2.1 v rfl
  | inr E => exact h2.2 E rfl
/-- what both sides have alike -/
def EQ4 (I : IM) : Prop := (I 0 0 = I 373 6 ∧ I 0 1 = I 373 7 ∧ I 117 5 = I 373 3 ∧ I 2 4 = I 373 2) ∧ (∀ j : Nat, (j : Int) < (I 2 4).toInt → I 3 j = I 374 j) ∧ I 1 3 = I 373 4
/-- a step that touches neither text nor where -/
theorem EQ4.of {I I' : IM} (h : EQ4 I) (e : I' 0 0 = I' 373 6 ∧ I' 0 1 = I' 373 7 ∧ I' 117 5 = I' 373 3 ∧ I' 2 4 = I' 373 2) (e2 : ∀ a k, (a = 3 ∨ a = 374 ∨ (a = 2 ∧ k = 4) ∨ (a = 1 ∧ k = 3) ∨ (a = 373 ∧ k = 4)) → I' a k = I a k) : EQ4 I' :=
  ⟨e, fun j hj => by rw [e2 3 j (by omega), e2 374 j (by omega)]; rw [e2 2 4 (by omega)] at hj; exact h.2.1 j hj, by rw [e2 1 3 (by omega), e2 373 4 (by omega)]; exact h.2.2⟩
def INV (w : WW) : Prop := ∃ (I : IM) (J : JM) (R : RM), w = mk I J R ∧ CI 0 I J I J R ∧ QF I J ∧ EQ4 I
/-- what a call of the class leaves, seen from the reference's side -/
def CLS (I : IM) (J : JM) (w : WW) : Prop := ∃ (I' : IM) (J' : JM) (R' : RM), w = mk I' J' R' ∧ CI 0 I' J' I' J' R' ∧ (∀ a k, 373 ≤ a → I' a k = I a k) ∧ (∀ a k, 373 ≤ a → a ≠ 416 → J' a k = J a k) ∧ (I' 0 0 = I 0 0 ∧ I' 0 1 = I 0 1 ∧ I' 117 5 = I 117 5 ∧ I' 2 4 = I 2 4) ∧ (∀ j, I' 3 j = I 3 j) ∧ I' 1 3 = I 1 3
section INVS
variable {I I' : IM} {J J' : JM} {R R' : RM}
theorem QF.cls (h : QF I J) (e : ∀ a k, 373 ≤ a → I' a k = I a k) (f : ∀ a k, 373 ≤ a → a ≠ 416 → J' a k = J a k) : QF I' J' := by
  refine h.keep (fun j _ => e _ _ (by omega)) (fun x j _ _ => e _ _ (by omega)) ⟨fun j hj => by rw [e _ _ (by omega)]; exact h.2.2.2.2.2.1.1 j hj, fun j hj => by rw [e _ _ (by omega)]; exact h.2.2.2.2.2.1.2 j hj⟩ (fun i hi => ?_)
  rw [f 406 i (by omega) (by omega), f 407 i (by omega) (by omega), f 408 i (by omega) (by omega), f 409 i (by omega) (by omega)]
  exact h.2.2.2.2.2.2 i hi
theorem CI.q (h : CI 0 I J I J R) (e : ∀ a k, a < 373 → I' a k = I a k) : CI 0 I' J' I' J' R := by
  obtain ⟨_, _, h3, h4, h5, h6, h7, h8⟩ := h
  refine ⟨fun _ _ _ => rfl, fun _ _ _ => rfl, fun a k ha hk => ?_, fun j hj => ?_, fun p hp j hj => ?_, fun x hx => ?_, h7, h8⟩
  · rw [e a k ha]; exact h3 a k ha hk
  · rw [e 4 j (by omega), e 5 j (by omega), e 6 j (by omega)]; exact h4 j hj
  · rw [e (p + 52) j (by rcases hp with rfl | rfl <;> omega), e (p + 53) j (by rcases hp with rfl | rfl <;> omega)]; exact h5 p hp j hj
  · rw [e x 0 (lt373T hx), e x 2 (lt373T hx)]; exact h6 x hx
theorem CI.qr {m : Nat} {I0 : IM} {J0 : JM} (h : CI m I0 J0 I J R) : QR R := qr_of h.2.2.2.2.2.2.1
/-- of a class's call: nothing of the reference, and what both have alike as it was -/
theorem cls_of {m : Nat} (hm : 4 ≤ m) (h : CI m I J I' J' R') : CLS I J (mk I' J' R') :=
  ⟨I', J', R', rfl, h.up 0, fun a k ha => h.1 a k (Or.inr (Or.inl ha)), fun a k ha _ => h.2.1 a k (Or.inr ha), ⟨h.1 0 0 (Or.inl (by omega)), h.1 0 1 (Or.inl (by omega)), h.1 117 5 (by omega), h.1 2 4 (by omega)⟩, fun j => h.1 3 j (Or.inl (by omega)), h.1 1 3 (Or.inl (by omega))⟩
/-- the answer is kept in the row out -/
theorem cls_out {w : WW} (h : CLS I J w) (x : Int32) {Q : (Int32 × WW) → Prop} (k : ∀ w', CLS I J w' → Q (0, w')) : wp ((sL w 416 1 (0 : Int32) (Int32.toInt64 x)).bind fun w3 => some ((0 : Int32), w3)) Q := by
  obtain ⟨I', J', R', rfl, h1, h2, h3, h4⟩ := h
  refine st_sL (n := 1) rfl (by decide) (st_some (k _ ⟨I', _, R', rfl, h1.q (fun _ _ _ => rfl), h2, fun a k ha hn => ?_, h4⟩))
  rw [up2_nea hn]; exact h3 a k ha hn
/-- a call of both sides: whatever the class leaves so, the reference's call ends and keeps INV -/
theorem seq_of {r : Option (Int32 × WW)} {G : WW → Option (Int32 × WW)} (hq : QF I J) (h0 : EQ4 I) (hc : wp r (fun p => CLS I J p.2)) (hG : ∀ (I : IM) (J : JM) (R : RM), QR R → QF I J → ∀ Q : (Int32 × WW) → Prop, (∀ (r : Int32) (I' : IM) (J' : JM), QF I' J' → QK I J I' J' → Q (r, mk I' J' R)) → wp (G (mk I J R)) Q) : seq2 INV r G := by
  obtain ⟨⟨k, w1⟩, h1, I1, J1, R1, e1, c1, c2, c3, ⟨c4, c5, c6, c7⟩, c8, c9⟩ := hc
  have e1 : w1 = mk I1 J1 R1 := e1
  subst e1
  obtain ⟨⟨b, w2⟩, g1, g2⟩ := hG I1 J1 R1 c1.qr (hq.cls c2 c3) (fun p => INV p.2) (fun r I' J' q1 q2 => ⟨I', J', R1, rfl, c1.q (fun a k ha => q2.1 a k (Or.inl ha)), q1, ⟨by rw [q2.1 0 0 (by decide), q2.2.1.1, c4, c2 373 6 (by decide)]; exact h0.1.1, by rw [q2.1 0 1 (by decide), q2.2.2.1.1, c5, c2 373 7 (by decide)]; exact h0.1.2.1, by rw [q2.1 117 5 (by decide), q2.2.2.1.2, c6, c2 373 3 (by decide)]; exact h0.1.2.2.1, by rw [q2.1 2 4 (by decide), q2.2.1.2, c7, c2 373 2 (by decide)]; exact h0.1.2.2.2⟩, fun j hj => by rw [q2.1 3 j (by omega), q2.1 374 j (by omega), c8, c2 374 j (by decide)]; rw [q2.1 2 4 (by omega), c7] at hj; exact h0.2.1 j hj, by rw [q2.1 1 3 (by omega), q2.1 373 4 (by omega), c9, c2 373 4 (by decide)]; exact h0.2.2⟩)
  exact ⟨k, _, b, w2, h1, g1, g2⟩
/-- both sides' answers held against each other -/
theorem seq3_of {r : Option (Int32 × WW)} {G : WW → Option (Int32 × WW)} (hc : wp r (fun p => wp (G p.2) (fun q => ∃ (I : IM) (J : JM) (R : RM), q.2 = mk I J R ∧ INV (mk I J R) ∧ I 373 5 = p.1 ∧ (p.1 = 0 → J 416 0 = Int32.toInt64 q.1)))) : seq3 INV r G := by
  obtain ⟨⟨k, w1⟩, h1, ⟨b, w2⟩, g1, I, J, R, e, hI, h5, h6⟩ := hc
  have e : w2 = mk I J R := e
  subst e
  obtain ⟨⟨r3, w3⟩, t1, t2, t3⟩ := q_thrown (I := I) (J := J) (R := R) (Q := fun p => p.1 = I 373 5 ∧ p.2 = mk I J R) ⟨rfl, rfl⟩
  have t2 : r3 = I 373 5 := t2
  have t3 : w3 = mk I J R := t3
  have h5 : I 373 5 = k := h5
  subst t2; subst t3
  rw [h5] at t1
  refine ⟨k, w1, b, _, _, h1, g1, t1, fun z => ?_, hI⟩
  rw [(mk_rep I J R).rrL (a := 416) (t := 1) (n := 1) (by rw [Lay_LT]; rfl) (i := 0) (ix_iff (by decide))]
  exact congrArg some (h6 z)
theorem seq3_2 {r : Option (Int32 × WW)} {G : WW → Option (Int32 × WW)} (h : seq3 INV r G) : seq2 INV r G := by
  obtain ⟨k, w1, b, w2, w3, h1, h2, h3, h4, h5⟩ := h
  refine ⟨k, w1, b, w2, h1, h2, ?_⟩
  have : w3 = w2 := by
    unfold f_q_thrown at h3
    split at h3
    · cases hg : gI w2 373 9 5 with
      | none => rw [hg] at h3; cases h3
      | some x => rw [hg] at h3; cases h3; rfl
    · cases h3
  rw [this] at h5; exact h5
theorem seqE_2 {r : Option (Int32 × WW)} {G : WW → Option (Int32 × WW)} (h : seqE INV r G) : seq2 INV r G := by
  obtain ⟨k, w1, w2, h1, h2, h3⟩ := h
  exact ⟨k, w1, k, w2, h1, h2, h3⟩
theorem seqE_of {r : Option (Int32 × WW)} {G : WW → Option (Int32 × WW)} (hc : wp r (fun p => wp (G p.2) (fun q => q.1 = p.1 ∧ INV q.2))) : seqE INV r G := by
  obtain ⟨⟨k, w1⟩, h1, ⟨b, w2⟩, g1, g2, g3⟩ := hc
  have g2 : b = k := g2
  subst g2
  exact ⟨b, w1, w2, h1, g1, g3⟩
theorem f_clear (h : CI 0 I J I J R) (hq : QF I J) (h0 : EQ4 I) : seqE INV (f_a_clear 0 (mk I J R)) (f_q_clear 373) := by
  refine seqE_of (x_clear h (fun h1 => ?_))
  have q1 : QF (up2 I 2 4 0) J := hq.cls (fun a k ha => up2_nea (by omega)) (fun _ _ _ _ => rfl)
  refine c_clear q1 (fun q2 => ⟨?_, ⟨_, J, R, rfl, h1.q (fun a k ha => by rw [up2_nea (by omega), up2_nea (by omega)]), q2, ⟨?_, ?_, ?_, ?_⟩, fun j hj => ?_, ?_⟩⟩)
  · show up2 I 2 4 0 373 2 = I 2 4
    rw [up2_nea (by decide)]; exact h0.1.2.2.2.symm
  · rw [up2_nea (by decide), up2_nea (by decide), up2_nea (by decide), up2_nek (by decide), up2_nek (by decide), up2_nea (by decide)]; exact h0.1.1
  · rw [up2_nea (by decide), up2_nea (by decide), up2_nea (by decide), up2_nek (by decide), up2_nek (by decide), up2_nea (by decide)]; exact h0.1.2.1
  · rw [up2_nea (by decide), up2_nea (by decide), up2_nea (by decide), up2_nek (by decide), up2_nek (by decide), up2_nea (by decide)]; exact h0.1.2.2.1
  · rw [up2_nea (by decide), up2_nea (by decide), up2_s, up2_s]
  · rw [up2_nea (by decide), up2_nea (by decide), up2_s, l32_0] at hj; omega
  · rw [up2_nea (by decide), up2_nea (by decide), up2_nea (by decide), up2_nek (by decide), up2_nek (by decide), up2_nea (by decide)]; exact h0.2.2
theorem f_forget (h : CI 0 I J I J R) (hq : QF I J) (h0 : EQ4 I) : seqE INV (f_a_forget 0 (mk I J R)) (f_q_forget 373) := by
  refine seqE_of (x_forget h (fun h1 => ?_))
  have q1 : QF (up2 I 117 5 0) J := hq.cls (fun a k ha => up2_nea (by omega)) (fun _ _ _ _ => rfl)
  refine c_forget q1 (fun q2 => ⟨?_, ⟨_, J, R, rfl, h1.q (fun a k ha => by rw [up2_nea (by omega), up2_nea (by omega)]), q2, h0.of ⟨?_, ?_, ?_, ?_⟩ (fun a k hx => ?_)⟩⟩)
  · show up2 I 117 5 0 373 3 = I 117 5
    rw [up2_nea (by decide)]; exact h0.1.2.2.1.symm
  · rw [up2_nea (by decide), up2_nea (by decide), up2_nea (by decide), up2_nek (by decide), up2_nek (by decide), up2_nea (by decide)]; exact h0.1.1
  · rw [up2_nea (by decide), up2_nea (by decide), up2_nea (by decide), up2_nek (by decide), up2_nek (by decide), up2_nea (by decide)]; exact h0.1.2.1
  · rw [up2_nea (by decide), up2_nea (by decide), up2_s, up2_s]
  · rw [up2_nea (by decide), up2_nea (by decide), up2_nea (by decide), up2_nek (by decide), up2_nek (by decide), up2_nea (by decide)]; exact h0.1.2.2.2
  · rw [up2_ne _ _ (by omega), up2_ne _ _ (by omega), up2_ne _ _ (by omega)]
/-- the class threw: the reference's call sees the same world -/
theorem thr_ok {K : IM} (h : CI 0 I J I J R) (h0 : EQ4 I) (v : Int32) (hK : K = up2 I 373 5 v) (hq : QF K J) : INV (mk K J R) := by
  subst hK
  refine ⟨_, J, R, rfl, h.q (fun a k ha => up2_nea (by omega)), hq, h0.of ⟨?_, ?_, ?_, ?_⟩ (fun a k hx => up2_ne _ _ (by omega))⟩
  · rw [up2_nea (by decide), up2_nek (by decide)]; exact h0.1.1
  · rw [up2_nea (by decide), up2_nek (by decide)]; exact h0.1.2.1
  · rw [up2_nea (by decide), up2_nek (by decide)]; exact h0.1.2.2.1
  · rw [up2_nea (by decide), up2_nek (by decide)]; exact h0.1.2.2.2
theorem f_input (h : CI 0 I J I J R) (hq : QF I J) (h0 : EQ4 I) (a : Int32) : seq3 INV (f_lw_input 0 a 416 (mk I J R)) (f_q_input 373 a) := by
  have e3 := h0.1.2.2.1
  have v3 : (I 117 5).toInt = (I 373 3).toInt := by rw [e3]
  refine seq3_of ?_
  unfold f_lw_input
  refine st_bdh (x_input h (fun h8 => ⟨fun v hv => (by cases hv), fun E hE => ?_⟩) (fun h8 I1 e1 c1 l1 => ⟨fun v hv => ?_, fun E hE => (by cases hE)⟩))
  · cases hE
    refine st_ite (fun _ => st_some ?_) (fun c => absurd rfl c)
    refine c_input h.qr hq (fun _ => ⟨_, J, R, rfl, thr_ok h h0 1 rfl hq.u5, up2_s, fun z => absurd (show (1 : Int32) = 0 from z) (by decide)⟩) (fun z => by omega)
  · cases hv
    refine st_sL (n := 1) rfl (by decide) (st_some ?_)
    have q1 : QF I1 (up2 J 416 0 (Int32.toInt64 (I 117 5 + 1))) := hq.cls (fun a k ha => e1 _ _ (by omega) (by omega)) (fun a k ha hn => up2_nea hn)
    have f3 : I1 373 3 = I 373 3 := e1 _ _ (by decide) (by decide)
    refine c_input h.qr q1 (fun z => by rw [f3] at z; omega) (fun _ I2 e2 k5 k3 q2 => ⟨I2, _, R, rfl, ⟨I2, _, R, rfl, c1.q (fun a k ha => e2 _ _ (by omega) (by omega)), q2, h0.of ⟨?_, ?_, ?_, ?_⟩ (fun a k hx => by rw [e2 a k (by omega) (by omega), e1 a k (by omega) (by omega)])⟩, k5, fun _ => ?_⟩)
    · rw [e2 0 0 (by decide) (by decide), e1 0 0 (by decide) (by decide), e2 373 6 (by decide) (by decide), e1 373 6 (by decide) (by decide)]; exact h0.1.1
    · rw [e2 0 1 (by decide) (by decide), e1 0 1 (by decide) (by decide), e2 373 7 (by decide) (by decide), e1 373 7 (by decide) (by decide)]; exact h0.1.2.1
    · rw [e2 117 5 (by decide) (by decide), l1, k3, f3, e3]
    · rw [e2 2 4 (by decide) (by decide), e1 2 4 (by decide) (by decide), e2 373 2 (by decide) (by decide), e1 373 2 (by decide) (by decide)]; exact h0.1.2.2.2
    · show up2 J 416 0 (Int32.toInt64 (I 117 5 + 1)) 416 0 = Int32.toInt64 (I1 373 3 + 1)
      rw [up2_s, f3, e3]
theorem f_text (h : CI 0 I J I J R) (hq : QF I J) (h0 : EQ4 I) (a : Int64) : seq3 INV (f_lw_text 0 a 416 (mk I J R)) (f_q_text 373 a) := by
  have e2 := h0.1.2.2.2
  have v2 : (I 2 4).toInt = (I 373 2).toInt := by rw [e2]
  refine seq3_of ?_
  unfold f_lw_text
  refine st_bdh (x_text h (fun hG => ⟨fun v hv => (by cases hv), fun E hE => ?_⟩) (fun hG hl => ⟨fun v hv => (by cases hv), fun E hE => ?_⟩) (fun hG hl I1 e1 c1 l1 r3 => ⟨fun v hv => ?_, fun E hE => (by cases hE)⟩))
  · cases hE
    refine st_ite (fun _ => st_some ?_) (fun c => absurd rfl c)
    exact c_text h.qr hq (fun _ => ⟨_, J, R, rfl, thr_ok h h0 1 rfl hq.u5, up2_s, fun z => absurd (show (1 : Int32) = 0 from z) (by decide)⟩) (fun z => absurd z hG) (fun z => absurd z hG)
  · cases hE
    refine st_ite (fun c => absurd c (by decide)) (fun _ => st_ite (fun _ => st_some ?_) (fun c => absurd rfl c))
    exact c_text h.qr hq (fun z => absurd hG z) (fun _ _ => ⟨_, J, R, rfl, thr_ok h h0 2 rfl hq.u5, up2_s, fun z => absurd (show (2 : Int32) = 0 from z) (by decide)⟩) (fun _ I' _ _ l' l2 _ => by omega)
  · cases hv
    refine st_sL (n := 1) rfl (by decide) (st_some ?_)
    have q1 : QF I1 (up2 J 416 0 (Int32.toInt64 (I1 2 4))) := hq.cls (fun a k ha => e1 _ _ (by omega) (by omega)) (fun a k ha hn => up2_nea hn)
    have f2 : I1 373 2 = I 373 2 := e1 _ _ (by decide) (by decide)
    refine c_text h.qr q1 (fun z => absurd hG z) (fun _ z => by rw [f2] at z; omega) (fun _ I2 g2 k5 k2 k200 r4 => ⟨I2, _, R, rfl, ⟨I2, _, R, rfl, c1.q (fun a k ha => g2 _ _ (by omega) (by omega)), q1.qt g2 ⟨?_, k200⟩, ⟨?_, ?_, ?_, ?_⟩, fun j hj => ?_, ?_⟩, k5, fun _ => ?_⟩)
    · have := nb_b a 8; have := q1.1; omega
    · rw [g2 0 0 (by decide) (by decide), e1 0 0 (by decide) (by decide), g2 373 6 (by decide) (by decide), e1 373 6 (by decide) (by decide)]; exact h0.1.1
    · rw [g2 0 1 (by decide) (by decide), e1 0 1 (by decide) (by decide), g2 373 7 (by decide) (by decide), e1 373 7 (by decide) (by decide)]; exact h0.1.2.1
    · rw [g2 117 5 (by decide) (by decide), e1 117 5 (by decide) (by decide), g2 373 3 (by decide) (by decide), e1 373 3 (by decide) (by decide)]; exact h0.1.2.2.1
    · rw [g2 2 4 (by decide) (by decide)]; exact i32eq.mpr (by rw [k2, f2]; omega)
    · rw [g2 2 4 (by decide) (by decide), l1] at hj
      have f374 : I1 374 = I 374 := by funext z; exact e1 374 z (by omega) (by omega)
      have ln : (I 373 2).toInt.toNat = (I 2 4).toInt.toNat := by omega
      have hb := x_len h
      obtain ⟨a1, a2, a3⟩ := apn_eq a 8 (I 2 4).toInt.toNat (I 3) (I 374) (fun z hz => h0.2.1 z (by omega))
      rw [g2 3 j (by omega) (by omega), r3, r4, f374, f2, ln]
      exact a3 j (by omega)
    · rw [g2 1 3 (by decide) (by decide), e1 1 3 (by decide) (by decide), g2 373 4 (by decide) (by decide), e1 373 4 (by decide) (by decide)]; exact h0.2.2
    · show up2 J 416 0 (Int32.toInt64 (I1 2 4)) 416 0 = Int32.toInt64 (I2 373 2)
      rw [up2_s]
      exact congrArg Int32.toInt64 (i32eq.mpr (by rw [k2, f2]; omega))
theorem f_choose (h : CI 0 I J I J R) (hq : QF I J) (h0 : EQ4 I) (a b : Int32) : seq3 INV (f_lw_choose 0 a b 416 (mk I J R)) (f_q_choose 373 a b) := by
  refine seq3_of ?_
  unfold f_lw_choose
  have qf : ∀ (n : Nat) (K : IM) (J' : JM), QF K J' → n = 6 ∨ n = 7 → (0 ≤ b.toInt ∧ b.toInt ≤ 5) → QF (up2 (up2 K 373 5 0) 373 n b) J' := by
    intro n K J' hK hn hb
    obtain ⟨q1, q2, q3, q4, q5, q6, q7⟩ := hK.u5 (v := 0)
    have fr : ∀ x j, (x ≠ 373 ∨ j ≠ n) → up2 (up2 K 373 5 0) 373 n b x j = up2 K 373 5 0 x j := fun x j hx => up2_ne _ _ (by omega)
    unfold QF
    rw [fr 373 2 (by omega), fr 373 3 (by omega), fr 373 8 (by omega), fr 373 27 (by omega)]
    refine ⟨q1, q2, ?_, q4, fun z => (q5 z).keep (fun x j hx => fr x j (by omega)), q6.oth (by decide) (by decide), q7⟩
    rcases hn with rfl | rfl
    · rw [fr 373 7 (by omega)]; exact q3
    · rw [up2_s]; exact hb
  refine st_bdh (x_choose h (fun hb => ⟨fun v hv => (by cases hv), fun E hE => ?_⟩) (fun hb ha c1 => ⟨fun v hv => ?_, fun E hE => (by cases hE)⟩) (fun hb ha c1 => ⟨fun v hv => ?_, fun E hE => (by cases hE)⟩))
  · cases hE
    refine st_ite (fun _ => st_some ?_) (fun c => absurd rfl c)
    exact c_choose h.qr hq (fun _ => ⟨_, J, R, rfl, thr_ok h h0 1 rfl hq.u5, up2_s, fun z => absurd (show (1 : Int32) = 0 from z) (by decide)⟩) (fun z1 z2 => by rw [z2, l32_0] at hb; omega) (fun z1 z2 => by rw [z2, l32_1] at hb; omega)
  · cases hv
    refine st_sL (n := 1) rfl (by decide) (st_some ?_)
    have q1 : QF (up2 I 0 0 b) (up2 J 416 0 (Int32.toInt64 (I 0 0))) := hq.cls (fun a k ha => up2_nea (by omega)) (fun a k ha hn => up2_nea hn)
    refine c_choose h.qr q1 (fun z => by rw [ha, l32_0] at z; omega) (fun _ _ => ⟨_, _, R, rfl, ⟨_, _, R, rfl, c1.q (fun a k ha => by rw [up2_nea (by omega), up2_nea (by omega)]), qf 6 _ _ q1 (Or.inl rfl) hb, h0.of ⟨?_, ?_, ?_, ?_⟩ (fun x y hx => by rw [up2_ne _ _ (by omega), up2_ne _ _ (by omega), up2_ne _ _ (by omega)])⟩, ?_, fun _ => ?_⟩) (fun _ z => by rw [ha] at z; exact absurd z (by decide))
    · rw [up2_nea (by decide), up2_nea (by decide), up2_s, up2_s]
    · rw [up2_nea (by decide), up2_nea (by decide), up2_nek (by decide), up2_nek (by decide), up2_nek (by decide), up2_nea (by decide)]; exact h0.1.2.1
    · rw [up2_nea (by decide), up2_nea (by decide), up2_nea (by decide), up2_nek (by decide), up2_nek (by decide), up2_nea (by decide)]; exact h0.1.2.2.1
    · rw [up2_nea (by decide), up2_nea (by decide), up2_nea (by decide), up2_nek (by decide), up2_nek (by decide), up2_nea (by decide)]; exact h0.1.2.2.2
    · rw [up2_nek (by decide), up2_s]
    · show up2 J 416 0 (Int32.toInt64 (I 0 0)) 416 0 = Int32.toInt64 (up2 I 0 0 b 373 6)
      rw [up2_s, up2_nea (by decide), h0.1.1]
  · cases hv
    refine st_sL (n := 1) rfl (by decide) (st_some ?_)
    have q1 : QF (up2 I 0 1 b) (up2 J 416 0 (Int32.toInt64 (I 0 1))) := hq.cls (fun a k ha => up2_nea (by omega)) (fun a k ha hn => up2_nea hn)
    refine c_choose h.qr q1 (fun z => by rw [ha, l32_1] at z; omega) (fun _ z => by rw [ha] at z; exact absurd z (by decide)) (fun _ _ => ⟨_, _, R, rfl, ⟨_, _, R, rfl, c1.q (fun a k ha => by rw [up2_nea (by omega), up2_nea (by omega)]), qf 7 _ _ q1 (Or.inr rfl) hb, h0.of ⟨?_, ?_, ?_, ?_⟩ (fun x y hx => by rw [up2_ne _ _ (by omega), up2_ne _ _ (by omega), up2_ne _ _ (by omega)])⟩, ?_, fun _ => ?_⟩)
    · rw [up2_nea (by decide), up2_nea (by decide), up2_nek (by decide), up2_nek (by decide), up2_nek (by decide), up2_nea (by decide)]; exact h0.1.1
    · rw [up2_nea (by decide), up2_nea (by decide), up2_s, up2_s]
    · rw [up2_nea (by decide), up2_nea (by decide), up2_nea (by decide), up2_nek (by decide), up2_nek (by decide), up2_nea (by decide)]; exact h0.1.2.2.1
    · rw [up2_nea (by decide), up2_nea (by decide), up2_nea (by decide), up2_nek (by decide), up2_nek (by decide), up2_nea (by decide)]; exact h0.1.2.2.2
    · rw [up2_nek (by decide), up2_s]
    · show up2 J 416 0 (Int32.toInt64 (I 0 1)) 416 0 = Int32.toInt64 (up2 I 0 1 b 373 7)
      rw [up2_s, up2_nea (by decide), h0.1.2.1]
theorem f_where (h : CI 0 I J I J R) (hq : QF I J) (h0 : EQ4 I) : seqE INV (f_a_where 0 (mk I J R)) (f_q_where 373) := by
  refine seqE_of (x_where h ?_)
  unfold f_q_where
  refine st_kb rfl (st_pI rfl rfl (st_gI rfl rfl (up2_nek (by decide)) (st_some ⟨h0.2.2.symm, thr_ok h h0 0 rfl hq.u5⟩)))
def PC1 (I : IM) (J : JM) (x : (Int32 ⊕ String) × WW) : Prop := ∃ (I' : IM) (J' : JM) (R' : RM), x.2 = mk I' J' R' ∧ CI 0 I J I' J' R' ∧ (I' 0 0 = I 0 0 ∧ I' 0 1 = I 0 1) ∧ ((∃ r, x.1 = .inl r) ∨ x.1 = .inr "java/lang/IllegalArgumentException")
def PC2 (I : IM) (L : Nat) (x : (Int32 ⊕ String) × WW) : Prop := ∃ (I' : IM) (J' : JM) (R' : RM) (K B : Nat → Int32) (r : SR), x.2 = mk I' J' R' ∧ TL (I 3) L K B 0 0 ∧ DS K 0 0 0 0 0 r ∧ I' 3 = I 3 ∧ SKR (fun _ c' => I' 1 3 = -2 ∧ ∃ v : Int32, x.1 = .inl v ∧ v.toInt = c') (fun j => I' 1 3 = B j ∧ ∃ E, x.1 = .inr E) r
theorem f_parse (h : CI 0 I J I J R) (hq : QF I J) (h0 : EQ4 I) : seq3 INV (f_lw_parse 0 416 (mk I J R)) (f_q_parse 373) := by
  have h1 := h.up 1
  have hx : FXR R := h.2.2.2.2.2.2.1
  have hl := x_len h
  obtain ⟨p, hp, h05⟩ : ∃ p, isP p ∧ R 0 5 = some p := by
    rcases h.2.2.2.2.2.2.2.2.1 with z | z
    · exact ⟨7, Or.inl rfl, z⟩
    · exact ⟨62, Or.inr rfl, z⟩
  obtain ⟨L, hL⟩ : ∃ L : Nat, (I 2 4).toInt = L := ⟨(I 2 4).toInt.toNat, by omega⟩
  have w1 : wp (f_a_parse 0 (mk I J R)) (PC1 I J) := s_a_parse h1 (fun r I' J' R' h' e' => ⟨I', J', R', rfl, h', e', Or.inl ⟨r, rfl⟩⟩) (fun E I' J' R' h' e' hE => ⟨I', J', R', rfl, h', e', Or.inr (congrArg Sum.inr (show E = "java/lang/IllegalArgumentException" from hE))⟩)
  have w2 : wl (f_a_parse 0 (mk I J R)) (PC2 I L) := v_parse hx hp h05 hL (by omega) (fun K B i' c' I' R' v hT hD r3 f3 hv => ⟨I', J, R', K, B, .inl (i', c'), rfl, hT, hD, r3, f3, v, rfl, hv⟩) (fun E K B j I' R' hT hD r3 f3 => ⟨I', J, R', K, B, .inr j, rfl, hT, hD, r3, f3, E, rfl⟩)
  refine seq3_of ?_
  unfold f_lw_parse
  refine st_bdh (wp_mono (wl_wp w1 w2) (fun x hx12 => ?_))
  obtain ⟨x1, xw⟩ := x
  obtain ⟨⟨I1, J1, R1, e1, c1, e01, alt⟩, ⟨I2, J2, R2, K, B, r, e2, hT, hD, r3, hk⟩⟩ := hx12
  have e1 : xw = mk I1 J1 R1 := e1
  subst e1
  have e2 : mk I1 J1 R1 = mk I2 J2 R2 := e2
  have row3 : I1 3 = I 3 := (mk_row (a := 3) rfl e2).trans r3
  have f13 : I1 1 3 = I2 1 3 := mk_fld (a := 1) (k := 3) rfl rfl e2
  have i2 : I1 2 4 = I 2 4 := c1.1 2 4 (by omega)
  have hge : ∀ a k, 373 ≤ a → I1 a k = I a k := fun a k ha => c1.1 a k (Or.inr (Or.inl ha))
  have ref : ∀ J1' : JM, (∀ a k, 373 ≤ a → a ≠ 416 → J1' a k = J a k) → wp (f_q_parse 373 (mk I1 J1' R1)) (fun y => ∃ (I3 : IM) (J3 : JM), y.2 = mk I3 J3 R1 ∧ INV (mk I3 J3 R1) ∧ J3 416 0 = J1' 416 0 ∧ SKR (fun _ c' => I3 373 5 = 0 ∧ y.1.toInt = c') (fun _ => I3 373 5 = 1) r) := by
    intro J1' hJ
    have hq1 : QF I1 J1' := hq.cls hge hJ
    have ht : TXQ (I 3) L I1 := ⟨by rw [hge 373 2 (by decide), ← h0.1.2.2.2]; exact hL, fun j hj => by rw [hge 374 j (by decide)]; exact (h0.2.1 j (by omega)).symm⟩
    have p1 : wp (f_q_parse 373 (mk I1 J1' R1)) (fun y => ∃ (I3 : IM) (J3 : JM), y.2 = mk I3 J3 R1 ∧ QF I3 J3 ∧ QKp I1 J1' I3 J3) := c_parse c1.qr hq1 (fun v I3 J3 q1 q2 => ⟨I3, J3, rfl, q1, q2⟩)
    have p2 : wl (f_q_parse 373 (mk I1 J1' R1)) (fun y => ∃ (I4 : IM), y.2 = mk I4 J1' R1 ∧ SKR (fun _ c' => I4 373 4 = -2 ∧ I4 373 5 = 0 ∧ y.1.toInt = c') (fun j => I4 373 4 = B j ∧ I4 373 5 = 1) r) := z_parse c1.qr (by omega) ht hq1.2.2.2.1 hT hD (fun v I4 hs => ⟨I4, rfl, hs⟩)
    refine wp_mono (wl_wp p1 p2) (fun y hy => ?_)
    obtain ⟨⟨I3, J3, e3, q1, q2⟩, ⟨I4, e4, hs⟩⟩ := hy
    have e34 : mk I3 J3 R1 = mk I4 J1' R1 := e3.symm.trans e4
    have g4 : I3 373 4 = I4 373 4 := mk_fld (a := 373) (k := 4) rfl rfl e34
    have g5 : I3 373 5 = I4 373 5 := mk_fld (a := 373) (k := 5) rfl rfl e34
    have wh : I3 1 3 = I3 373 4 := by
      rw [q2.1 1 3 (by omega), f13, g4]
      cases r with
      | inl q => exact hk.1.trans hs.1.symm
      | inr j => exact hk.1.trans hs.1.symm
    refine ⟨I3, J3, e3, ⟨I3, J3, R1, rfl, (c1.up 0).q (fun a k ha => q2.1 a k (Or.inl ha)), q1, ⟨?_, ?_, ?_, ?_⟩, fun j hj => ?_, wh⟩, q2.2.2.2 416 0 (Or.inr rfl), ?_⟩
    · rw [q2.1 0 0 (by decide), q2.2.1.1, e01.1, hge 373 6 (by decide)]; exact h0.1.1
    · rw [q2.1 0 1 (by decide), q2.2.2.1.1, e01.2, hge 373 7 (by decide)]; exact h0.1.2.1
    · rw [q2.1 117 5 (by decide), q2.2.2.1.2, c1.1 117 5 (by omega), hge 373 3 (by decide)]; exact h0.1.2.2.1
    · rw [q2.1 2 4 (by decide), q2.2.1.2, i2, hge 373 2 (by decide)]; exact h0.1.2.2.2
    · rw [q2.1 2 4 (by decide), i2] at hj
      rw [q2.1 3 j (by omega), q2.1 374 j (by omega), row3, hge 374 j (by decide)]
      exact h0.2.1 j hj
    · cases r with
      | inl q => exact ⟨g5.trans hs.2.1, hs.2.2⟩
      | inr j => exact g5.trans hs.2
  cases r with
  | inl q =>
    obtain ⟨_, v, hv1, hv2⟩ := hk
    have hv1 : x1 = .inl v := hv1
    subst hv1
    refine ⟨fun v' hv' => ?_, fun E hE => (by cases hE)⟩
    cases hv'
    refine st_sL (n := 1) rfl (by decide) (st_some (wp_mono (ref _ (fun a k ha hn => ?_)) (fun y hy => ?_)))
    · rw [up2_nea hn]; exact c1.2.1 a k (Or.inr ha)
    · obtain ⟨I3, J3, e3, hI, hJ, hs⟩ := hy
      refine ⟨I3, J3, R1, e3, hI, hs.1, fun _ => ?_⟩
      rw [hJ]
      show up2 J1 416 0 (Int32.toInt64 v) 416 0 = Int32.toInt64 y.1
      rw [up2_s]
      exact congrArg Int32.toInt64 (i32eq.mpr (hv2.trans hs.2.symm))
  | inr j =>
    obtain ⟨_, E, hE1⟩ := hk
    have hE1 : x1 = .inr E := hE1
    subst hE1
    refine ⟨fun v' hv' => (by cases hv'), fun E' hE' => ?_⟩
    have hE2 : E' = "java/lang/IllegalArgumentException" := by
      rcases alt with ⟨r, z⟩ | z
      · cases z
      · have z' : (Sum.inr E : Int32 ⊕ String) = .inr "java/lang/IllegalArgumentException" := z
        have hE'' : (Sum.inr E : Int32 ⊕ String) = .inr E' := hE'
        exact Sum.inr.inj (hE''.symm.trans z')
    subst hE2
    refine st_ite (fun _ => st_some (wp_mono (ref J1 (fun a k ha hn => c1.2.1 a k (Or.inr ha))) (fun y hy => ?_))) (fun z => absurd rfl z)
    obtain ⟨I3, J3, e3, hI, hJ, hs⟩ := hy
    exact ⟨I3, J3, R1, e3, hI, hs, fun z => absurd (show (1 : Int32) = 0 from z) (by decide)⟩
end INVS
theorem steps : Steps INV := by
  intro w hw
  obtain ⟨I, J, R, rfl, h, hq, h0⟩ := hw
  have h1 := h.up 1
  have h117 := h.up 117
  have h123 := h.up 123
  refine ⟨fun a => seq3_2 (f_text h hq h0 a), seqE_2 (f_clear h hq h0), f_parse h hq h0, seqE_2 (f_where h hq h0), fun a b => seq3_2 (f_choose h hq h0 a b), fun a => seq3_2 (f_input h hq h0 a), seqE_2 (f_forget h hq h0), fun a => ?_, fun a => ?_, ?_, fun a => ?_, fun a b => ?_, fun a => ?_⟩
  · refine seq_of hq h0 ?_ (fun I J R hR q Q k => c_run hR q k)
    unfold f_lw_run
    refine st_bdh (s_a_run h117 (fun r I' J' R' h' => ⟨fun v hv => ?_, fun E hE => (by cases hE)⟩) (fun E I' J' R' h' hE => ⟨fun v hv => (by cases hv), fun E2 hE2 => ?_⟩))
    · cases hv; exact cls_out (cls_of (by decide) h') _ (fun w' hw => hw)
    · cases hE2
      have fin := fun k : Int32 => st_some (x := (k, mk I' J' R')) (Q := fun p => CLS I J p.2) (cls_of (by decide) h')
      have hE : E = "java/lang/IllegalArgumentException" ∨ E = "java/lang/IllegalStateException" ∨ E = "java/lang/IndexOutOfBoundsException" ∨ E = "java/lang/ArithmeticException" ∨ E = "java/lang/UnsupportedOperationException" := hE
      refine st_ite (fun _ => fin _) (fun c1 => st_ite (fun _ => fin _) (fun c2 => st_ite (fun _ => fin _) (fun c3 => st_ite (fun _ => fin _) (fun c4 => st_ite (fun _ => fin _) (fun c5 => ?_)))))
      rcases hE with z | z | z | z | z
      · exact absurd z c1
      · exact absurd z c2
      · exact absurd z c3
      · exact absurd z c4
      · exact absurd z c5
  · refine seq_of hq h0 ?_ (fun I J R hR q Q k => c_ran hR q k)
    unfold f_lw_ran
    refine st_bdh (s_a_ran h123 (fun r I' J' h' => ⟨fun v hv => ?_, fun E hE => (by cases hE)⟩) (fun E I' J' h' hE => ⟨fun v hv => (by cases hv), fun E2 hE2 => ?_⟩))
    · cases hv; exact cls_out (cls_of (by decide) h') _ (fun w' hw => hw)
    · cases hE2
      subst hE
      exact st_ite (fun _ => st_some (cls_of (by decide) h')) (fun c => absurd rfl c)
  · refine seq_of hq h0 ?_ (fun I J R hR q Q k => c_analyse hR q k)
    unfold f_lw_analyse
    refine st_bdh (s_a_analyse h123 (fun r I' J' R' h' => ⟨fun v hv => ?_, fun E hE => (by cases hE)⟩) (fun E I' J' R' h' hE => ⟨fun v hv => (by cases hv), fun E2 hE2 => ?_⟩))
    · cases hv; exact cls_out (cls_of (by decide) h') _ (fun w' hw => hw)
    · cases hE2
      subst hE
      exact st_ite (fun _ => st_some (cls_of (by decide) h')) (fun c => absurd rfl c)
  · refine seq_of hq h0 ?_ (fun I J R hR q Q k => c_warning hR q k)
    unfold f_lw_warning
    refine st_bdh (s_a_warning h123 (fun r I' J' h' => ⟨fun v hv => ?_, fun E hE => (by cases hE)⟩) (fun E I' J' h' hE => ⟨fun v hv => (by cases hv), fun E2 hE2 => ?_⟩))
    · cases hv; exact cls_out (cls_of (by decide) h') _ (fun w' hw => hw)
    · cases hE2
      subst hE
      exact st_ite (fun _ => st_some (cls_of (by decide) h')) (fun c => absurd rfl c)
  · refine seq_of hq h0 ?_ (fun I J R hR q Q k => c_left hR q k)
    unfold f_lw_left
    refine st_bdh (s_a_left h123 (fun r I' J' h' => ⟨fun v hv => ?_, fun E hE => (by cases hE)⟩) (fun E I' J' h' hE => ⟨fun v hv => (by cases hv), fun E2 hE2 => ?_⟩))
    · cases hv; exact cls_out (cls_of (by decide) h') _ (fun w' hw => hw)
    · cases hE2
      have fin := fun k : Int32 => st_some (x := (k, mk I' J' R)) (Q := fun p => CLS I J p.2) (cls_of (by decide) h')
      refine st_ite (fun _ => fin _) (fun c1 => st_ite (fun _ => fin _) (fun c2 => st_ite (fun _ => fin _) (fun c3 => st_ite (fun _ => fin _) (fun c4 => ?_))))
      rcases hE with z | z | z | z
      · exact absurd z c1
      · exact absurd z c2
      · exact absurd z c3
      · exact absurd z c4
  · refine seq_of hq h0 ?_ (fun I J R hR q Q k => c_count hR q k)
    unfold f_lw_count
    refine st_bdh (s_a_count h123 (fun r I' J' h' => ⟨fun v hv => ?_, fun E hE => (by cases hE)⟩) (fun E I' J' h' hE => ⟨fun v hv => (by cases hv), fun E2 hE2 => ?_⟩))
    · cases hv; exact cls_out (cls_of (by decide) h') _ (fun w' hw => hw)
    · cases hE2
      subst hE
      exact st_ite (fun _ => st_some (cls_of (by decide) h')) (fun c => absurd rfl c)
