/-! Both sides: the invariant between calls, each call keeps it, it holds at first; so the law answers 1. -/
theorem st_bdh {α γ : Type} {Q : γ → Prop} {c : Option ((α ⊕ String) × WW)} {f : α → WW → Option γ} {g : String → WW → Option γ} (h : wp c (fun p => (∀ v, p.1 = .inl v → wp (f v p.2) Q) ∧ (∀ E, p.1 = .inr E → wp (g E p.2) Q))) : wp (bdh c f g) Q := by
  obtain ⟨⟨x, w⟩, h1, h2⟩ := h
  rw [h1]
  cases x with
  | inl v => exact h2.1 v rfl
  | inr E => exact h2.2 E rfl
/-- what both sides have alike -/
def EQ4 (I : IM) : Prop := (I 0 0 = I 373 6 ∧ I 0 1 = I 373 7 ∧ I 117 5 = I 373 3 ∧ I 2 4 = I 373 2) ∧ (∀ j : Nat, (j : Int) < (I 2 4).toInt → I 3 j = I 374 j) ∧ I 1 3 = I 373 4
/-- a step that touches neither text nor where -/
theorem EQ4.of {I I' : IM} (h : EQ4 I) (e : I' 0 0 = I' 373 6 ∧ I' 0 1 = I' 373 7 ∧ I' 117 5 = I' 373 3 ∧ I' 2 4 = I' 373 2) (e2 : ∀ a k, (a = 3 ∨ a = 374 ∨ (a = 2 ∧ k = 4) ∨ (a = 1 ∧ k = 3) ∨ (a = 373 ∧ k = 4)) → I' a k = I a k) : EQ4 I' :=
  ⟨e, fun j hj => by rw [e2 3 j (by omega), e2 374 j (by omega)]; rw [e2 2 4 (by omega)] at hj; exact h.2.1 j hj, by rw [e2 1 3 (by omega), e2 373 4 (by omega)]; exact h.2.2⟩
theorem EQ4.keep {I I' : IM} (h : EQ4 I) (e : ∀ a k, (a ≤ 3 ∨ (a = 117 ∧ k = 5) ∨ a = 374 ∨ (a = 373 ∧ (k = 2 ∨ k = 3 ∨ k = 4 ∨ k = 6 ∨ k = 7))) → I' a k = I a k) : EQ4 I' :=
  h.of ⟨by rw [e 0 0 (by omega), e 373 6 (by omega)]; exact h.1.1, by rw [e 0 1 (by omega), e 373 7 (by omega)]; exact h.1.2.1, by rw [e 117 5 (by omega), e 373 3 (by omega)]; exact h.1.2.2.1, by rw [e 2 4 (by omega), e 373 2 (by omega)]; exact h.1.2.2.2⟩ (fun a k hx => e a k (by omega))
/-- the INPUTS alike -/
def INP (I : IM) : Prop := ∀ j : Nat, (j : Int) < (I 117 5).toInt → I 122 j = I 375 j
/-- what the last run left alike -/
def RST (I : IM) : Prop := VRL (I 118) (I 119) (I 120) I ∧ I 117 8 = I 373 52 ∧ I 117 9 = I 373 53 ∧ I 117 10 = I 373 51
/-- that, and the PROGRAM alike -/
def E9 (I : IM) (R : RM) : Prop := R 0 4 ≠ R 0 5 ∧ (I 0 6 = 0 ↔ I 373 8 = 0) ∧ RST I ∧ (¬ I 373 8 = 0 → ∀ p, R 0 4 = some p → PGR p (I 373 27).toInt.toNat I R)
def N9 (I : IM) (R : RM) : Prop := INP I ∧ E9 I R
/-- the cells that these look at, the INPUTS aside -/
def K9 (a k : Nat) : Prop := (a = 0 ∧ k = 6) ∨ (7 ≤ a ∧ a ≤ 116) ∨ (a = 117 ∧ 8 ≤ k ∧ k ≤ 10) ∨ (118 ≤ a ∧ a ≤ 120) ∨ (a = 373 ∧ (k = 8 ∨ k = 27 ∨ (51 ≤ k ∧ k ≤ 53))) ∨ (376 ≤ a ∧ a ≤ 405)
theorem E9.keep {I I' : IM} {R R' : RM} (h : E9 I R) (e : ∀ a k, K9 a k → I' a k = I a k) (r : ∀ y k, y < 117 → R' y k = R y k) : E9 I' R' := by
  obtain ⟨h1, h2, ⟨⟨v1, v2, v3⟩, r1, r2, r3⟩, h4⟩ := h
  refine ⟨by rw [r 0 4 (by omega), r 0 5 (by omega)]; exact h1, by rw [e 0 6 (by unfold K9; omega), e 373 8 (by unfold K9; omega)]; exact h2, ⟨⟨fun j hj => ?_, fun j hj => ?_, fun j hj => ?_⟩, ?_, ?_, ?_⟩, fun z p hp => ?_⟩
  · rw [e 401 j (by unfold K9; omega), e 118 j (by unfold K9; omega)]; exact v1 j hj
  · rw [e 405 j (by unfold K9; omega), e 119 j (by unfold K9; omega)]; exact v2 j hj
  · rw [e 402 j (by unfold K9; omega), e 120 j (by unfold K9; omega)]; exact v3 j hj
  · rw [e 117 8 (by unfold K9; omega), e 373 52 (by unfold K9; omega)]; exact r1
  · rw [e 117 9 (by unfold K9; omega), e 373 53 (by unfold K9; omega)]; exact r2
  · rw [e 117 10 (by unfold K9; omega), e 373 51 (by unfold K9; omega)]; exact r3
  · rw [e 373 8 (by unfold K9; omega)] at z
    rw [r 0 4 (by omega)] at hp
    have g := h4 z p hp
    have hp' : p = 7 ∨ p = 62 := g.1.1
    rw [e 373 27 (by unfold K9; omega)]
    exact g.keep (fun x j a b => e x j (by unfold K9; omega)) (fun y k a b => r y k (by omega)) (r p 6 (by omega)) (fun x j hx => e x j (by unfold K9; omega))
theorem N9.keep {I I' : IM} {R R' : RM} (h : N9 I R) (e : ∀ a k, (K9 a k ∨ (a = 117 ∧ k = 5) ∨ a = 122 ∨ a = 375) → I' a k = I a k) (r : ∀ y k, y < 117 → R' y k = R y k) : N9 I' R' :=
  ⟨fun j hj => by rw [e 117 5 (Or.inr (Or.inl ⟨rfl, rfl⟩))] at hj; rw [e 122 j (Or.inr (Or.inr (Or.inl rfl))), e 375 j (Or.inr (Or.inr (Or.inr rfl)))]; exact h.1 j hj, h.2.keep (fun a k hx => e a k (Or.inl hx)) r⟩
def INV (w : WW) : Prop := ∃ (I : IM) (J : JM) (R : RM), w = mk I J R ∧ CI 0 I J I J R ∧ QF I J ∧ N9 I R ∧ EQ4 I
/-- what a call of the class leaves, seen from the reference's side -/
def CLS (I : IM) (J : JM) (R : RM) (w : WW) : Prop := ∃ (I' : IM) (J' : JM) (R' : RM), w = mk I' J' R' ∧ CI 0 I' J' I' J' R' ∧ (∀ a k, (a < 123 ∨ 373 ≤ a) → I' a k = I a k) ∧ (∀ a k, 373 ≤ a → a ≠ 416 → J' a k = J a k) ∧ (∀ y k, y < 123 → R' y k = R y k)
section INVS
variable {I I' : IM} {J J' : JM} {R R' : RM}
theorem QF.cls (h : QF I J) (e : ∀ a k, 373 ≤ a → I' a k = I a k) (f : ∀ a k, 373 ≤ a → a ≠ 416 → J' a k = J a k) : QF I' J' := by
  refine h.keep (fun j _ => e _ _ (by omega)) (fun x j _ _ => e _ _ (by omega)) ⟨fun j hj => by rw [e _ _ (by omega)]; exact h.2.2.2.2.2.1.1 j hj, fun j hj => by rw [e _ _ (by omega)]; exact h.2.2.2.2.2.1.2 j hj⟩ (fun i hi => ?_)
  rw [f 406 i (by omega) (by omega), f 407 i (by omega) (by omega), f 408 i (by omega) (by omega), f 409 i (by omega) (by omega)]
  exact h.2.2.2.2.2.2 i hi
theorem CI.q (h : CI 0 I J I J R) (e : ∀ a k, a < 373 → I' a k = I a k) : CI 0 I' J' I' J' R := by
  obtain ⟨_, _, h3, h4, h5, h6, h7, h8⟩ := h
  refine ⟨fun _ _ _ => rfl, fun _ _ _ => rfl, fun a k ha hk => ?_, fun j hj => ?_, fun p hp j hj => ?_, fun x hx => ?_, h7, h8⟩
  · rw [e a k ha]; exact h3 a k ha hk
  · rw [e 4 j (by omega), e 5 j (by omega), e 6 j (by omega)]; exact h4 j hj
  · rw [e (p + 52) j (by rcases hp with rfl | rfl <;> omega), e (p + 53) j (by rcases hp with rfl | rfl <;> omega)]; exact h5 p hp j hj
  · rw [e x 0 (lt373T hx), e x 2 (lt373T hx)]; exact h6 x hx
theorem CI.qr {m : Nat} {I0 : IM} {J0 : JM} (h : CI m I0 J0 I J R) : QR R := qr_of h.2.2.2.2.2.2.1
/-- of a class's call: nothing of the reference, and what both have alike as it was -/
theorem cls_of (h : CI 123 I J I' J' R') (hr : ∀ y k, y < 123 → R' y k = R y k) : CLS I J R (mk I' J' R') :=
  ⟨I', J', R', rfl, h.up 0, fun a k ha => h.1 a k (by omega), fun a k ha _ => h.2.1 a k (Or.inr ha), hr⟩
/-- the answer is kept in the row out -/
theorem cls_out {w : WW} (h : CLS I J R w) (x : Int32) {Q : (Int32 × WW) → Prop} (k : ∀ w', CLS I J R w' → Q (0, w')) : wp ((sL w 416 1 (0 : Int32) (Int32.toInt64 x)).bind fun w3 => some ((0 : Int32), w3)) Q := by
  obtain ⟨I', J', R', rfl, h1, h2, h3, h4⟩ := h
  refine st_sL (n := 1) rfl (by decide) (st_some (k _ ⟨I', _, R', rfl, h1.q (fun _ _ _ => rfl), h2, fun a k ha hn => ?_, h4⟩))
  rw [up2_nea hn]; exact h3 a k ha hn
/-- a call of both sides: whatever the class leaves so, the reference's call ends and keeps INV -/
theorem seq_of {r : Option (Int32 × WW)} {G : WW → Option (Int32 × WW)} (hq : QF I J) (h9 : N9 I R) (h0 : EQ4 I) (hc : wp r (fun p => CLS I J R p.2)) (hG : ∀ (I : IM) (J : JM) (R : RM), QR R → QF I J → ∀ Q : (Int32 × WW) → Prop, (∀ (r : Int32) (I' : IM) (J' : JM), QF I' J' → QK I J I' J' → Q (r, mk I' J' R)) → wp (G (mk I J R)) Q) : seq2 INV r G := by
  obtain ⟨⟨k, w1⟩, h1, I1, J1, R1, e1, c1, c2, c3, c4⟩ := hc
  have e1 : w1 = mk I1 J1 R1 := e1
  subst e1
  have key : ∀ (I' : IM) (J' : JM), QF I' J' → QK I1 J1 I' J' → INV (mk I' J' R1) := by
    intro I' J' q1 q2
    have tot : ∀ a k, (a < 123 ∨ (374 ≤ a ∧ a ≤ 405) ∨ (a = 373 ∧ (k = 2 ∨ k = 3 ∨ k = 4 ∨ k = 6 ∨ k = 7 ∨ k = 8 ∨ k = 27 ∨ (51 ≤ k ∧ k ≤ 53)))) → I' a k = I a k := by
      intro a k hx
      have g : I' a k = I1 a k := by
        rcases hx with z | z | ⟨rfl, z⟩
        · exact q2.1 a k (by omega)
        · exact q2.1 a k (by omega)
        · rcases z with rfl | rfl | rfl | rfl | rfl | z
          · exact q2.2.1.2
          · exact q2.2.2.1.2
          · exact q2.1 _ _ (by omega)
          · exact q2.2.1.1
          · exact q2.2.2.1.1
          · exact q2.1 _ _ (by omega)
      rw [g]; exact c2 a k (by omega)
    exact ⟨I', J', R1, rfl, c1.q (fun a k ha => q2.1 a k (Or.inl ha)), q1, h9.keep (fun a k hx => tot a k (by unfold K9 at hx; omega)) (fun y k hy => c4 y k (by omega)), h0.keep (fun a k hx => tot a k (by omega))⟩
  obtain ⟨⟨b, w2⟩, g1, g2⟩ := hG I1 J1 R1 c1.qr (hq.cls (fun a k ha => c2 a k (Or.inr ha)) c3) (fun p => INV p.2) (fun r I' J' q1 q2 => key I' J' q1 q2)
  exact ⟨k, _, b, w2, h1, g1, g2⟩
/-- both sides' answers held against each other -/
theorem seq3_of {r : Option (Int32 × WW)} {G : WW → Option (Int32 × WW)} (hc : wp r (fun p => wp (G p.2) (fun q => ∃ (I : IM) (J : JM) (R : RM), q.2 = mk I J R ∧ INV (mk I J R) ∧ I 373 5 = p.1 ∧ (p.1 = 0 → J 416 0 = Int32.toInt64 q.1)))) : seq3 INV r G := by
  obtain ⟨⟨k, w1⟩, h1, ⟨b, w2⟩, g1, I, J, R, e, hI, h5, h6⟩ := hc
  have e : w2 = mk I J R := e
  subst e
  obtain ⟨⟨r3, w3⟩, t1, t2, t3⟩ := q_thrown (I := I) (J := J) (R := R) (Q := fun p => p.1 = I 373 5 ∧ p.2 = mk I J R) ⟨rfl, rfl⟩
  have t2 : r3 = I 373 5 := t2
  have t3 : w3 = mk I J R := t3
  have h5 : I 373 5 = k := h5
  subst t2; subst t3
  rw [h5] at t1
  refine ⟨k, w1, b, _, _, h1, g1, t1, fun z => ?_, hI⟩
  rw [(mk_rep I J R).rrL (a := 416) (t := 1) (n := 1) (by rw [Lay_LT]; rfl) (i := 0) (ix_iff (by decide))]
  exact congrArg some (h6 z)
theorem seq3_2 {r : Option (Int32 × WW)} {G : WW → Option (Int32 × WW)} (h : seq3 INV r G) : seq2 INV r G := by
  obtain ⟨k, w1, b, w2, w3, h1, h2, h3, h4, h5⟩ := h
  refine ⟨k, w1, b, w2, h1, h2, ?_⟩
  have : w3 = w2 := by
    unfold f_q_thrown at h3
    split at h3
    · cases hg : gI w2 373 9 5 with
      | none => rw [hg] at h3; cases h3
      | some x => rw [hg] at h3; cases h3; rfl
    · cases h3
  rw [this] at h5; exact h5
theorem seqE_2 {r : Option (Int32 × WW)} {G : WW → Option (Int32 × WW)} (h : seqE INV r G) : seq2 INV r G := by
  obtain ⟨k, w1, w2, h1, h2, h3⟩ := h
  exact ⟨k, w1, k, w2, h1, h2, h3⟩
theorem seqE_of {r : Option (Int32 × WW)} {G : WW → Option (Int32 × WW)} (hc : wp r (fun p => wp (G p.2) (fun q => q.1 = p.1 ∧ INV q.2))) : seqE INV r G := by
  obtain ⟨⟨k, w1⟩, h1, ⟨b, w2⟩, g1, g2, g3⟩ := hc
  have g2 : b = k := g2
  subst g2
  exact ⟨b, w1, w2, h1, g1, g3⟩
theorem f_clear (h : CI 0 I J I J R) (hq : QF I J) (h9 : N9 I R) (h0 : EQ4 I) : seqE INV (f_a_clear 0 (mk I J R)) (f_q_clear 373) := by
  refine seqE_of (x_clear h (fun h1 => ?_))
  have q1 : QF (up2 I 2 4 0) J := hq.cls (fun a k ha => up2_nea (by omega)) (fun _ _ _ _ => rfl)
  refine c_clear q1 (fun q2 => ⟨?_, ⟨_, J, R, rfl, h1.q (fun a k ha => by rw [up2_nea (by omega), up2_nea (by omega)]), q2, h9.keep (fun a k hx => by unfold K9 at hx; rw [up2_ne _ _ (by omega), up2_ne _ _ (by omega), up2_ne _ _ (by omega)]) (fun _ _ _ => rfl), ⟨?_, ?_, ?_, ?_⟩, fun j hj => ?_, ?_⟩⟩)
  · show up2 I 2 4 0 373 2 = I 2 4
    rw [up2_nea (by decide)]; exact h0.1.2.2.2.symm
  · rw [up2_nea (by decide), up2_nea (by decide), up2_nea (by decide), up2_nek (by decide), up2_nek (by decide), up2_nea (by decide)]; exact h0.1.1
  · rw [up2_nea (by decide), up2_nea (by decide), up2_nea (by decide), up2_nek (by decide), up2_nek (by decide), up2_nea (by decide)]; exact h0.1.2.1
  · rw [up2_nea (by decide), up2_nea (by decide), up2_nea (by decide), up2_nek (by decide), up2_nek (by decide), up2_nea (by decide)]; exact h0.1.2.2.1
  · rw [up2_nea (by decide), up2_nea (by decide), up2_s, up2_s]
  · rw [up2_nea (by decide), up2_nea (by decide), up2_s, l32_0] at hj; omega
  · rw [up2_nea (by decide), up2_nea (by decide), up2_nea (by decide), up2_nek (by decide), up2_nek (by decide), up2_nea (by decide)]; exact h0.2.2
theorem f_forget (h : CI 0 I J I J R) (hq : QF I J) (h9 : N9 I R) (h0 : EQ4 I) : seqE INV (f_a_forget 0 (mk I J R)) (f_q_forget 373) := by
  refine seqE_of (x_forget h (fun h1 => ?_))
  have q1 : QF (up2 I 117 5 0) J := hq.cls (fun a k ha => up2_nea (by omega)) (fun _ _ _ _ => rfl)
  refine c_forget q1 (fun q2 => ⟨?_, ⟨_, J, R, rfl, h1.q (fun a k ha => by rw [up2_nea (by omega), up2_nea (by omega)]), q2, ⟨fun j hj => (by rw [up2_nea (by decide), up2_nea (by decide), up2_s, l32_0] at hj; omega), h9.2.keep (fun a k hx => by unfold K9 at hx; rw [up2_ne _ _ (by omega), up2_ne _ _ (by omega), up2_ne _ _ (by omega)]) (fun _ _ _ => rfl)⟩, h0.of ⟨?_, ?_, ?_, ?_⟩ (fun a k hx => ?_)⟩⟩)
  · show up2 I 117 5 0 373 3 = I 117 5
    rw [up2_nea (by decide)]; exact h0.1.2.2.1.symm
  · rw [up2_nea (by decide), up2_nea (by decide), up2_nea (by decide), up2_nek (by decide), up2_nek (by decide), up2_nea (by decide)]; exact h0.1.1
  · rw [up2_nea (by decide), up2_nea (by decide), up2_nea (by decide), up2_nek (by decide), up2_nek (by decide), up2_nea (by decide)]; exact h0.1.2.1
  · rw [up2_nea (by decide), up2_nea (by decide), up2_s, up2_s]
  · rw [up2_nea (by decide), up2_nea (by decide), up2_nea (by decide), up2_nek (by decide), up2_nek (by decide), up2_nea (by decide)]; exact h0.1.2.2.2
  · rw [up2_ne _ _ (by omega), up2_ne _ _ (by omega), up2_ne _ _ (by omega)]
/-- the class threw: the reference's call sees the same world -/
theorem thr_ok {K : IM} (h : CI 0 I J I J R) (h9 : N9 I R) (h0 : EQ4 I) (v : Int32) (hK : K = up2 I 373 5 v) (hq : QF K J) : INV (mk K J R) := by
  subst hK
  refine ⟨_, J, R, rfl, h.q (fun a k ha => up2_nea (by omega)), hq, h9.keep (fun a k hx => by unfold K9 at hx; rw [up2_ne _ _ (by omega)]) (fun _ _ _ => rfl), h0.of ⟨?_, ?_, ?_, ?_⟩ (fun a k hx => up2_ne _ _ (by omega))⟩
  · rw [up2_nea (by decide), up2_nek (by decide)]; exact h0.1.1
  · rw [up2_nea (by decide), up2_nek (by decide)]; exact h0.1.2.1
  · rw [up2_nea (by decide), up2_nek (by decide)]; exact h0.1.2.2.1
  · rw [up2_nea (by decide), up2_nek (by decide)]; exact h0.1.2.2.2
theorem f_input (h : CI 0 I J I J R) (hq : QF I J) (h9 : N9 I R) (h0 : EQ4 I) (a : Int32) : seq3 INV (f_lw_input 0 a 416 (mk I J R)) (f_q_input 373 a) := by
  have e3 := h0.1.2.2.1
  have v3 : (I 117 5).toInt = (I 373 3).toInt := by rw [e3]
  refine seq3_of ?_
  unfold f_lw_input
  refine st_bdh (x_input h (fun h8 => ⟨fun v hv => (by cases hv), fun E hE => ?_⟩) (fun h8 I1 e1 c1 l1 r1 => ⟨fun v hv => ?_, fun E hE => (by cases hE)⟩))
  · cases hE
    refine st_ite (fun _ => st_some ?_) (fun c => absurd rfl c)
    refine c_input h.qr hq (fun _ => ⟨_, J, R, rfl, thr_ok h h9 h0 1 rfl hq.u5, up2_s, fun z => absurd (show (1 : Int32) = 0 from z) (by decide)⟩) (fun z => by omega)
  · cases hv
    refine st_sL (n := 1) rfl (by decide) (st_some ?_)
    have q1 : QF I1 (up2 J 416 0 (Int32.toInt64 (I 117 5 + 1))) := hq.cls (fun a k ha => e1 _ _ (by omega) (by omega)) (fun a k ha hn => up2_nea hn)
    have f3 : I1 373 3 = I 373 3 := e1 _ _ (by decide) (by decide)
    refine c_input h.qr q1 (fun z => by rw [f3] at z; omega) (fun _ I2 e2 k5 k3 r2 q2 => ⟨I2, _, R, rfl, ⟨I2, _, R, rfl, c1.q (fun a k ha => e2 _ _ (by omega) (by omega)), q2, ⟨fun j hj => ?_, h9.2.keep (fun a k hx => by unfold K9 at hx; rw [e2 a k (by omega) (by omega), e1 a k (by omega) (by omega)]) (fun _ _ _ => rfl)⟩, h0.of ⟨?_, ?_, ?_, ?_⟩ (fun a k hx => by rw [e2 a k (by omega) (by omega), e1 a k (by omega) (by omega)])⟩, k5, fun _ => ?_⟩)
    · have hib := x_inc h
      have n3 : (I1 373 3).toInt.toNat = (I 117 5).toInt.toNat := by rw [f3]; omega
      have x1 : (I 117 5 + 1).toInt = (I 117 5).toInt + 1 := by rw [i32addc (by rw [l32_1]; omega), l32_1]
      rw [e2 117 5 (by decide) (by decide), l1, x1] at hj
      rw [e2 122 j (by omega) (by omega), r1, r2, n3]
      by_cases z : j = (I 117 5).toInt.toNat
      · rw [if_pos z, if_pos z]
      · rw [if_neg z, if_neg z, e1 375 j (by omega) (by omega)]
        exact h9.1 j (by omega)
    · rw [e2 0 0 (by decide) (by decide), e1 0 0 (by decide) (by decide), e2 373 6 (by decide) (by decide), e1 373 6 (by decide) (by decide)]; exact h0.1.1
    · rw [e2 0 1 (by decide) (by decide), e1 0 1 (by decide) (by decide), e2 373 7 (by decide) (by decide), e1 373 7 (by decide) (by decide)]; exact h0.1.2.1
    · rw [e2 117 5 (by decide) (by decide), l1, k3, f3, e3]
    · rw [e2 2 4 (by decide) (by decide), e1 2 4 (by decide) (by decide), e2 373 2 (by decide) (by decide), e1 373 2 (by decide) (by decide)]; exact h0.1.2.2.2
    · show up2 J 416 0 (Int32.toInt64 (I 117 5 + 1)) 416 0 = Int32.toInt64 (I1 373 3 + 1)
      rw [up2_s, f3, e3]
theorem f_text (h : CI 0 I J I J R) (hq : QF I J) (h9 : N9 I R) (h0 : EQ4 I) (a : Int64) : seq3 INV (f_lw_text 0 a 416 (mk I J R)) (f_q_text 373 a) := by
  have e2 := h0.1.2.2.2
  have v2 : (I 2 4).toInt = (I 373 2).toInt := by rw [e2]
  refine seq3_of ?_
  unfold f_lw_text
  refine st_bdh (x_text h (fun hG => ⟨fun v hv => (by cases hv), fun E hE => ?_⟩) (fun hG hl => ⟨fun v hv => (by cases hv), fun E hE => ?_⟩) (fun hG hl I1 e1 c1 l1 r3 => ⟨fun v hv => ?_, fun E hE => (by cases hE)⟩))
  · cases hE
    refine st_ite (fun _ => st_some ?_) (fun c => absurd rfl c)
    exact c_text h.qr hq (fun _ => ⟨_, J, R, rfl, thr_ok h h9 h0 1 rfl hq.u5, up2_s, fun z => absurd (show (1 : Int32) = 0 from z) (by decide)⟩) (fun z => absurd z hG) (fun z => absurd z hG)
  · cases hE
    refine st_ite (fun c => absurd c (by decide)) (fun _ => st_ite (fun _ => st_some ?_) (fun c => absurd rfl c))
    exact c_text h.qr hq (fun z => absurd hG z) (fun _ _ => ⟨_, J, R, rfl, thr_ok h h9 h0 2 rfl hq.u5, up2_s, fun z => absurd (show (2 : Int32) = 0 from z) (by decide)⟩) (fun _ I' _ _ l' l2 _ => by omega)
  · cases hv
    refine st_sL (n := 1) rfl (by decide) (st_some ?_)
    have q1 : QF I1 (up2 J 416 0 (Int32.toInt64 (I1 2 4))) := hq.cls (fun a k ha => e1 _ _ (by omega) (by omega)) (fun a k ha hn => up2_nea hn)
    have f2 : I1 373 2 = I 373 2 := e1 _ _ (by decide) (by decide)
    refine c_text h.qr q1 (fun z => absurd hG z) (fun _ z => by rw [f2] at z; omega) (fun _ I2 g2 k5 k2 k200 r4 => ⟨I2, _, R, rfl, ⟨I2, _, R, rfl, c1.q (fun a k ha => g2 _ _ (by omega) (by omega)), q1.qt g2 ⟨?_, k200⟩, h9.keep (fun a k hx => by unfold K9 at hx; rw [g2 a k (by omega) (by omega), e1 a k (by omega) (by omega)]) (fun _ _ _ => rfl), ⟨?_, ?_, ?_, ?_⟩, fun j hj => ?_, ?_⟩, k5, fun _ => ?_⟩)
    · have := nb_b a 8; have := q1.1; omega
    · rw [g2 0 0 (by decide) (by decide), e1 0 0 (by decide) (by decide), g2 373 6 (by decide) (by decide), e1 373 6 (by decide) (by decide)]; exact h0.1.1
    · rw [g2 0 1 (by decide) (by decide), e1 0 1 (by decide) (by decide), g2 373 7 (by decide) (by decide), e1 373 7 (by decide) (by decide)]; exact h0.1.2.1
    · rw [g2 117 5 (by decide) (by decide), e1 117 5 (by decide) (by decide), g2 373 3 (by decide) (by decide), e1 373 3 (by decide) (by decide)]; exact h0.1.2.2.1
    · rw [g2 2 4 (by decide) (by decide)]; exact i32eq.mpr (by rw [k2, f2]; omega)
    · rw [g2 2 4 (by decide) (by decide), l1] at hj
      have f374 : I1 374 = I 374 := by funext z; exact e1 374 z (by omega) (by omega)
      have ln : (I 373 2).toInt.toNat = (I 2 4).toInt.toNat := by omega
      have hb := x_len h
      obtain ⟨a1, a2, a3⟩ := apn_eq a 8 (I 2 4).toInt.toNat (I 3) (I 374) (fun z hz => h0.2.1 z (by omega))
      rw [g2 3 j (by omega) (by omega), r3, r4, f374, f2, ln]
      exact a3 j (by omega)
    · rw [g2 1 3 (by decide) (by decide), e1 1 3 (by decide) (by decide), g2 373 4 (by decide) (by decide), e1 373 4 (by decide) (by decide)]; exact h0.2.2
    · show up2 J 416 0 (Int32.toInt64 (I1 2 4)) 416 0 = Int32.toInt64 (I2 373 2)
      rw [up2_s]
      exact congrArg Int32.toInt64 (i32eq.mpr (by rw [k2, f2]; omega))
theorem f_choose (h : CI 0 I J I J R) (hq : QF I J) (h9 : N9 I R) (h0 : EQ4 I) (a b : Int32) : seq3 INV (f_lw_choose 0 a b 416 (mk I J R)) (f_q_choose 373 a b) := by
  refine seq3_of ?_
  unfold f_lw_choose
  have qf : ∀ (n : Nat) (K : IM) (J' : JM), QF K J' → n = 6 ∨ n = 7 → (0 ≤ b.toInt ∧ b.toInt ≤ 5) → QF (up2 (up2 K 373 5 0) 373 n b) J' := by
    intro n K J' hK hn hb
    obtain ⟨q1, q2, q3, q4, q5, q6, q7⟩ := hK.u5 (v := 0)
    have fr : ∀ x j, (x ≠ 373 ∨ j ≠ n) → up2 (up2 K 373 5 0) 373 n b x j = up2 K 373 5 0 x j := fun x j hx => up2_ne _ _ (by omega)
    unfold QF
    rw [fr 373 2 (by omega), fr 373 3 (by omega), fr 373 8 (by omega), fr 373 27 (by omega)]
    refine ⟨q1, q2, ?_, q4, fun z => (q5 z).keep (fun x j hx => fr x j (by omega)), q6.oth (by decide) (by decide), q7⟩
    rcases hn with rfl | rfl
    · rw [fr 373 7 (by omega)]; exact q3
    · rw [up2_s]; exact hb
  refine st_bdh (x_choose h (fun hb => ⟨fun v hv => (by cases hv), fun E hE => ?_⟩) (fun hb ha c1 => ⟨fun v hv => ?_, fun E hE => (by cases hE)⟩) (fun hb ha c1 => ⟨fun v hv => ?_, fun E hE => (by cases hE)⟩))
  · cases hE
    refine st_ite (fun _ => st_some ?_) (fun c => absurd rfl c)
    exact c_choose h.qr hq (fun _ => ⟨_, J, R, rfl, thr_ok h h9 h0 1 rfl hq.u5, up2_s, fun z => absurd (show (1 : Int32) = 0 from z) (by decide)⟩) (fun z1 z2 => by rw [z2, l32_0] at hb; omega) (fun z1 z2 => by rw [z2, l32_1] at hb; omega)
  · cases hv
    refine st_sL (n := 1) rfl (by decide) (st_some ?_)
    have q1 : QF (up2 I 0 0 b) (up2 J 416 0 (Int32.toInt64 (I 0 0))) := hq.cls (fun a k ha => up2_nea (by omega)) (fun a k ha hn => up2_nea hn)
    refine c_choose h.qr q1 (fun z => by rw [ha, l32_0] at z; omega) (fun _ _ => ⟨_, _, R, rfl, ⟨_, _, R, rfl, c1.q (fun a k ha => by rw [up2_nea (by omega), up2_nea (by omega)]), qf 6 _ _ q1 (Or.inl rfl) hb, h9.keep (fun x y hx => by unfold K9 at hx; rw [up2_ne _ _ (by omega), up2_ne _ _ (by omega), up2_ne _ _ (by omega)]) (fun _ _ _ => rfl), h0.of ⟨?_, ?_, ?_, ?_⟩ (fun x y hx => by rw [up2_ne _ _ (by omega), up2_ne _ _ (by omega), up2_ne _ _ (by omega)])⟩, ?_, fun _ => ?_⟩) (fun _ z => by rw [ha] at z; exact absurd z (by decide))
    · rw [up2_nea (by decide), up2_nea (by decide), up2_s, up2_s]
    · rw [up2_nea (by decide), up2_nea (by decide), up2_nek (by decide), up2_nek (by decide), up2_nek (by decide), up2_nea (by decide)]; exact h0.1.2.1
    · rw [up2_nea (by decide), up2_nea (by decide), up2_nea (by decide), up2_nek (by decide), up2_nek (by decide), up2_nea (by decide)]; exact h0.1.2.2.1
    · rw [up2_nea (by decide), up2_nea (by decide), up2_nea (by decide), up2_nek (by decide), up2_nek (by decide), up2_nea (by decide)]; exact h0.1.2.2.2
    · rw [up2_nek (by decide), up2_s]
    · show up2 J 416 0 (Int32.toInt64 (I 0 0)) 416 0 = Int32.toInt64 (up2 I 0 0 b 373 6)
      rw [up2_s, up2_nea (by decide), h0.1.1]
  · cases hv
    refine st_sL (n := 1) rfl (by decide) (st_some ?_)
    have q1 : QF (up2 I 0 1 b) (up2 J 416 0 (Int32.toInt64 (I 0 1))) := hq.cls (fun a k ha => up2_nea (by omega)) (fun a k ha hn => up2_nea hn)
    refine c_choose h.qr q1 (fun z => by rw [ha, l32_1] at z; omega) (fun _ z => by rw [ha] at z; exact absurd z (by decide)) (fun _ _ => ⟨_, _, R, rfl, ⟨_, _, R, rfl, c1.q (fun a k ha => by rw [up2_nea (by omega), up2_nea (by omega)]), qf 7 _ _ q1 (Or.inr rfl) hb, h9.keep (fun x y hx => by unfold K9 at hx; rw [up2_ne _ _ (by omega), up2_ne _ _ (by omega), up2_ne _ _ (by omega)]) (fun _ _ _ => rfl), h0.of ⟨?_, ?_, ?_, ?_⟩ (fun x y hx => by rw [up2_ne _ _ (by omega), up2_ne _ _ (by omega), up2_ne _ _ (by omega)])⟩, ?_, fun _ => ?_⟩)
    · rw [up2_nea (by decide), up2_nea (by decide), up2_nek (by decide), up2_nek (by decide), up2_nek (by decide), up2_nea (by decide)]; exact h0.1.1
    · rw [up2_nea (by decide), up2_nea (by decide), up2_s, up2_s]
    · rw [up2_nea (by decide), up2_nea (by decide), up2_nea (by decide), up2_nek (by decide), up2_nek (by decide), up2_nea (by decide)]; exact h0.1.2.2.1
    · rw [up2_nea (by decide), up2_nea (by decide), up2_nea (by decide), up2_nek (by decide), up2_nek (by decide), up2_nea (by decide)]; exact h0.1.2.2.2
    · rw [up2_nek (by decide), up2_s]
    · show up2 J 416 0 (Int32.toInt64 (I 0 1)) 416 0 = Int32.toInt64 (up2 I 0 1 b 373 7)
      rw [up2_s, up2_nea (by decide), h0.1.2.1]
theorem f_where (h : CI 0 I J I J R) (hq : QF I J) (h9 : N9 I R) (h0 : EQ4 I) : seqE INV (f_a_where 0 (mk I J R)) (f_q_where 373) := by
  refine seqE_of (x_where h ?_)
  unfold f_q_where
  refine st_kb rfl (st_pI rfl rfl (st_gI rfl rfl (up2_nek (by decide)) (st_some ⟨h0.2.2.symm, thr_ok h h9 h0 0 rfl hq.u5⟩)))
/-- a cell that holds an int -/
def intc (a k : Nat) : Bool := match LT a with
  | some (.inr (_, ts)) => ts[k]? == some 0
  | some (.inl (_, _, m)) => m == 0
  | none => false
theorem mk_int {I1 I2 : IM} {J1 J2 : JM} {R1 R2 : RM} {a k : Nat} (h : intc a k = true) (e : mk I1 J1 R1 = mk I2 J2 R2) : I1 a k = I2 a k := by
  unfold intc at h
  cases hl : LT a with
  | none => rw [hl] at h; simp at h
  | some x =>
    rw [hl] at h
    cases x with
    | inl q =>
      obtain ⟨t, n, m⟩ := q
      have hm : m = 0 := by simpa using h
      subst hm
      exact congrFun (mk_row hl e) k
    | inr q =>
      obtain ⟨ci, ts⟩ := q
      have hk : ts[k]? = some 0 := by simpa using h
      exact mk_fld hl hk e
/-- a cell of which nothing is asked -/
def trv (a k : Nat) : Bool := match LT a with
  | some (.inr (c, _)) => (c == 3 && k != 1 && k != 5) || (c == 4 && decide (k = 0 ∨ 5 < k)) || (c == 2 && k != 1) || (c == 1 && k != 4 && k != 5 && k != 7) || (c == 5 && k != 5 && k != 7 && k != 8 && k != 9)
  | some (.inl (t, _, _)) => t != 2 && a != 61 && a != 116 && a != 5
  | none => true
theorem trv_ti {a k : Nat} {x : Int32} (h : trv a k = true) : TI a k x := by
  unfold trv at h
  cases hl : LT a with
  | none => unfold TI; rw [hl]; trivial
  | some q =>
    rw [hl] at h
    cases q with
    | inl q =>
      obtain ⟨t, n, m⟩ := q
      simp only [Bool.and_eq_true, bne_iff_ne] at h
      obtain ⟨⟨⟨h1, h2⟩, h3⟩, h4⟩ := h
      refine (ti_l hl).mpr ?_
      rw [if_neg h1]
      unfold TA
      rw [if_neg h2, if_neg h3, if_neg h4]
      trivial
    | inr q =>
      obtain ⟨c, ts⟩ := q
      simp only [Bool.or_eq_true, Bool.and_eq_true, bne_iff_ne, beq_iff_eq, decide_eq_true_eq] at h
      refine (ti_r hl).mpr ?_
      unfold TO
      rcases h with (((⟨⟨rfl, h1⟩, h2⟩ | ⟨rfl, h1⟩) | ⟨rfl, h1⟩) | ⟨⟨⟨rfl, h1⟩, h2⟩, h3⟩) | ⟨⟨⟨⟨rfl, h1⟩, h2⟩, h3⟩, h4⟩
      · rw [if_neg (by decide), if_neg (by decide), if_neg (by decide), if_pos rfl, if_neg h1, if_neg h2]; trivial
      · rw [if_neg (by decide), if_neg (by decide), if_pos rfl, if_neg (by omega), if_neg (by omega), if_neg (by omega), if_neg (by omega), if_neg (by omega)]; trivial
      · rw [if_neg (by decide), if_neg (by decide), if_neg (by decide), if_neg (by decide), if_pos rfl, if_neg h1]; trivial
      · rw [if_neg (by decide), if_neg (by decide), if_neg (by decide), if_neg (by decide), if_neg (by decide), if_pos rfl, if_neg h1, if_neg h2, if_neg h3]; trivial
      · rw [if_neg (by decide), if_neg (by decide), if_neg (by decide), if_neg (by decide), if_neg (by decide), if_neg (by decide), if_pos rfl, if_neg h1, if_neg h2, if_neg h3, if_neg h4]; trivial
set_option maxRecDepth 100000 in
theorem c9_tab : (List.range 122).all (fun a => a == 3 || (a == 0 || (List.range (lenT a)).all (fun k => intc a k || trv a k))) = true := by decide +kernel
set_option maxRecDepth 100000 in
theorem c9_06 : intc 0 6 = true := by decide +kernel
set_option maxRecDepth 100000 in
/-- what holds of one form of a world holds of another -/
theorem ci_of {I1 I2 : IM} {J1 J2 : JM} {R1 R2 : RM} (h : CI 0 I J I J R) (h1 : TYI I1 ∧ TKS I1 ∧ STP I1 ∧ STM I1 ∧ TYR R1) (e : mk I1 J1 R1 = mk I2 J2 R2) (fr : ∀ a k, a < 373 → (a = 3 ∨ 121 < a ∨ (a = 0 ∧ k ≠ 6)) → I2 a k = I a k) (hF : FXR R2) : CI 0 I2 J2 I2 J2 R2 := by
  obtain ⟨t1, t2, t3, t4, y1, y2, y3, y4, y5, y6, y7⟩ := h1
  refine ⟨fun _ _ _ => rfl, fun _ _ _ => rfl, fun a k ha hk => ?_, fun j hj => ?_, fun p hp j hj => ?_, fun x hx => ?_, hF, ?_, ?_, ?_, ?_, ?_, fun p hp => ?_, fun x hx => ?_⟩
  · by_cases c : a = 3 ∨ 121 < a ∨ (a = 0 ∧ k ≠ 6)
    · rw [fr a k ha c]; exact h.2.2.1 a k ha hk
    · have q : intc a k = true ∨ trv a k = true := by
        by_cases z : a = 0
        · subst z
          have : k = 6 := by omega
          subst this
          exact Or.inl c9_06
        · have w := allb c9_tab (a := a) (by omega)
          have b3 : (a == 3) = false := beq_eq_false_iff_ne.mpr (by omega)
          have b0 : (a == 0) = false := beq_eq_false_iff_ne.mpr z
          rw [b3, b0, Bool.false_or, Bool.false_or] at w
          have w2 := allb w hk
          rw [Bool.or_eq_true] at w2
          exact w2
      rcases q with q | q
      · rw [← mk_int q e]; exact t1 a k ha hk
      · exact trv_ti q
  · rw [← mk_row (a := 4) rfl e, ← mk_row (a := 5) rfl e, ← mk_row (a := 6) rfl e]; exact t2 j hj
  · rw [← mk_row (a := p + 52) (isP_lt hp).2.2.1 e, ← mk_row (a := p + 53) (isP_lt hp).2.2.2.1 e]; exact t3 p hp j hj
  · rw [← mk_fld (a := x) (k := 0) hx rfl e, ← mk_fld (a := x) (k := 2) hx rfl e]; exact t4 x hx
  · rw [← mk_ref (a := 0) (k := 4) rfl rfl e]; exact y1
  · rw [← mk_ref (a := 0) (k := 5) rfl rfl e]; exact y2
  · rw [← mk_ref (a := 1) (k := 2) rfl rfl e]; exact y3
  · rw [← mk_ref (a := 117) (k := 6) rfl rfl e]; exact y4
  · rw [← mk_ref (a := 123) (k := 4) rfl rfl e]; exact y5
  · rw [← mk_ref (a := p) (k := 6) (isP_lt hp).1 rfl e]; exact y6 p hp
  · rw [← mk_ref (a := x) (k := 7) hx rfl e, ← mk_ref (a := x) (k := 8) hx rfl e, ← mk_ref (a := x) (k := 9) hx rfl e]; exact y7 x hx
theorem RCS.keep {P : RX} {H p c n : Nat} {o : Option Nat} (h : RCS P H p c n o I) (e : ∀ x, 376 ≤ x → x ≤ 393 → I' x = I x) : RCS P H p c n o I' := by
  refine ⟨fun q hq => ?_, fun k hk => ?_, h.2.2.1, ?_⟩
  · obtain ⟨w1, w2⟩ := h.1 q hq
    exact ⟨w1.keep (fun x a b _ => by rw [e x (by omega) (by omega)]), w2.keep (by rw [e 386 (by omega) (by omega)])⟩
  · have w := h.2.1 k hk
    rw [e 391 (by omega) (by omega), e 392 (by omega) (by omega), e 393 (by omega) (by omega)]
    exact w
  · rw [e 388 (by omega) (by omega)]; exact h.2.2.2
theorem row_tab : (List.range 406).all (fun a => decide (a < 374) || (match LT a with | some (.inl (_, _, 0)) => true | _ => false)) = true := by decide +kernel
theorem mk_rowq {I1 I2 : IM} {J1 J2 : JM} {R1 R2 : RM} {a : Nat} (ha : 374 ≤ a ∧ a ≤ 405) (e : mk I1 J1 R1 = mk I2 J2 R2) : I1 a = I2 a := by
  have w := allb row_tab (a := a) (by omega)
  have b : decide (a < 374) = false := decide_eq_false (by omega)
  rw [b, Bool.false_or] at w
  funext k
  refine mk_int ?_ e
  unfold intc
  cases hl : LT a with
  | none => rw [hl] at w; simp at w
  | some x =>
    rw [hl] at w
    cases x with
    | inl q =>
      obtain ⟨t, n, m⟩ := q
      cases m with
      | zero => rfl
      | succ m => simp at w
    | inr q => simp at w
def PC1 (I : IM) (J : JM) (x : (Int32 ⊕ String) × WW) : Prop := ∃ (I' : IM) (J' : JM) (R' : RM), x.2 = mk I' J' R' ∧ CI 0 I J I' J' R' ∧ (I' 0 0 = I 0 0 ∧ I' 0 1 = I 0 1) ∧ ((∃ r, x.1 = .inl r) ∨ x.1 = .inr "java/lang/IllegalArgumentException")
def PC2 (I : IM) (R : RM) (J : JM) (L p q : Nat) (x : (Int32 ⊕ String) × WW) : Prop := ∃ (I' : IM) (R' : RM) (K B M : Nat → Int32) (r : SR), x.2 = mk I' J R' ∧ TL (I 3) L K B M 0 0 ∧ DS (XM I' R' p) K B M p 0 0 0 0 0 0 r ∧ SKR (fun _ c' n' o => PFZ p I I' R R' ∧ I' 1 3 = -2 ∧ (∃ v : Int32, x.1 = .inl v ∧ v.toInt = c') ∧ (c' ≤ 50 ∧ n' ≤ 200) ∧ (I' 0 6 = 1 ∧ R' 0 4 = some p ∧ R' 0 5 = some q ∧ R' p 6 = o)) (fun j => PFR p I I' R R' ∧ I' 1 3 = B j ∧ ∃ E, x.1 = .inr E) r ∧ FXR R'
theorem f_parse (h : CI 0 I J I J R) (hq : QF I J) (h9 : N9 I R) (h0 : EQ4 I) : seq3 INV (f_lw_parse 0 416 (mk I J R)) (f_q_parse 373) := by
  have h1 := h.up 1
  have hx : FXR R := h.2.2.2.2.2.2.1
  have hl := x_len h
  obtain ⟨p, hp, h05⟩ : ∃ p, isP p ∧ R 0 5 = some p := by
    rcases h.2.2.2.2.2.2.2.2.1 with z | z
    · exact ⟨7, Or.inl rfl, z⟩
    · exact ⟨62, Or.inr rfl, z⟩
  obtain ⟨q, hqp, h04⟩ : ∃ q, isP q ∧ R 0 4 = some q := by
    rcases h.2.2.2.2.2.2.2.1 with z | z
    · exact ⟨7, Or.inl rfl, z⟩
    · exact ⟨62, Or.inr rfl, z⟩
  have hpq : p ≠ q := fun z => h9.2.1 (by rw [h04, h05, z])
  have hp' : p = 7 ∨ p = 62 := hp
  have hq' : q = 7 ∨ q = 62 := hqp
  obtain ⟨L, hL⟩ : ∃ L : Nat, (I 2 4).toInt = L := ⟨(I 2 4).toInt.toNat, by omega⟩
  have w1 : wp (f_a_parse 0 (mk I J R)) (PC1 I J) := s_a_parse h1 (fun r I' J' R' h' e' => ⟨I', J', R', rfl, h', e', Or.inl ⟨r, rfl⟩⟩) (fun E I' J' R' h' e' hE => ⟨I', J', R', rfl, h', e', Or.inr (congrArg Sum.inr (show E = "java/lang/IllegalArgumentException" from hE))⟩)
  have w2 : wl (f_a_parse 0 (mk I J R)) (PC2 I R J L p q) := v_parse hx hp h05 h04 hL (by omega) (fun K B M i' c' n' o I' R' v hT hD hf f3 hv hb h4 hF => ⟨I', R', K, B, M, .inl (i', c', n', o), rfl, hT, hD, ⟨hf, f3, ⟨v, rfl, hv⟩, hb, h4⟩, hF⟩) (fun E K B M j I' R' hT hD hf f3 hF => ⟨I', R', K, B, M, .inr j, rfl, hT, hD, ⟨hf, f3, E, rfl⟩, hF⟩)
  refine seq3_of ?_
  unfold f_lw_parse
  refine st_bdh (wp_mono (wl_wp w1 w2) (fun x hx12 => ?_))
  obtain ⟨x1, xw⟩ := x
  obtain ⟨⟨I1, J1, R1, e1, c1, e01, alt⟩, ⟨I2, R2, K, B, M, r, e2, hT, hD, hk, hF2⟩⟩ := hx12
  have e1 : xw = mk I1 J1 R1 := e1
  have e2 : xw = mk I2 J R2 := e2
  have e12 : mk I1 J1 R1 = mk I2 J R2 := e1.symm.trans e2
  subst e2
  have kp : PFZ p I I2 R R2 := by
    cases r with
    | inl a => exact hk.1
    | inr j => exact ⟨fun a k b1 b2 b3 b4 b5 b6 _ => hk.1.1 a k b1 b2 b3 b4 b5 b6, hk.1.2.1, fun y k b1 b2 _ => hk.1.2.2 y k b1 b2⟩
  have kc : ∀ a k, (a < p ∨ p + 54 < a) → (a = 0 ∨ a = 3 ∨ 7 ≤ a) → (a ≠ 0 ∨ k ≠ 6) → I2 a k = I a k := fun a k b1 b2 b3 => kp.1 a k b1 (by omega) (by omega) (by omega) (by omega) (by omega) b3
  have ci : CI 0 I2 J I2 J R2 := ci_of h ⟨c1.2.2.1, c1.2.2.2.1, c1.2.2.2.2.1, c1.2.2.2.2.2.1, c1.2.2.2.2.2.2.2⟩ e12 (fun a k ha hc => kc a k (by omega) (by omega) (by omega)) hF2
  have hge : ∀ a k, 117 ≤ a → I2 a k = I a k := fun a k ha => kc a k (by omega) (by omega) (by omega)
  have i2 : I2 2 4 = I 2 4 := kp.2.1 4 (by omega)
  have ref : ∀ (J1' : JM), (∀ a k, 373 ≤ a → a ≠ 416 → J1' a k = J a k) → wp (f_q_parse 373 (mk I2 J1' R2)) (fun y => ∃ (I3 : IM) (J3 : JM), y.2 = mk I3 J3 R2 ∧ INV (mk I3 J3 R2) ∧ J3 416 0 = J1' 416 0 ∧ SKR (fun _ c' _ _ => I3 373 5 = 0 ∧ y.1.toInt = c') (fun _ => I3 373 5 = 1) r) := by
    intro J1' hJ
    have hq1 : QF I2 J1' := hq.cls (fun a k ha => hge a k (by omega)) hJ
    have ht : TXQ (I 3) L I2 := ⟨by rw [hge 373 2 (by decide), ← h0.1.2.2.2]; exact hL, fun j hj => by rw [hge 374 j (by decide)]; exact (h0.2.1 j (by omega)).symm⟩
    have p1 : wp (f_q_parse 373 (mk I2 J1' R2)) (fun y => ∃ (I3 : IM) (J3 : JM), y.2 = mk I3 J3 R2 ∧ QF I3 J3 ∧ QKp I2 J1' I3 J3 ∧ HK (I2 373 27).toInt.toNat I2 I3 ∧ (I3 373 5 = 1 → I3 373 8 = I2 373 8 ∧ I3 373 27 = I2 373 27)) := c_parse ci.qr hq1 (fun v I3 J3 q1 q2 q3 q4 => ⟨I3, J3, rfl, q1, q2, q3, q4⟩)
    have p2 : wl (f_q_parse 373 (mk I2 J1' R2)) (fun y => ∃ (H : Nat) (I4 : IM), y.2 = mk I4 J1' R2 ∧ (H : Int) = 1 - (I2 373 27).toInt ∧ SKR (fun _ c' n' o => (I4 373 4 = -2 ∧ I4 373 5 = 0 ∧ y.1.toInt = c') ∧ (I4 373 8 = 1 ∧ (I4 373 27).toInt = H) ∧ RCS (XM I2 R2 p) H p c' n' o I4) (fun j => I4 373 4 = B j ∧ I4 373 5 = 1) r) := z_parse ci.qr (by omega) ht hq1.2.2.2.1 hT hD (fun H v I4 hH hs => ⟨H, I4, rfl, hH, hs⟩)
    refine wp_mono (wl_wp p1 p2) (fun y hy => ?_)
    obtain ⟨⟨I3, J3, e3, q1, q2, q3, q4⟩, ⟨H, I4, e4, hH, hs⟩⟩ := hy
    have e34 : mk I3 J3 R2 = mk I4 J1' R2 := e3.symm.trans e4
    have g4 : I3 373 4 = I4 373 4 := mk_fld (a := 373) (k := 4) rfl rfl e34
    have g5 : I3 373 5 = I4 373 5 := mk_fld (a := 373) (k := 5) rfl rfl e34
    have g8 : I3 373 8 = I4 373 8 := mk_fld (a := 373) (k := 8) rfl rfl e34
    have g27 : I3 373 27 = I4 373 27 := mk_fld (a := 373) (k := 27) rfl rfl e34
    have h27 := hq1.2.2.2.1
    have i27 : I2 373 27 = I 373 27 := hge 373 27 (by decide)
    have c3 : ∀ a k, a < 373 → I3 a k = I2 a k := fun a k ha => q2.1 a k (Or.inl ha)
    have wh : I3 1 3 = I3 373 4 := by
      rw [c3 1 3 (by omega), g4]
      cases r with
      | inl a => exact hk.2.1.trans hs.1.1.symm
      | inr j => exact hk.2.1.trans hs.1.symm
    have rst : RST I3 := by
      obtain ⟨⟨v1, v2, v3⟩, r1, r2, r3⟩ := h9.2.2.2.1
      refine ⟨⟨fun j hj => ?_, fun j hj => ?_, fun j hj => ?_⟩, ?_, ?_, ?_⟩
      · rw [q2.1 401 j (by omega), hge 401 j (by omega), c3 118 j (by omega), hge 118 j (by omega)]; exact v1 j hj
      · rw [q2.1 405 j (by omega), hge 405 j (by omega), c3 119 j (by omega), hge 119 j (by omega)]; exact v2 j hj
      · rw [q2.1 402 j (by omega), hge 402 j (by omega), c3 120 j (by omega), hge 120 j (by omega)]; exact v3 j hj
      · rw [c3 117 8 (by omega), hge 117 8 (by omega), q2.1 373 52 (by omega), hge 373 52 (by omega)]; exact r1
      · rw [c3 117 9 (by omega), hge 117 9 (by omega), q2.1 373 53 (by omega), hge 373 53 (by omega)]; exact r2
      · rw [c3 117 10 (by omega), hge 117 10 (by omega), q2.1 373 51 (by omega), hge 373 51 (by omega)]; exact r3
    have e9 : E9 I3 R2 := by
      cases r with
      | inl a =>
        obtain ⟨i', c', n', o⟩ := a
        obtain ⟨_, _, _, hb, k06, k04, k05, kp6⟩ := hk
        obtain ⟨_, ⟨s8, s27⟩, hr⟩ := hs
        refine ⟨?_, ?_, rst, fun _ p2' hp2 => ?_⟩
        · rw [k04, k05]; intro z; exact hpq (Option.some.inj z)
        · rw [c3 0 6 (by omega), k06, g8, s8]
        · rw [k04] at hp2
          have ep : p = p2' := Option.some.inj hp2
          subst ep
          have hH27 : (I3 373 27).toInt.toNat = H := by rw [g27]; omega
          rw [hH27]
          exact pgr_of hp (by omega) hb.1 hD (hr.keep (fun x a b => mk_rowq (by omega) e34)) kp6 (XM.eq (fun x j a b => c3 x j (by omega)) (fun _ _ _ _ => rfl))
      | inr j =>
        obtain ⟨hf, k13, _⟩ := hk
        obtain ⟨s4, s5⟩ := hs
        obtain ⟨k8, k27⟩ := q4 (g5.trans s5)
        refine ⟨?_, ?_, rst, fun z p2' hp2 => ?_⟩
        · rw [hf.2.2 0 4 (by omega) (by omega), hf.2.2 0 5 (by omega) (by omega)]; exact h9.2.1
        · rw [c3 0 6 (by omega), hf.1 0 6 (by omega) (by omega) (by omega) (by omega) (by omega) (by omega), k8, hge 373 8 (by omega)]; exact h9.2.2.1
        · rw [k8, hge 373 8 (by omega)] at z
          rw [hf.2.2 0 4 (by omega) (by omega), h04] at hp2
          have ep : q = p2' := Option.some.inj hp2
          subst ep
          have g := h9.2.2.2.2 z q h04
          rw [k27, i27]
          exact g.keep (fun x j a b => by rw [c3 x j (by omega)]; exact kc x j (by omega) (by omega) (by omega)) (fun y k a b => hf.2.2 y k (by omega) (by omega)) (hf.2.2 q 6 (by omega) (by omega)) (fun x j hx => by rw [q3 x j (by rw [i27]; omega)]; exact hge x j (by omega))
    have inp : INP I3 := fun j hj => by
      rw [c3 117 5 (by omega), hge 117 5 (by omega)] at hj
      rw [c3 122 j (by omega), hge 122 j (by omega), q2.1 375 j (by omega), hge 375 j (by omega)]
      exact h9.1 j hj
    refine ⟨I3, J3, e3, ⟨I3, J3, R2, rfl, ci.q (fun a k ha => c3 a k ha), q1, ⟨inp, e9⟩, ⟨?_, ?_, ?_, ?_⟩, fun j hj => ?_, wh⟩, q2.2.2.2 416 0 (Or.inr rfl), ?_⟩
    · rw [c3 0 0 (by decide), kc 0 0 (by omega) (by omega) (by omega), q2.2.1.1, hge 373 6 (by decide)]; exact h0.1.1
    · rw [c3 0 1 (by decide), kc 0 1 (by omega) (by omega) (by omega), q2.2.2.1.1, hge 373 7 (by decide)]; exact h0.1.2.1
    · rw [c3 117 5 (by decide), hge 117 5 (by decide), q2.2.2.1.2, hge 373 3 (by decide)]; exact h0.1.2.2.1
    · rw [c3 2 4 (by decide), q2.2.1.2, i2, hge 373 2 (by decide)]; exact h0.1.2.2.2
    · rw [c3 2 4 (by decide), i2] at hj
      rw [c3 3 j (by omega), kc 3 j (by omega) (by omega) (by omega), q2.1 374 j (by omega), hge 374 j (by decide)]
      exact h0.2.1 j hj
    · cases r with
      | inl a => exact ⟨g5.trans hs.1.2.1, hs.1.2.2⟩
      | inr j => exact g5.trans hs.2
  cases r with
  | inl a =>
    obtain ⟨_, _, ⟨v, hv1, hv2⟩, _⟩ := hk
    have hv1 : x1 = .inl v := hv1
    subst hv1
    refine ⟨fun v' hv' => ?_, fun E hE => (by cases hE)⟩
    cases hv'
    refine st_sL (n := 1) rfl (by decide) (st_some (wp_mono (ref _ (fun a k ha hn => up2_nea hn)) (fun y hy => ?_)))
    obtain ⟨I3, J3, e3, hI, hJ, hs⟩ := hy
    refine ⟨I3, J3, R2, e3, hI, hs.1, fun _ => ?_⟩
    rw [hJ]
    show up2 J 416 0 (Int32.toInt64 v) 416 0 = Int32.toInt64 y.1
    rw [up2_s]
    exact congrArg Int32.toInt64 (i32eq.mpr (hv2.trans hs.2.symm))
  | inr j =>
    obtain ⟨_, _, E, hE1⟩ := hk
    have hE1 : x1 = .inr E := hE1
    subst hE1
    refine ⟨fun v' hv' => (by cases hv'), fun E' hE' => ?_⟩
    have hE2 : E' = "java/lang/IllegalArgumentException" := by
      rcases alt with ⟨r, z⟩ | z
      · cases z
      · have z' : (Sum.inr E : Int32 ⊕ String) = .inr "java/lang/IllegalArgumentException" := z
        have hE'' : (Sum.inr E : Int32 ⊕ String) = .inr E' := hE'
        exact Sum.inr.inj (hE''.symm.trans z')
    subst hE2
    refine st_ite (fun _ => st_some (wp_mono (ref J (fun a k ha hn => rfl)) (fun y hy => ?_))) (fun z => absurd rfl z)
    obtain ⟨I3, J3, e3, hI, hJ, hs⟩ := hy
    exact ⟨I3, J3, R2, e3, hI, hs, fun z => absurd (show (1 : Int32) = 0 from z) (by decide)⟩
def PR1 (I : IM) (J : JM) (x : (Int32 ⊕ String) × WW) : Prop := ∃ (I' : IM) (J' : JM) (R' : RM), x.2 = mk I' J' R' ∧ CI 117 I J I' J' R'
def PR2 (I : IM) (R : RM) (J : JM) (p lim ic : Nat) (x : (Int32 ⊕ String) × WW) : Prop := ∃ (s0 : SGM) (r : RRs) (I' : IM) (R' : RM), x.2 = mk I' J R' ∧ SG0 s0 ∧ DR (XM I R p) lim ic (I 122) 0 (R p 6) s0 r ∧ RUF I I' R R' ∧ CRE (RRs.s r) I' ∧ RES2 r x.1 (I' 117 10)
set_option maxRecDepth 100000 in
theorem m1176 : mutR 117 6 = true := by decide +kernel
theorem f_run (h : CI 0 I J I J R) (hq : QF I J) (h9 : N9 I R) (h0 : EQ4 I) (a : Int32) : seq3 INV (f_lw_run 0 a 416 (mk I J R)) (f_q_run 373 a) := by
  have hx : FXR R := h.2.2.2.2.2.2.1
  refine seq3_of ?_
  unfold f_lw_run
  by_cases ha : 0 ≤ a.toInt ∧ a.toInt ≤ 500
  rotate_left
  · have w : wp (f_a_run 0 a (mk I J R)) (fun x => x = (.inr "java/lang/IllegalArgumentException", mk I J R)) := by
      unfold f_a_run f_a_run_11
      refine st_kb rfl (st_ite (fun c => st_some rfl) (fun c => st_ite (fun c2 => ?_) (fun c2 => st_some rfl)))
      exfalso
      rw [i32lt, l32_0] at c
      rw [i32le, l32_500] at c2
      omega
    refine st_bdh (wp_mono w (fun x hx => ?_))
    subst hx
    refine ⟨fun v hv => (by cases hv), fun E hE => ?_⟩
    cases hE
    refine st_ite (fun _ => st_some ?_) (fun c => absurd rfl c)
    unfold f_q_run
    refine st_kb rfl (st_bd2 (s_q_in (fun r _ hr => ?_)))
    dsimp only
    rw [i3264, l64_0, l64_500] at hr
    refine st_ite (fun _ => st_bd2 (s_q_fail h.qr (st_some ⟨_, J, R, rfl, thr_ok h h9 h0 1 rfl hq.u5, up2_s, fun z => absurd (show (1 : Int32) = 0 from z) (by decide)⟩))) (fun c => ?_)
    exfalso
    rw [i32eq, l32_0] at c
    omega
  by_cases h8 : I 373 8 = 0
  · have h06 : I 0 6 = 0 := h9.2.2.1.mpr h8
    have w : wp (f_a_run 0 a (mk I J R)) (fun x => x = (.inr "java/lang/IllegalStateException", mk I J R)) := by
      unfold f_a_run f_a_run_11
      refine st_kb rfl (st_ite (fun c => ?_) (fun c => st_ite (fun c2 => st_gI rfl rfl rfl (st_ite (fun c3 => st_some rfl) (fun c3 => absurd h06 c3))) (fun c2 => ?_)))
      · exfalso; rw [i32lt, l32_0] at c; omega
      · exfalso; rw [i32le, l32_500] at c2; omega
    refine st_bdh (wp_mono w (fun x hx => ?_))
    subst hx
    refine ⟨fun v hv => (by cases hv), fun E hE => ?_⟩
    cases hE
    refine st_ite (fun c => absurd c (by decide)) (fun _ => st_ite (fun _ => st_some ?_) (fun c => absurd rfl c))
    unfold f_q_run
    refine st_kb rfl (st_bd2 (s_q_in (fun r _ hr => ?_)))
    dsimp only
    rw [i3264, l64_0, l64_500] at hr
    refine st_ite (fun c => ?_) (fun c => st_gI rfl rfl rfl (st_ite (fun _ => st_bd2 (s_q_fail h.qr (st_some ⟨_, J, R, rfl, thr_ok h h9 h0 2 rfl hq.u5, up2_s, fun z => absurd (show (2 : Int32) = 0 from z) (by decide)⟩))) (fun c8 => absurd h8 c8)))
    exfalso
    rw [i32eq, l32_0] at c
    omega
  obtain ⟨p, hp, h04⟩ : ∃ p, isP p ∧ R 0 4 = some p := by
    rcases h.2.2.2.2.2.2.2.1 with z | z
    · exact ⟨7, Or.inl rfl, z⟩
    · exact ⟨62, Or.inr rfl, z⟩
  have hp' : p = 7 ∨ p = 62 := hp
  have h06 : ¬ I 0 6 = 0 := fun z => h8 (h9.2.2.1.mp z)
  have gp := h9.2.2.2.2 h8 p h04
  have hib := x_inc h
  have h27 := hq.2.2.2.1
  obtain ⟨lim, hlim⟩ : ∃ lim : Nat, a.toInt = lim := ⟨a.toInt.toNat, by omega⟩
  obtain ⟨ic, hic⟩ : ∃ ic : Nat, (I 117 5).toInt = ic := ⟨(I 117 5).toInt.toNat, by omega⟩
  obtain ⟨H, hH⟩ : ∃ H : Nat, (I 373 27).toInt = H := ⟨(I 373 27).toInt.toNat, by omega⟩
  have gp2 := gp
  rw [tnat hH] at gp2
  obtain ⟨⟨_, hH1⟩, G, n, g1, g2, g3, g4, g5, g6, g7⟩ := gp2
  have hpl : ∀ n y, G n y → 0 ≤ ((XM I R p).F y 1).toInt ∧ ((XM I R p).F y 1).toInt ≤ 199 := by
    intro n y hy
    obtain ⟨_, ly, bt, _⟩ := g1.t n y hy
    rw [XM.F bt]
    exact (ti_r (k := 1) ly).mp (h.2.2.1 y 1 (lt373T ly) (by rw [len_r ly]; decide))
  have hsp : ∀ k, k < 200 → 0 ≤ (I (p + 54) k).toInt ∧ (I (p + 54) k).toInt ≤ 199 := by
    intro k hk
    rcases hp with rfl | rfl
    · exact (ti_l (a := 61) (k := k) rfl).mp (h.2.2.1 61 k (by decide) hk)
    · exact (ti_l (a := 116) (k := k) rfl).mp (h.2.2.1 116 k (by decide) hk)
  have w1 : wp (f_a_run 0 a (mk I J R)) (PR1 I J) := s_a_run (h.up 117) (fun r I' J' R' h' => ⟨I', J', R', rfl, h'⟩) (fun E I' J' R' h' hE => ⟨I', J', R', rfl, h'⟩)
  have w2 : wl (f_a_run 0 a (mk I J R)) (PR2 I R J p lim ic) := v_run hx hp h04 h06 g1 hpl hsp g6 hlim (by omega) hic (fun s0 r x I' R' a1 a2 a3 a4 a5 => ⟨s0, r, I', R', rfl, a1, a2, a3, a4, a5⟩)
  refine st_bdh (wp_mono (wl_wp w1 w2) (fun x hx12 => ?_))
  obtain ⟨x1, xw⟩ := x
  obtain ⟨⟨I1, J1, R1, e1, c1⟩, ⟨s0, r, I2, R2, e2, hs0, hD, hf, hc, hr⟩⟩ := hx12
  have e1 : xw = mk I1 J1 R1 := e1
  have e2 : xw = mk I2 J R2 := e2
  have e12 : mk I1 J1 R1 = mk I2 J R2 := e1.symm.trans e2
  subst e2
  have hF2 : FXR R2 := fun y k hy hk hm => by
    rw [hf.2 y k (by
      by_cases z : y = 117
      · refine Or.inr (fun z2 => ?_)
        rw [z, z2, m1176] at hm
        cases hm
      · exact Or.inl z)]
    exact hx y k hy hk hm
  have ci : CI 0 I2 J I2 J R2 := ci_of h ⟨c1.2.2.1, c1.2.2.2.1, c1.2.2.2.2.1, c1.2.2.2.2.2.1, c1.2.2.2.2.2.2.2⟩ e12 (fun a k ha hc => hf.1 a k (by omega)) hF2
  have hge : ∀ x k, 122 ≤ x → I2 x k = I x k := fun x k hx => hf.1 x k (by omega)
  have ref : ∀ (J1' : JM), (∀ a k, 373 ≤ a → a ≠ 416 → J1' a k = J a k) → wp (f_q_run 373 a (mk I2 J1' R2)) (fun y => ∃ (I3 : IM) (J3 : JM), y.2 = mk I3 J3 R2 ∧ INV (mk I3 J3 R2) ∧ J3 416 0 = J1' 416 0 ∧ REQ r y.1 (I3 373 5) (I3 373 51)) := by
    intro J1' hJ
    have hq1 : QF I2 J1' := hq.cls (fun a k ha => hge a k (by omega)) hJ
    have s3 : SRL (XM I R p) G H p I2 := fun d y hy => by
      obtain ⟨c, e1, a, b⟩ := g3 d y hy
      exact ⟨c, e1, a.keep (fun x _ _ _ => hge x _ (by omega)), b.keep (hge _ _ (by omega))⟩
    have s4 : RLS (XM I R p) H n I2 := fun k hk => by
      have w := g4 k hk
      rw [hge 391 _ (by omega), hge 392 _ (by omega), hge 393 _ (by omega)]
      exact w
    have p1 : wp (f_q_run 373 a (mk I2 J1' R2)) (fun y => ∃ (I3 : IM) (J3 : JM), y.2 = mk I3 J3 R2 ∧ QF I3 J3 ∧ QKr I2 J1' I3 J3) := c_run ci.qr hq1 (fun v I3 J3 q1 q2 => ⟨I3, J3, rfl, q1, q2⟩)
    have p2 : wl (f_q_run 373 a (mk I2 J1' R2)) (fun y => ∃ (I4 : IM), y.2 = mk I4 J1' R2 ∧ VRL (RRs.s r).V (RRs.s r).U (RRs.s r).C I4 ∧ (I4 373 52).toInt = (RRs.s r).bg ∧ (I4 373 53).toInt = (RRs.s r).tk ∧ REQ r y.1 (I4 373 5) (I4 373 51)) := z_run ci.qr g1 g2 s3 s4 g5 hH1 (by rw [hge 373 27 (by omega)]; exact hH) g6 (by rw [hge 388 H (by omega)]; exact g7) hlim (by omega) (by rw [hge 373 8 (by omega)]; exact h8) (by rw [hge 373 3 (by omega), ← h0.1.2.2.1]; exact hic) (fun j hj => by rw [hge 375 j (by omega)]; exact (h9.1 j (by omega)).symm) hs0 hD (fun v I4 b1 b2 b3 b4 b5 => ⟨I4, rfl, b2, b3, b4, b5⟩)
    refine wp_mono (wl_wp p1 p2) (fun y hy => ?_)
    obtain ⟨⟨I3, J3, e3, q1, q2⟩, ⟨I4, e4, b2, b3, b4, b5⟩⟩ := hy
    have e34 : mk I3 J3 R2 = mk I4 J1' R2 := e3.symm.trans e4
    have g5' : I3 373 5 = I4 373 5 := mk_fld (a := 373) (k := 5) rfl rfl e34
    have g51 : I3 373 51 = I4 373 51 := mk_fld (a := 373) (k := 51) rfl rfl e34
    have g52 : I3 373 52 = I4 373 52 := mk_fld (a := 373) (k := 52) rfl rfl e34
    have g53 : I3 373 53 = I4 373 53 := mk_fld (a := 373) (k := 53) rfl rfl e34
    have c3 : ∀ a k, a < 373 → I3 a k = I2 a k := fun a k ha => q2.1 a k (Or.inl ha)
    have k118 : I3 118 = (RRs.s r).V := (funext fun j => c3 118 j (by omega)).trans hc.1.1
    have k119 : I3 119 = (RRs.s r).U := (funext fun j => c3 119 j (by omega)).trans hc.1.2.1
    have k120 : I3 120 = (RRs.s r).C := (funext fun j => c3 120 j (by omega)).trans hc.1.2.2
    have rst : RST I3 := by
      refine ⟨?_, ?_, ?_, ?_⟩
      · rw [k118, k119, k120]
        exact ⟨fun j hj => by rw [mk_rowq (a := 401) (by omega) e34]; exact b2.1 j hj, fun j hj => by rw [mk_rowq (a := 405) (by omega) e34]; exact b2.2.1 j hj, fun j hj => by rw [mk_rowq (a := 402) (by omega) e34]; exact b2.2.2 j hj⟩
      · exact i32eq.mpr (by rw [c3 117 8 (by omega), g52, b3]; exact hc.2.1)
      · exact i32eq.mpr (by rw [c3 117 9 (by omega), g53, b4]; exact hc.2.2)
      · rw [c3 117 10 (by omega), g51]
        cases r with
        | inl s' => exact hr.2.trans b5.2.2.symm
        | inr q =>
          cases q with
          | inl s' => exact hr.2.trans b5.2.2.symm
          | inr q => exact hr.1.trans b5.1.symm
    have e9 : E9 I3 R2 := by
      refine ⟨?_, ?_, rst, fun z p2' hp2 => ?_⟩
      · rw [hf.2 0 4 (by omega), hf.2 0 5 (by omega)]; exact h9.2.1
      · rw [c3 0 6 (by omega), hf.1 0 6 (by omega), q2.1 373 8 (by omega), hge 373 8 (by omega)]; exact h9.2.2.1
      · rw [hf.2 0 4 (by omega), h04] at hp2
        have ep : p = p2' := Option.some.inj hp2
        subst ep
        rw [q2.1 373 27 (by omega), hge 373 27 (by omega)]
        exact gp.keep (fun x j a b => by rw [c3 x j (by omega)]; exact hf.1 x j (by omega)) (fun y k a b => hf.2 y k (by omega)) (hf.2 p 6 (by omega)) (fun x j hx => by rw [q2.1 x j (by omega)]; exact hge x j (by omega))
    have inp : INP I3 := fun j hj => by
      rw [c3 117 5 (by omega), hf.1 117 5 (by omega)] at hj
      rw [c3 122 j (by omega), hge 122 j (by omega), q2.1 375 j (by omega), hge 375 j (by omega)]
      exact h9.1 j hj
    have tot : ∀ x k, (x ≤ 3 ∨ (x = 117 ∧ k = 5) ∨ x = 374 ∨ (x = 373 ∧ (k = 2 ∨ k = 3 ∨ k = 4 ∨ k = 6 ∨ k = 7))) → I3 x k = I x k := by
      intro x k hx
      have g : I3 x k = I2 x k := by
        rcases hx with z | z | z | ⟨rfl, z⟩
        · exact c3 x k (by omega)
        · exact c3 x k (by omega)
        · exact q2.1 x k (by omega)
        · rcases z with rfl | rfl | rfl | rfl | rfl
          · exact q2.2.1.2
          · exact q2.2.2.1.2
          · exact q2.1 _ _ (by omega)
          · exact q2.2.1.1
          · exact q2.2.2.1.1
      rw [g]; exact hf.1 x k (by omega)
    exact ⟨I3, J3, e3, ⟨I3, J3, R2, rfl, ci.q (fun a k ha => c3 a k ha), q1, ⟨inp, e9⟩, h0.keep tot⟩, q2.2.2.2 416 0 (Or.inr rfl), by rw [g5', g51]; exact b5⟩
  cases r with
  | inl s' =>
    have hv1 : x1 = .inl 0 := hr.1
    subst hv1
    refine ⟨fun v hv => ?_, fun E hE => (by cases hE)⟩
    cases hv
    refine st_sL (n := 1) rfl (by decide) (st_some (wp_mono (ref _ (fun a k ha hn => up2_nea hn)) (fun y hy => ?_)))
    obtain ⟨I3, J3, e3, hI, hJ, hs⟩ := hy
    refine ⟨I3, J3, R2, e3, hI, hs.2.1, fun _ => ?_⟩
    rw [hJ]
    show up2 J 416 0 (Int32.toInt64 0) 416 0 = Int32.toInt64 y.1
    rw [up2_s, hs.1]
  | inr q =>
    cases q with
    | inl s' =>
      have hv1 : x1 = .inl (-5) := hr.1
      subst hv1
      refine ⟨fun v hv => ?_, fun E hE => (by cases hE)⟩
      cases hv
      refine st_sL (n := 1) rfl (by decide) (st_some (wp_mono (ref _ (fun a k ha hn => up2_nea hn)) (fun y hy => ?_)))
      obtain ⟨I3, J3, e3, hI, hJ, hs⟩ := hy
      refine ⟨I3, J3, R2, e3, hI, hs.2.1, fun _ => ?_⟩
      rw [hJ]
      show up2 J 416 0 (Int32.toInt64 (-5)) 416 0 = Int32.toInt64 y.1
      rw [up2_s, hs.1]
    | inr q =>
      obtain ⟨hz, E, hE1, kk, pl, hk, hpl2, hzz, hEE⟩ := hr
      have hE1 : x1 = .inr E := hE1
      subst hE1
      refine ⟨fun v hv => (by cases hv), fun E' hE' => ?_⟩
      have hE2 : E = E' := Sum.inr.inj hE'
      subst hE2
      have dv : q.2 / (1024 : Int32) = kk := by rw [hzz]; exact cde_k hk hpl2
      have fin : ∀ c : Int32, cde q.2 = c → c ≠ 0 → wp (some (c, mk I2 J R2)) (fun p => wp (f_q_run 373 a p.2) (fun q => ∃ (I : IM) (J : JM) (R : RM), q.2 = mk I J R ∧ INV (mk I J R) ∧ I 373 5 = p.1 ∧ (p.1 = 0 → J 416 0 = Int32.toInt64 q.1))) := fun c hc hc0 => st_some (wp_mono (ref J (fun _ _ _ _ => rfl)) (fun y hy => by
        obtain ⟨I3, J3, e3, hI, hJ, hs⟩ := hy
        exact ⟨I3, J3, R2, e3, hI, hs.2.trans hc, fun z => absurd z hc0⟩))
      unfold cde at fin
      rw [dv] at fin
      unfold exnr at hEE
      by_cases k1 : kk = 1
      · rw [if_pos k1] at hEE
        subst hEE
        refine st_ite (fun c => absurd c (by decide)) (fun _ => st_ite (fun _ => fin 2 (if_pos k1) (by decide)) (fun c => absurd rfl c))
      rw [if_neg k1] at hEE
      by_cases k2 : kk = 2
      · rw [if_pos k2] at hEE
        subst hEE
        refine st_ite (fun c => absurd c (by decide)) (fun _ => st_ite (fun c => absurd c (by decide)) (fun _ => st_ite (fun _ => fin 3 (by rw [if_neg k1, if_pos k2]) (by decide)) (fun c => absurd rfl c)))
      rw [if_neg k2] at hEE
      by_cases k5 : kk = 5
      · rw [if_pos k5] at hEE
        subst hEE
        refine st_ite (fun c => absurd c (by decide)) (fun _ => st_ite (fun c => absurd c (by decide)) (fun _ => st_ite (fun c => absurd c (by decide)) (fun _ => st_ite (fun c => absurd c (by decide)) (fun _ => st_ite (fun _ => fin 5 (by rw [if_neg k1, if_neg k2, if_pos k5]) (by decide)) (fun c => absurd rfl c)))))
      rw [if_neg k5] at hEE
      subst hEE
      refine st_ite (fun c => absurd c (by decide)) (fun _ => st_ite (fun c => absurd c (by decide)) (fun _ => st_ite (fun c => absurd c (by decide)) (fun _ => st_ite (fun _ => fin 4 (by rw [if_neg k1, if_neg k2, if_neg k5]) (by decide)) (fun c => absurd rfl c))))
theorem f_ran (h : CI 0 I J I J R) (hq : QF I J) (h9 : N9 I R) (h0 : EQ4 I) (a : Int32) : seq3 INV (f_lw_ran 0 a 416 (mk I J R)) (f_q_ran 373 a) := by
  have hx : FXR R := h.2.2.2.2.2.2.1
  refine seq3_of ?_
  unfold f_lw_ran
  have w1 : wp (f_a_ran 0 a (mk I J R)) (fun _ => True) := s_a_ran (h.up 123) (fun _ _ _ _ => trivial) (fun _ _ _ _ _ => trivial)
  have w2 : wl (f_a_ran 0 a (mk I J R)) (fun p => (RNV a ∧ p = (.inl (rnv a (I 117 10) (I 117 8) (I 117 9) (I 118) (I 120) (fun j => if I 119 j = 0 then 0 else 1)), mk I J R)) ∨ (¬ RNV a ∧ p = (.inr "java/lang/IllegalArgumentException", mk I J R))) := v_ran hx (fun hv => Or.inl ⟨hv, rfl⟩) (fun hn => Or.inr ⟨hn, rfl⟩)
  have ref : ∀ (J' : JM), (∀ x k, 373 ≤ x → x ≠ 416 → J' x k = J x k) → ∀ Q : (Int32 × WW) → Prop, (RNV a → Q (rnv a (I 373 51) (I 373 52) (I 373 53) (I 401) (I 402) (fun j => if I 405 j = 0 then 1 else 0), mk (up2 I 373 5 0) J' R)) → (¬ RNV a → Q (0, mk (up2 I 373 5 1) J' R)) → wp (f_q_ran 373 a (mk I J' R)) Q := by
    intro J' hJ Q k1 k2
    have t1 : wp (f_q_ran 373 a (mk I J' R)) (fun _ => True) := c_ran h.qr (hq.cls (fun _ _ _ => rfl) hJ) (fun _ _ _ _ _ => trivial)
    exact wp_mono (wl_wp t1 (z_ran h.qr k1 k2)) (fun _ hy => hy.2)
  refine st_bdh (wp_mono (wl_wp w1 w2) (fun x hx12 => ?_))
  rcases hx12.2 with ⟨hv, hxe⟩ | ⟨hn, hxe⟩
  · subst hxe
    refine ⟨fun v hv' => ?_, fun E hE => (by cases hE)⟩
    cases hv'
    refine st_sL (n := 1) rfl (by decide) (st_some ?_)
    refine ref _ (fun x k hx hn => up2_nea hn) _ (fun _ => ⟨_, _, R, rfl, thr_ok (h.q (fun _ _ _ => rfl)) h9 h0 0 rfl (hq.cls (fun _ _ _ => rfl) (fun x k hx hn => up2_nea hn)).u5, up2_s, fun _ => ?_⟩) (fun hn => absurd hv hn)
    show up2 J 416 0 (Int32.toInt64 (rnv a (I 117 10) (I 117 8) (I 117 9) (I 118) (I 120) (fun j => if I 119 j = 0 then 0 else 1))) 416 0 = Int32.toInt64 (rnv a (I 373 51) (I 373 52) (I 373 53) (I 401) (I 402) (fun j => if I 405 j = 0 then 1 else 0))
    rw [up2_s]
    obtain ⟨⟨v1, v2, v3⟩, r1, r2, r3⟩ := h9.2.2.2.1
    refine congrArg Int32.toInt64 (rnv_eq hv r3 r1 r2 (fun j hj => (v1 j hj).symm) (fun j hj => (v3 j hj).symm) (fun j hj => ?_))
    by_cases z : I 119 j = 0
    · rw [if_pos z, if_neg (fun w => (v2 j hj).mp w z)]
    · rw [if_neg z, if_pos ((v2 j hj).mpr z)]
  · subst hxe
    refine ⟨fun v hv => (by cases hv), fun E hE => ?_⟩
    cases hE
    refine st_ite (fun _ => st_some ?_) (fun c => absurd rfl c)
    exact ref J (fun _ _ _ _ => rfl) _ (fun hv => absurd hv hn) (fun _ => ⟨_, J, R, rfl, thr_ok h h9 h0 1 rfl hq.u5, up2_s, fun z => absurd (show (1 : Int32) = 0 from z) (by decide)⟩)
end INVS
theorem steps : Steps INV := by
  intro w hw
  obtain ⟨I, J, R, rfl, h, hq, h9, h0⟩ := hw
  have h1 := h.up 1
  have h117 := h.up 117
  have h123 := h.up 123
  refine ⟨fun a => seq3_2 (f_text h hq h9 h0 a), seqE_2 (f_clear h hq h9 h0), seq3_2 (f_parse h hq h9 h0), seqE_2 (f_where h hq h9 h0), fun a b => seq3_2 (f_choose h hq h9 h0 a b), fun a => seq3_2 (f_input h hq h9 h0 a), seqE_2 (f_forget h hq h9 h0), fun a => seq3_2 (f_run h hq h9 h0 a), fun a => f_ran h hq h9 h0 a, ?_, fun a => ?_, fun a b => ?_, fun a => ?_⟩
  · refine seq_of hq h9 h0 ?_ (fun I J R hR q Q k => c_analyse hR q k)
    unfold f_lw_analyse
    refine st_bdh (y_analyse h123 (fun r I' J' R' h' hr => ⟨fun v hv => ?_, fun E hE => (by cases hE)⟩) (fun E I' J' h' hE => ⟨fun v hv => (by cases hv), fun E2 hE2 => ?_⟩))
    · cases hv; exact cls_out (cls_of h' hr) _ (fun w' hw => hw)
    · cases hE2
      subst hE
      exact st_ite (fun _ => st_some (cls_of h' (fun _ _ _ => rfl))) (fun c => absurd rfl c)
  · refine seq_of hq h9 h0 ?_ (fun I J R hR q Q k => c_warning hR q k)
    unfold f_lw_warning
    refine st_bdh (s_a_warning h123 (fun r I' J' h' => ⟨fun v hv => ?_, fun E hE => (by cases hE)⟩) (fun E I' J' h' hE => ⟨fun v hv => (by cases hv), fun E2 hE2 => ?_⟩))
    · cases hv; exact cls_out (cls_of h' (fun _ _ _ => rfl)) _ (fun w' hw => hw)
    · cases hE2
      subst hE
      exact st_ite (fun _ => st_some (cls_of h' (fun _ _ _ => rfl))) (fun c => absurd rfl c)
  · refine seq_of hq h9 h0 ?_ (fun I J R hR q Q k => c_left hR q k)
    unfold f_lw_left
    refine st_bdh (s_a_left h123 (fun r I' J' h' => ⟨fun v hv => ?_, fun E hE => (by cases hE)⟩) (fun E I' J' h' hE => ⟨fun v hv => (by cases hv), fun E2 hE2 => ?_⟩))
    · cases hv; exact cls_out (cls_of h' (fun _ _ _ => rfl)) _ (fun w' hw => hw)
    · cases hE2
      have fin := fun k : Int32 => st_some (x := (k, mk I' J' R)) (Q := fun p => CLS I J R p.2) (cls_of h' (fun _ _ _ => rfl))
      refine st_ite (fun _ => fin _) (fun c1 => st_ite (fun _ => fin _) (fun c2 => st_ite (fun _ => fin _) (fun c3 => st_ite (fun _ => fin _) (fun c4 => ?_))))
      rcases hE with z | z | z | z
      · exact absurd z c1
      · exact absurd z c2
      · exact absurd z c3
      · exact absurd z c4
  · refine seq_of hq h9 h0 ?_ (fun I J R hR q Q k => c_count hR q k)
    unfold f_lw_count
    refine st_bdh (s_a_count h123 (fun r I' J' h' => ⟨fun v hv => ?_, fun E hE => (by cases hE)⟩) (fun E I' J' h' hE => ⟨fun v hv => (by cases hv), fun E2 hE2 => ?_⟩))
    · cases hv; exact cls_out (cls_of h' (fun _ _ _ => rfl)) _ (fun w' hw => hw)
    · cases hE2
      subst hE
      exact st_ite (fun _ => st_some (cls_of h' (fun _ _ _ => rfl))) (fun c => absurd rfl c)
