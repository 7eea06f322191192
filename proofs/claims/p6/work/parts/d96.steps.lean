/-! Both sides: the invariant between calls, each call keeps it, it holds at first; so the law answers 1. -/
theorem st_bdh {α γ : Type} {Q : γ → Prop} {c : Option ((α ⊕ String) × WW)} {f : α → WW → Option γ} {g : String → WW → Option γ} (h : wp c (fun p => (∀ v, p.1 = .inl v → wp (f v p.2) Q) ∧ (∀ E, p.1 = .inr E → wp (g E p.2) Q))) : wp (bdh c f g) Q := by
  obtain ⟨⟨x, w⟩, h1, h2⟩ := h
  rw [h1]
  cases x with
  | inl v => exact h2.1 v rfl
  | inr E => exact h2.2 E rfl
def INV (w : WW) : Prop := ∃ (I : IM) (J : JM) (R : RM), w = mk I J R ∧ CI 0 I J I J R ∧ QF I J ∧ I 0 0 = I 373 6 ∧ I 0 1 = I 373 7
/-- what a call of the class leaves, seen from the reference's side -/
def CLS (I : IM) (J : JM) (w : WW) : Prop := ∃ (I' : IM) (J' : JM) (R' : RM), w = mk I' J' R' ∧ CI 0 I' J' I' J' R' ∧ (∀ a k, 373 ≤ a → I' a k = I a k) ∧ (∀ a k, 373 ≤ a → a ≠ 416 → J' a k = J a k) ∧ I' 0 0 = I 0 0 ∧ I' 0 1 = I 0 1
section INVS
variable {I I' : IM} {J J' : JM} {R R' : RM}
theorem QF.cls (h : QF I J) (e : ∀ a k, 373 ≤ a → I' a k = I a k) (f : ∀ a k, 373 ≤ a → a ≠ 416 → J' a k = J a k) : QF I' J' := by
  refine h.keep (fun j _ => e _ _ (by omega)) (fun x j _ _ => e _ _ (by omega)) ⟨fun j hj => by rw [e _ _ (by omega)]; exact h.2.2.2.2.2.1.1 j hj, fun j hj => by rw [e _ _ (by omega)]; exact h.2.2.2.2.2.1.2 j hj⟩ (fun i hi => ?_)
  rw [f 406 i (by omega) (by omega), f 407 i (by omega) (by omega), f 408 i (by omega) (by omega), f 409 i (by omega) (by omega)]
  exact h.2.2.2.2.2.2 i hi
theorem CI.q (h : CI 0 I J I J R) (e : ∀ a k, a < 373 → I' a k = I a k) : CI 0 I' J' I' J' R := by
  obtain ⟨_, _, h3, h4, h5, h6, h7, h8⟩ := h
  refine ⟨fun _ _ _ => rfl, fun _ _ _ => rfl, fun a k ha hk => ?_, fun j hj => ?_, fun p hp j hj => ?_, fun x hx => ?_, h7, h8⟩
  · rw [e a k ha]; exact h3 a k ha hk
  · rw [e 4 j (by omega), e 5 j (by omega), e 6 j (by omega)]; exact h4 j hj
  · rw [e (p + 52) j (by rcases hp with rfl | rfl <;> omega), e (p + 53) j (by rcases hp with rfl | rfl <;> omega)]; exact h5 p hp j hj
  · rw [e x 0 (lt373T hx), e x 2 (lt373T hx)]; exact h6 x hx
theorem CI.qr {m : Nat} {I0 : IM} {J0 : JM} (h : CI m I0 J0 I J R) : QR R := qr_of h.2.2.2.2.2.2.1
/-- of a class's call: nothing of the reference, UNROLL and NARROW as they were -/
theorem cls_of {m : Nat} (hm : 1 ≤ m) (h : CI m I J I' J' R') : CLS I J (mk I' J' R') :=
  ⟨I', J', R', rfl, h.up 0, fun a k ha => h.1 a k (Or.inr ha), fun a k ha _ => h.2.1 a k (Or.inr ha), h.1 0 0 (Or.inl (by omega)), h.1 0 1 (Or.inl (by omega))⟩
theorem cls_of0 (h : CI 0 I J I' J' R') (h0 : I' 0 0 = I 0 0 ∧ I' 0 1 = I 0 1) : CLS I J (mk I' J' R') :=
  ⟨I', J', R', rfl, h.up 0, fun a k ha => h.1 a k (Or.inr ha), fun a k ha _ => h.2.1 a k (Or.inr ha), h0.1, h0.2⟩
/-- the answer is kept in the row out -/
theorem cls_out {w : WW} (h : CLS I J w) (x : Int32) {Q : (Int32 × WW) → Prop} (k : ∀ w', CLS I J w' → Q (0, w')) : wp ((sL w 416 1 (0 : Int32) (Int32.toInt64 x)).bind fun w3 => some ((0 : Int32), w3)) Q := by
  obtain ⟨I', J', R', rfl, h1, h2, h3, h4⟩ := h
  refine st_sL (n := 1) rfl (by decide) (st_some (k _ ⟨I', _, R', rfl, h1.q (fun _ _ _ => rfl), h2, fun a k ha hn => ?_, h4⟩))
  rw [up2_nea hn]; exact h3 a k ha hn
/-- a call of both sides: whatever the class leaves so, the reference's call ends and keeps INV -/
theorem seq_of {r : Option (Int32 × WW)} {G : WW → Option (Int32 × WW)} (hq : QF I J) (h0 : I 0 0 = I 373 6 ∧ I 0 1 = I 373 7) (hc : wp r (fun p => CLS I J p.2)) (hG : ∀ (I : IM) (J : JM) (R : RM), QR R → QF I J → ∀ Q : (Int32 × WW) → Prop, (∀ (r : Int32) (I' : IM) (J' : JM), QF I' J' → QK I J I' J' → Q (r, mk I' J' R)) → wp (G (mk I J R)) Q) : seq2 INV r G := by
  obtain ⟨⟨k, w1⟩, h1, I1, J1, R1, e1, c1, c2, c3, c4, c5⟩ := hc
  have e1 : w1 = mk I1 J1 R1 := e1
  subst e1
  obtain ⟨⟨b, w2⟩, g1, g2⟩ := hG I1 J1 R1 c1.qr (hq.cls c2 c3) (fun p => INV p.2) (fun r I' J' q1 q2 => ⟨I', J', R1, rfl, c1.q q2.1, q1, by rw [q2.1 0 0 (by decide), q2.2.1, c4, c2 373 6 (by decide)]; exact h0.1, by rw [q2.1 0 1 (by decide), q2.2.2.1, c5, c2 373 7 (by decide)]; exact h0.2⟩)
  exact ⟨k, _, b, w2, h1, g1, g2⟩
/-- choose of both sides -/
theorem seq_choose (h : CI 0 I J I J R) (hq : QF I J) (h0 : I 0 0 = I 373 6 ∧ I 0 1 = I 373 7) (a b : Int32) : seq3 INV (f_lw_choose 0 a b 416 (mk I J R)) (f_q_choose 373 a b) := by
  have hR := h.qr
  -- out of the two ends
  have bad : (a.toInt < 0 ∨ 1 < a.toInt ∨ b.toInt < 0 ∨ 5 < b.toInt) → f_a_choose 0 a b (mk I J R) = some (.inr "java/lang/IllegalArgumentException", mk I J R) → seq3 INV (f_lw_choose 0 a b 416 (mk I J R)) (f_q_choose 373 a b) := by
    intro hb hf
    have e1 : f_lw_choose 0 a b 416 (mk I J R) = some (1, mk I J R) := by
      unfold f_lw_choose bdh
      rw [hf]
      show (if "java/lang/IllegalArgumentException" = "java/lang/IllegalArgumentException" then some ((1 : Int32), mk I J R) else none) = some (1, mk I J R)
      rw [if_pos rfl]
    obtain ⟨⟨r, w2⟩, g1, g2, g3⟩ := c_choose (I := I) (J := J) (R := R) (a1 := a) (a2 := b) hR hq (Q := fun p => p.1 = 0 ∧ p.2 = mk (up2 I 373 5 1) J R) (fun _ => ⟨rfl, rfl⟩) (fun z1 z2 => absurd z2 (fun z => by rw [z, l32_0] at hb; omega)) (fun z1 z2 => absurd z2 (fun z => by rw [z, l32_1] at hb; omega))
    have g2 : r = 0 := g2
    have g3 : w2 = mk (up2 I 373 5 1) J R := g3
    subst g2; subst g3
    obtain ⟨⟨r3, w3⟩, t1, t2, t3⟩ := q_thrown (I := up2 I 373 5 1) (J := J) (R := R) (Q := fun p => p.1 = 1 ∧ p.2 = mk (up2 I 373 5 1) J R) ⟨(up2_s : up2 I 373 5 1 373 5 = 1), rfl⟩
    have t2 : r3 = 1 := t2
    have t3 : w3 = mk (up2 I 373 5 1) J R := t3
    subst t2; subst t3
    refine ⟨1, _, 0, _, _, e1, g1, t1, fun z => absurd z (by decide), ⟨_, J, R, rfl, h.q (fun a k ha => up2_nea (by omega)), hq.u5, ?_, ?_⟩⟩
    · rw [up2_nea (by decide), up2_nek (by decide)]; exact h0.1
    · rw [up2_nea (by decide), up2_nek (by decide)]; exact h0.2
  have good : ∀ (n : Nat) (x : Int32), (n = 0 ∨ n = 1) → a = Int32.ofNat n → (0 ≤ b.toInt ∧ b.toInt ≤ 5) → x = I 0 n → f_a_choose 0 a b (mk I J R) = some (.inl x, mk (up2 I 0 n b) J R) → seq3 INV (f_lw_choose 0 a b 416 (mk I J R)) (f_q_choose 373 a b) := by
    intro n x hn ha hb hx hf
    have e1 : f_lw_choose 0 a b 416 (mk I J R) = some (0, mk (up2 I 0 n b) (up2 J 416 0 (Int32.toInt64 x)) R) := by
      unfold f_lw_choose bdh
      rw [hf]
      show ((sL (mk (up2 I 0 n b) J R) 416 1 (0 : Int32) (Int32.toInt64 x)).bind fun w3 => some ((0 : Int32), w3)) = _
      rw [mk_sL (n := 1) rfl (by decide)]
      rfl
    have hq1 : QF (up2 I 0 n b) (up2 J 416 0 (Int32.toInt64 x)) := hq.cls (fun a k ha => up2_nea (by omega)) (fun a k ha hne => up2_nea hne)
    -- the class's own facts
    have hC : CI 0 (up2 I 0 n b) (up2 J 416 0 (Int32.toInt64 x)) (up2 I 0 n b) (up2 J 416 0 (Int32.toInt64 x)) R := by
      rcases hn with rfl | rfl
      · have w := wt_0_0 (m := 0) (x := b) (by decide) hb
        exact ((h.wI w.1 w.2.1 w.2.2).up 0).q (fun _ _ _ => rfl)
      · have w := wt_0_1 (m := 0) (x := b) (by decide) hb
        exact ((h.wI w.1 w.2.1 w.2.2).up 0).q (fun _ _ _ => rfl)
    have y : ∀ j, up2 I 0 n b 373 j = I 373 j := fun j => up2_nea (by decide)
    have hfin : ∀ K : IM, (∀ x j, (x ≠ 373 ∨ (j ≠ 5 ∧ j ≠ 6 + n)) → K x j = up2 I 0 n b x j) → K 373 5 = 0 → K 373 (6 + n) = b → f_q_choose 373 a b (mk (up2 I 0 n b) (up2 J 416 0 (Int32.toInt64 x)) R) = some (x, mk K (up2 J 416 0 (Int32.toInt64 x)) R) → seq3 INV (f_lw_choose 0 a b 416 (mk I J R)) (f_q_choose 373 a b) := by
      intro K fK k5 k6 hf2
      obtain ⟨⟨r3, w3⟩, t1, t2, t3⟩ := q_thrown (I := K) (J := up2 J 416 0 (Int32.toInt64 x)) (R := R) (Q := fun p => p.1 = 0 ∧ p.2 = mk K (up2 J 416 0 (Int32.toInt64 x)) R) ⟨k5, rfl⟩
      have t2 : r3 = 0 := t2
      have t3 : w3 = mk K (up2 J 416 0 (Int32.toInt64 x)) R := t3
      subst t2; subst t3
      refine ⟨0, _, x, _, _, e1, hf2, t1, fun _ => ?_, ⟨K, _, R, rfl, hC.q (fun a k ha => fK _ _ (by omega)), ?_, ?_, ?_⟩⟩
      · have := (mk_rep K (up2 J 416 0 (Int32.toInt64 x)) R).rrL (a := 416) (t := 1) (n := 1) (by rw [Lay_LT]; rfl) (i := 0) (ix_iff (by decide))
        rw [this]
        exact congrArg some up2_s
      · obtain ⟨q1, q2, q3, q4, q5, q6, q7⟩ := hq1
        unfold QF
        rw [fK 373 2 (by omega), fK 373 3 (by omega), fK 373 8 (by omega), fK 373 27 (by omega)]
        refine ⟨q1, q2, ?_, q4, fun z => (q5 z).keep (fun x j hx => fK x j (by omega)), ⟨fun j hj => by rw [fK _ _ (by omega)]; exact q6.1 j hj, fun j hj => by rw [fK _ _ (by omega)]; exact q6.2 j hj⟩, q7⟩
        rcases hn with rfl | rfl
        · rw [fK 373 7 (by omega)]; exact q3
        · rw [k6]; exact hb
      · rcases hn with rfl | rfl
        · rw [fK 0 0 (by omega), up2_s, k6]
        · rw [fK 0 0 (by omega), up2_nek (by decide), fK 373 6 (by omega), y]; exact h0.1
      · rcases hn with rfl | rfl
        · rw [fK 0 1 (by omega), up2_nek (by decide), fK 373 7 (by omega), y]; exact h0.2
        · rw [fK 0 1 (by omega), up2_s, k6]
    obtain ⟨p, g1, K, g2, g3, g4, g5⟩ := c_choose (I := up2 I 0 n b) (J := up2 J 416 0 (Int32.toInt64 x)) (R := R) (a1 := a) (a2 := b) hR hq1 (Q := fun p => ∃ K : IM, p = (x, mk K (up2 J 416 0 (Int32.toInt64 x)) R) ∧ (∀ x j, (x ≠ 373 ∨ (j ≠ 5 ∧ j ≠ 6 + n)) → K x j = up2 I 0 n b x j) ∧ K 373 5 = 0 ∧ K 373 (6 + n) = b)
      (fun z => by
        rcases hn with rfl | rfl
        · rw [ha, show (Int32.ofNat 0).toInt = 0 from rfl] at z; omega
        · rw [ha, show (Int32.ofNat 1).toInt = 1 from rfl] at z; omega)
      (fun _ z => by
        rcases hn with rfl | rfl
        · refine ⟨up2 (up2 (up2 I 0 0 b) 373 5 0) 373 6 b, ?_, fun x j hx => ?_, ?_, up2_s⟩
          · rw [y 6, hx, ← h0.1]
          · rw [up2_ne _ _ (by omega), up2_ne _ _ (by omega)]
          · rw [up2_nek (by decide), up2_s]
        · rw [ha] at z; exact absurd z (by decide))
      (fun _ z => by
        rcases hn with rfl | rfl
        · rw [ha] at z; exact absurd z (by decide)
        · refine ⟨up2 (up2 (up2 I 0 1 b) 373 5 0) 373 7 b, ?_, fun x j hx => ?_, ?_, up2_s⟩
          · rw [y 7, hx, ← h0.2]
          · rw [up2_ne _ _ (by omega), up2_ne _ _ (by omega)]
          · rw [up2_nek (by decide), up2_s])
    rw [g2] at g1
    exact hfin K g3 g4 g5 g1
  -- the class's choose
  have hkb : kb (mk I J R) 0 0 = true := (mk_rep I J R).rkb (ci := 0) (ts := [0, 0, 2, 2, 2, 2, 0, 2, 2]) (by rw [Lay_LT]; rfl)
  have hgI : ∀ n, (n = 0 ∨ n = 1) → gI (mk I J R) 0 0 n = some (I 0 n) := by
    intro n hn
    rcases hn with rfl | rfl
    · exact (mk_rep I J R).rgI (ci := 0) (ts := [0, 0, 2, 2, 2, 2, 0, 2, 2]) (by rw [Lay_LT]; rfl) rfl
    · exact (mk_rep I J R).rgI (ci := 0) (ts := [0, 0, 2, 2, 2, 2, 0, 2, 2]) (by rw [Lay_LT]; rfl) rfl
  have hpv : ∀ n, (n = 0 ∨ n = 1) → pv (mk I J R) 0 0 n (.int b) = some (mk (up2 I 0 n b) J R) := by
    intro n hn
    rcases hn with rfl | rfl
    · exact mk_pI (ci := 0) (ts := [0, 0, 2, 2, 2, 2, 0, 2, 2]) rfl rfl b
    · exact mk_pI (ci := 0) (ts := [0, 0, 2, 2, 2, 2, 0, 2, 2]) rfl rfl b
  have hfa : f_a_choose 0 a b (mk I J R) = (if a < 0 then f_a_choose_18 (mk I J R) else if (1 : Int32) < a then f_a_choose_18 (mk I J R) else if b < 0 then f_a_choose_18 (mk I J R) else if b ≤ (5 : Int32) then (if a = 0 then (gI (mk I J R) 0 0 0).bind fun x8 => (pv (mk I J R) 0 0 0 (.int b)).bind fun w9 => f_a_choose_53 x8 w9 else (gI (mk I J R) 0 0 1).bind fun x6 => (pv (mk I J R) 0 0 1 (.int b)).bind fun w7 => f_a_choose_53 x6 w7) else f_a_choose_18 (mk I J R)) := by
    unfold f_a_choose; rw [if_pos hkb]
  by_cases c1 : a < 0
  · rw [if_pos c1] at hfa
    rw [i32lt, l32_0] at c1
    exact bad (by omega) hfa
  rw [if_neg c1] at hfa
  by_cases c2 : (1 : Int32) < a
  · rw [if_pos c2] at hfa
    rw [i32lt, l32_1] at c2
    exact bad (by omega) hfa
  rw [if_neg c2] at hfa
  by_cases c3 : b < 0
  · rw [if_pos c3] at hfa
    rw [i32lt, l32_0] at c3
    exact bad (by omega) hfa
  rw [if_neg c3] at hfa
  by_cases c4 : b ≤ (5 : Int32)
  · rw [if_pos c4] at hfa
    rw [i32le, l32_5] at c4
    rw [i32lt, l32_0] at c3 c1
    rw [i32lt, l32_1] at c2
    by_cases c5 : a = 0
    · rw [if_pos c5, hgI 0 (Or.inl rfl), Option.bind_some, hpv 0 (Or.inl rfl), Option.bind_some] at hfa
      exact good 0 (I 0 0) (Or.inl rfl) c5 (by omega) rfl hfa
    · rw [if_neg c5, hgI 1 (Or.inr rfl), Option.bind_some, hpv 1 (Or.inr rfl), Option.bind_some] at hfa
      refine good 1 (I 0 1) (Or.inr rfl) (i32eq.mpr ?_) (by omega) rfl hfa
      rw [i32eq, l32_0] at c5
      show a.toInt = 1
      omega
  · rw [if_neg c4] at hfa
    rw [i32le, l32_5] at c4
    exact bad (by omega) hfa
end INVS
theorem steps : Steps INV := by
  intro w hw
  obtain ⟨I, J, R, rfl, h, hq, h0⟩ := hw
  have h1 := h.up 1
  have h117 := h.up 117
  have h123 := h.up 123
  refine ⟨fun a => ?_, ?_, ?_, ?_, fun a b => seq_choose h hq h0 a b, fun a => ?_, ?_, fun a => ?_, fun a => ?_, ?_, fun a => ?_, fun a b => ?_, fun a => ?_⟩
  · refine seq_of hq h0 ?_ (fun I J R hR q Q k => c_text hR q k)
    unfold f_lw_text
    refine st_bdh (s_a_text h1 (fun r I' J' h' => ⟨fun v hv => ?_, fun E hE => (by cases hE)⟩) (fun E I' J' h' hE => ⟨fun v hv => (by cases hv), fun E2 hE2 => ?_⟩))
    · cases hv; exact cls_out (cls_of (by decide) h') _ (fun w' hw => hw)
    · cases hE2
      rcases hE with rfl | rfl
      · exact st_ite (fun _ => st_some (cls_of (by decide) h')) (fun c => absurd rfl c)
      · exact st_ite (fun c => absurd c (by decide)) (fun _ => st_ite (fun _ => st_some (cls_of (by decide) h')) (fun c => absurd rfl c))
  · refine seq_of hq h0 ?_ (fun I J R hR q Q k => c_clear q k)
    exact s_a_clear h1 (fun r I' J' h' => cls_of (by decide) h')
  · refine seq_of hq h0 ?_ (fun I J R hR q Q k => c_parse hR q k)
    unfold f_lw_parse
    refine st_bdh (s_a_parse h1 (fun r I' J' R' h' e' => ⟨fun v hv => ?_, fun E hE => (by cases hE)⟩) (fun E I' J' R' h' e' hE => ⟨fun v hv => (by cases hv), fun E2 hE2 => ?_⟩))
    · cases hv; exact cls_out (cls_of0 h' e') _ (fun w' hw => hw)
    · cases hE2
      have hE : E = "java/lang/IllegalArgumentException" := hE
      subst hE
      exact st_ite (fun _ => st_some (cls_of0 h' e')) (fun c => absurd rfl c)
  · refine seq_of hq h0 ?_ (fun I J R hR q Q k => c_where q k)
    exact s_a_where h1 (fun r => cls_of (by decide) h1)
  · refine seq_of hq h0 ?_ (fun I J R hR q Q k => c_input hR q k)
    unfold f_lw_input
    refine st_bdh (s_a_input h117 (fun r I' J' h' => ⟨fun v hv => ?_, fun E hE => (by cases hE)⟩) (fun E I' J' h' hE => ⟨fun v hv => (by cases hv), fun E2 hE2 => ?_⟩))
    · cases hv; exact cls_out (cls_of (by decide) h') _ (fun w' hw => hw)
    · cases hE2
      subst hE
      exact st_ite (fun _ => st_some (cls_of (by decide) h')) (fun c => absurd rfl c)
  · refine seq_of hq h0 ?_ (fun I J R hR q Q k => c_forget q k)
    exact s_a_forget h117 (fun r I' J' h' => cls_of (by decide) h')
  · refine seq_of hq h0 ?_ (fun I J R hR q Q k => c_run hR q k)
    unfold f_lw_run
    refine st_bdh (s_a_run h117 (fun r I' J' R' h' => ⟨fun v hv => ?_, fun E hE => (by cases hE)⟩) (fun E I' J' R' h' hE => ⟨fun v hv => (by cases hv), fun E2 hE2 => ?_⟩))
    · cases hv; exact cls_out (cls_of (by decide) h') _ (fun w' hw => hw)
    · cases hE2
      have fin := fun k : Int32 => st_some (x := (k, mk I' J' R')) (Q := fun p => CLS I J p.2) (cls_of (by decide) h')
      have hE : E = "java/lang/IllegalArgumentException" ∨ E = "java/lang/IllegalStateException" ∨ E = "java/lang/IndexOutOfBoundsException" ∨ E = "java/lang/ArithmeticException" ∨ E = "java/lang/UnsupportedOperationException" := hE
      refine st_ite (fun _ => fin _) (fun c1 => st_ite (fun _ => fin _) (fun c2 => st_ite (fun _ => fin _) (fun c3 => st_ite (fun _ => fin _) (fun c4 => st_ite (fun _ => fin _) (fun c5 => ?_)))))
      rcases hE with z | z | z | z | z
      · exact absurd z c1
      · exact absurd z c2
      · exact absurd z c3
      · exact absurd z c4
      · exact absurd z c5
  · refine seq_of hq h0 ?_ (fun I J R hR q Q k => c_ran hR q k)
    unfold f_lw_ran
    refine st_bdh (s_a_ran h123 (fun r I' J' h' => ⟨fun v hv => ?_, fun E hE => (by cases hE)⟩) (fun E I' J' h' hE => ⟨fun v hv => (by cases hv), fun E2 hE2 => ?_⟩))
    · cases hv; exact cls_out (cls_of (by decide) h') _ (fun w' hw => hw)
    · cases hE2
      subst hE
      exact st_ite (fun _ => st_some (cls_of (by decide) h')) (fun c => absurd rfl c)
  · refine seq_of hq h0 ?_ (fun I J R hR q Q k => c_analyse hR q k)
    unfold f_lw_analyse
    refine st_bdh (s_a_analyse h123 (fun r I' J' R' h' => ⟨fun v hv => ?_, fun E hE => (by cases hE)⟩) (fun E I' J' R' h' hE => ⟨fun v hv => (by cases hv), fun E2 hE2 => ?_⟩))
    · cases hv; exact cls_out (cls_of (by decide) h') _ (fun w' hw => hw)
    · cases hE2
      subst hE
      exact st_ite (fun _ => st_some (cls_of (by decide) h')) (fun c => absurd rfl c)
  · refine seq_of hq h0 ?_ (fun I J R hR q Q k => c_warning hR q k)
    unfold f_lw_warning
    refine st_bdh (s_a_warning h123 (fun r I' J' h' => ⟨fun v hv => ?_, fun E hE => (by cases hE)⟩) (fun E I' J' h' hE => ⟨fun v hv => (by cases hv), fun E2 hE2 => ?_⟩))
    · cases hv; exact cls_out (cls_of (by decide) h') _ (fun w' hw => hw)
    · cases hE2
      subst hE
      exact st_ite (fun _ => st_some (cls_of (by decide) h')) (fun c => absurd rfl c)
  · refine seq_of hq h0 ?_ (fun I J R hR q Q k => c_left hR q k)
    unfold f_lw_left
    refine st_bdh (s_a_left h123 (fun r I' J' h' => ⟨fun v hv => ?_, fun E hE => (by cases hE)⟩) (fun E I' J' h' hE => ⟨fun v hv => (by cases hv), fun E2 hE2 => ?_⟩))
    · cases hv; exact cls_out (cls_of (by decide) h') _ (fun w' hw => hw)
    · cases hE2
      have fin := fun k : Int32 => st_some (x := (k, mk I' J' R)) (Q := fun p => CLS I J p.2) (cls_of (by decide) h')
      refine st_ite (fun _ => fin _) (fun c1 => st_ite (fun _ => fin _) (fun c2 => st_ite (fun _ => fin _) (fun c3 => st_ite (fun _ => fin _) (fun c4 => ?_))))
      rcases hE with z | z | z | z
      · exact absurd z c1
      · exact absurd z c2
      · exact absurd z c3
      · exact absurd z c4
  · refine seq_of hq h0 ?_ (fun I J R hR q Q k => c_count hR q k)
    unfold f_lw_count
    refine st_bdh (s_a_count h123 (fun r I' J' h' => ⟨fun v hv => ?_, fun E hE => (by cases hE)⟩) (fun E I' J' h' hE => ⟨fun v hv => (by cases hv), fun E2 hE2 => ?_⟩))
    · cases hv; exact cls_out (cls_of (by decide) h') _ (fun w' hw => hw)
    · cases hE2
      subst hE
      exact st_ite (fun _ => st_some (cls_of (by decide) h')) (fun c => absurd rfl c)
