/-! The reference: blocks, whole STATEMENTS, the PROGRAM. -/
section STU
variable {I I' : IM} {J : JM} {R : RM} {H : Nat} {d : Nat → Nat}
theorem exTail_eq {A B : Nat} {s r : Int32} {F : WW → Option WW} {w : WW} : exTail A B s F r w = ((sI w A 0 s r).bind fun w9 => (gN w9 373 9 (B - 367)).bind fun x10 => (gI w9 373 9 32).bind fun x11 => (gN w9 373 9 23).bind fun x12 => (gI w9 373 9 32).bind fun x13 => (rI w9 x12 0 x13).bind fun x14 => (sI w9 x10 0 s (((220 : Int32) * x11) + x14)).bind F) := rfl
theorem e1_of {A0 B0 : Nat} {s : Nat} (h1 : (I 379 s).toInt = A0) (h2 : (I 380 s).toInt = B0) (hw : WFX I A0 B0) : E1 I s := by
  unfold E1
  rw [show (I 379 s).toInt.toNat = A0 by omega, show (I 380 s).toInt.toNat = B0 by omega]
  exact ⟨by omega, by omega, hw⟩
theorem e2_of {A0 B0 : Nat} {s : Nat} (h1 : (I 381 s).toInt = A0) (h2 : (I 382 s).toInt = B0) (hw : WFX I A0 B0) : E2 I s := by
  unfold E2
  rw [show (I 381 s).toInt.toNat = A0 by omega, show (I 382 s).toInt.toNat = B0 by omega]
  exact ⟨by omega, by omega, hw⟩
theorem st_of {hi : Nat} {k : Int} (hm : MID I H d hi k) (h0 : 0 ≤ k ∧ k ≤ 5) (h1 : k ≠ 1 → E1 I hi) (h2 : 2 ≤ k → E2 I hi) : ST I hi := by
  obtain ⟨_, m2, m3, m4, m5, _⟩ := hm
  unfold ST
  rw [m2]
  exact ⟨h0, m3, m4, m5, h1, h2⟩
theorem MID.b {hi : Nat} {k : Int} (h : MID I H d hi k) : H ≤ 1 ∧ (I 373 32).toInt = H ∧ 0 ≤ (I 390 H).toInt ∧ 80 * H ≤ hi ∧ hi < 80 * H + 79 ∧ (I 376 hi).toInt = k ∧ 0 ≤ (I 373 33).toInt ∧ (I 373 33).toInt ≤ 3 := by
  obtain ⟨⟨g1, g2, g3, g4, g5, g6, g7, g8, g9⟩, m2, m3, m4, m5, m6, m7, m8, m9, m10, m11⟩ := h
  exact ⟨g1, g2, g5, m10, m11, m2, g3, g4⟩
theorem q_assignment (hR : QR R) (hg : PLG I H d) (hb0 : (I 373 34).toInt = 0) (htk : (I 373 30).toInt = 2) {Q : WW → Prop} (k : ∀ I', PZ H I I' → ((I' 373 34).toInt = 0 → (∃ d', PLG I' H d') ∧ (I 373 29).toInt + 1 ≤ (I' 373 29).toInt) → Q (mk I' J R)) : wp (f_q_assignment 373 (mk I J R)) Q := by
  have hb := hg.b
  unfold f_q_assignment
  refine st_kb rfl (st_bd2 (q_statement hR hg (by omega) (fun _ => htk) (fun z => absurd z (by decide)) (fun s I1 d1 hs p1 b1 m1 t1 l1 g1 => ?_)))
  generalize hhi : 80 * H + (I 389 H).toInt.toNat = hi at *
  have hmn : 3 * ((hi : Int) - 80 * H) ≤ (I 373 29).toInt := by omega
  dsimp only
  refine st_bd (q_expect hR (fun _ => t1) (fun I2 y2 g2 => ?_))
  have m2 := m1.yf y2
  have mb := m2.b
  have e2 : I2 390 H = I 390 H := by rw [y2 _ _ (by omega), g1]
  have sn : s.toInt.toNat = hi := by omega
  have pz2 : PZ H I I2 := p1.trans y2.pz
  have semi : ∀ I3, PZ H I I3 → ((I3 373 34).toInt = 0 → TOK I3 ∧ ∃ kk : Int, (kk = 0 ∨ kk = 1) ∧ MID I3 H d1 hi kk ∧ (kk ≠ 1 → E1 I3 hi) ∧ EB I3 hi (220 * H) (220 * H + (I3 390 H).toInt.toNat) ∧ (I3 390 H).toInt ≤ (I3 373 29).toInt ∧ (I 373 29).toInt + 2 ≤ (I3 373 29).toInt) → wp (f_q_assignment_83 373 (mk I3 J R)) Q := by
    intro I3 p3 g3
    unfold f_q_assignment_83
    refine st_bd (q_expect hR (fun z => (g3 z).1) (fun I4 y4 g4 => st_some (k I4 (p3.trans y4.pz) (fun z => ?_))))
    obtain ⟨z1, z2, z3⟩ := g4 z
    obtain ⟨v1, kk, v2, v3, v4, v5, v6, v7⟩ := g3 z1
    have m4 := v3.yf y4
    have e4 : I4 390 H = I3 390 H := y4 _ _ (by omega)
    have ea : ∀ x, 376 ≤ x → x ≤ 382 → I4 x hi = I3 x hi := fun x _ _ => y4 _ _ (by omega)
    obtain ⟨s1, s2⟩ := SE.st (st_of v3 (by omega) v4 (fun z => by omega)) v5 ea (fun x j _ _ _ _ => y4 _ _ (by omega))
    exact ⟨⟨d1, m4.done s1 (by rw [e4]; exact s2) (fun z => by omega) z2 (by rw [e4]; omega) (by omega)⟩, by omega⟩
  have ex49 : wp (f_q_assignment_49 373 s (mk I2 J R)) Q := by
    unfold f_q_assignment_49
    refine qn_12 hR ?_
    refine q_ex (A := 379) (B := 380) hR (Or.inl ⟨rfl, rfl⟩) (by omega) mb.2.1 mb.1 (fun z => ⟨(g2 z).2.1, mb.2.2.1, by rw [e2]; have := (g2 z).2.2; omega⟩) (fun I3 f3 g3 => ?_)
    rw [sn] at f3 g3
    refine semi I3 (pz2.trans (f3.pz (by omega) (by omega) (by decide) (by decide))) (fun z => ?_)
    obtain ⟨v1, v2, v3, v4, v5, v6, v7, v8⟩ := g3 z
    have l2 := (g2 v1).2.2
    have m3 := f3.mid m2 (by decide) (by decide) v4
    have m3b := m3.b
    refine ⟨v2, 0, Or.inl rfl, m3, fun _ => e1_of (A0 := 220 * H + (I2 390 H).toInt.toNat) (B0 := 220 * H + (I3 390 H).toInt.toNat) (by omega) (by omega) v8, ⟨fun _ => ⟨by omega, by omega⟩, fun z => ?_⟩, v5, by omega⟩
    have h376 := m3.2.1
    rw [l32_0] at h376
    omega
  refine st_gI rfl rfl rfl (st_ite (fun c => ?_) (fun _ => ex49))
  have c' : (I2 373 34).toInt = 0 := by rw [c]; rfl
  obtain ⟨w1, w2, w3⟩ := g2 c'
  refine st_gI rfl rfl rfl (st_ite (fun c4 => ?_) (fun _ => ex49))
  have c4' : (I2 373 30).toInt = 4 := by rw [c4]; rfl
  refine st_gI rfl rfl rfl (st_ite (fun _ => ?_) (fun _ => ex49))
  refine qn_9 hR (st_sI (n := 160) rfl (by omega) ?_)
  rw [sn]
  have fK : ∀ x j, (x ≠ 376 ∨ j ≠ hi) → up2 I2 376 hi 1 x j = I2 x j := fun x j hx => up2_ne _ _ (by omega)
  have vK : up2 I2 376 hi 1 376 hi = 1 := up2_s
  generalize up2 I2 376 hi 1 = K at *
  have tK : TOK K := w2.keep (fK _ _ (by omega)) (fun j _ _ => fK _ _ (by omega))
  have mK : MID K H d1 hi 1 := by
    obtain ⟨q1, q2, q3, q4, q5, q6, q7, q8, q9, q10⟩ := m2
    refine ⟨q1.keep (fun j _ => fK _ _ (by omega)) (fK _ _ (by omega)) (fun x j _ _ => fK _ _ (by omega)) (by rw [fK _ _ (by omega)]; exact Int.le_refl _) (fun x j _ _ _ _ => fK _ _ (by omega)) (fun x j _ _ _ _ => fK _ _ (by omega)), by rw [vK]; rfl, by rw [fK _ _ (by omega)]; exact q3, fun _ => by rw [fK _ _ (by omega)]; exact q4 (by decide), fun z => absurd z (by decide), by rw [fK _ _ (by omega)]; exact q6, by rw [fK _ _ (by omega)]; exact q7, by rw [fK _ _ (by omega)]; exact q8, by rw [fK _ _ (by omega)]; exact q9, q10⟩
  refine st_bd (q_read hR tK (fun I3 y3 b3 t3 _ l3 => ?_))
  have l3' := l3 (by rw [fK _ _ (by omega), c4']; decide)
  rw [fK _ _ (by omega)] at l3'
  have e3 : I3 390 H = I 390 H := by rw [y3 _ _ (by omega), fK _ _ (by omega), e2]
  refine semi I3 (pz2.trans ((show PZ H I2 K from fun x j hx => fK x j (by omega)).trans y3.pz)) (fun _ => ⟨t3, 1, Or.inr rfl, mK.yf y3, fun z => absurd rfl z, ⟨fun z => ?_, fun z => ?_⟩, by rw [e3]; omega, by omega⟩)
  · exact absurd (by rw [y3 _ _ (by omega), vK]; rfl) z
  · rw [y3 _ _ (by omega), vK, l32_1] at z; omega
theorem q_storing (hR : QR R) (hg : PLG I H d) (hb0 : (I 373 34).toInt = 0) (htk : (I 373 30).toInt = 3) {Q : WW → Prop} (k : ∀ I', PZ H I I' → ((I' 373 34).toInt = 0 → (∃ d', PLG I' H d') ∧ (I 373 29).toInt + 1 ≤ (I' 373 29).toInt) → Q (mk I' J R)) : wp (f_q_storing 373 (mk I J R)) Q := by
  have hb := hg.b
  unfold f_q_storing
  refine st_kb rfl (st_bd2 (q_statement hR hg (by omega) (fun z => absurd z (by decide)) (fun _ => htk) (fun s I1 d1 hs p1 b1 m1 t1 l1 g1 => ?_)))
  generalize hhi : 80 * H + (I 389 H).toInt.toNat = hi at *
  have hmn : 3 * ((hi : Int) - 80 * H) ≤ (I 373 29).toInt := by omega
  dsimp only
  refine st_bd (q_expect hR (fun _ => t1) (fun I2 y2 g2 => ?_))
  have m2 := m1.yf y2
  have mb := m2.b
  have e2 : I2 390 H = I 390 H := by rw [y2 _ _ (by omega), g1]
  have sn : s.toInt.toNat = hi := by omega
  have pz2 : PZ H I I2 := p1.trans y2.pz
  refine qn_12 hR ?_
  refine q_ex (A := 379) (B := 380) hR (Or.inl ⟨rfl, rfl⟩) (by omega) mb.2.1 mb.1 (fun z => ⟨(g2 z).2.1, mb.2.2.1, by rw [e2]; have := (g2 z).2.2; omega⟩) (fun I3 f3 g3 => ?_)
  rw [sn] at f3 g3
  have pz3 := pz2.trans (f3.pz (by omega) (by omega) (by decide) (by decide))
  have h32 : ∀ I9, PZ H I I9 → (I9 373 32).toInt = H := fun I9 p9 => by rw [p9 373 32 (by omega)]; exact hb.2.1
  refine st_bd (q_expect hR (fun z => (g3 z).2.1) (fun I4 y4 g4 => ?_))
  refine st_bd (q_expect hR (fun z => (g4 z).2.1) (fun I5 y5 g5 => ?_))
  have y35 := y4.trans y5
  have pz5 : PZ H I I5 := pz3.trans y35.pz
  -- what holds at I5 if no fault was found
  have g35 : (I5 373 34).toInt = 0 → MID I5 H d1 hi 2 ∧ TOK I5 ∧ (I 373 29).toInt + 4 ≤ (I5 373 29).toInt ∧ (I5 390 H).toInt ≤ (I5 373 29).toInt ∧ (I5 379 hi).toInt = 220 * H + (I2 390 H).toInt ∧ (I5 380 hi).toInt = 220 * H + (I5 390 H).toInt ∧ WFX I5 (220 * H + (I2 390 H).toInt.toNat) (220 * H + (I5 390 H).toInt.toNat) := by
    intro z
    obtain ⟨a1, a2, a3⟩ := g5 z
    obtain ⟨b1', b2', b3'⟩ := g4 a1
    obtain ⟨v1, v2, v3, v4, v5, v6, v7, v8⟩ := g3 b1'
    have l2 := (g2 v1).2.2
    have m3 := f3.mid m2 (by decide) (by decide) v4
    have e5 : ∀ x j, x ≠ 373 → I5 x j = I3 x j := fun x j hx => y35 x j (by omega)
    rw [e5 390 H (by decide), e5 379 hi (by decide), e5 380 hi (by decide)]
    exact ⟨m3.yf y35, a2, by omega, by omega, v6, v7, v8.congr (fun x j _ _ _ _ => e5 x j (by omega))⟩
  refine qn_14 hR ?_
  refine q_ex (A := 381) (B := 382) hR (Or.inr ⟨rfl, rfl⟩) (by omega) (h32 _ pz5) hb.1 (fun z => ⟨(g35 z).2.1, (g35 z).1.b.2.2.1, (g35 z).2.2.2.1⟩) (fun I6 f6 g6 => ?_)
  rw [sn] at f6 g6
  have pz6 : PZ H I I6 := pz5.trans (f6.pz (by omega) (by omega) (by decide) (by decide))
  refine st_bd (q_expect hR (fun z => (g6 z).2.1) (fun I7 y7 g7 => st_some (k I7 (pz6.trans y7.pz) (fun z => ?_))))
  obtain ⟨a1, a2, a3⟩ := g7 z
  obtain ⟨v1, v2, v3, v4, v5, v6, v7, v8⟩ := g6 a1
  obtain ⟨w1, w2, w3, w4, w5, w6, w7⟩ := g35 v1
  have wb := w1.b
  have m6 := f6.mid w1 (by decide) (by decide) v4
  have e7 : ∀ x j, x ≠ 373 → I7 x j = I6 x j := fun x j hx => y7 x j (by omega)
  have x379 : I7 379 hi = I5 379 hi := by rw [e7 _ _ (by decide), f6 _ _ (by omega) (by omega)]
  have x380 : I7 380 hi = I5 380 hi := by rw [e7 _ _ (by decide), f6 _ _ (by omega) (by omega)]
  have x390 := e7 390 H (by decide)
  have m7 := m6.yf y7
  have m7k := m7.2.1
  refine ⟨⟨d1, m7.done (st_of m7 (by decide) (fun _ => e1_of (A0 := 220 * H + (I2 390 H).toInt.toNat) (B0 := 220 * H + (I5 390 H).toInt.toNat) (by rw [x379]; omega) (by rw [x380]; omega) (w7.congr (fun x j x1 x2 j1 j2 => by rw [e7 _ _ (by omega), f6 _ _ (by omega) (by omega)]))) (fun _ => e2_of (A0 := 220 * H + (I5 390 H).toInt.toNat) (B0 := 220 * H + (I6 390 H).toInt.toNat) (by rw [e7 _ _ (by decide)]; omega) (by rw [e7 _ _ (by decide)]; omega) (v8.congr (fun x j _ _ _ _ => e7 x j (by omega))))) ⟨fun _ => ?_, fun _ => ?_⟩ (fun z => by omega) a2 (by rw [x390]; omega) (by omega)⟩, by omega⟩
  · rw [x379, x380, x390]; omega
  · rw [e7 381 _ (by decide), e7 382 _ (by decide), x390]; omega
theorem q_condition (hR : QR R) {hi : Nat} {kk : Int} {s : Int32} (hs : s.toInt = hi) (h32 : (I 373 32).toInt = H) (hH : H ≤ 1) (hh : 80 * H ≤ hi ∧ hi < 80 * H + 79) (hg : (I 373 34).toInt = 0 → MID I H d hi kk ∧ TOK I ∧ (I 390 H).toInt ≤ (I 373 29).toInt) {Q : WW → Prop} (k : ∀ I', PZ H I I' → ((I' 373 34).toInt = 0 → (I 373 34).toInt = 0 ∧ MID I' H d hi kk ∧ TOK I' ∧ (I 373 29).toInt ≤ (I' 373 29).toInt ∧ (I' 390 H).toInt ≤ (I' 373 29).toInt ∧ E1 I' hi ∧ E2 I' hi ∧ EB I' hi (220 * H) (220 * H + (I' 390 H).toInt.toNat)) → Q (mk I' J R)) : wp (f_q_condition 373 s (mk I J R)) Q := by
  have sn : s.toInt.toNat = hi := by omega
  unfold f_q_condition
  refine st_kb rfl (qn_12 hR ?_)
  refine q_ex (A := 379) (B := 380) hR (Or.inl ⟨rfl, rfl⟩) (by omega) h32 hH (fun z => ⟨(hg z).2.1, (hg z).1.b.2.2.1, (hg z).2.2⟩) (fun I1 f1 g1 => ?_)
  rw [sn] at f1 g1
  have pz1 : PZ H I I1 := f1.pz (by omega) (by omega) (by decide) (by decide)
  have e132 : ∀ I2, PZ H I I2 → ((I2 373 34).toInt = 0 → (I 373 34).toInt = 0 ∧ (I2 373 30).toInt ≠ 0 ∧ MID I2 H d hi kk ∧ TOK I2 ∧ (I 373 29).toInt ≤ (I2 373 29).toInt ∧ (I2 390 H).toInt ≤ (I2 373 29).toInt ∧ (I2 379 hi).toInt = 220 * H + (I 390 H).toInt ∧ (I2 380 hi).toInt = 220 * H + (I2 390 H).toInt ∧ WFX I2 (220 * H + (I 390 H).toInt.toNat) (220 * H + (I2 390 H).toInt.toNat)) → wp (f_q_condition_132 373 s (mk I2 J R)) Q := by
    intro I2 p2 g2
    unfold f_q_condition_132
    refine st_gI rfl rfl rfl (st_ite (fun c => ?_) (fun c => st_some (k I2 p2 (fun z => absurd (i32eq.mpr z) c))))
    have c' : (I2 373 34).toInt = 0 := by rw [c]; rfl
    obtain ⟨v0, v1, v2, v3, v4, v5, v6, v7, v8⟩ := g2 c'
    have vb := v2.b
    refine st_bd (q_read hR v3 (fun I3 y3 b3 t3 l3 l3' => ?_))
    have m3 := v2.yf y3
    have e3 : ∀ x j, x ≠ 373 → I3 x j = I2 x j := fun x j hx => y3 x j (by omega)
    have pz3 : PZ H I I3 := p2.trans y3.pz
    have m3b := m3.b
    refine qn_14 hR ?_
    refine q_ex (A := 381) (B := 382) hR (Or.inr ⟨rfl, rfl⟩) (by omega) m3b.2.1 hH (fun z => ⟨t3, m3b.2.2.1, by rw [e3 _ _ (by decide)]; omega⟩) (F := fun w => some w) (fun I4 f4 g4 => st_some (k I4 (pz3.trans (by rw [sn] at f4; exact f4.pz (by omega) (by omega) (by decide) (by decide))) (fun z => ?_)))
    rw [sn] at f4 g4
    obtain ⟨w1, w2, w3, w4, w5, w6, w7, w8⟩ := g4 z
    have m4 := f4.mid m3 (by decide) (by decide) w4
    have x379 : I4 379 hi = I2 379 hi := by rw [f4 _ _ (by omega) (by omega), e3 _ _ (by decide)]
    have x380 : I4 380 hi = I2 380 hi := by rw [f4 _ _ (by omega) (by omega), e3 _ _ (by decide)]
    have x390 := e3 390 H (by decide)
    have v8' : WFX I4 (220 * H + (I 390 H).toInt.toNat) (220 * H + (I2 390 H).toInt.toNat) := v8.congr (fun x j x1 x2 j1 j2 => by rw [f4 _ _ (by omega) (by rw [x390]; omega), e3 _ _ (by omega)])
    rw [x390] at w4 w6 w8
    have hw0 := v8.1
    have m0 := (hg v0).1.b
    refine ⟨v0, m4, w2, by omega, w5, e1_of (A0 := 220 * H + (I 390 H).toInt.toNat) (B0 := 220 * H + (I2 390 H).toInt.toNat) (by rw [x379]; omega) (by rw [x380]; omega) v8', e2_of (A0 := 220 * H + (I2 390 H).toInt.toNat) (B0 := 220 * H + (I4 390 H).toInt.toNat) (by omega) (by omega) w8, ⟨fun _ => ?_, fun _ => ?_⟩⟩
    · rw [x379, x380]; omega
    · omega
  -- sign, and whether it is one
  have e81 : ∀ z : Int32, wp (f_q_condition_81 373 s 383 s z (mk I1 J R)) Q := by
    intro z0
    unfold f_q_condition_81
    refine st_sI (n := 160) rfl (by omega) ?_
    rw [sn]
    have fK : ∀ x j, (x ≠ 383 ∨ j ≠ hi) → up2 I1 383 hi z0 x j = I1 x j := fun x j hx => up2_ne _ _ (by omega)
    generalize up2 I1 383 hi z0 = K at *
    have pzK : PZ H I K := pz1.trans (fun x j hx => fK x j (by omega))
    have gK : (K 373 34).toInt = 0 → (K 373 30).toInt ≠ 0 → (I 373 34).toInt = 0 ∧ (K 373 30).toInt ≠ 0 ∧ MID K H d hi kk ∧ TOK K ∧ (I 373 29).toInt ≤ (K 373 29).toInt ∧ (K 390 H).toInt ≤ (K 373 29).toInt ∧ (K 379 hi).toInt = 220 * H + (I 390 H).toInt ∧ (K 380 hi).toInt = 220 * H + (K 390 H).toInt ∧ WFX K (220 * H + (I 390 H).toInt.toNat) (220 * H + (K 390 H).toInt.toNat) := by
      intro z ztk
      rw [fK _ _ (by omega)] at z
      obtain ⟨v1, v2, v3, v4, v5, v6, v7, v8⟩ := g1 z
      have m1 := f1.mid (hg v1).1 (by decide) (by decide) v4
      rw [fK 373 29 (by omega), fK 390 H (by omega), fK 379 hi (by omega), fK 380 hi (by omega)]
      exact ⟨v1, ztk, m1.keep (fun j _ => fK _ _ (by omega)) (fun x _ _ => fK _ _ (by omega)) (fun x j _ _ => fK _ _ (by omega)) (by rw [fK _ _ (by omega)]; exact Int.le_refl _) (fun x j _ _ _ _ => fK _ _ (by omega)) (fun x hx => fK _ _ (by omega)) (fun x j _ _ _ _ => fK _ _ (by omega)), v2.keep (fK _ _ (by omega)) (fun j _ _ => fK _ _ (by omega)), v3, v5, v6, v7, v8.congr (fun x j _ _ _ _ => fK _ _ (by omega))⟩
    have good : (K 373 30).toInt ≠ 0 → wp (f_q_condition_132 373 s (mk K J R)) Q := fun ztk => e132 K pzK (fun z => gK z ztk)
    refine st_gI rfl rfl rfl (st_ite (fun c => ?_) (fun c => e132 K pzK (fun z => absurd (i32eq.mpr z) c)))
    refine st_bd2 (s_q_is hR (fun r _ hr => ?_))
    dsimp only
    refine st_ite (fun _ => ?_) (fun cc => good (by have := hr (fun z => cc (i32eq.mpr z)); omega))
    refine st_bd2 (s_q_is hR (fun r _ hr => ?_))
    dsimp only
    refine st_ite (fun _ => ?_) (fun cc => good (by have := hr (fun z => cc (i32eq.mpr z)); omega))
    refine st_bd2 (s_q_is hR (fun r _ hr => ?_))
    dsimp only
    refine st_ite (fun _ => ?_) (fun cc => good (by have := hr (fun z => cc (i32eq.mpr z)); omega))
    refine st_bd2 (s_q_is hR (fun r _ hr => ?_))
    dsimp only
    refine st_ite (fun _ => ?_) (fun cc => good (by have := hr (fun z => cc (i32eq.mpr z)); omega))
    exact st_bd (s_q_wrong (fun I2 z1 _ z3 => e132 I2 (pzK.trans z1.pz) (fun z => by omega)))
  refine qn_16 hR ?_
  refine st_bd2 (s_q_is hR (fun r _ _ => ?_))
  dsimp only
  refine st_ite (fun _ => ?_) (fun _ => e81 _)
  refine st_bd2 (s_q_is hR (fun r _ _ => ?_))
  dsimp only
  refine st_ite (fun _ => ?_) (fun _ => e81 _)
  refine st_bd2 (s_q_is hR (fun r _ _ => ?_))
  exact st_ite (fun _ => e81 _) (fun _ => e81 _)
theorem q_openBlock (hR : QR R) {s p : Int32} {sn : Nat} (hs : s.toInt = sn) (hh : 80 * H ≤ sn ∧ sn < 80 * H + 79) (hH : H ≤ 1) (hp : B01 p) (hg : (I 373 34).toInt = 0 → TOK I ∧ 0 ≤ (I 373 33).toInt ∧ (I 373 33).toInt ≤ 3) {Q : WW → Prop} (k : ∀ I', PZ H I I' → ((I' 373 34).toInt = 0 → (I 373 34).toInt = 0 ∧ TOK I' ∧ (I 373 29).toInt + 1 ≤ (I' 373 29).toInt ∧ (I 373 33).toInt ≤ 2 ∧ (∀ x j, (x ≠ 373 ∨ j = 32) → ((x ≠ 394 ∧ x ≠ 395 ∧ x ≠ 396) ∨ j ≠ (I 373 33).toInt.toNat + 1) → ((x ≠ 384 ∨ p = 1) ∧ (x ≠ 385 ∨ p = 0) ∨ j ≠ sn) → I' x j = I x j) ∧ (I' 373 33).toInt = (I 373 33).toInt + 1 ∧ I' 394 ((I 373 33).toInt.toNat + 1) = s ∧ (I' 396 ((I 373 33).toInt.toNat + 1)).toInt = -1 ∧ (p = 0 → (I' 384 sn).toInt = -1) ∧ (p = 1 → (I' 385 sn).toInt = -1)) → Q (mk I' J R)) : wp (f_q_openBlock 373 s p (mk I J R)) Q := by
  have en : s.toInt.toNat = sn := by omega
  unfold f_q_openBlock f_q_openBlock_25 f_q_openBlock_95
  refine st_kb rfl (st_gI rfl rfl rfl (st_ite (fun c => ?_) (fun c => st_some (k I (PZ.refl _ _) (fun z => absurd (i32eq.mpr z) c)))))
  have c' : (I 373 34).toInt = 0 := by rw [c]; rfl
  obtain ⟨t0, d0, d3⟩ := hg c'
  have wr : wp ((f_q_wrong 373 (mk I J R)).bind fun w6 => some w6) Q := st_bd (s_q_wrong (fun I2 z1 _ z3 => st_some (k I2 z1.pz (fun z => by omega))))
  refine st_bd2 (s_q_is hR (fun r _ hr => ?_))
  dsimp only
  refine st_ite (fun _ => wr) (fun cr => ?_)
  have htk := (hr (fun z => cr (i32eq.mpr z))).1
  refine st_gI rfl rfl rfl (st_ite (fun _ => wr) (fun cd => ?_))
  rw [i32eq, l32_3] at cd
  refine st_bd (q_read hR t0 (fun I1 y1 b1 t1 l1 l1' => ?_))
  have l2 := l1' (by omega)
  have e33 : I1 373 33 = I 373 33 := y1 _ _ (by omega)
  have x33 : (I1 373 33 + 1).toInt = (I 373 33).toInt + 1 := by rw [i32addc (by rw [e33, l32_1]; omega), e33, l32_1]
  generalize hdn : (I 373 33).toInt.toNat + 1 = dn at *
  have xn : (I1 373 33 + 1).toInt.toNat = dn := by omega
  refine st_gI rfl rfl rfl (st_pI rfl rfl (qn_35 hR (st_gI rfl rfl up2_s (st_sI (n := 8) rfl (by omega) (qn_36 hR (st_gI rfl rfl ((up2_nea (by decide)).trans up2_s) (st_sI (n := 8) rfl (by omega) (qn_37 hR (st_gI rfl rfl ((up2_nea (by decide)).trans ((up2_nea (by decide)).trans up2_s)) (st_sI (n := 8) rfl (by omega) ?_)))))))))) 
  rw [xn]
  have fin : ∀ (x0 : Nat), ((x0 = 384 ∧ p = 0) ∨ (x0 = 385 ∧ p = 1)) → Q (mk (up2 (up2 (up2 (up2 (up2 I1 373 33 (I1 373 33 + 1)) 394 dn s) 395 dn p) 396 dn (-1)) x0 sn (-1)) J R) := by
    intro x0 hx0
    have fr : ∀ x j, (x ≠ 373 ∨ j ≠ 33) → ((x ≠ 394 ∧ x ≠ 395 ∧ x ≠ 396) ∨ j ≠ dn) → (x ≠ x0 ∨ j ≠ sn) → up2 (up2 (up2 (up2 (up2 I1 373 33 (I1 373 33 + 1)) 394 dn s) 395 dn p) 396 dn (-1)) x0 sn (-1) x j = I1 x j := fun x j z1 z2 z3 => by
      rw [up2_ne _ _ (by omega), up2_ne _ _ (by omega), up2_ne _ _ (by omega), up2_ne _ _ (by omega), up2_ne _ _ (by omega)]
    refine k _ (fun x j hx => ?_) (fun z => ⟨c', t1.keep (fr _ _ (by omega) (by omega) (by omega)) (fun j _ _ => fr _ _ (by omega) (by omega) (by omega)), by rw [fr _ _ (by omega) (by omega) (by omega)]; exact l2, by omega, fun x j z1 z2 z3 => ?_, ?_, ?_, ?_, fun zp => ?_, fun zp => ?_⟩)
    · rw [fr _ _ (by omega) (by omega) (by omega), y1 _ _ (by omega)]
    · rw [fr _ _ (by omega) z2 ?_, y1 _ _ (by omega)]
      rcases hx0 with ⟨rfl, hp0⟩ | ⟨rfl, hp0⟩
      · rcases z3 with ⟨z3, _⟩ | z3
        · rcases z3 with z3 | z3
          · exact Or.inl z3
          · rw [hp0] at z3; exact absurd z3 (by decide)
        · exact Or.inr z3
      · rcases z3 with ⟨_, z3⟩ | z3
        · rcases z3 with z3 | z3
          · exact Or.inl z3
          · rw [hp0] at z3; exact absurd z3 (by decide)
        · exact Or.inr z3
    · rw [up2_ne _ _ (by omega), up2_nea (by decide), up2_nea (by decide), up2_nea (by decide), up2_s]; exact x33
    · rw [up2_ne _ _ (by omega), up2_nea (by decide), up2_nea (by decide), up2_s]
    · rw [up2_ne _ _ (by omega), up2_s]; rfl
    · rcases hx0 with ⟨rfl, hp0⟩ | ⟨rfl, hp0⟩
      · rw [up2_s]; rfl
      · rw [zp] at hp0; exact absurd hp0 (by decide)
    · rcases hx0 with ⟨rfl, hp0⟩ | ⟨rfl, hp0⟩
      · rw [zp] at hp0; exact absurd hp0 (by decide)
      · rw [up2_s]; rfl
  refine st_ite (fun cp => ?_) (fun cp => ?_)
  · refine qn_17 hR (st_sI (n := 160) rfl (by omega) (st_some ?_))
    rw [en]; exact fin 384 (Or.inl ⟨rfl, cp⟩)
  · refine qn_18 hR (st_sI (n := 160) rfl (by omega) (st_some ?_))
    rw [en]
    refine fin 385 (Or.inr ⟨rfl, ?_⟩)
    rcases hp with z | z
    · exact absurd z cp
    · exact z
end STU
