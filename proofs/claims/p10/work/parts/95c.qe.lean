/-! The reference: ifs, whiles, asserts, the end of a BLOCK, parse. -/
section STV
variable {I I' : IM} {J : JM} {R : RM} {H : Nat} {d : Nat → Nat}
theorem q_byWord (hR : QR R) (hg : PLG I H d) (hb0 : (I 373 34).toInt = 0) (htk : (I 373 30).toInt = 4) {Q : WW → Prop} (k : ∀ I', PZ H I I' → ((I' 373 34).toInt = 0 → (∃ d', PLG I' H d') ∧ (I 373 29).toInt + 1 ≤ (I' 373 29).toInt) → Q (mk I' J R)) : wp (f_q_byWord 373 (mk I J R)) Q := by
  have hb := hg.b
  have main : ∀ kk : Int32, (3 ≤ kk.toInt ∧ kk.toInt ≤ 5) → wp (f_q_byWord_25 373 373 kk (mk I J R)) Q := by
    intro kk hkk
    unfold f_q_byWord_25 f_q_byWord_71
    refine st_bd2 (q_statement hR hg (by omega) (fun z => by omega) (fun z => by omega) (fun s I1 d1 hs p1 b1 m1 t1 l1 g1 => ?_))
    generalize hhi : 80 * H + (I 389 H).toInt.toNat = hi at *
    have hmn : 3 * ((hi : Int) - 80 * H) ≤ (I 373 29).toInt := by omega
    have sn : s.toInt.toNat = hi := by omega
    dsimp only
    refine st_bd (q_expect hR (fun _ => t1) (fun I2 y2 g2 => ?_))
    have m2 := m1.yf y2
    have mb := m2.b
    have e2 : I2 390 H = I 390 H := by rw [y2 _ _ (by omega), g1]
    have pz2 : PZ H I I2 := p1.trans y2.pz
    have h32 : ∀ I9, PZ H I I9 → (I9 373 32).toInt = H := fun I9 p9 => by rw [p9 373 32 (by omega)]; exact hb.2.1
    refine st_bd (q_condition (d := d1) (kk := kk.toInt) hR hs (h32 _ pz2) hb.1 (by omega) (fun z => ⟨m2, (g2 z).2.1, by rw [e2]; have := (g2 z).2.2; omega⟩) (fun I3 p3 g3 => ?_))
    have pz3 := pz2.trans p3
    refine st_bd (q_expect hR (fun z => (g3 z).2.2.1) (fun I4 y4 g4 => ?_))
    have pz4 : PZ H I I4 := pz3.trans y4.pz
    -- what holds at I4 if no fault was found
    have g34 : (I4 373 34).toInt = 0 → MID I4 H d1 hi kk.toInt ∧ TOK I4 ∧ (I 373 29).toInt + 3 ≤ (I4 373 29).toInt ∧ (I4 390 H).toInt ≤ (I4 373 29).toInt ∧ ST I4 hi ∧ EB I4 hi (220 * H) (220 * H + (I4 390 H).toInt.toNat) := by
      intro z
      obtain ⟨a1, a2, a3⟩ := g4 z
      obtain ⟨v1, v2, v3, v4, v5, v6, v7, v8⟩ := g3 a1
      have l2 := (g2 v1).2.2
      have e4 : ∀ x j, x ≠ 373 → I4 x j = I3 x j := fun x j hx => y4 x j (by omega)
      obtain ⟨s1, s2⟩ := SE.st (st_of v2 (by omega) (fun _ => v6) (fun _ => v7)) v8 (fun x _ _ => e4 x hi (by omega)) (fun x j _ _ _ _ => e4 x j (by omega))
      rw [e4 390 H (by decide)]
      exact ⟨v2.yf y4, a2, by omega, by omega, s1, s2⟩
    refine qn_9 hR (st_rI (n := 160) rfl (by omega) rfl (st_ite (fun c => ?_) (fun c => ?_)))
    · rw [sn] at c
      refine st_bd (q_expect hR (fun z => (g34 z).2.1) (fun I5 y5 g5 => st_some (k I5 (pz4.trans y5.pz) (fun z => ?_))))
      obtain ⟨a1, a2, a3⟩ := g5 z
      obtain ⟨v1, v2, v3, v4, v5, v6⟩ := g34 a1
      have e5 : ∀ x j, x ≠ 373 → I5 x j = I4 x j := fun x j hx => y5 x j (by omega)
      obtain ⟨s1, s2⟩ := SE.st v5 v6 (fun x _ _ => e5 x hi (by omega)) (fun x j _ _ _ _ => e5 x j (by omega))
      have k5 : kk.toInt = 5 := by rw [← v1.2.1, c]; rfl
      have x390 := e5 390 H (by decide)
      exact ⟨⟨d1, (v1.yf y5).done s1 (by rw [x390]; exact s2) (fun z => by omega) a2 (by rw [x390]; omega) (by omega)⟩, by omega⟩
    · rw [sn] at c
      refine st_bd (q_openBlock hR hs (by omega) hb.1 (Or.inl rfl) (fun z => ⟨(g34 z).2.1, (g34 z).1.b.2.2.2.2.2.2⟩) (fun I5 p5 g5 => st_some (k I5 (pz4.trans p5) (fun z => ?_))))
      obtain ⟨a1, a2, a3, a4, a5, a6, a7, a8, a9, _⟩ := g5 z
      obtain ⟨v1, v2, v3, v4, v5, v6⟩ := g34 a1
      have fr : ∀ x j, (x ≠ 373 ∨ j = 32) → ((x ≠ 394 ∧ x ≠ 395 ∧ x ≠ 396) ∨ j ≠ (I4 373 33).toInt.toNat + 1) → (x ≠ 384 ∨ j ≠ hi) → I5 x j = I4 x j := fun x j z1 z2 z3 => a5 x j z1 z2 (by
        rcases z3 with z3 | z3
        · exact Or.inl ⟨Or.inl z3, Or.inr rfl⟩
        · exact Or.inr z3)
      have k34 : kk.toInt = 3 ∨ kk.toInt = 4 := by
        have : kk.toInt ≠ 5 := fun z => c (i32eq.mpr (by rw [v1.2.1, z]; rfl))
        omega
      have x390 := fr 390 H (by omega) (by omega) (by omega)
      obtain ⟨⟨q1, q2, q3, q4, q5, q6, q7, q8, q9⟩, r2, r3, r4, r5, r6, r7, r8, r9, r10, r11⟩ := v1
      obtain ⟨s1, s2⟩ := SE.st v5 v6 (fun x _ _ => fr x hi (by omega) (by omega) (by omega)) (fun x j _ _ _ _ => fr x j (by omega) (by omega) (by omega))
      have e389 := fr 389 H (by omega) (by omega) (by omega)
      have ehi : 80 * H + (I5 389 H).toInt.toNat = hi + 1 := by rw [e389]; omega
      refine ⟨⟨d1, ?_⟩, by omega⟩
      unfold PLG
      rw [ehi]
      refine ⟨⟨q1, by rw [fr 373 32 (by omega) (by omega) (by omega)]; exact q2, by omega, by omega, by rw [x390]; exact q5, fun s' s1' s2' => ?_, ?_, fun j j1 j2 => ?_, fun j j1 => ?_⟩, a2, by rw [x390]; omega, by rw [e389]; omega, by rw [e389]; omega⟩
      · rw [x390]
        by_cases c : s' = hi
        · subst c
          refine ⟨⟨s1, by omega, Or.inl ?_, fun _ => Or.inl (a9 rfl), fun z => ?_⟩, s2⟩
          · rw [fr 386 _ (by omega) (by omega) (by omega)]; exact r6
          · rw [fr 387 _ (by omega) (by omega) (by omega)] at z; exact absurd r7 z
        · obtain ⟨u1, u2⟩ := q6 s' s1' (by omega)
          exact u1.keep u2 (fun x _ _ => fr x s' (by omega) (by omega) (by omega)) (fun x j _ _ _ _ => fr x j (by omega) (by omega) (by omega))
      · rw [fr 388 H (by omega) (by omega) (by omega)]; exact q7
      · by_cases c : j = (I4 373 33).toInt.toNat + 1
        · subst c
          rw [a7, sn]
          exact ⟨by omega, by omega, by omega⟩
        · rw [fr 394 j (by omega) (by omega) (by omega)]
          exact q8 j j1 (by omega)
      · by_cases c : j = (I4 373 33).toInt.toNat + 1
        · subst c; exact Or.inl a8
        · rw [fr 396 j (by omega) (by omega) (by omega)]
          exact q9 j (by omega)
  unfold f_q_byWord
  exact st_kb rfl (st_gI rfl rfl rfl (st_ite (fun _ => main 3 (by decide)) (fun _ => st_gI rfl rfl rfl (st_ite (fun _ => main 4 (by decide)) (fun _ => main 5 (by decide))))))
/-- the structure with one BLOCK less open -/
theorem PLG.drop (hg : PLG I H d) {v : Int32} (hv : v.toInt = (I 373 33).toInt - 1) (h0 : 0 ≤ v.toInt) : PLG (up2 I 373 33 v) H d := by
  have fr : ∀ x j, (x ≠ 373 ∨ j ≠ 33) → up2 I 373 33 v x j = I x j := fun x j hx => up2_ne _ _ (by omega)
  have h33 : up2 I 373 33 v 373 33 = v := up2_s
  generalize up2 I 373 33 v = K at *
  obtain ⟨⟨q1, q2, q3, q4, q5, q6, q7, q8, q9⟩, h2, h3, h4, h5⟩ := hg
  unfold PLG
  rw [fr 389 H (by omega), fr 390 H (by omega), fr 373 29 (by omega)]
  refine ⟨⟨q1, by rw [fr _ _ (by omega)]; exact q2, by rw [h33]; exact h0, by rw [h33]; omega, by rw [fr _ _ (by omega)]; exact q5, fun s' s1 s2 => ?_, by rw [fr _ _ (by omega)]; exact q7, fun j j1 j2 => ?_, fun j j1 => ?_⟩, h2.keep (fr _ _ (by omega)) (fun j _ _ => fr _ _ (by omega)), h3, h4, h5⟩
  · rw [fr 390 H (by omega)]
    obtain ⟨u1, u2⟩ := q6 s' s1 s2
    exact u1.keep u2 (fun x _ _ => fr _ _ (by omega)) (fun x j _ _ _ _ => fr _ _ (by omega))
  · rw [h33] at j2
    rw [fr _ _ (by omega)]; exact q8 j j1 (by omega)
  · rw [h33] at j1
    rw [fr _ _ (by omega)]; exact q9 j (by omega)
theorem PLG.yf (hg : PLG I H d) (hy : YF I I') (ht : TOK I') (hl : (I 373 29).toInt ≤ (I' 373 29).toInt) : PLG I' H d := by
  obtain ⟨h1, h2, h3, h4, h5⟩ := hg
  unfold PLG
  rw [hy 389 H (by omega), hy 390 H (by omega)]
  exact ⟨h1.yf hy, ht, by omega, h4, by omega⟩
theorem q_endBlock (hR : QR R) (hg : PLG I H d) (hb0 : (I 373 34).toInt = 0) (htk : (I 373 30).toInt ≠ 0) {Q : WW → Prop} (k : ∀ I', PZ H I I' → ((I' 373 34).toInt = 0 → (∃ d', PLG I' H d') ∧ (I 373 29).toInt + 1 ≤ (I' 373 29).toInt) → Q (mk I' J R)) : wp (f_q_endBlock 373 (mk I J R)) Q := by
  have hb := hg.b
  unfold f_q_endBlock f_q_endBlock_93
  refine st_kb rfl (qn_35 hR (st_gI rfl rfl rfl (st_rI (n := 8) rfl (by omega) rfl (qn_36 hR (st_gI rfl rfl rfl (st_rI (n := 8) rfl (by omega) rfl (st_gI rfl rfl rfl (st_ite (fun c => ?_) (fun c => ?_)))))))))
  · exact st_bd (s_q_wrong (fun I2 z1 _ z3 => st_some (k I2 z1.pz (fun z => by omega))))
  rw [i32eq, l32_0] at c
  have ow := hg.1.2.2.2.2.2.2.2.1 (I 373 33).toInt.toNat (by omega) (by omega)
  have hmn := hb.2.2.2.2.2.2
  generalize I 394 (I 373 33).toInt.toNat = s at ow ⊢
  generalize I 395 (I 373 33).toInt.toNat = p at *
  refine st_gI rfl rfl rfl (st_pI rfl rfl ?_)
  have x33 : (I 373 33 - 1).toInt = (I 373 33).toInt - 1 := by rw [i32subc (by rw [l32_1]; omega), l32_1]
  have gK := hg.drop (v := I 373 33 - 1) x33 (by omega)
  have fK : ∀ x j, (x ≠ 373 ∨ j ≠ 33) → up2 I 373 33 (I 373 33 - 1) x j = I x j := fun x j hx => up2_ne _ _ (by omega)
  have k33 : (up2 I 373 33 (I 373 33 - 1) 373 33).toInt = (I 373 33).toInt - 1 := by rw [up2_s]; exact x33
  generalize up2 I 373 33 (I 373 33 - 1) = K at *
  have pzK : PZ H I K := fun x j hx => fK x j (by omega)
  have e29 : K 373 29 = I 373 29 := fK _ _ (by omega)
  refine st_bd (q_read hR gK.2.1 (fun I1 y1 b1 t1 l1 l1' => ?_))
  have l1'' := l1' (by rw [fK _ _ (by omega)]; exact htk)
  rw [e29] at l1''
  have g1 := gK.yf y1 t1 l1
  have pz1 : PZ H I I1 := pzK.trans y1.pz
  have done : wp (some (mk I1 J R)) Q := st_some (k I1 pz1 (fun _ => ⟨⟨d, g1⟩, l1''⟩))
  refine qn_9 hR (st_rI (n := 160) rfl (by omega) rfl (st_ite (fun c3 => ?_) (fun _ => done)))
  refine st_ite (fun _ => ?_) (fun _ => done)
  refine st_gI rfl rfl rfl (st_ite (fun c4 => ?_) (fun _ => done))
  have c4' : (I1 373 30).toInt = 4 := by rw [c4]; rfl
  refine st_gI rfl rfl rfl (st_ite (fun _ => ?_) (fun _ => done))
  refine st_bd (q_read hR t1 (fun I2 y2 b2 t2 l2 l2' => ?_))
  have g2 := g1.yf y2 t2 l2
  have pz2 : PZ H I I2 := pz1.trans y2.pz
  have b2' := g2.b
  have x389 : I2 389 H = I 389 H := by rw [y2 _ _ (by omega), y1 _ _ (by omega), fK _ _ (by omega)]
  refine qn_20 hR (st_sI (n := 160) rfl (by omega) ?_)
  generalize hsn : s.toInt.toNat = sn at *
  have hs : s.toInt = sn := by omega
  have fL : ∀ x j, (x ≠ 387 ∨ j ≠ sn) → up2 I2 387 sn (vp_nar .boolean 1) x j = I2 x j := fun x j hx => up2_ne _ _ (by omega)
  generalize up2 I2 387 sn (vp_nar .boolean 1) = L at *
  have tL : TOK L := t2.keep (fL _ _ (by omega)) (fun j _ _ => fL _ _ (by omega))
  have hlo : 80 * H ≤ sn ∧ sn < 80 * H + (I 389 H).toInt.toNat := by omega
  refine st_bd (q_openBlock hR hs (by omega) hb.1 (Or.inr rfl) (fun _ => ⟨tL, by rw [fL _ _ (by omega)]; omega⟩) (fun I3 p3 g3 => st_some (k I3 (pz2.trans ((show PZ H I2 L from fun x j hx => fL x j (by omega)).trans p3)) (fun z => ?_))))
  obtain ⟨a1, a2, a3, a4, a5, a6, a7, a8, _, a10⟩ := g3 z
  rw [fL 373 33 (by omega)] at a4 a6
  rw [fL 373 33 (by omega)] at a5 a7 a8
  rw [fL 373 29 (by omega)] at a3
  have fr : ∀ x j, (x ≠ 373 ∨ j = 32) → ((x ≠ 394 ∧ x ≠ 395 ∧ x ≠ 396) ∨ j ≠ (I2 373 33).toInt.toNat + 1) → ((x ≠ 385 ∧ x ≠ 387) ∨ j ≠ sn) → I3 x j = I2 x j := fun x j z1 z2 z3 => by
    rw [a5 x j z1 z2 (by
      rcases z3 with z3 | z3
      · exact Or.inl ⟨Or.inr rfl, Or.inl z3.1⟩
      · exact Or.inr z3), fL _ _ (by omega)]
  have x390 := fr 390 H (by omega) (by omega) (by omega)
  have e389 := fr 389 H (by omega) (by omega) (by omega)
  have d33 : (I2 373 33).toInt = (I 373 33).toInt - 1 := by
    rw [y2 _ _ (by omega), y1 _ _ (by omega)]; exact k33
  obtain ⟨⟨q1, q2, q3, q4, q5, q6, q7, q8, q9⟩, h2, h3, h4, h5⟩ := g2
  refine ⟨⟨d, ?_⟩, by omega⟩
  unfold PLG
  rw [e389, x390]
  refine ⟨⟨q1, by rw [fr 373 32 (by omega) (by omega) (by omega)]; exact q2, by omega, by omega, by rw [x390]; exact q5, fun s' s1' s2' => ?_, ?_, fun j j1 j2 => ?_, fun j j1 => ?_⟩, a2, by omega, h4, by omega⟩
  · rw [x390]
    obtain ⟨u1, u2⟩ := q6 s' s1' s2'
    by_cases cs : s' = sn
    · subst cs
      obtain ⟨w1, w2, w3, w4, w5⟩ := u1
      obtain ⟨s1, s2⟩ := SE.st w1 u2 (fun x _ _ => fr x s' (by omega) (by omega) (by omega)) (fun x j _ _ _ _ => fr x j (by omega) (by omega) (by omega))
      refine ⟨⟨s1, w2, ?_, ?_, fun _ => Or.inl (a10 rfl)⟩, s2⟩
      · rw [fr 386 _ (by omega) (by omega) (by omega)]; exact w3
      · rw [fr 376 _ (by omega) (by omega) (by omega), fr 384 _ (by omega) (by omega) (by omega)]; exact w4
    · exact u1.keep u2 (fun x _ _ => fr x s' (by omega) (by omega) (by omega)) (fun x j _ _ _ _ => fr x j (by omega) (by omega) (by omega))
  · rw [fr 388 H (by omega) (by omega) (by omega)]; exact q7
  · by_cases cj : j = (I2 373 33).toInt.toNat + 1
    · subst cj
      rw [a7, hsn]
      rw [x389]
      exact ⟨by omega, by omega, by omega⟩
    · rw [fr 394 j (by omega) (by omega) (by omega)]
      exact q8 j j1 (by omega)
  · by_cases cj : j = (I2 373 33).toInt.toNat + 1
    · subst cj; exact Or.inl a8
    · rw [fr 396 j (by omega) (by omega) (by omega)]
      exact q9 j (by omega)
theorem l_q_parse_72 (hR : QR R) (hH : H ≤ 1) {I0 : IM} (h32 : (I0 373 32).toInt = H) {Q : (Int32 × WW) → Prop} (k : ∀ I', PZ H I0 I' → ((I' 373 34).toInt = 0 → ∃ d, PLG I' H d) → wp (f_q_parse_177 373 (mk I' J R)) Q) : ∀ (N : Nat) (I : IM), PZ H I0 I → ((I 373 34).toInt = 0 → (∃ d, PLG I H d) ∧ (201 - (I 373 29).toInt).toNat + 1 < N) → 1 < N → wp (f_q_parse_72 N 373 (mk I J R)) Q := by
  intro N
  induction N with
  | zero => intros; omega
  | succ N ih =>
    intro I hp hg hN
    rw [f_q_parse_72]
    refine st_gI rfl rfl rfl (st_ite (fun c => ?_) (fun c => k I hp (fun z => absurd (i32eq.mpr z) c)))
    have c' : (I 373 34).toInt = 0 := by rw [c]; rfl
    obtain ⟨⟨d, hd⟩, hn⟩ := hg c'
    have hb := hd.b
    have ht := hd.2.1.e
    have next : ∀ I', PZ H I I' → ((I' 373 34).toInt = 0 → (∃ d', PLG I' H d') ∧ (I 373 29).toInt + 1 ≤ (I' 373 29).toInt) → wp (f_q_parse_72 N 373 (mk I' J R)) Q := by
      intro I' p' g'
      refine ih I' (hp.trans p') (fun z => ?_) (by omega)
      obtain ⟨⟨d', v1⟩, v2⟩ := g' z
      have := v1.b
      exact ⟨⟨d', v1⟩, by omega⟩
    have wr : wp (f_q_parse_170 (f_q_parse_72 N) 373 (mk I J R)) Q := by
      unfold f_q_parse_170
      exact st_bd (s_q_wrong (fun I2 z1 _ z3 => next I2 z1.pz (fun z => by omega)))
    have e93 : wp (f_q_parse_93 (f_q_parse_72 N) 373 (mk I J R)) Q := by
      unfold f_q_parse_93
      refine st_bd2 (s_q_is hR (fun r _ hr => ?_))
      dsimp only
      refine st_ite (fun _ => ?_) (fun cr => ?_)
      · refine st_gI rfl rfl rfl (st_ite (fun c2 => ?_) (fun _ => ?_))
        · exact st_bd (q_assignment hR hd c' (by rw [c2]; rfl) (fun I' p' g' => next I' p' g'))
        refine st_gI rfl rfl rfl (st_ite (fun c2 => ?_) (fun _ => ?_))
        · exact st_bd (q_storing hR hd c' (by rw [c2]; rfl) (fun I' p' g' => next I' p' g'))
        refine st_gI rfl rfl rfl (st_ite (fun c2 => ?_) (fun _ => wr))
        refine st_gI rfl rfl rfl (st_ite (fun _ => wr) (fun _ => ?_))
        refine st_gI rfl rfl rfl (st_ite (fun _ => wr) (fun _ => ?_))
        exact st_bd (q_byWord hR hd c' (by rw [c2]; rfl) (fun I' p' g' => next I' p' g'))
      · exact st_bd (q_endBlock hR hd c' (by have := hr (fun z => cr (i32eq.mpr z)); omega) (fun I' p' g' => next I' p' g'))
    refine st_gI rfl rfl rfl (st_ite (fun _ => ?_) (fun _ => e93))
    exact st_gI rfl rfl rfl (st_ite (fun _ => k I hp (fun _ => ⟨d, hd⟩)) (fun _ => e93))
end STV
