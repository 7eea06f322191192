/-! The reference: whole EXPRS. -/
section EXR
variable {I I' : IM} {J : JM} {R : RM} {H a : Nat}
theorem q_pr (hR : QR R) {th : Int} {n : Nat} (hth : th = 0 ∨ th = 1) (hx : EX H a th I) (hn : (I 373 42).toInt = n) (htk : (I 373 30).toInt ≠ 0) {a1 a2 a3 : Int32} (ha1 : 1 ≤ a1.toInt ∧ a1.toInt ≤ 4) (hth4 : (a1.toInt < 4 ∧ th = 0 ∧ (I 373 43).toInt ≤ 10) ∨ (a1.toInt = 4 ∧ th = 1 ∧ rkp (I 397) (I 399) n < (rk a2).toInt)) (ha2 : a1.toInt = 2 → 0 ≤ a2.toInt ∧ a2.toInt ≤ 1) (ha3 : 0 ≤ a3.toInt ∧ a3.toInt ≤ 199) {Q : WW → Prop} (k : ∀ I', EX H a 0 I' → PX H a I I' → I' 373 34 = I 373 34 → (I 373 29).toInt + 1 ≤ (I' 373 29).toInt → Q (mk I' J R)) : wp (f_q_push 373 a1 a2 a3 (mk I J R)) (fun w => wp (f_q_read 373 w) Q) := by
  have hb := hx.b (by omega)
  obtain ⟨m, h0, h1, h2, h3, h4, h5, h6, h7, h8, h9, h10, h11, h12⟩ := hx.get
  have e : m = n := by omega
  subst e
  have hN4b := N4_b (I 397) m
  refine q_push hR h3 (by omega) (by omega) (fun K f1 f2 f3 f4 f5 f6 => ?_)
  have tokK : TOK K := h2.keep (f1 _ _ (by omega) (by omega)) (fun j z1 z2 => f1 _ _ (by omega) (by omega))
  refine q_read hR tokK (fun I2 y1 y2 y3 y4 y5 => ?_)
  obtain ⟨r1, r2, r3⟩ := hx.psh hth hn htk ha1 hth4 ha2 ha3 f1 f2 f3 f4 f5 f6 y1 y3 y5
  exact k I2 r1 r2 (y2.trans (f1 _ _ (by omega) (by omega))) r3
theorem PP.bg {I' : IM} (h : PP I I') : I' 373 29 = I 373 29 := h.1 29 (by decide) (by decide)
theorem q_want (hR : QR R) (hx : EX H a 0 I) {Q : (Int32 × WW) → Prop} (k : ∀ r I', B01 r → PX H a I I' → ((I' 373 34).toInt = 0 → (I 373 34).toInt = 0 ∧ EX H a r.toInt I' ∧ (I 373 29).toInt + 1 ≤ (I' 373 29).toInt) → Q (r, mk I' J R)) : wp (f_q_want 373 (mk I J R)) Q := by
  have hb := hx.b (by decide)
  obtain ⟨n, h0, h1, h2, h3, h4, h5, h6, h7, h8, h9, h10, h11, h12⟩ := hx.get
  have ht := h2.e
  have wr : wp (f_q_wrong 373 (mk I J R)) (fun w => wp (if (0 : Int32) = 0 ∨ (0 : Int32) = 1 then some ((0 : Int32), w) else none) Q) := by
    refine s_q_wrong (fun I2 z1 _ z3 => st_req (Or.inl rfl) (st_some (k 0 I2 (Or.inl rfl) z1.px (fun z => by omega))))
  have lf : ∀ o : Int32, ((o.toInt = 1 ∨ o.toInt = 2) ∧ (I 373 30).toInt = o.toInt) → wp (f_q_want_45 373 373 o (mk I J R)) Q := by
    intro o ho
    unfold f_q_want_45
    refine st_bd (q_leaf hR hx ho (fun I2 x2 p2 b2 g2 => ?_))
    refine st_bd (q_opposites hR x2 (fun I3 x3 p3 q3 => st_req (Or.inr rfl) (st_some (k 1 I3 (Or.inr rfl) (p2.trans p3) (fun z => ⟨?_, x3, ?_⟩)))))
    · rw [q3.2.1, b2] at z; exact z
    · rw [q3.bg]; exact g2
  have w31 : ((I 373 30).toInt = 1 ∨ (I 373 30).toInt = 2) → wp (f_q_want_31 373 (mk I J R)) Q := by
    intro hc
    unfold f_q_want_31
    refine st_gI rfl rfl rfl (st_ite (fun c => lf 1 ⟨Or.inl rfl, by rw [c]⟩) (fun c => lf 2 ⟨Or.inr rfl, ?_⟩))
    rcases hc with z | z
    · exact absurd (i32eq.mpr z) c
    · exact z
  have psh : ∀ (b c : Int32), (1 ≤ b.toInt ∧ b.toInt < 4) → (b.toInt = 2 → 0 ≤ c.toInt ∧ c.toInt ≤ 1) → (I 373 43).toInt ≤ 10 → (I 373 30).toInt ≠ 0 → ∀ {Q' : WW → Prop}, (∀ I', EX H a 0 I' → PX H a I I' → I' 373 34 = I 373 34 → (I 373 29).toInt + 1 ≤ (I' 373 29).toInt → Q' (mk I' J R)) → wp (f_q_push 373 b c (I 373 29) (mk I J R)) (fun w => wp (f_q_read 373 w) Q') := by
    intro b c hb1 hb2 hb3 hb4 Q' k'
    have := ht.2.2.2.2.1 hb4
    exact q_pr hR (Or.inl rfl) hx h3 hb4 (by omega) (Or.inl ⟨by omega, rfl, hb3⟩) hb2 (by omega) k'
  have w120 : ∀ b : Int32, (1 ≤ b.toInt ∧ b.toInt < 4 ∧ b.toInt ≠ 2) → (I 373 43).toInt ≤ 10 → (I 373 30).toInt ≠ 0 → wp (f_q_want_120 373 373 b (mk I J R)) Q := by
    intro b hb1 hb3 hb4
    unfold f_q_want_120
    refine st_gI rfl rfl rfl (st_bd (wp_mono (psh b 0 (by omega) (fun z => by omega) hb3 hb4 (Q' := fun w => wp (if (0 : Int32) = 0 ∨ (0 : Int32) = 1 then some ((0 : Int32), w) else none) Q) (fun I2 x2 p2 b2 g2 => st_req (Or.inl rfl) (st_some (k 0 I2 (Or.inl rfl) p2 (fun z => ⟨by rw [b2] at z; exact z, x2, g2⟩))))) (fun w hw => st_bd hw)))
  unfold f_q_want f_q_want_105
  refine st_kb rfl (st_gI rfl rfl rfl (st_ite (fun c => ?_) (fun c => st_bd wr)))
  rw [i32le, l32_10] at c
  refine st_gI rfl rfl rfl (st_ite (fun c1 => w31 (Or.inl (by rw [c1]; rfl))) (fun c1 => st_gI rfl rfl rfl (st_ite (fun c2 => w31 (Or.inr (by rw [c2]; rfl))) (fun c2 => ?_))))
  refine st_gI rfl rfl rfl (st_ite (fun c3 => ?_) (fun c3 => ?_))
  · have c3' : (I 373 30).toInt = 3 := by rw [c3]; rfl
    refine st_gI rfl rfl rfl (st_gI rfl rfl rfl (st_bd (wp_mono (psh 2 (I 373 31) (by decide) (fun _ => ht.2.2.2.2.2.2 c3') c (by omega) (Q' := fun w => wp ((f_q_expect 373 (91 : Int32) w).bind fun w33 => if (0 : Int32) = 0 ∨ (0 : Int32) = 1 then some ((0 : Int32), w33) else none) Q) (fun I2 x2 p2 b2 g2 => ?_)) (fun w hw => st_bd hw))))
    have t2 := x2.2.2.1
    refine st_bd (q_expect hR (fun _ => t2) (fun I3 y1 y2 => st_req (Or.inl rfl) (st_some (k 0 I3 (Or.inl rfl) (p2.trans y1.px) (fun z => ?_)))))
    obtain ⟨z1, z2, z3⟩ := y2 z
    refine ⟨by rw [b2] at z1; exact z1, x2.rd y1 z2 (by omega), by omega⟩
  · have sgn : ∀ r : Int32, (r.toInt ≠ 0 → (I 373 30).toInt = 5 ∧ I 373 31 = 45) ∨ (I 373 30).toInt = 5 → ¬ r = 0 → True := fun _ _ _ => trivial
    have w105 : (I 373 30).toInt ≠ 0 → wp (bd2 (f_q_is 373 (45 : Int32) (mk I J R)) fun x18 w17 => if x18 = 0 then f_q_want_120 373 373 (1 : Int32) w17 else f_q_want_120 373 373 (3 : Int32) w17) Q := by
      intro hne
      refine st_bd2 (s_q_is hR (fun r hb hr => ?_))
      exact st_ite (fun _ => w120 1 (by decide) c hne) (fun _ => w120 3 (by decide) c hne)
    refine st_bd2 (s_q_is hR (fun r hb hr => ?_))
    dsimp only
    refine st_ite (fun c4 => ?_) (fun c4 => w105 ?_)
    · refine st_bd2 (s_q_is hR (fun r2 hb2 hr2 => ?_))
      dsimp only
      refine st_ite (fun c5 => st_bd wr) (fun c5 => w105 ?_)
      have := hr2 (fun z => c5 (i32eq.mpr z))
      omega
    · have := hr (fun z => c4 (i32eq.mpr z))
      omega
theorem l_q_bracket_7 (hR : QR R) {n : Nat} (hn : n ≤ 300) {Q : (Int32 × WW) → Prop} (k : ∀ r, (r.toInt ≠ 0 → ∃ j : Nat, j < n ∧ (I 397 j).toInt ≤ 2) → Q (r, mk I J R)) : ∀ (N : Nat) (y1 : Int32), (-1 ≤ y1.toInt ∧ y1.toInt < n) → (y1.toInt + 1).toNat < N → wp (f_q_bracket_7 N 373 y1 (mk I J R)) Q := by
  intro N
  induction N with
  | zero => intros; omega
  | succ N ih =>
    intro y1 q1 hN
    rw [f_q_bracket_7]
    unfold f_q_bracket_27 f_q_bracket_41
    refine st_ite (fun c => ?_) (fun c => ?_)
    · rw [i32lt, l32_0] at c
      rw [if_neg (by rw [i32le, l32_0]; omega)]
      exact st_some (k 0 (fun z => absurd rfl z))
    · rw [i32lt, l32_0] at c
      refine qn_38 hR (st_rI (n := 300) rfl (by omega) rfl (st_ite (fun c2 => ?_) (fun c2 => ?_)))
      · rw [if_pos (by rw [i32le, l32_0]; omega)]
        rw [i32le, l32_2] at c2
        exact qn_38 hR (st_rI (n := 300) rfl (by omega) rfl (st_some (k _ (fun _ => ⟨y1.toInt.toNat, by omega, c2⟩))))
      · exact ih _ (by rw [i32addc (by rw [l32_m1]; omega), l32_m1]; omega) (by rw [i32addc (by rw [l32_m1]; omega), l32_m1]; omega)
theorem q_bracket (hR : QR R) {n : Nat} (h3 : (I 373 42).toInt = n) (hn : n ≤ 300) {Q : (Int32 × WW) → Prop} (k : ∀ r, (r.toInt ≠ 0 → ∃ j : Nat, j < n ∧ (I 397 j).toInt ≤ 2) → Q (r, mk I J R)) : wp (f_q_bracket 373 (mk I J R)) Q := by
  unfold f_q_bracket
  refine st_kb rfl (st_gI rfl rfl rfl (l_q_bracket_7 hR hn k KK _ ?_ ?_))
  · rw [i32subc (by rw [h3, l32_1]; omega), h3, l32_1]; omega
  · rw [i32subc (by rw [h3, l32_1]; omega), h3, l32_1]; unfold KK; omega
theorem q_close (hR : QR R) (hx : EX H a 1 I) {n : Nat} (h3 : (I 373 42).toInt = n) (hbr : ∃ j : Nat, j < n ∧ (I 397 j).toInt ≤ 2) (htk : (I 373 30).toInt ≠ 0) {Q : WW → Prop} (k : ∀ I', EX H a 1 I' → PX H a I I' → I' 373 34 = I 373 34 → (I 373 29).toInt + 1 ≤ (I' 373 29).toInt → Q (mk I' J R)) : wp (f_q_close 373 (mk I J R)) Q := by
  unfold f_q_close
  refine st_kb rfl (st_bd (q_reduce hR (by decide) hx (fun I1 x1 p1 q1 r1 => ?_)))
  have hb1 := x1.b (by decide)
  obtain ⟨m, h0, h1, h2, h3', h4, h5, h6, h7, h8, h9, h10, h11, h12⟩ := x1.get
  obtain ⟨j, j1, j2⟩ := q1.2.2.2.2 (by obtain ⟨j, j1, j2⟩ := hbr; exact ⟨j, by omega, j2⟩)
  obtain ⟨m, rfl⟩ : ∃ u, m = u + 1 := ⟨m - 1, by omega⟩
  have e3 : (I1 373 42).toInt.toNat = m + 1 := by omega
  rw [e3, rkp_s, l32_1] at r1
  have hn4 : (I1 397 m).toInt ≠ 4 := by
    intro z
    rw [if_pos z] at r1
    have := rk_b (I1 399 m)
    omega
  have hN4 : N4 (I1 397) (m + 1) = N4 (I1 397) m := by rw [N4_s, if_neg hn4]; omega
  have hN4b := N4_b (I1 397) m
  have x42 : (I1 373 42 - 1).toInt = m := by rw [i32subc (by rw [h3', l32_1]; omega), h3', l32_1]; omega
  have ex : (I1 373 42 - 1).toInt.toNat = m := by omega
  have x43 : (I1 373 43 - 1).toInt = (I1 373 43).toInt - 1 := by rw [i32subc (by rw [l32_1]; omega), l32_1]
  have g30 : I1 373 30 = I 373 30 := q1.1 30 (by decide) (by decide)
  have g29 : I1 373 29 = I 373 29 := q1.1 29 (by decide) (by decide)
  refine st_gI rfl rfl rfl (st_pI rfl rfl (st_gI rfl rfl (up2_nek (by decide)) (st_pI rfl rfl ?_)))
  have u42 : up2 (up2 I1 373 42 (I1 373 42 - 1)) 373 43 (I1 373 43 - 1) 373 42 = I1 373 42 - 1 := by rw [up2_nek (by decide), up2_s]
  have u43 : up2 (up2 I1 373 42 (I1 373 42 - 1)) 373 43 (I1 373 43 - 1) 373 43 = I1 373 43 - 1 := up2_s
  have fK : ∀ x j, (x ≠ 373 ∨ (j ≠ 42 ∧ j ≠ 43)) → up2 (up2 I1 373 42 (I1 373 42 - 1)) 373 43 (I1 373 43 - 1) x j = I1 x j := fun x j hxj => by rw [up2_ne _ _ (by omega), up2_ne _ _ (by omega)]
  generalize up2 (up2 I1 373 42 (I1 373 42 - 1)) 373 43 (I1 373 43 - 1) = K at *
  -- the end, from a state whose EXPR facts hold with one open one less
  have fin : ∀ I3, EX H a 1 I3 → PX H a I1 I3 → (∀ j, 28 ≤ j → j ≤ 31 → I3 373 j = I1 373 j) → I3 373 34 = I1 373 34 → wp (f_q_close_76 373 (mk I3 J R)) Q := by
    intro I3 x3 p3 t3 b3
    unfold f_q_close_76
    refine st_bd (q_read hR x3.2.2.1 (fun I4 y1 y2 y3 y4 y5 => ?_))
    have y5' := y5 (by rw [t3 30 (by decide) (by decide), g30]; exact htk)
    rw [t3 29 (by decide) (by decide), g29] at y5'
    refine st_bd (q_opposites hR (x3.rd y1 y3 y4) (fun I5 x5 p5 q5 => st_some (k I5 x5 (((p1.trans p3).trans y1.px).trans p5) ?_ ?_)))
    · rw [q5.2.1, y2, b3, q1.2.1]
    · rw [q5.bg]; exact y5'
  have hxK : ∀ (I3 : IM) (n44 : Int), (∀ x j, (x ≠ 373 ∨ (j ≠ 42 ∧ j ≠ 43)) → (x < 390 ∨ (393 < x ∧ x ≠ 400) ∨ (x = 390 ∧ j ≠ H)) → I3 x j = I1 x j) → I3 373 42 = I1 373 42 - 1 → I3 373 43 = I1 373 43 - 1 → 0 ≤ (I3 390 H).toInt → (I3 390 H).toInt ≤ (I1 390 H).toInt + 1 → WFX I3 a (220 * H + (I3 390 H).toInt.toNat) → dq I3 a (220 * H + (I3 390 H).toInt.toNat - a) = (I1 373 44).toInt → EX H a 1 I3 := by
    intro I3 _ fr g42 g43 s1 s2 w1 w2
    have g397 : I3 397 = I1 397 := by funext j; exact fr _ _ (by omega) (by omega)
    have g44 : I3 373 44 = I1 373 44 := fr _ _ (by omega) (by omega)
    have g29' : I3 373 29 = I1 373 29 := fr _ _ (by omega) (by omega)
    refine EX.mk1 (n := m) h0 (by rw [fr 373 32 (by omega) (by omega)]; exact h1) (h2.keep (fr _ _ (by omega) (by omega)) (fun j z1 z2 => fr _ _ (by omega) (by omega))) (by rw [g42]; exact x42) ((h4.pre (by omega)).congr (fun x j z1 z2 _ => fr _ _ (by omega) (by omega))) ?_ (by rw [g43]; omega) ?_ s1 (by rw [g29']; omega) w1 (by rw [g44]; exact w2) h12
    · rw [g43, g397]; omega
    · rw [g44, g397]; omega
  refine qn_38 hR (st_gI rfl rfl u42 (st_rI (n := 300) (x := I1 397 m) rfl (by omega) (by rw [ex]; exact fK _ _ (by omega)) (st_ite (fun c => ?_) (fun c => ?_))))
  · have c' : (I1 397 m).toInt = 2 := by rw [c]; rfl
    have hat := h4.2 m (by omega)
    refine qn_40 hR (st_gI rfl rfl u42 (st_rI (n := 300) (x := I1 399 m) rfl (by omega) (by rw [ex]; exact fK _ _ (by omega)) ?_))
    refine qn_39 hR (st_gI rfl rfl u42 (st_rI (n := 300) (x := I1 398 m) rfl (by omega) (by rw [ex]; exact fK _ _ (by omega)) ?_))
    have hdl : dl 3 = 0 := by decide
    refine st_bd (q_emx hR (th := 1) (I := I1) (K := K) (by decide) x1 h3' fK ⟨fun z => absurd z (by decide), fun _ => hat.2.2 c', ⟨hat.1, hat.2.1⟩, by omega, by omega, fun _ => by omega, fun z => absurd rfl z.2.2.1, by decide⟩ (fun I2 f1 f2 w1 w2 => ?_))
    have g44 : I2 373 44 = I1 373 44 := by rw [f1 _ _ (by omega), fK _ _ (by omega)]
    have x441 : (I2 373 44 - 1).toInt = N4 (I1 397) m := by rw [i32subc (by rw [g44, l32_1]; omega), g44, l32_1]; omega
    refine qn_41 hR (st_gI rfl rfl rfl (st_rI (n := 300) rfl (by omega) rfl (st_sI (n := 300) rfl (by omega) ?_)))
    generalize hI3 : up2 I2 400 (I2 373 44 - 1).toInt.toNat (I2 400 (I2 373 44 - 1).toInt.toNat + 1) = I3
    have g390 : I3 390 H = I2 390 H := by rw [← hI3, up2_nea (by decide)]
    have fr : ∀ x j, (x ≠ 373 ∨ (j ≠ 42 ∧ j ≠ 43)) → (x < 390 ∨ (393 < x ∧ x ≠ 400) ∨ (x = 390 ∧ j ≠ H)) → I3 x j = I1 x j := fun x j z1 z2 => by
      rw [← hI3, up2_ne _ _ (by omega), f1 _ _ (by omega), fK _ _ (by omega)]
    refine fin I3 (hxK I3 0 fr ?_ ?_ (by rw [g390]; omega) (by rw [g390]; omega) ?_ ?_) (fun x j hxj => ?_) (fun j z1 z2 => fr _ _ (by omega) (by omega)) (fr _ _ (by omega) (by omega))
    · rw [← hI3, up2_nea (by decide), f1 _ _ (by omega)]; exact u42
    · rw [← hI3, up2_nea (by decide), f1 _ _ (by omega)]; exact u43
    · rw [g390]; exact w1.congr (fun x j z1 z2 _ _ => by rw [← hI3, up2_nea (by omega)])
    · rw [g390, dq_congr (I := I2) (I' := I3) (fun j _ => by rw [← hI3, up2_nea (by decide)]), w2]; omega
    · rw [← hI3, up2_ne _ _ (by omega), f1 _ _ (by omega), fK _ _ (by omega)]
  · have g390 : K 390 H = I1 390 H := fK _ _ (by omega)
    refine fin K (hxK K 0 (fun x j z1 _ => fK x j z1) u42 u43 (by rw [g390]; exact h8) (by rw [g390]; omega) ?_ ?_) (fun x j hxj => fK x j (by omega)) (fun j z1 z2 => fK _ _ (by omega)) (fK _ _ (by omega))
    · rw [g390]; exact h10.congr (fun x j z1 z2 _ _ => fK _ _ (by omega))
    · rw [g390, dq_congr (I := I1) (I' := K) (fun j _ => fK _ _ (by omega))]; exact h11
theorem l_q_expression_40 (hR : QR R) {y1 : Int32} {I0 : IM} (h32 : (I0 373 32).toInt = H) (hH : H ≤ 1) (hy1 : 0 ≤ y1.toInt ∧ y1.toInt ≤ 200 ∧ a = 220 * H + y1.toInt.toNat) {Q : (Int32 × WW) → Prop} (k : ∀ (r : Int32) (I' : IM), r.toInt = (a : Int) → PX H a I0 I' → ((I' 373 34).toInt = 0 → (I0 373 34).toInt = 0 ∧ TOK I' ∧ (I0 373 29).toInt ≤ (I' 373 29).toInt ∧ 0 ≤ (I' 390 H).toInt ∧ (I' 390 H).toInt ≤ (I' 373 29).toInt ∧ WFX I' a (220 * H + (I' 390 H).toInt.toNat)) → Q (r, mk I' J R)) : ∀ (N : Nat) (y2 y3 : Int32) (I : IM), B01 y2 → B01 y3 → PX H a I0 I → ((I 373 34).toInt = 0 → (I0 373 34).toInt = 0 ∧ EX H a y2.toInt I ∧ (y3 = 0 → y2 = 1) ∧ (I0 373 29).toInt ≤ (I 373 29).toInt) → ((I 373 34).toInt = 0 → y3 = 1 → (201 - (I 373 29).toInt).toNat + 1 < N) → 1 < N → wp (f_q_expression_40 N 373 y1 y2 y3 (mk I J R)) Q := by
  intro N
  induction N with
  | zero => intros; omega
  | succ N ih =>
    intro y2 y3 I b2 b3 hp hg hN hN2
    have e206 : ∀ I', PX H a I0 I' → ((I' 373 34).toInt = 0 → (I0 373 34).toInt = 0 ∧ TOK I' ∧ (I0 373 29).toInt ≤ (I' 373 29).toInt ∧ 0 ≤ (I' 390 H).toInt ∧ (I' 390 H).toInt ≤ (I' 373 29).toInt ∧ WFX I' a (220 * H + (I' 390 H).toInt.toNat)) → wp (f_q_expression_206 373 y1 (mk I' J R)) Q := by
      intro I' p' g'
      unfold f_q_expression_206
      have e32 : I' 373 32 = I0 373 32 := p' _ _ (by omega)
      refine st_gI rfl rfl rfl (st_some (k _ I' ?_ p' g'))
      rw [e32, i32addc (by rw [m32_220 (by omega)]; omega), m32_220 (by omega)]; omega
    have e194 : ((I 373 34).toInt = 0 → y2 = 1) → wp (f_q_expression_194 373 y1 (mk I J R)) Q := by
      intro hy2
      unfold f_q_expression_194
      refine st_gI rfl rfl rfl (st_ite (fun c => ?_) (fun c => e206 I hp (fun z => absurd (i32eq.mpr z) c)))
      have c' : (I 373 34).toInt = 0 := by rw [c]; rfl
      obtain ⟨g1, g2, _, g4⟩ := hg c'
      rw [hy2 c'] at g2
      refine st_bd (q_reduce hR (by decide) g2 (fun I2 x2 p2 q2 _ => e206 I2 (hp.trans p2) (fun _ => ?_)))
      have hb2 := x2.b (by decide)
      obtain ⟨n, k0, k1, k2, k3, k4, k5, k6, k7, k8, k9, k10, k11, k12⟩ := x2.get
      exact ⟨g1, k2, by rw [q2.bg]; exact g4, k8, by omega, k10⟩
    rw [f_q_expression_40]
    refine st_ite (fun c => e194 (fun z => (hg z).2.2.1 c)) (fun c => ?_)
    have c3 : y3 = 1 := by rcases b3 with z | z; exact absurd z c; exact z
    refine st_gI rfl rfl rfl (st_ite (fun cb => ?_) (fun cb => e194 (fun z => absurd (i32eq.mpr z) cb)))
    have cb' : (I 373 34).toInt = 0 := by rw [cb]; rfl
    obtain ⟨g1, g2, g3, g4⟩ := hg cb'
    have hNN := hN cb' c3
    have h01 : y2.toInt = 0 ∨ y2.toInt = 1 := by rcases b2 with z | z <;> rw [z]; exact Or.inl rfl; exact Or.inr rfl
    have hb := g2.b (by omega)
    -- going on, out of a state that has read on or found a fault
    have next : ∀ (z2 z3 : Int32) (I2 : IM), B01 z2 → B01 z3 → PX H a I I2 → ((I2 373 34).toInt = 0 → EX H a z2.toInt I2 ∧ (z3 = 0 → z2 = 1) ∧ (I 373 29).toInt ≤ (I2 373 29).toInt ∧ (z3 = 1 → (I 373 29).toInt + 1 ≤ (I2 373 29).toInt)) → wp (f_q_expression_40 N 373 y1 z2 z3 (mk I2 J R)) Q := by
      intro z2 z3 I2 q2 q3 p2 w2
      refine ih z2 z3 I2 q2 q3 (hp.trans p2) (fun z => ?_) (fun z z' => ?_) (by omega)
      · obtain ⟨v1, v2, v3, v4⟩ := w2 z
        exact ⟨g1, v1, v2, by omega⟩
      · obtain ⟨v1, v2, v3, v4⟩ := w2 z
        have := v4 z'
        have hb2 := v1.b (by rcases q2 with y | y <;> rw [y] <;> decide)
        omega
    refine st_ite (fun cy => ?_) (fun cy => ?_)
    · rw [cy] at g2
      refine st_bd2 (q_want hR g2 (fun r I2 br p2 w2 => next r y3 I2 br b3 p2 (fun z => ?_)))
      obtain ⟨v1, v2, v3⟩ := w2 z
      exact ⟨v2, fun z' => absurd z' c, by omega, fun _ => v3⟩
    have cy1 : y2 = 1 := by rcases b2 with z | z; exact absurd z cy; exact z
    rw [cy1] at g2
    obtain ⟨n, k0, k1, k2, k3, k4, k5, k6, k7, k8, k9, k10, k11, k12⟩ := g2.get
    have ht := k2.e
    -- a fault here
    have flt : wp (f_q_expression_187 (f_q_expression_40 N) 373 y1 y2 y3 (mk I J R)) Q := by
      unfold f_q_expression_187 f_q_expression_191
      exact st_bd (s_q_wrong (fun I2 z1 _ z3 => next y2 y3 I2 b2 b3 z1.px (fun z => by omega)))
    have cls : (∃ j : Nat, j < n ∧ (I 397 j).toInt ≤ 2) → (I 373 30).toInt ≠ 0 → wp (f_q_expression_180 (f_q_expression_40 N) 373 y1 y2 y3 (mk I J R)) Q := by
      intro hbr htk
      unfold f_q_expression_180 f_q_expression_191
      refine st_bd (q_close hR g2 k3 hbr htk (fun I2 x2 p2 _ l2 => next y2 y3 I2 b2 b3 p2 (fun _ => ⟨by rw [cy1]; exact x2, fun _ => cy1, by omega, fun _ => l2⟩)))
    have e134 : wp (f_q_expression_134 (f_q_expression_40 N) 373 y1 y2 y3 (mk I J R)) Q := by
      unfold f_q_expression_134
      refine st_bd2 (q_bracket hR k3 (by omega) (fun r hr => ?_))
      dsimp only
      refine st_ite (fun cr => ?_) (fun cr => ?_)
      · unfold f_q_expression_191
        exact next y2 0 I b2 (Or.inl rfl) (PX.refl _ _ _) (fun _ => ⟨by rw [cy1]; exact g2, fun _ => cy1, Int.le_refl _, fun z => absurd z (by decide)⟩)
      · have hbr := hr (fun z => cr (i32eq.mpr z))
        have e165 : wp (f_q_expression_165 (f_q_expression_40 N) 373 y1 y2 y3 r (mk I J R)) Q := by
          unfold f_q_expression_165
          refine st_ite (fun _ => st_bd2 (s_q_is hR (fun r2 _ hr2 => ?_))) (fun _ => flt)
          exact st_ite (fun _ => flt) (fun c5 => cls hbr (by have := hr2 (fun z => c5 (i32eq.mpr z)); omega))
        refine st_ite (fun _ => st_bd2 (s_q_is hR (fun r2 _ hr2 => ?_))) (fun _ => e165)
        exact st_ite (fun _ => e165) (fun c5 => cls hbr (by have := hr2 (fun z => c5 (i32eq.mpr z)); omega))
    refine st_gI rfl rfl rfl (st_ite (fun c5 => ?_) (fun _ => e134))
    have c5' : (I 373 30).toInt = 5 := by rw [c5]; rfl
    refine st_gI rfl rfl rfl (st_bd2 (s_q_isOperator (fun r _ => ?_)))
    dsimp only
    refine st_ite (fun _ => e134) (fun _ => ?_)
    refine st_gI rfl rfl rfl (st_bd2 (s_q_rank (fun rr hrr => ?_)))
    dsimp only
    refine st_bd (q_reduce hR (by omega) g2 (fun I2 x2 p2 q2 r2 => ?_))
    have hb2 := x2.b (by decide)
    obtain ⟨m, m0, m1, m2, m3, m4, m5, m6, m7, m8, m9, m10, m11, m12⟩ := x2.get
    have hm2 := m2.e
    have hN4b := N4_b (I2 397) m
    have g31 : I2 373 31 = I 373 31 := q2.1 31 (by decide) (by decide)
    have g30 : I2 373 30 = I 373 30 := q2.1 30 (by decide) (by decide)
    have g29 : I2 373 29 = I 373 29 := q2.1 29 (by decide) (by decide)
    have x44 : (I2 373 44 - 1).toInt = (I2 373 44).toInt - 1 := by rw [i32subc (by rw [l32_1]; omega), l32_1]
    have e112 : ∀ I3, EX H a 1 I3 → PX H a I I3 → (I3 373 42).toInt = m → (∀ j, 28 ≤ j → j ≤ 31 → I3 373 j = I2 373 j) → (∀ x j, 397 ≤ x → x ≤ 399 → I3 x j = I2 x j) → wp (f_q_expression_112 (f_q_expression_40 N) 373 y1 y3 (mk I3 J R)) Q := by
      intro I3 x3 p3 n3 t3 o3
      have a29 := t3 29 (by decide) (by decide)
      have a30 := t3 30 (by decide) (by decide)
      have a31 := t3 31 (by decide) (by decide)
      have tk3 := x3.2.2.1.e
      have h30 : (I3 373 30).toInt ≠ 0 := by rw [a30, g30]; omega
      have h29 := tk3.2.2.2.2.1 h30
      have o397 : I3 397 = I2 397 := by funext j; exact o3 _ _ (by decide) (by decide)
      have o399 : I3 399 = I2 399 := by funext j; exact o3 _ _ (by decide) (by decide)
      unfold f_q_expression_112
      refine st_gI rfl rfl rfl (st_gI rfl rfl rfl (st_bd (wp_mono (q_pr hR (Or.inr rfl) x3 n3 h30 (by decide) (Or.inr ⟨rfl, rfl, ?_⟩) (fun z => absurd z (by decide)) (by omega) (Q := fun w => wp (f_q_expression_40 N 373 y1 0 y3 w) Q) (fun I4 x4 p4 b4 l4 => next 0 y3 I4 (Or.inl rfl) b3 (p3.trans p4) (fun _ => ⟨x4, fun z => absurd z c, ?_, fun _ => ?_⟩))) (fun w hw => st_bd hw))))
      · have e2 : (I2 373 42).toInt.toNat = m := by omega
        rw [o397, o399, a31, g31, ← hrr.2, ← e2]; exact r2
      · rw [a29, g29] at l4; omega
      · rw [a29, g29] at l4; exact l4
    refine qn_41 hR (st_gI rfl rfl rfl (st_rI (n := 300) rfl (by omega) rfl (st_ite (fun _ => ?_) (fun _ => ?_))))
    · exact e112 I2 x2 p2 m3 (fun _ _ _ => rfl) (fun _ _ _ _ => rfl)
    · refine st_bd (s_q_wrong (fun I3 z1 z2 z3 => ?_))
      exact e112 I3 (x2.rd z1 (m2.keep (z1 _ _ (by omega)) z2) (by rw [z2 29 (by decide) (by decide)]; exact Int.le_refl _)) (p2.trans z1.px) (by rw [z1 _ _ (by omega)]; exact m3) z2 (fun x j u1 u2 => z1 _ _ (by omega))
theorem q_expression (hR : QR R) (h32 : (I 373 32).toInt = H) (hH : H ≤ 1) (h390 : 0 ≤ (I 390 H).toInt ∧ (I 390 H).toInt ≤ 200) (hg : (I 373 34).toInt = 0 → TOK I ∧ (I 390 H).toInt ≤ (I 373 29).toInt) {Q : (Int32 × WW) → Prop} (k : ∀ (r : Int32) (I' : IM), r.toInt = ((220 * H + (I 390 H).toInt.toNat : Nat) : Int) → PX H (220 * H + (I 390 H).toInt.toNat) I I' → ((I' 373 34).toInt = 0 → (I 373 34).toInt = 0 ∧ TOK I' ∧ (I 373 29).toInt ≤ (I' 373 29).toInt ∧ 0 ≤ (I' 390 H).toInt ∧ (I' 390 H).toInt ≤ (I' 373 29).toInt ∧ WFX I' (220 * H + (I 390 H).toInt.toNat) (220 * H + (I' 390 H).toInt.toNat)) → Q (r, mk I' J R)) : wp (f_q_expression 373 (mk I J R)) Q := by
  have eH : (I 373 32).toInt.toNat = H := by omega
  unfold f_q_expression f_q_expression_39
  refine st_kb rfl (qn_23 hR (st_gI rfl rfl rfl (st_rI (n := 2) (x := I 390 H) rfl (by omega) (by rw [eH]) (st_pI rfl rfl (st_pI rfl rfl (st_pI rfl rfl ?_))))))
  have fK : ∀ x j, (x ≠ 373 ∨ (j ≠ 42 ∧ j ≠ 43 ∧ j ≠ 44)) → up2 (up2 (up2 I 373 42 0) 373 43 0) 373 44 0 x j = I x j := fun x j hx => by rw [up2_ne _ _ (by omega), up2_ne _ _ (by omega), up2_ne _ _ (by omega)]
  have u42 : up2 (up2 (up2 I 373 42 0) 373 43 0) 373 44 0 373 42 = 0 := by rw [up2_nek (by decide), up2_nek (by decide), up2_s]
  have u43 : up2 (up2 (up2 I 373 42 0) 373 43 0) 373 44 0 373 43 = 0 := by rw [up2_nek (by decide), up2_s]
  have u44 : up2 (up2 (up2 I 373 42 0) 373 43 0) 373 44 0 373 44 = 0 := up2_s
  generalize up2 (up2 (up2 I 373 42 0) 373 43 0) 373 44 0 = K at *
  have k34 : K 373 34 = I 373 34 := fK _ _ (by omega)
  have k29 : K 373 29 = I 373 29 := fK _ _ (by omega)
  have k32 : K 373 32 = I 373 32 := fK _ _ (by omega)
  have pK : PX H (220 * H + (I 390 H).toInt.toNat) I K := fun x j hx => fK x j (by omega)
  have go : ∀ z3 : Int32, B01 z3 → (z3 = 0 → (I 373 34).toInt ≠ 0) → wp (f_q_expression_40 KK 373 (I 390 H) 0 z3 (mk K J R)) Q := by
    intro z3 bz hz
    refine l_q_expression_40 (H := H) (a := 220 * H + (I 390 H).toInt.toNat) (I0 := K) hR (by rw [k32]; exact h32) hH ⟨h390.1, h390.2, rfl⟩ (fun r I' hr hp hg' => k r I' hr (pK.trans hp) (fun z => ?_)) KK 0 z3 K (Or.inl rfl) bz (PX.refl _ _ _) (fun z => ?_) (fun z _ => ?_) (by unfold KK; omega)
    · obtain ⟨v1, v2, v3, v4, v5, v6⟩ := hg' z
      rw [k34] at v1; rw [k29] at v3
      exact ⟨v1, v2, v3, v4, v5, v6⟩
    · have z' : (I 373 34).toInt = 0 := by rw [k34] at z; exact z
      obtain ⟨t1, t2⟩ := hg z'
      have k390 : K 390 H = I 390 H := fK _ _ (by omega)
      refine ⟨z, EX.mk1 (n := 0) hH (by rw [k32]; exact h32) (t1.keep (fK _ _ (by omega)) (fun j _ _ => fK _ _ (by omega))) (by rw [u42]; rfl) OS.nil (by rw [u43]; rfl) (by rw [u43]; decide) (by rw [u44]; rfl) (by rw [k390]; exact h390.1) (by rw [k390, k29]; omega) (by rw [k390]; exact WFX.nil K (by omega)) (by rw [k390, u44, Nat.sub_self]; rfl) (by omega), fun zz => absurd z' (hz zz), Int.le_refl _⟩
    · have z' : (I 373 34).toInt = 0 := by rw [k34] at z; exact z
      obtain ⟨t1, t2⟩ := hg z'
      have := t1.e
      unfold KK; rw [k29]; omega
  refine st_gI rfl rfl rfl (st_ite (fun c => go 1 (Or.inr rfl) (fun z => absurd z (by decide))) (fun c => go 0 (Or.inl rfl) (fun _ z => c ?_)))
  rw [k34]; exact i32eq.mpr z
end EXR
