/-! The reference: operators, brackets, whole EXPRS. -/
section EXQ
variable {I I' : IM} {J : JM} {R : RM} {H a : Nat}
theorem EX.mk1 {th : Int} {n : Nat} (h0 : H ≤ 1) (h1 : (I 373 32).toInt = H) (h2 : TOK I) (h3 : (I 373 42).toInt = n) (h4 : OS I n) (h5 : (I 373 43).toInt = n - N4 (I 397) n) (h6 : (I 373 43).toInt ≤ 11) (h7 : (I 373 44).toInt = N4 (I 397) n + th) (h8 : 0 ≤ (I 390 H).toInt) (h9 : (I 390 H).toInt + n ≤ (I 373 29).toInt) (h10 : WFX I a (220 * H + (I 390 H).toInt.toNat)) (h11 : dq I a (220 * H + (I 390 H).toInt.toNat - a) = (I 373 44).toInt) (h12 : 220 * H ≤ a) : EX H a th I := by
  have e : (I 373 42).toInt.toNat = n := by omega
  unfold EX
  rw [e, h3]
  exact ⟨h0, h1, h2, by omega, h4, h5, h6, h7, h8, h9, h10, h11, h12⟩
theorem EX.get {th : Int} (h : EX H a th I) : ∃ n : Nat, H ≤ 1 ∧ (I 373 32).toInt = H ∧ TOK I ∧ (I 373 42).toInt = n ∧ OS I n ∧ (I 373 43).toInt = n - N4 (I 397) n ∧ (I 373 43).toInt ≤ 11 ∧ (I 373 44).toInt = N4 (I 397) n + th ∧ 0 ≤ (I 390 H).toInt ∧ (I 390 H).toInt + n ≤ (I 373 29).toInt ∧ WFX I a (220 * H + (I 390 H).toInt.toNat) ∧ dq I a (220 * H + (I 390 H).toInt.toNat - a) = (I 373 44).toInt ∧ 220 * H ≤ a := by
  obtain ⟨h0, h1, h2, h3, h4, h5, h6, h7, h8, h9, h10, h11, h12⟩ := h
  refine ⟨(I 373 42).toInt.toNat, h0, h1, h2, by omega, h4, ?_, h6, h7, h8, by omega, h10, h11, h12⟩
  omega
/-- one step emitted out of an EXPR whose facts hold: the new facts, with n open ones and th -/
theorem q_emx (hR : QR R) {th : Int} {K : IM} {n : Nat} {o v p : Int32} (hth : 0 ≤ th ∧ th ≤ 1) (hx : EX H a th I) (hn : (I 373 42).toInt = n) (hK : ∀ x j, (x ≠ 373 ∨ (j ≠ 42 ∧ j ≠ 43)) → K x j = I x j) (hs : SF o v p (I 373 44).toInt) {Q : WW → Prop} (k : ∀ I', (∀ x j, (x < 390 ∨ 393 < x ∨ (x = 390 ∧ j ≠ H) ∨ (391 ≤ x ∧ x ≤ 393 ∧ j ≠ 220 * H + (I 390 H).toInt.toNat)) → I' x j = K x j) → (I' 390 H).toInt = (I 390 H).toInt + 1 → WFX I' a (220 * H + (I' 390 H).toInt.toNat) → dq I' a (220 * H + (I' 390 H).toInt.toNat - a) = (I 373 44).toInt + dl o → Q (mk I' J R)) : wp (f_q_emit 373 o v p (mk K J R)) Q := by
  have hb := hx.b hth
  obtain ⟨m, h0, h1, h2, h3, h4, h5, h6, h7, h8, h9, h10, h11, h12⟩ := hx.get
  have e32 : K 373 32 = I 373 32 := hK _ _ (by omega)
  have e390 : K 390 H = I 390 H := hK _ _ (by omega)
  have hwK : WFX K a (220 * H + (K 390 H).toInt.toNat) := by rw [e390]; exact h10.congr (fun x j _ _ _ _ => hK x j (by omega))
  have hdK : dq K a (220 * H + (K 390 H).toInt.toNat - a) = (I 373 44).toInt := by
    rw [e390, dq_congr (I := I) (I' := K) (fun j _ => hK _ _ (by omega))]; exact h11
  refine q_emit hR h0 (by rw [e32]; exact h1) (by rw [e390]; omega) (fun I' f1 f2 f3 f4 f5 => ?_)
  obtain ⟨w1, w2⟩ := wfx_emit (o := o) (v := v) (p := p) hwK (by rw [e390]; omega) h0 (by rw [hdK]; exact hs) f1 f2 f3 f4 f5
  rw [hdK] at w2
  rw [e390] at f1 f2
  exact k I' f1 f2 w1 w2
/-- what popping keeps -/
def PP (I0 I : IM) : Prop := (∀ j, 28 ≤ j → j ≤ 31 → I 373 j = I0 373 j) ∧ I 373 34 = I0 373 34 ∧ (I 373 42).toInt ≤ (I0 373 42).toInt ∧ (∀ x j, 397 ≤ x → x ≤ 399 → I x j = I0 x j) ∧ ((∃ j : Nat, (j : Int) < (I0 373 42).toInt ∧ (I0 397 j).toInt ≤ 2) → ∃ j : Nat, (j : Int) < (I 373 42).toInt ∧ (I 397 j).toInt ≤ 2)
theorem PP.refl (I : IM) : PP I I := ⟨fun _ _ _ => rfl, rfl, Int.le_refl _, fun _ _ _ _ => rfl, id⟩
theorem PP.trans {I'' : IM} (h : PP I I') (h2 : PP I' I'') : PP I I'' := ⟨fun j a b => (h2.1 j a b).trans (h.1 j a b), h2.2.1.trans h.2.1, Int.le_trans h2.2.2.1 h.2.2.1, fun x j a b => (h2.2.2.2.1 x j a b).trans (h.2.2.2.1 x j a b), fun z => h2.2.2.2.2 (h.2.2.2.2 z)⟩
theorem l_q_reduce_0 (hR : QR R) {y1 : Int32} (hy : 1 ≤ y1.toInt) {I0 : IM} {Q : WW → Prop} (k : ∀ I', EX H a 1 I' → PX H a I0 I' → PP I0 I' → rkp (I' 397) (I' 399) (I' 373 42).toInt.toNat < y1.toInt → Q (mk I' J R)) : ∀ (N : Nat) (I : IM), EX H a 1 I → PX H a I0 I → PP I0 I → (I 373 42).toInt.toNat < N → wp (f_q_reduce_0 N 373 y1 (mk I J R)) Q := by
  intro N
  induction N with
  | zero => intros; omega
  | succ N ih =>
    intro I hx hp hq hN
    have hb := hx.b (by decide)
    obtain ⟨n, h0, h1, h2, h3, h4, h5, h6, h7, h8, h9, h10, h11, h12⟩ := hx.get
    have e3 : (I 373 42).toInt.toNat = n := by omega
    have ht := h2.e
    rw [f_q_reduce_0]
    unfold f_q_reduce_150
    refine st_gI rfl rfl rfl (st_ite (fun c => st_some (k _ hx hp hq ?_)) (fun c => ?_))
    · rw [i32le, l32_0] at c
      have : n = 0 := by omega
      rw [e3, this]; show (0 : Int) < _; omega
    rw [i32le, l32_0] at c
    obtain ⟨m, rfl⟩ : ∃ m, n = m + 1 := ⟨n - 1, by omega⟩
    have x1 : (I 373 42 - 1).toInt = m := by rw [i32subc (by rw [h3, l32_1]; omega), h3, l32_1]; omega
    have ex : (I 373 42 - 1).toInt.toNat = m := by omega
    refine qn_38 hR (st_gI rfl rfl rfl (st_rI (n := 300) (x := I 397 m) rfl (by omega) (by rw [ex]) (st_ite (fun c2 => ?_) (fun c2 => st_some (k _ hx hp hq ?_)))))
    · have c2' : (I 397 m).toInt = 4 := by rw [c2]; rfl
      refine qn_40 hR (st_gI rfl rfl rfl (st_rI (n := 300) (x := I 399 m) rfl (by omega) (by rw [ex]) (st_bd2 (s_q_rank (fun r hr => ?_)))))
      dsimp only
      refine st_ite (fun c3 => st_some (k _ hx hp hq ?_)) (fun c3 => ?_)
      · rw [e3, rkp_s, if_pos c2', ← hr.2]; rw [i32lt] at c3; exact c3
      refine st_gI rfl rfl rfl (st_pI rfl rfl ?_)
      have hN4 : N4 (I 397) (m + 1) = N4 (I 397) m + 1 := by rw [N4_s, if_pos c2']
      have hN4b := N4_b (I 397) m
      have u42 : up2 I 373 42 (I 373 42 - 1) 373 42 = I 373 42 - 1 := up2_s
      refine qn_40 hR (st_gI rfl rfl u42 (st_rI (n := 300) (x := I 399 m) rfl (by omega) (by rw [ex, up2_nea (by decide)]) (st_bd2 (s_q_stepOf (fun o ho => ?_)))))
      dsimp only
      refine qn_39 hR (st_gI rfl rfl u42 (st_rI (n := 300) (x := I 398 m) rfl (by omega) (by rw [ex, up2_nea (by decide)]) ?_))
      have hat := (h4.2 m (by omega))
      have hdl : dl o = -1 := by have := dl_c o; omega
      refine st_bd (q_emx hR (th := 1) (I := I) (K := up2 I 373 42 (I 373 42 - 1)) (by decide) hx h3 (fun x j hxj => up2_ne _ _ (by omega)) ⟨fun z => by omega, fun z => by omega, ⟨hat.1, hat.2.1⟩, by omega, by omega, fun z => by omega, fun _ => by omega, by omega⟩ (fun I2 f1 f2 w1 w2 => ?_))
      have g44 : I2 373 44 = I 373 44 := by rw [f1 _ _ (by omega), up2_nek (by decide)]
      refine st_gI rfl rfl rfl (st_pI rfl rfl ?_)
      have x44 : (I2 373 44 - 1).toInt = N4 (I 397) m + 1 := by rw [i32subc (by rw [g44, l32_1]; omega), g44, l32_1]; omega
      have v44 : up2 I2 373 44 (I2 373 44 - 1) 373 44 = I2 373 44 - 1 := up2_s
      have x441 : (I2 373 44 - 1 - 1).toInt = N4 (I 397) m := by rw [i32subc (by rw [x44, l32_1]; omega), x44, l32_1]; omega
      have last : ∀ z : Int32, wp (f_q_reduce_132 (f_q_reduce_0 N) 373 y1 z (mk (up2 I2 373 44 (I2 373 44 - 1)) J R)) Q := by
        intro z
        unfold f_q_reduce_132
        refine qn_41 hR (st_gI rfl rfl v44 (st_sI (n := 300) rfl (by omega) ?_))
        generalize hI3 : up2 (up2 I2 373 44 (I2 373 44 - 1)) 400 (I2 373 44 - 1 - 1).toInt.toNat (z + 1) = I3
        have fr : ∀ x j, (x < 390 ∨ (393 < x ∧ x ≠ 400) ∨ (x = 390 ∧ j ≠ H) ∨ (391 ≤ x ∧ x ≤ 393 ∧ j ≠ 220 * H + (I 390 H).toInt.toNat)) → (x ≠ 373 ∨ (j ≠ 42 ∧ j ≠ 44)) → I3 x j = I x j := fun x j hx1 hx2 => by
          rw [← hI3, up2_ne _ _ (by omega), up2_ne _ _ (by omega), f1 _ _ (by omega), up2_ne _ _ (by omega)]
        have g42 : I3 373 42 = I 373 42 - 1 := by rw [← hI3, up2_nea (by decide), up2_nek (by decide), f1 _ _ (by omega), up2_s]
        have g44' : I3 373 44 = I2 373 44 - 1 := by rw [← hI3, up2_nea (by decide), up2_s]
        have g43 : I3 373 43 = I 373 43 := fr _ _ (by omega) (by omega)
        have g390 : I3 390 H = I2 390 H := by rw [← hI3, up2_nea (by decide), up2_nea (by decide)]
        have g397 : I3 397 = I 397 := by funext j; exact fr _ _ (by omega) (by omega)
        have g29 : I3 373 29 = I 373 29 := fr _ _ (by omega) (by omega)
        have hx3 : EX H a 1 I3 := by
          refine EX.mk1 (n := m) h0 (by rw [fr 373 32 (by omega) (by omega)]; exact h1) (h2.keep (fr _ _ (by omega) (by omega)) (fun j a b => fr _ _ (by omega) (by omega))) (by rw [g42]; exact x1) ((h4.pre (by omega)).congr (fun x j a b _ => fr _ _ (by omega) (by omega))) ?_ (by rw [g43]; exact h6) ?_ (by rw [g390]; omega) (by rw [g390, g29]; omega) ?_ ?_ h12
          · rw [g43, g397]; omega
          · rw [g44', g397]; omega
          · rw [g390]; exact w1.congr (fun x j a b _ _ => by rw [← hI3, up2_nea (by omega), up2_nea (by omega)])
          · rw [g390, g44', dq_congr (I := I2) (I' := I3) (fun j _ => by rw [← hI3, up2_nea (by decide), up2_nea (by decide)]), w2]; omega
        have hp3 : PX H a I I3 := fun x j hxj => by
          refine fr x j ?_ (by omega)
          omega
        have hq3 : PP I I3 := by
          refine ⟨fun j a b => fr _ _ (by omega) (by omega), fr _ _ (by omega) (by omega), by rw [g42]; omega, fun x j a b => fr _ _ (by omega) (by omega), fun ⟨j, j1, j2⟩ => ⟨j, ?_, by rw [g397]; exact j2⟩⟩
          rw [g42]
          have : j ≠ m := fun z => by subst z; omega
          omega
        exact ih I3 hx3 (hp.trans hp3) (hq.trans hq3) (by rw [g42]; omega)
      refine qn_41 hR (st_gI rfl rfl v44 (st_rI (n := 300) rfl (by omega) rfl ?_))
      refine qn_41 hR (st_gI rfl rfl v44 (st_rI (n := 300) rfl (by omega) rfl (st_ite (fun _ => ?_) (fun _ => ?_))))
      · exact qn_41 hR (st_gI rfl rfl v44 (st_rI (n := 300) rfl (by omega) rfl (last _)))
      · exact qn_41 hR (st_gI rfl rfl v44 (st_rI (n := 300) rfl (by omega) rfl (last _)))
    · rw [e3, rkp_s, if_neg (fun z => c2 (i32eq.mpr (by rw [z, l32_4])))]; omega
theorem q_reduce (hR : QR R) {y1 : Int32} (hy : 1 ≤ y1.toInt) (hx : EX H a 1 I) {Q : WW → Prop} (k : ∀ I', EX H a 1 I' → PX H a I I' → PP I I' → rkp (I' 397) (I' 399) (I' 373 42).toInt.toNat < y1.toInt → Q (mk I' J R)) : wp (f_q_reduce 373 y1 (mk I J R)) Q := by
  have hb := hx.b (by decide)
  unfold f_q_reduce
  exact st_kb rfl (l_q_reduce_0 hR hy k KK I hx (PX.refl _ _ _) (PP.refl _) (by unfold KK; omega))
theorem l_q_opposites_0 (hR : QR R) {I0 : IM} {Q : WW → Prop} (k : ∀ I', EX H a 1 I' → PX H a I0 I' → PP I0 I' → Q (mk I' J R)) : ∀ (N : Nat) (I : IM), EX H a 1 I → PX H a I0 I → PP I0 I → (I 373 42).toInt.toNat < N → wp (f_q_opposites_0 N 373 (mk I J R)) Q := by
  intro N
  induction N with
  | zero => intros; omega
  | succ N ih =>
    intro I hx hp hq hN
    have hb := hx.b (by decide)
    obtain ⟨n, h0, h1, h2, h3, h4, h5, h6, h7, h8, h9, h10, h11, h12⟩ := hx.get
    have ht := h2.e
    rw [f_q_opposites_0]
    unfold f_q_opposites_75
    refine st_gI rfl rfl rfl (st_ite (fun c => st_some (k _ hx hp hq)) (fun c => ?_))
    rw [i32le, l32_0] at c
    obtain ⟨m, rfl⟩ : ∃ m, n = m + 1 := ⟨n - 1, by omega⟩
    have x1 : (I 373 42 - 1).toInt = m := by rw [i32subc (by rw [h3, l32_1]; omega), h3, l32_1]; omega
    have ex : (I 373 42 - 1).toInt.toNat = m := by omega
    refine qn_38 hR (st_gI rfl rfl rfl (st_rI (n := 300) (x := I 397 m) rfl (by omega) (by rw [ex]) (st_ite (fun c2 => ?_) (fun c2 => st_some (k _ hx hp hq)))))
    have c2' : (I 397 m).toInt = 3 := by rw [c2]; rfl
    have hN4 : N4 (I 397) (m + 1) = N4 (I 397) m := by rw [N4_s, if_neg (by omega)]; omega
    have hN4b := N4_b (I 397) m
    have b43 := i32b (I 373 43)
    refine st_gI rfl rfl rfl (st_pI rfl rfl (st_gI rfl rfl (up2_nek (by decide)) (st_pI rfl rfl ?_)))
    have u42 : up2 (up2 I 373 42 (I 373 42 - 1)) 373 43 (I 373 43 - 1) 373 42 = I 373 42 - 1 := by rw [up2_nek (by decide), up2_s]
    refine qn_39 hR (st_gI rfl rfl u42 (st_rI (n := 300) (x := I 398 m) rfl (by omega) (by rw [ex, up2_nea (by decide), up2_nea (by decide)]) ?_))
    have hat := (h4.2 m (by omega))
    have hdl : dl 4 = 0 := by decide
    refine st_bd (q_emx hR (th := 1) (I := I) (K := up2 (up2 I 373 42 (I 373 42 - 1)) 373 43 (I 373 43 - 1)) (by decide) hx h3 (fun x j hxj => by rw [up2_ne _ _ (by omega), up2_ne _ _ (by omega)]) ⟨fun z => absurd z (by decide), fun z => absurd z (by decide), ⟨hat.1, hat.2.1⟩, by omega, by omega, fun z => by omega, fun z => absurd rfl z.2.2.2, by decide⟩ (fun I2 f1 f2 w1 w2 => ?_))
    have g44 : I2 373 44 = I 373 44 := by rw [f1 _ _ (by omega), up2_nek (by decide), up2_nek (by decide)]
    have x441 : (I2 373 44 - 1).toInt = N4 (I 397) m := by rw [i32subc (by rw [g44, l32_1]; omega), g44, l32_1]; omega
    refine qn_41 hR (st_gI rfl rfl rfl (st_rI (n := 300) rfl (by omega) rfl (st_sI (n := 300) rfl (by omega) ?_)))
    generalize hI3 : up2 I2 400 (I2 373 44 - 1).toInt.toNat (I2 400 (I2 373 44 - 1).toInt.toNat + 1) = I3
    have fr : ∀ x j, (x < 390 ∨ (393 < x ∧ x ≠ 400) ∨ (x = 390 ∧ j ≠ H) ∨ (391 ≤ x ∧ x ≤ 393 ∧ j ≠ 220 * H + (I 390 H).toInt.toNat)) → (x ≠ 373 ∨ (j ≠ 42 ∧ j ≠ 43)) → I3 x j = I x j := fun x j hx1 hx2 => by
      rw [← hI3, up2_ne _ _ (by omega), f1 _ _ (by omega), up2_ne _ _ (by omega), up2_ne _ _ (by omega)]
    have g42 : I3 373 42 = I 373 42 - 1 := by rw [← hI3, up2_nea (by decide), f1 _ _ (by omega), u42]
    have g43 : I3 373 43 = I 373 43 - 1 := by rw [← hI3, up2_nea (by decide), f1 _ _ (by omega), up2_s]
    have x43 : (I 373 43 - 1).toInt = (I 373 43).toInt - 1 := by rw [i32subc (by rw [l32_1]; omega), l32_1]
    have g44' : I3 373 44 = I 373 44 := fr _ _ (by omega) (by omega)
    have g390 : I3 390 H = I2 390 H := by rw [← hI3, up2_nea (by decide)]
    have g397 : I3 397 = I 397 := by funext j; exact fr _ _ (by omega) (by omega)
    have g29 : I3 373 29 = I 373 29 := fr _ _ (by omega) (by omega)
    have hx3 : EX H a 1 I3 := by
      refine EX.mk1 (n := m) h0 (by rw [fr 373 32 (by omega) (by omega)]; exact h1) (h2.keep (fr _ _ (by omega) (by omega)) (fun j a b => fr _ _ (by omega) (by omega))) (by rw [g42]; exact x1) ((h4.pre (by omega)).congr (fun x j a b _ => fr _ _ (by omega) (by omega))) ?_ (by rw [g43]; omega) ?_ (by rw [g390]; omega) (by rw [g390, g29]; omega) ?_ ?_ h12
      · rw [g43, g397]; omega
      · rw [g44', g397]; omega
      · rw [g390]; exact w1.congr (fun x j a b _ _ => by rw [← hI3, up2_nea (by omega)])
      · rw [g390, g44', dq_congr (I := I2) (I' := I3) (fun j _ => by rw [← hI3, up2_nea (by decide)]), w2]; omega
    have hp3 : PX H a I I3 := fun x j hxj => by
      refine fr x j ?_ (by omega)
      omega
    have hq3 : PP I I3 := by
      refine ⟨fun j a b => fr _ _ (by omega) (by omega), fr _ _ (by omega) (by omega), by rw [g42]; omega, fun x j a b => fr _ _ (by omega) (by omega), fun ⟨j, j1, j2⟩ => ⟨j, ?_, by rw [g397]; exact j2⟩⟩
      rw [g42]
      have : j ≠ m := fun z => by subst z; omega
      omega
    exact ih I3 hx3 (hp.trans hp3) (hq.trans hq3) (by rw [g42]; omega)
theorem q_opposites (hR : QR R) (hx : EX H a 1 I) {Q : WW → Prop} (k : ∀ I', EX H a 1 I' → PX H a I I' → PP I I' → Q (mk I' J R)) : wp (f_q_opposites 373 (mk I J R)) Q := by
  have hb := hx.b (by decide)
  unfold f_q_opposites
  exact st_kb rfl (l_q_opposites_0 hR k KK I hx (PX.refl _ _ _) (PP.refl _) (by unfold KK; omega))
theorem q_leaf (hR : QR R) (hx : EX H a 0 I) {o : Int32} (ho : (o.toInt = 1 ∨ o.toInt = 2) ∧ (I 373 30).toInt = o.toInt) {Q : WW → Prop} (k : ∀ I', EX H a 1 I' → PX H a I I' → I' 373 34 = I 373 34 → (I 373 29).toInt + 1 ≤ (I' 373 29).toInt → Q (mk I' J R)) : wp (f_q_leaf 373 o (mk I J R)) Q := by
  have hb := hx.b (by decide)
  obtain ⟨n, h0, h1, h2, h3, h4, h5, h6, h7, h8, h9, h10, h11, h12⟩ := hx.get
  have ht := h2.e
  have hN4b := N4_b (I 397) n
  have hdl : dl o = 1 := by have := dl_c o; omega
  unfold f_q_leaf
  refine st_kb rfl (st_gI rfl rfl rfl (st_gI rfl rfl rfl ?_))
  refine st_bd (q_emx hR (th := 0) (I := I) (K := I) (by decide) hx h3 (fun x j _ => rfl) ⟨fun z => ht.2.2.2.2.2.1 (by omega), fun z => by omega, by omega, by omega, by omega, fun z => by omega, fun z => by omega, by omega⟩ (fun I2 f1 f2 w1 w2 => ?_))
  have g44 : I2 373 44 = I 373 44 := f1 _ _ (by omega)
  refine qn_41 hR (st_gI rfl rfl rfl (st_sI (n := 300) rfl (by rw [g44]; omega) (st_gI rfl rfl (up2_nea (by decide)) (st_pI rfl rfl ?_))))
  have x44 : (I2 373 44 + 1).toInt = (I 373 44).toInt + 1 := by rw [i32addc (by rw [g44, l32_1]; omega), g44, l32_1]
  generalize hI3 : up2 (up2 I2 400 (I2 373 44).toInt.toNat 1) 373 44 (I2 373 44 + 1) = I3
  have fr : ∀ x j, (x < 390 ∨ (393 < x ∧ x ≠ 400) ∨ (x = 390 ∧ j ≠ H) ∨ (391 ≤ x ∧ x ≤ 393 ∧ j ≠ 220 * H + (I 390 H).toInt.toNat)) → (x ≠ 373 ∨ j ≠ 44) → I3 x j = I x j := fun x j hx1 hx2 => by
    rw [← hI3, up2_ne _ _ (by omega), up2_ne _ _ (by omega), f1 _ _ (by omega)]
  have tok3 : TOK I3 := h2.keep (fr _ _ (by omega) (by omega)) (fun j a b => fr _ _ (by omega) (by omega))
  have g30 : I3 373 30 = I 373 30 := fr _ _ (by omega) (by omega)
  have g29 : I3 373 29 = I 373 29 := fr _ _ (by omega) (by omega)
  have g44' : I3 373 44 = I2 373 44 + 1 := by rw [← hI3, up2_s]
  have g390 : I3 390 H = I2 390 H := by rw [← hI3, up2_nea (by decide), up2_nea (by decide)]
  have g397 : I3 397 = I 397 := by funext j; exact fr _ _ (by omega) (by omega)
  refine st_bd (q_read hR tok3 (fun I4 y1 y2 y3 y4 y5 => ?_))
  have y5' := y5 (by rw [g30]; omega)
  rw [g29] at y5'
  have e4 : ∀ x j, (x ≠ 373 ∨ (j ≠ 4 ∧ j ≠ 34 ∧ (j < 28 ∨ 31 < j))) → I4 x j = I3 x j := y1
  have e397 : I4 397 = I 397 := by funext j; rw [e4 _ _ (by omega), g397]
  refine st_some (k I4 ?_ (fun x j hxj => ?_) (by rw [y2]; exact fr _ _ (by omega) (by omega)) y5')
  · refine EX.mk1 (n := n) h0 (by rw [e4 _ _ (by omega), fr 373 32 (by omega) (by omega)]; exact h1) y3 (by rw [e4 _ _ (by omega), fr 373 42 (by omega) (by omega)]; exact h3) (h4.congr (fun x j a b _ => by rw [e4 _ _ (by omega), fr _ _ (by omega) (by omega)])) ?_ ?_ ?_ ?_ ?_ ?_ ?_ h12
    · rw [e397, e4 _ _ (by omega), fr 373 43 (by omega) (by omega)]; exact h5
    · rw [e4 _ _ (by omega), fr 373 43 (by omega) (by omega)]; exact h6
    · rw [e397, e4 _ _ (by omega), g44']; omega
    · rw [e4 _ _ (by omega), g390]; omega
    · rw [e4 390 _ (by omega), g390]; omega
    · rw [e4 390 _ (by omega), g390]
      exact w1.congr (fun x j a b _ _ => by rw [e4 _ _ (by omega), ← hI3, up2_nea (by omega), up2_nea (by omega)])
    · rw [e4 390 _ (by omega), g390, e4 373 44 (by omega), g44', dq_congr (I := I2) (I' := I4) (fun j _ => by rw [e4 _ _ (by omega), ← hI3, up2_nea (by decide), up2_nea (by decide)]), w2]; omega
  · rw [e4 _ _ (by omega)]
    exact fr x j (by omega) (by omega)
theorem q_push (hR : QR R) {n : Nat} (h3 : (I 373 42).toInt = n) (hn : n < 300) (h43 : (I 373 43).toInt ≤ 1000 ∧ 0 ≤ (I 373 43).toInt) {a1 a2 a3 : Int32} {Q : WW → Prop} (k : ∀ I', (∀ x j, (x < 397 ∨ 399 < x ∨ j ≠ n) → (x ≠ 373 ∨ (j ≠ 42 ∧ j ≠ 43)) → I' x j = I x j) → I' 397 n = a1 → I' 399 n = a2 → I' 398 n = a3 → (I' 373 42).toInt = (n : Int) + 1 → (I' 373 43).toInt = (if a1.toInt < 4 then (I 373 43).toInt + 1 else (I 373 43).toInt) → Q (mk I' J R)) : wp (f_q_push 373 a1 a2 a3 (mk I J R)) Q := by
  have e3 : (I 373 42).toInt.toNat = n := by omega
  unfold f_q_push f_q_push_55
  refine st_kb rfl (qn_38 hR (st_gI rfl rfl rfl (st_sI (n := 300) rfl (by omega) (qn_40 hR (st_gI rfl rfl (up2_nea (by decide)) (st_sI (n := 300) rfl (by omega) (qn_39 hR (st_gI rfl rfl ((up2_nea (by decide)).trans (up2_nea (by decide))) (st_sI (n := 300) rfl (by omega) (st_gI rfl rfl ((up2_nea (by decide)).trans ((up2_nea (by decide)).trans (up2_nea (by decide)))) (st_pI rfl rfl ?_)))))))))))
  rw [e3]
  have x42 : (I 373 42 + 1).toInt = (n : Int) + 1 := by rw [i32addc (by rw [h3, l32_1]; omega), h3, l32_1]
  refine st_ite (fun c => ?_) (fun c => ?_)
  · rw [i32le, l32_4] at c
    refine st_some (k _ (fun x j hx1 hx2 => ?_) ?_ ?_ ?_ ?_ ?_)
    · rw [up2_ne _ _ (by omega), up2_ne _ _ (by omega), up2_ne _ _ (by omega), up2_ne _ _ (by omega)]
    · rw [up2_nea (by decide), up2_nea (by decide), up2_nea (by decide), up2_s]
    · rw [up2_nea (by decide), up2_nea (by decide), up2_s]
    · rw [up2_nea (by decide), up2_s]
    · rw [up2_s]; exact x42
    · rw [if_neg (by omega), up2_nek (by decide), up2_nea (by decide), up2_nea (by decide), up2_nea (by decide)]
  · rw [i32le, l32_4] at c
    refine st_gI rfl rfl ((up2_nek (by decide)).trans ((up2_nea (by decide)).trans ((up2_nea (by decide)).trans (up2_nea (by decide))))) (st_pI rfl rfl (st_some (k _ (fun x j hx1 hx2 => ?_) ?_ ?_ ?_ ?_ ?_)))
    · rw [up2_ne _ _ (by omega), up2_ne _ _ (by omega), up2_ne _ _ (by omega), up2_ne _ _ (by omega), up2_ne _ _ (by omega)]
    · rw [up2_nea (by decide), up2_nea (by decide), up2_nea (by decide), up2_nea (by decide), up2_s]
    · rw [up2_nea (by decide), up2_nea (by decide), up2_nea (by decide), up2_s]
    · rw [up2_nea (by decide), up2_nea (by decide), up2_s]
    · rw [up2_nek (by decide), up2_s]; exact x42
    · rw [if_pos (by omega), up2_s, i32addc (by rw [l32_1]; omega), l32_1]
/-- pushing, then reading on -/
theorem EX.psh {th : Int} {n : Nat} (hth : th = 0 ∨ th = 1) (hx : EX H a th I) (hn : (I 373 42).toInt = n) (htk : (I 373 30).toInt ≠ 0) {a1 a2 a3 : Int32} (ha1 : 1 ≤ a1.toInt ∧ a1.toInt ≤ 4) (hth4 : (a1.toInt < 4 ∧ th = 0 ∧ (I 373 43).toInt ≤ 10) ∨ (a1.toInt = 4 ∧ th = 1 ∧ rkp (I 397) (I 399) n < (rk a2).toInt)) (ha2 : a1.toInt = 2 → 0 ≤ a2.toInt ∧ a2.toInt ≤ 1) (ha3 : 0 ≤ a3.toInt ∧ a3.toInt ≤ 199) {K I' : IM} (f1 : ∀ x j, (x < 397 ∨ 399 < x ∨ j ≠ n) → (x ≠ 373 ∨ (j ≠ 42 ∧ j ≠ 43)) → K x j = I x j) (f2 : K 397 n = a1) (f3 : K 399 n = a2) (f4 : K 398 n = a3) (f5 : (K 373 42).toInt = (n : Int) + 1) (f6 : (K 373 43).toInt = (if a1.toInt < 4 then (I 373 43).toInt + 1 else (I 373 43).toInt)) (y1 : YF K I') (y3 : TOK I') (y5 : (K 373 30).toInt ≠ 0 → (K 373 29).toInt + 1 ≤ (I' 373 29).toInt) : EX H a 0 I' ∧ PX H a I I' ∧ (I 373 29).toInt + 1 ≤ (I' 373 29).toInt := by
  have hb := hx.b (by omega)
  obtain ⟨m, h0, h1, h2, h3, h4, h5, h6, h7, h8, h9, h10, h11, h12⟩ := hx.get
  have e : m = n := by omega
  subst e
  have g29 : K 373 29 = I 373 29 := f1 _ _ (by omega) (by omega)
  have g30 : K 373 30 = I 373 30 := f1 _ _ (by omega) (by omega)
  have y5' := y5 (by rw [g30]; exact htk)
  rw [g29] at y5'
  have e4 : ∀ x j, (x ≠ 373 ∨ (j ≠ 4 ∧ j ≠ 34 ∧ (j < 28 ∨ 31 < j))) → I' x j = K x j := y1
  have hpre : ∀ j, j < m → I' 397 j = I 397 j := fun j hj => by rw [e4 _ _ (by omega), f1 _ _ (by omega) (by omega)]
  have hN4 : N4 (I' 397) m = N4 (I 397) m := N4_c hpre
  have hN : N4 (I' 397) (m + 1) = N4 (I 397) m + (if a1.toInt = 4 then 1 else 0) := by rw [N4_s, hN4, e4 397 m (by omega), f2]
  have hr : rkp (I' 397) (I' 399) m = rkp (I 397) (I 399) m := rkp_c hpre (fun j hj => by rw [e4 _ _ (by omega), f1 _ _ (by omega) (by omega)])
  have hOS : OS I' (m + 1) := by
    refine (h4.congr (fun x j x1 x2 hj => by rw [e4 _ _ (by omega), f1 _ _ (by omega) (by omega)])).snoc ?_ ?_ ?_
    · rw [e4 _ _ (by omega), f4]; exact ha3
    · rw [e4 397 _ (by omega), e4 399 _ (by omega), f2, f3]; exact ha2
    · rw [hr, e4 397 _ (by omega), e4 399 _ (by omega), f2, f3]; intro z; omega
  have g44 : I' 373 44 = I 373 44 := by rw [e4 _ _ (by omega), f1 _ _ (by omega) (by omega)]
  have g390 : I' 390 H = I 390 H := by rw [e4 _ _ (by omega), f1 _ _ (by omega) (by omega)]
  have g43 : (I' 373 43).toInt = (K 373 43).toInt := by rw [e4 _ _ (by omega)]
  have hst : ∀ x j, 391 ≤ x → x ≤ 393 → I' x j = I x j := fun x j _ _ => by rw [e4 _ _ (by omega), f1 _ _ (by omega) (by omega)]
  refine ⟨EX.mk1 (n := m + 1) h0 (by rw [e4 _ _ (by omega), f1 _ _ (by omega) (by omega)]; exact h1) y3 (by rw [e4 _ _ (by omega)]; omega) hOS ?_ ?_ ?_ (by rw [g390]; exact h8) (by rw [g390]; omega) (by rw [g390]; exact h10.congr (fun x j x1 x2 _ _ => hst x j x1 x2)) (by rw [g390, g44, dq_congr (I := I) (I' := I') (fun j _ => hst _ _ (by decide) (by decide))]; exact h11) h12, fun x j hxj => ?_, y5'⟩
  · rw [g43, hN, f6]
    rcases hth4 with z | z
    · rw [if_pos z.1, if_neg (by omega)]; omega
    · rw [if_neg (by omega), if_pos z.1]; omega
  · rw [g43, f6]
    rcases hth4 with z | z
    · rw [if_pos z.1]; omega
    · rw [if_neg (by omega)]; exact h6
  · rw [g44, hN]
    rcases hth4 with z | z
    · rw [if_neg (by omega)]; omega
    · rw [if_pos z.1]; omega
  · rw [e4 _ _ (by omega), f1 _ _ (by omega) (by omega)]
end EXQ
