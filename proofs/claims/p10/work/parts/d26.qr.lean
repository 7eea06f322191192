/-! The reference runs a program by the same rules: STATEMENTS without BLOCKS, then all. -/
theorem nar1 : vp_nar .boolean (1 : Int32) = 1 := by decide
section QSI
variable {Z : ZC} {s : SGM} {O : List Nat} {I I' : IM} {d y : Nat}
theorem QGO.set {s' : SGM} (h : QGO Z s O I) (e : ∀ x j, (x < 401 ∨ 403 ≤ x) → x ≠ 405 → (x ≠ 373 ∨ (j ≠ 52 ∧ j ≠ 53)) → I' x j = I x j) (hV : VRL s'.V s'.U s'.C I') (hb : (I' 373 52).toInt = s'.bg) (ht : (I' 373 53).toInt = s'.tk) (hl : s'.bg ≤ Z.lim) : QGO Z s' O I' := by
  obtain ⟨h1, _, _, _, _, h6, h7, h8⟩ := h
  exact ⟨fun x j a b => by rw [e x j (by omega) (by omega) (by omega)]; exact h1 x j a b, hV, hb, ht, hl, h6.keep O (fun j hj => e _ _ (by omega) (by omega) (by omega)), h7, by rw [e _ _ (by omega) (by omega) (by omega)]; exact h8.1, by rw [e _ _ (by omega) (by omega) (by omega)]; exact h8.2⟩
/-- a VARIABLE has a value from now on -/
theorem VRL.set {V U C : Nat → Int32} (h : VRL V U C I) {k : Nat} {v : Int32} (e1 : ∀ j, I' 401 j = if j = k then v else I 401 j) (e2 : ∀ j, I' 405 j = if j = k then 1 else I 405 j) (e3 : ∀ j, I' 402 j = I 402 j) : VRL (upn V k v) (upn U k 0) C I' := by
  refine ⟨fun j hj => ?_, fun j hj => ?_, fun j hj => by rw [e3]; exact h.2.2 j hj⟩
  · rw [e1]
    unfold upn
    by_cases z : j = k
    · rw [if_pos z, if_pos z]
    · rw [if_neg z, if_neg z]; exact h.1 j hj
  · rw [e2]
    unfold upn
    by_cases z : j = k
    · rw [if_pos z, if_pos z]
      exact ⟨fun w => absurd w (by decide), fun w => absurd rfl w⟩
    · rw [if_neg z, if_neg z]; exact h.2.1 j hj
/-- a STATEMENT without BLOCKS -/
def SIM (X : RX) (ic : Nat) (inp : Nat → Int32) (y : Nat) (s : SGM) (r : RRs) : Prop :=
  (X.F y 0 = 8 ∧ s.tk < ic ∧ r = .inl ⟨upn s.V (X.f y 2) (inp s.tk), upn s.U (X.f y 2) 0, s.C, s.bg, s.tk + 1⟩) ∨
  (X.F y 0 = 8 ∧ ¬ s.tk < ic ∧ r = .inl ⟨upn s.V (X.f y 2) 0, upn s.U (X.f y 2) 0, s.C, s.bg, s.tk⟩) ∨
  (∃ S S1 : Nat → Int32, X.F y 0 = 2 ∧ EV X s.V s.U s.C (X.f y 3) (X.f y 5) 0 S (.inl S1) ∧ r = .inl ⟨upn s.V (X.f y 2) (S1 0), upn s.U (X.f y 2) 0, s.C, s.bg, s.tk⟩) ∨
  (∃ (S : Nat → Int32) (z : Int32), X.F y 0 = 2 ∧ EV X s.V s.U s.C (X.f y 3) (X.f y 5) 0 S (.inr z) ∧ r = .inr (.inr (s, z))) ∨
  (∃ (S : Nat → Int32) (z : Int32), X.F y 0 = 3 ∧ EV X s.V s.U s.C (X.f y 3) (X.f y 4) 0 S (.inr z) ∧ r = .inr (.inr (s, z))) ∨
  (∃ S S1 : Nat → Int32, X.F y 0 = 3 ∧ EV X s.V s.U s.C (X.f y 3) (X.f y 4) 0 S (.inl S1) ∧ ¬ (0 ≤ (S1 0).toInt ∧ (S1 0).toInt < 4) ∧ r = .inr (.inr (s, (1024 : Int32) * 2 + X.F y 1))) ∨
  (∃ (S S1 S' : Nat → Int32) (z : Int32), X.F y 0 = 3 ∧ EV X s.V s.U s.C (X.f y 3) (X.f y 4) 0 S (.inl S1) ∧ (0 ≤ (S1 0).toInt ∧ (S1 0).toInt < 4) ∧ EV X s.V s.U s.C (X.f y 4) (X.f y 5) 0 S' (.inr z) ∧ r = .inr (.inr (s, z))) ∨
  (∃ S S1 S' S2 : Nat → Int32, X.F y 0 = 3 ∧ EV X s.V s.U s.C (X.f y 3) (X.f y 4) 0 S (.inl S1) ∧ (0 ≤ (S1 0).toInt ∧ (S1 0).toInt < 4) ∧ EV X s.V s.U s.C (X.f y 4) (X.f y 5) 0 S' (.inl S2) ∧ r = .inl ⟨s.V, s.U, upn s.C (X.F y 2 + S1 0).toInt.toNat (S2 0), s.bg, s.tk⟩) ∨
  (∃ z : Int32, X.F y 0 = 7 ∧ HLD X s.V s.U s.C y (.inr z) ∧ r = .inr (.inr (s, z))) ∨
  (X.F y 0 = 7 ∧ HLD X s.V s.U s.C y (.inl true) ∧ r = .inl s) ∨
  (X.F y 0 = 7 ∧ HLD X s.V s.U s.C y (.inl false) ∧ r = .inr (.inr (s, (1024 : Int32) * 5 + X.F y 1)))
theorem z_simple (hz : ZOK Z) (hy : Z.G d y) (hk : Z.X.F y 0 = 2 ∨ Z.X.F y 0 = 8 ∨ Z.X.F y 0 = 3 ∨ Z.X.F y 0 = 7) {ss : Int32} (hss : ss.toInt = (sid Z.H Z.p y : Nat)) (h : QGO Z s O I) {r : RRs} (hS : SIM Z.X Z.ic Z.inp y s r) {Q : (Int32 × WW) → Prop} (k1 : ∀ s', r = .inl s' → ∀ I', QGO Z s' O I' → Q (1, mk I' Z.J Z.R)) (kx : ∀ s' z, r = .inr (.inr (s', z)) → ∀ I', QGE Z s' I' → I' 373 51 = z → Q (0, mk I' Z.J Z.R)) : wl (f_q_simple 373 ss (mk I Z.J Z.R)) Q := by
  have kd := hz.st.kd d y hy
  have pl := hz.st.pl d y hy
  have hi : (I 373 3).toInt = Z.ic := by rw [h.1 373 3 (by omega) (by omega)]; exact hz.hi
  have w45 : ∀ {β : Type} {Q : β → Prop} {f : Nat → Option β} {I : IM}, wl (f 401) Q → wl ((gN (mk I Z.J Z.R) 373 9 45).bind f) Q := fun K => wq_4x hz.hR (Or.inl ⟨rfl, rfl⟩) K
  have w46 : ∀ {β : Type} {Q : β → Prop} {f : Nat → Option β} {I : IM}, wl (f 402) Q → wl ((gN (mk I Z.J Z.R) 373 9 46).bind f) Q := fun K => wq_4x hz.hR (Or.inr (Or.inl ⟨rfl, rfl⟩)) K
  have w49 : ∀ {β : Type} {Q : β → Prop} {f : Nat → Option β} {I : IM}, wl (f 405) Q → wl ((gN (mk I Z.J Z.R) 373 9 49).bind f) Q := fun K => wq_4x hz.hR (Or.inr (Or.inr (Or.inr (Or.inr (Or.inl ⟨rfl, rfl⟩))))) K
  unfold f_q_simple
  refine wl_kb (wq_9 hz.hR (wl_rI (n := 160) rfl (fun _ => ?_)))
  rw [tnat hss, h.fr (by omega), kd]
  rcases hS with ⟨c, c1, rfl⟩ | ⟨c, c1, rfl⟩ | ⟨S, S1, c, hE, rfl⟩ | ⟨S, z0, c, hE, rfl⟩ | ⟨S, z0, c, hE, rfl⟩ | ⟨S, S1, c, hE, hb, rfl⟩ | ⟨S, S1, S2, z0, c, hE, hb, hE2, rfl⟩ | ⟨S, S1, S2, S3, c, hE, hb, hE2, rfl⟩ | ⟨z0, c, hH, rfl⟩ | ⟨c, hH, rfl⟩ | ⟨c, hH, rfl⟩
  · -- an INPUT
    have tg := hz.st.tg d y hy (Or.inr c)
    rw [c, show ckd 8 = 1 from by decide, if_pos rfl]
    refine w45 (wq_10 hz.hR (wl_rI (n := 160) rfl (fun _ => wl_gI rfl rfl rfl (wl_gI rfl rfl rfl ?_))))
    rw [tnat hss, h.fr (x := 377) (by omega), ← tg]
    have h53 := h.2.2.2.1
    have tb : s.tk < 8 ∨ 8 ≤ s.tk := by omega
    rw [if_neg (by rw [i32le, hi, h53]; omega)]
    refine wq_4x hz.hR (Or.inr (Or.inr (Or.inr (Or.inr (Or.inr ⟨rfl, rfl⟩))))) (wl_gI rfl rfl rfl (wl_rI (n := 8) rfl (fun hb => ?_)))
    rw [tnat h53, h.fr (by omega), hz.hp s.tk c1]
    unfold f_q_simple_44 f_q_simple_66
    refine wl_sIa (n := 6) rfl (fun I1 e1 f1 _ => wl_gI rfl rfl rfl (wl_gI rfl rfl rfl ?_))
    rw [if_neg (by rw [i32le, e1 _ _ (by omega), e1 _ _ (by omega), hi, h53]; omega)]
    refine wl_gI rfl rfl rfl (wl_pIa rfl rfl (fun I2 e2 f2 => w49 (wq_10 hz.hR (wl_rI (n := 160) rfl (fun _ => ?_)))))
    have g377 : I2 377 (sid Z.H Z.p y) = Z.X.F y 2 := by rw [e2 _ _ (by omega), e1 _ _ (by omega), h.fr (by omega)]; exact tg.symm
    rw [tnat hss, g377]
    refine wl_sIa (n := 6) rfl (fun I3 e3 f3 _ => wl_req (fun _ => wl_some (k1 _ rfl I3 (h.set (fun x j b1 b2 b3 => by rw [e3 x j (by omega), e2 x j (by omega), e1 x j (by omega)]) (h.2.1.set (k := (Z.X.F y 2).toInt.toNat) (fun j => ?_) (fun j => ?_) (fun j => ?_)) ?_ ?_ h.2.2.2.2.1))))
    · rw [e3 _ _ (by omega), e2 _ _ (by omega)]
      by_cases z : j = (Z.X.F y 2).toInt.toNat
      · rw [if_pos z, z]; exact f1
      · rw [if_neg z]; exact e1 _ _ (Or.inr z)
    · by_cases z : j = (Z.X.F y 2).toInt.toNat
      · rw [if_pos z, z, f3]; exact nar1
      · rw [if_neg z, e3 _ _ (Or.inr z), e2 _ _ (by omega), e1 _ _ (by omega)]
    · rw [e3 _ _ (by omega), e2 _ _ (by omega), e1 _ _ (by omega)]
    · rw [e3 _ _ (by omega), e2 _ _ (by omega), e1 _ _ (by omega)]; exact h.2.2.1
    · rw [e3 _ _ (by omega), f2, e1 _ _ (by omega), i32addc (by rw [h53, l32_1]; omega), h53, l32_1]
      show (s.tk : Int) + 1 = ((s.tk + 1 : Nat) : Int)
      omega
  · -- no INPUT left
    have tg := hz.st.tg d y hy (Or.inr c)
    rw [c, show ckd 8 = 1 from by decide, if_pos rfl]
    refine w45 (wq_10 hz.hR (wl_rI (n := 160) rfl (fun _ => wl_gI rfl rfl rfl (wl_gI rfl rfl rfl ?_))))
    rw [tnat hss, h.fr (x := 377) (by omega), ← tg]
    have h53 := h.2.2.2.1
    rw [if_pos (by rw [i32le, hi, h53]; omega)]
    unfold f_q_simple_44 f_q_simple_66
    refine wl_sIa (n := 6) rfl (fun I1 e1 f1 _ => wl_gI rfl rfl rfl (wl_gI rfl rfl rfl ?_))
    rw [if_pos (by rw [i32le, e1 _ _ (by omega), e1 _ _ (by omega), hi, h53]; omega)]
    refine w49 (wq_10 hz.hR (wl_rI (n := 160) rfl (fun _ => ?_)))
    have g377 : I1 377 (sid Z.H Z.p y) = Z.X.F y 2 := by rw [e1 _ _ (by omega), h.fr (by omega)]; exact tg.symm
    rw [tnat hss, g377]
    refine wl_sIa (n := 6) rfl (fun I3 e3 f3 _ => wl_req (fun _ => wl_some (k1 _ rfl I3 (h.set (fun x j b1 b2 b3 => by rw [e3 x j (by omega), e1 x j (by omega)]) (h.2.1.set (k := (Z.X.F y 2).toInt.toNat) (fun j => ?_) (fun j => ?_) (fun j => ?_)) ?_ ?_ h.2.2.2.2.1))))
    · rw [e3 _ _ (by omega)]
      by_cases z : j = (Z.X.F y 2).toInt.toNat
      · rw [if_pos z, z]; exact f1
      · rw [if_neg z]; exact e1 _ _ (Or.inr z)
    · by_cases z : j = (Z.X.F y 2).toInt.toNat
      · rw [if_pos z, z, f3]; exact nar1
      · rw [if_neg z, e3 _ _ (Or.inr z), e1 _ _ (by omega)]
    · rw [e3 _ _ (by omega), e1 _ _ (by omega)]
    · rw [e3 _ _ (by omega), e1 _ _ (by omega)]; exact h.2.2.1
    · rw [e3 _ _ (by omega), e1 _ _ (by omega)]; exact h53
  · -- a VARIABLE is set
    have tg := hz.st.tg d y hy (Or.inl c)
    have n8 : ¬ Z.X.F y 0 = 8 := by rw [c]; decide
    obtain ⟨en2, _⟩ := hz.en d y hy n8
    obtain ⟨a1, a2⟩ := hz.st.o2 d y hy c
    have w1 := hz.hG.e2 d y hy c
    rw [c, show ckd 2 = 0 from by decide, if_neg (by decide)]
    refine wq_9 hz.hR (wl_rI (n := 160) rfl (fun _ => ?_))
    rw [tnat hss, h.fr (by omega), kd, c, show ckd 2 = 0 from by decide, if_neg (by decide)]
    refine wq_12 hz.hR (wl_rI (n := 160) rfl (fun _ => wq_13 hz.hR (wl_rI (n := 160) rfl (fun _ => wl_bd2 ?_))))
    rw [tnat hss, h.fr (by omega), h.fr (by omega)]
    refine z_work hz h hE w1 en2 a1 a2 (fun S' hr I1 h1 r1 t1 => ?_) (fun z hr => by cases hr)
    cases hr
    dsimp only
    rw [if_neg (by decide)]
    refine wq_9 hz.hR (wl_rI (n := 160) rfl (fun _ => ?_))
    rw [tnat hss, h1.fr (by omega), kd, c, show ckd 2 = 0 from by decide, if_pos rfl]
    refine w45 (wq_10 hz.hR (wl_rI (n := 160) rfl (fun _ => wl_gI rfl rfl r1 ?_)))
    rw [tnat hss, h1.fr (by omega), ← tg]
    refine wl_sIa (n := 6) rfl (fun I2 e2 f2 _ => w49 (wq_10 hz.hR (wl_rI (n := 160) rfl (fun _ => ?_))))
    have g377 : I2 377 (sid Z.H Z.p y) = Z.X.F y 2 := by rw [e2 _ _ (by omega), h1.fr (by omega)]; exact tg.symm
    rw [tnat hss, g377]
    refine wl_sIa (n := 6) rfl (fun I3 e3 f3 _ => wl_req (fun _ => wl_some (k1 _ rfl I3 (h1.set (fun x j b1 b2 b3 => by rw [e3 x j (by omega), e2 x j (by omega)]) (h1.2.1.set (k := (Z.X.F y 2).toInt.toNat) (fun j => ?_) (fun j => ?_) (fun j => ?_)) ?_ ?_ h.2.2.2.2.1))))
    · rw [e3 _ _ (by omega)]
      by_cases z : j = (Z.X.F y 2).toInt.toNat
      · rw [if_pos z, z]; exact f2
      · rw [if_neg z]; exact e2 _ _ (Or.inr z)
    · by_cases z : j = (Z.X.F y 2).toInt.toNat
      · rw [if_pos z, z, f3]; exact nar1
      · rw [if_neg z, e3 _ _ (Or.inr z), e2 _ _ (by omega)]
    · rw [e3 _ _ (by omega), e2 _ _ (by omega)]
    · rw [e3 _ _ (by omega), e2 _ _ (by omega)]; exact h1.2.2.1
    · rw [e3 _ _ (by omega), e2 _ _ (by omega)]; exact h1.2.2.2.1
  · -- an error in the EXPR
    have n8 : ¬ Z.X.F y 0 = 8 := by rw [c]; decide
    obtain ⟨en2, _⟩ := hz.en d y hy n8
    obtain ⟨a1, a2⟩ := hz.st.o2 d y hy c
    have w1 := hz.hG.e2 d y hy c
    rw [c, show ckd 2 = 0 from by decide, if_neg (by decide)]
    refine wq_9 hz.hR (wl_rI (n := 160) rfl (fun _ => ?_))
    rw [tnat hss, h.fr (by omega), kd, c, show ckd 2 = 0 from by decide, if_neg (by decide)]
    refine wq_12 hz.hR (wl_rI (n := 160) rfl (fun _ => wq_13 hz.hR (wl_rI (n := 160) rfl (fun _ => wl_bd2 ?_))))
    rw [tnat hss, h.fr (by omega), h.fr (by omega)]
    refine z_work hz h hE w1 en2 a1 a2 (fun S' hr => by cases hr) (fun z hr I1 h1 t1 => ?_)
    cases hr
    dsimp only
    rw [if_pos rfl]
    exact wl_req (fun _ => wl_some (kx _ _ rfl I1 h1 t1))
  · -- sto1
    have n8 : ¬ Z.X.F y 0 = 8 := by rw [c]; decide
    obtain ⟨en2, en1⟩ := hz.en d y hy n8
    replace en1 := en1 (by rw [c]; decide)
    obtain ⟨a1, a2, a3, a4⟩ := hz.st.tw d y hy (Or.inl c)
    obtain ⟨w1, w2⟩ := hz.hG.e3 d y hy c
    rw [c, show ckd 3 = 2 from by decide, if_neg (by decide)]
    refine wq_9 hz.hR (wl_rI (n := 160) rfl (fun _ => ?_))
    rw [tnat hss, h.fr (by omega), kd, c, show ckd 3 = 2 from by decide, if_neg (by decide)]
    refine wq_12 hz.hR (wl_rI (n := 160) rfl (fun _ => wq_13 hz.hR (wl_rI (n := 160) rfl (fun _ => wl_bd2 ?_))))
    rw [tnat hss, h.fr (by omega), h.fr (by omega)]
    refine z_work hz h hE w1 en1 a1 a2 (fun S' hr => by cases hr) (fun z hr I1 h1 t1 => ?_)
    cases hr
    dsimp only
    rw [if_pos rfl]
    exact wl_req (fun _ => wl_some (kx _ _ rfl I1 h1 t1))
  · -- sto2
    have n8 : ¬ Z.X.F y 0 = 8 := by rw [c]; decide
    obtain ⟨en2, en1⟩ := hz.en d y hy n8
    replace en1 := en1 (by rw [c]; decide)
    obtain ⟨a1, a2, a3, a4⟩ := hz.st.tw d y hy (Or.inl c)
    obtain ⟨w1, w2⟩ := hz.hG.e3 d y hy c
    rw [c, show ckd 3 = 2 from by decide, if_neg (by decide)]
    refine wq_9 hz.hR (wl_rI (n := 160) rfl (fun _ => ?_))
    rw [tnat hss, h.fr (by omega), kd, c, show ckd 3 = 2 from by decide, if_neg (by decide)]
    refine wq_12 hz.hR (wl_rI (n := 160) rfl (fun _ => wq_13 hz.hR (wl_rI (n := 160) rfl (fun _ => wl_bd2 ?_))))
    rw [tnat hss, h.fr (by omega), h.fr (by omega)]
    refine z_work hz h hE w1 en1 a1 a2 (fun S' hr I1 h1 r1 t1 => ?_) (fun z hr => by cases hr)
    cases hr
    dsimp only
    rw [if_neg (by decide)]
    refine wq_9 hz.hR (wl_rI (n := 160) rfl (fun _ => ?_))
    rw [tnat hss, h1.fr (by omega), kd, c, show ckd 3 = 2 from by decide, if_neg (by decide)]
    refine wl_gI rfl rfl r1 (wl_bd2 (wp_wl (s_q_in (fun r hb01 hr => ?_))))
    rw [i3264, l64_0, l64_3] at hr
    dsimp only
    have e0 : r = 0 := by
      rcases hr with ⟨g1, g2⟩ | ⟨g1, g2⟩
      · omega
      · exact i32eq.mpr (by rw [g1, l32_0])
    rw [e0, if_pos rfl]
    refine wq_11 hz.hR (wl_rI (n := 160) rfl (fun _ => wl_bd2 ?_))
    rw [tnat hss, h1.fr (by omega), pl]
    exact z_stop (wl_req (fun _ => wl_some (kx _ _ rfl _ (h1.we (fun x j a b => up2_ne _ _ (by omega))) up2_s)))
  · -- sto3
    have n8 : ¬ Z.X.F y 0 = 8 := by rw [c]; decide
    obtain ⟨en2, en1⟩ := hz.en d y hy n8
    replace en1 := en1 (by rw [c]; decide)
    obtain ⟨a1, a2, a3, a4⟩ := hz.st.tw d y hy (Or.inl c)
    obtain ⟨w1, w2⟩ := hz.hG.e3 d y hy c
    rw [c, show ckd 3 = 2 from by decide, if_neg (by decide)]
    refine wq_9 hz.hR (wl_rI (n := 160) rfl (fun _ => ?_))
    rw [tnat hss, h.fr (by omega), kd, c, show ckd 3 = 2 from by decide, if_neg (by decide)]
    refine wq_12 hz.hR (wl_rI (n := 160) rfl (fun _ => wq_13 hz.hR (wl_rI (n := 160) rfl (fun _ => wl_bd2 ?_))))
    rw [tnat hss, h.fr (by omega), h.fr (by omega)]
    refine z_work hz h hE w1 en1 a1 a2 (fun S' hr I1 h1 r1 t1 => ?_) (fun z hr => by cases hr)
    cases hr
    dsimp only
    rw [if_neg (by decide)]
    refine wq_9 hz.hR (wl_rI (n := 160) rfl (fun _ => ?_))
    rw [tnat hss, h1.fr (by omega), kd, c, show ckd 3 = 2 from by decide, if_neg (by decide)]
    refine wl_gI rfl rfl r1 (wl_bd2 (wp_wl (s_q_in (fun r hb01 hr => ?_))))
    rw [i3264, l64_0, l64_3] at hr
    dsimp only
    have e1' : r = 1 := by
      rcases hr with ⟨g1, g2⟩ | ⟨g1, g2⟩
      · exact i32eq.mpr (by rw [g1, l32_1])
      · omega
    rw [e1', if_neg (by decide)]
    refine wq_14 hz.hR (wl_rI (n := 160) rfl (fun _ => wq_15 hz.hR (wl_rI (n := 160) rfl (fun _ => wl_bd2 ?_))))
    rw [tnat hss, h1.fr (by omega), h1.fr (by omega)]
    refine z_work hz h1 hE2 w2 en2 a3 a4 (fun S' hr => by cases hr) (fun z hr I2 h2 t2 => ?_)
    cases hr
    dsimp only
    rw [if_pos rfl]
    unfold f_q_simple_254
    exact wl_req (fun _ => wl_some (kx _ _ rfl I2 h2 t2))
  · -- sto
    have tg := hz.st.tg3 d y hy c
    have n8 : ¬ Z.X.F y 0 = 8 := by rw [c]; decide
    obtain ⟨en2, en1⟩ := hz.en d y hy n8
    replace en1 := en1 (by rw [c]; decide)
    obtain ⟨a1, a2, a3, a4⟩ := hz.st.tw d y hy (Or.inl c)
    obtain ⟨w1, w2⟩ := hz.hG.e3 d y hy c
    rw [c, show ckd 3 = 2 from by decide, if_neg (by decide)]
    refine wq_9 hz.hR (wl_rI (n := 160) rfl (fun _ => ?_))
    rw [tnat hss, h.fr (by omega), kd, c, show ckd 3 = 2 from by decide, if_neg (by decide)]
    refine wq_12 hz.hR (wl_rI (n := 160) rfl (fun _ => wq_13 hz.hR (wl_rI (n := 160) rfl (fun _ => wl_bd2 ?_))))
    rw [tnat hss, h.fr (by omega), h.fr (by omega)]
    refine z_work hz h hE w1 en1 a1 a2 (fun S' hr I1 h1 r1 t1 => ?_) (fun z hr => by cases hr)
    cases hr
    dsimp only
    rw [if_neg (by decide)]
    refine wq_9 hz.hR (wl_rI (n := 160) rfl (fun _ => ?_))
    rw [tnat hss, h1.fr (by omega), kd, c, show ckd 3 = 2 from by decide, if_neg (by decide)]
    refine wl_gI rfl rfl r1 (wl_bd2 (wp_wl (s_q_in (fun r hb01 hr => ?_))))
    rw [i3264, l64_0, l64_3] at hr
    dsimp only
    have e1' : r = 1 := by
      rcases hr with ⟨g1, g2⟩ | ⟨g1, g2⟩
      · exact i32eq.mpr (by rw [g1, l32_1])
      · omega
    rw [e1', if_neg (by decide)]
    refine wq_14 hz.hR (wl_rI (n := 160) rfl (fun _ => wq_15 hz.hR (wl_rI (n := 160) rfl (fun _ => wl_bd2 ?_))))
    rw [tnat hss, h1.fr (by omega), h1.fr (by omega)]
    refine z_work hz h1 hE2 w2 en2 a3 a4 (fun S' hr I2 h2 r2 t2 => ?_) (fun z hr => by cases hr)
    cases hr
    dsimp only
    rw [if_neg (by decide)]
    refine w46 (wq_10 hz.hR (wl_rI (n := 160) rfl (fun _ => wl_gI rfl rfl r2 ?_)))
    rw [tnat hss, h2.fr (by omega), ← tg]
    refine wl_sIa (n := 8) rfl (fun I3 e3 f3 _ => ?_)
    unfold f_q_simple_254
    refine wl_req (fun _ => wl_some (k1 _ rfl I3 (h2.set (fun x j b1 b2 b3 => e3 x j (by omega)) ⟨fun j hj => by rw [e3 _ _ (by omega)]; exact h2.2.1.1 j hj, fun j hj => by rw [e3 _ _ (by omega)]; exact h2.2.1.2.1 j hj, fun j hj => ?_⟩ (by rw [e3 _ _ (by omega)]; exact h2.2.2.1) (by rw [e3 _ _ (by omega)]; exact h2.2.2.2.1) h.2.2.2.2.1)))
    show I3 402 j = if j = (Z.X.F y 2 + S1 0).toInt.toNat then S3 0 else s.C j
    by_cases z : j = (Z.X.F y 2 + S1 0).toInt.toNat
    · rw [if_pos z, z]; exact f3
    · rw [if_neg z, e3 _ _ (Or.inr z)]; exact h2.2.1.2.2 j hj
  · -- asre
    rw [c, show ckd 7 = 5 from by decide, if_neg (by decide)]
    refine wq_9 hz.hR (wl_rI (n := 160) rfl (fun _ => ?_))
    rw [tnat hss, h.fr (by omega), kd, c, show ckd 7 = 5 from by decide, if_pos rfl]
    refine wl_bd2 (z_ask hz hy (Or.inr (Or.inr c)) hss h hH (fun b hr => by cases hr) (fun z hr I1 h1 t1 => ?_))
    cases hr
    dsimp only
    unfold f_q_simple_123
    rw [if_neg (by decide), if_pos (by decide)]
    exact wl_req (fun _ => wl_some (kx _ _ rfl I1 h1 t1))
  · -- asr1
    rw [c, show ckd 7 = 5 from by decide, if_neg (by decide)]
    refine wq_9 hz.hR (wl_rI (n := 160) rfl (fun _ => ?_))
    rw [tnat hss, h.fr (by omega), kd, c, show ckd 7 = 5 from by decide, if_pos rfl]
    refine wl_bd2 (z_ask hz hy (Or.inr (Or.inr c)) hss h hH (fun b hr I1 h1 t1 => ?_) (fun z hr => by cases hr))
    cases hr
    dsimp only
    unfold f_q_simple_123
    rw [if_pos rfl, if_neg (by decide), if_neg (by decide)]
    exact wl_req (fun _ => wl_some (k1 _ rfl I1 h1))
  · -- asr0
    rw [c, show ckd 7 = 5 from by decide, if_neg (by decide)]
    refine wq_9 hz.hR (wl_rI (n := 160) rfl (fun _ => ?_))
    rw [tnat hss, h.fr (by omega), kd, c, show ckd 7 = 5 from by decide, if_pos rfl]
    refine wl_bd2 (z_ask hz hy (Or.inr (Or.inr c)) hss h hH (fun b hr I1 h1 t1 => ?_) (fun z hr => by cases hr))
    cases hr
    dsimp only
    unfold f_q_simple_123
    rw [if_pos ib0]
    refine wq_11 hz.hR (wl_rI (n := 160) rfl (fun _ => wl_bd2 ?_))
    rw [tnat hss, h1.fr (by omega), pl]
    exact z_stop (wl_req (fun _ => wl_some (kx _ _ rfl _ (h1.we (fun x j a b => up2_ne _ _ (by omega))) up2_s)))
end QSI
/-- a STATEMENT that has begun, seen from the loop -/
def goM (Z : ZC) (N : Nat) (ss oo : Int32) (w20 : WW) : Option (Int32 × WW) :=
  (gN w20 373 9 9).bind fun x21 =>
  (rI w20 x21 0 ss).bind fun x22 =>
  if x22 = (3 : Int32) then
    f_q_go_177 (f_q_go_79 N) 373 Z.y1 ss oo w20
  else
    (gN w20 373 9 9).bind fun x41 =>
    (rI w20 x41 0 ss).bind fun x42 =>
    if x42 = (4 : Int32) then
      f_q_go_177 (f_q_go_79 N) 373 Z.y1 ss oo w20
    else
      bd2 (f_q_simple 373 ss w20) fun x45 w44 =>
      (gN w44 373 9 19).bind fun x46 =>
      (rI w44 x46 0 ss).bind fun x47 =>
      f_q_go_79 N 373 Z.y1 x47 oo x45 w44
section QRU
variable {Z : ZC} {s : SGM} {O : List Nat} {I I' : IM} {d y : Nat}
abbrev ZC.lp (Z : ZC) (N : Nat) (ss oo gd : Int32) (I : IM) : Prop := wl (f_q_go_79 N 373 Z.y1 ss oo gd (mk I Z.J Z.R)) Z.Q
def ZL (Z : ZC) (O : List Nat) (s : SGM) : Prop := ∀ (I : IM) (N : Nat) (ss oo : Int32), ss.toInt < 0 → oo.toInt = O.length → QGO Z s O I → Z.lp N ss oo 1 I
def ZN (Z : ZC) (O : List Nat) (y : Nat) (s : SGM) : Prop := ∀ (I : IM) (N : Nat) (ss oo : Int32), lnk Z.H Z.p (Z.X.N y 9) ss → oo.toInt = O.length → QGO Z s O I → Z.lp N ss oo 1 I
def ZS (Z : ZC) (s : SGM) : Prop := ∀ (I : IM) (O' : List Nat), QGO Z s O' I → Z.Q (-5, mk I Z.J Z.R)
def ZE (Z : ZC) (s : SGM) (z : Int32) : Prop := ∀ (I : IM) (N : Nat) (ss oo : Int32), QGE Z s I → I 373 51 = z → Z.lp N ss oo 0 I
def ZKR (g : SGM → Prop) (Z : ZC) : RRs → Prop
  | .inl s => g s
  | .inr (.inl s) => ZS Z s
  | .inr (.inr p) => ZE Z p.1 p.2
def GR0 (Z : ZC) (oy : Option Nat) (s : SGM) (r : RRs) : Prop := ∀ (O : List Nat) (I : IM) (N d : Nat) (ss oo : Int32), (∀ y, oy = some y → Z.G d y) → lnk Z.H Z.p oy ss → oo.toInt = O.length → QGO Z s O I → ZKR (ZL Z O) Z r → Z.lp N ss oo 1 I
def GR1 (Z : ZC) (oy : Option Nat) (s : SGM) (r : RRs) : Prop := ∀ (y : Nat), oy = some y → ∀ (O : List Nat) (I : IM) (N d : Nat) (ss oo : Int32), Z.G d y → ss.toInt = (sid Z.H Z.p y : Nat) → oo.toInt = O.length → QGO Z s O I → ZKR (ZN Z O y) Z r → wl (goM Z N ss oo (mk I Z.J Z.R)) Z.Q
def GR2 (Z : ZC) (oy : Option Nat) (s : SGM) (r : RRs) : Prop := ∀ (y : Nat), oy = some y → ∀ (O : List Nat) (I : IM) (N d : Nat) (ss oo : Int32), Z.G d y → Z.X.F y 0 = 6 → ss.toInt = (sid Z.H Z.p y : Nat) → oo.toInt = O.length → QGO Z s O I → ZKR (ZN Z O y) Z r → wl (f_q_go_177 (f_q_go_79 N) 373 Z.y1 ss oo (mk I Z.J Z.R)) Z.Q
def GRA (Z : ZC) (tag : Nat) (oy : Option Nat) (s : SGM) (r : RRs) : Prop := (tag = 0 → GR0 Z oy s r) ∧ (tag = 1 → GR1 Z oy s r) ∧ (tag = 2 → GR2 Z oy s r)
end QRU
