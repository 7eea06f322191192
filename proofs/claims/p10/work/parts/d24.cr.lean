/-! The class runs a program by the rules. -/
theorem wl_nl {β : Type} {Q : β → Prop} {t : Option Nat} {A : Option β} {B : Nat → Option β} (h1 : t = none → wl A Q) (h2 : ∀ x, t = some x → wl (B x) Q) : wl (nl t A B) Q := by
  cases t with
  | none => exact h1 rfl
  | some x => exact h2 x rfl
theorem ib0 : (if false = true then (1 : Int32) else 0) = 0 := rfl
theorem ib1 : ¬ (if true = true then (1 : Int32) else 0) = 0 := by decide
def CRE (s : SGM) (I : IM) : Prop := (I 118 = s.V ∧ I 119 = s.U ∧ I 120 = s.C) ∧ (I 117 8).toInt = s.bg ∧ (I 117 9).toInt = s.tk
theorem CRN.e {X : RX} {p lim ic : Nat} {inp : Nat → Int32} {s : SGM} {I : IM} {R : RM} (h : CRN X p lim ic inp s I R) : CRE s I := ⟨h.2.1, h.2.2.1, h.2.2.2.1⟩
theorem CRE.wk {s : SGM} {I I' : IM} (h : CRE s I) (e : WKR I I') : CRE s I' := by
  obtain ⟨⟨a1, a2, a3⟩, h3, h4⟩ := h
  refine ⟨⟨?_, ?_, ?_⟩, ?_, ?_⟩
  · funext j; rw [e _ _ (by omega) (by omega), a1]
  · funext j; rw [e _ _ (by omega) (by omega), a2]
  · funext j; rw [e _ _ (by omega) (by omega), a3]
  · rw [e _ _ (by omega) (by omega)]; exact h3
  · rw [e _ _ (by omega) (by omega)]; exact h4
section CRV
variable {X : RX} {G : Nat → Nat → Prop} {p lim ic : Nat} {inp : Nat → Int32} {s : SGM} {I I' : IM} {J : JM} {R : RM}
theorem CRE.k10 {v : Int32} (h : CRE s I) : CRE s (up2 I 117 10 v) := by
  obtain ⟨⟨a1, a2, a3⟩, h3, h4⟩ := h
  exact ⟨⟨by rw [up2_at _ _ (by decide)]; exact a1, by rw [up2_at _ _ (by decide)]; exact a2, by rw [up2_at _ _ (by decide)]; exact a3⟩, by rw [up2_nek (by decide)]; exact h3, by rw [up2_nek (by decide)]; exact h4⟩
/-- cells of the runner anew -/
theorem CRN.set {s' : SGM} (h : CRN X p lim ic inp s I R) (e : RKP I I') (hV : I' 118 = s'.V) (hU : I' 119 = s'.U) (hC : I' 120 = s'.C) (hb : (I' 117 8).toInt = s'.bg) (ht : (I' 117 9).toInt = s'.tk) (hl : s'.bg ≤ lim) : CRN X p lim ic inp s' I' R := by
  obtain ⟨h1, _, _, _, h5, h6, h7, h8, h9, h10⟩ := h
  obtain ⟨g1, g2, g3, g4, g5, g6, g7⟩ := h1
  have hp : p = 7 ∨ p = 62 := g3
  refine ⟨⟨g1, g2, g3, ?_, ?_, ?_, g7⟩, ⟨hV, hU, hC⟩, hb, ht, ?_, ⟨h6.1, hl⟩, ?_, ?_, fun y k hy => ?_, h10⟩
  · funext j; rw [e _ _ (by omega), g4]
  · funext j; rw [e _ _ (by omega), g5]
  · funext j; rw [e _ _ (by omega), g6]
  · rw [e _ _ (by omega)]; exact h5
  · rw [e _ _ (by omega)]; exact h7
  · funext j; rw [e _ _ (by omega), h8]
  · rw [e _ _ (by omega)]; exact h9 y k hy
theorem nar0 : vp_nar .boolean (0 : Int32) = 0 := by decide
theorem v_assign (h : CRN X p lim ic inp s I R) {a v : Int32} {Q : WW → Prop} (k : ∀ I', CRN X p lim ic inp ⟨upn s.V a.toInt.toNat v, upn s.U a.toInt.toNat 0, s.C, s.bg, s.tk⟩ I' R → RKP I I' → I' 117 10 = I 117 10 → Q (mk I' J R)) : wl (f_ru_assign 117 a v (mk I J R)) Q := by
  obtain ⟨a1, a2, a3⟩ := h.2.1
  unfold f_ru_assign
  refine wl_kb (wn_117 h.1.1 (Or.inl ⟨rfl, rfl⟩) (wl_sI (n := 6) rfl (fun _ => wn_117 h.1.1 (Or.inr (Or.inl ⟨rfl, rfl⟩)) (wl_sI (n := 6) rfl (fun _ => wl_some ?_)))))
  rw [nar0]
  have e : RKP I (up2 (up2 I 118 a.toInt.toNat v) 119 a.toInt.toNat 0) := fun x j hx => by rw [up2_ne _ _ (by omega), up2_ne _ _ (by omega)]
  refine k _ (h.set e ?_ ?_ ?_ ?_ ?_ h.2.2.2.2.2.1.2) e (by rw [up2_nea (by decide), up2_nea (by decide)])
  · rw [up2_at _ _ (by decide), up2_row, a1]
  · rw [up2_row, up2_at _ _ (by decide), a2]
  · rw [up2_at _ _ (by decide), up2_at _ _ (by decide), a3]
  · rw [up2_nea (by decide), up2_nea (by decide)]; exact h.2.2.1
  · rw [up2_nea (by decide), up2_nea (by decide)]; exact h.2.2.2.1
theorem v_mayBegin (h : CRN X p lim ic inp s I R) {Q : (Int32 × WW) → Prop} (k1 : s.bg < lim → ∀ I', CRN X p lim ic inp s.b1 I' R → RKP I I' → I' 117 10 = I 117 10 → Q (1, mk I' J R)) (k0 : ¬ s.bg < lim → Q (0, mk I J R)) : wl (f_ru_mayBegin 117 (mk I J R)) Q := by
  obtain ⟨h1, ⟨a1, a2, a3⟩, h3, h4, h5, h6, h7, h8, h9, h10⟩ := h
  have hh : CRN X p lim ic inp s I R := ⟨h1, ⟨a1, a2, a3⟩, h3, h4, h5, h6, h7, h8, h9, h10⟩
  unfold f_ru_mayBegin
  refine wl_kb (wl_gI rfl rfl rfl (wl_gI rfl rfl rfl (wl_ite (fun c => wl_gI rfl rfl rfl (wl_pI rfl rfl (wl_req (fun _ => wl_some ?_)))) (fun c => wl_req (fun _ => wl_some (k0 ?_))))))
  · rw [i32lt, h3, h5] at c
    have e : RKP I (up2 I 117 8 (I 117 8 + 1)) := fun x j hx => by rw [up2_ne _ _ (by omega)]
    refine k1 (by omega) _ (hh.set e ?_ ?_ ?_ ?_ ?_ (show s.bg + 1 ≤ lim by omega)) e (up2_nek (by decide))
    · rw [up2_at _ _ (by decide)]; exact a1
    · rw [up2_at _ _ (by decide)]; exact a2
    · rw [up2_at _ _ (by decide)]; exact a3
    · rw [up2_s, i32addc (by rw [h3, l32_1]; omega), h3, l32_1]
      show (s.bg : Int) + 1 = ((s.bg + 1 : Nat) : Int)
      omega
    · rw [up2_nek (by decide)]; exact h4
  · rw [i32lt, h3, h5] at c; omega
theorem v_nextInput (h : CRN X p lim ic inp s I R) {Q : (Int32 × WW) → Prop} (k1 : s.tk < ic → ∀ I', CRN X p lim ic inp ⟨s.V, s.U, s.C, s.bg, s.tk + 1⟩ I' R → RKP I I' → I' 117 10 = I 117 10 → Q (inp s.tk, mk I' J R)) (k0 : ¬ s.tk < ic → Q (0, mk I J R)) : wl (f_ru_nextInput 117 (mk I J R)) Q := by
  obtain ⟨h1, ⟨a1, a2, a3⟩, h3, h4, h5, h6, h7, h8, h9, h10⟩ := h
  have hh : CRN X p lim ic inp s I R := ⟨h1, ⟨a1, a2, a3⟩, h3, h4, h5, h6, h7, h8, h9, h10⟩
  have bt := i32b (I 117 5)
  unfold f_ru_nextInput
  refine wl_kb (wl_gI rfl rfl rfl (wl_gI rfl rfl rfl (wl_ite (fun c => wl_gI rfl rfl rfl (wl_pI rfl rfl (wn_117 h1.1 (Or.inr (Or.inr (Or.inr (Or.inr ⟨rfl, rfl⟩)))) (wl_gI rfl rfl up2_s (wl_rI (n := 8) rfl (fun _ => wl_some ?_)))))) (fun c => wl_some (k0 ?_)))))
  · rw [i32lt, h4, h7] at c
    have x9 : (I 117 9 + 1).toInt = (s.tk : Int) + 1 := by rw [i32addc (by rw [h4, l32_1]; omega), h4, l32_1]
    have x8 : (I 117 9 + 1 - 1).toInt = ((s.tk : Nat) : Int) := by rw [i32subc (by rw [x9, l32_1]; omega), x9, l32_1]; omega
    rw [tnat x8, up2_nea (by decide), h8]
    have e : RKP I (up2 I 117 9 (I 117 9 + 1)) := fun x j hx => by rw [up2_ne _ _ (by omega)]
    refine k1 (by omega) _ (hh.set e ?_ ?_ ?_ ?_ ?_ h6.2) e (up2_nek (by decide))
    · rw [up2_at _ _ (by decide)]; exact a1
    · rw [up2_at _ _ (by decide)]; exact a2
    · rw [up2_at _ _ (by decide)]; exact a3
    · rw [up2_nek (by decide)]; exact h3
    · rw [up2_s, x9]
      show (s.tk : Int) + 1 = ((s.tk + 1 : Nat) : Int)
      omega
  · rw [i32lt, h4, h7] at c; omega
/-- what may come of a run: it goes on, it is stopped, an error -/
abbrev KG (X : RX) (p lim ic : Nat) (inp : Nat → Int32) (R : RM) (J : JM) (D : RRs → Prop) (I : IM) (Q : ((Int32 ⊕ String) × WW) → Prop) : Prop := (∀ (s' : SGM) (I' : IM), D (.inl s') → CRN X p lim ic inp s' I' R → RKP I I' → I' 117 10 = I 117 10 → Q (.inl 1, mk I' J R)) ∧ (∀ (s' : SGM) (I' : IM), D (.inr (.inl s')) → CRN X p lim ic inp s' I' R → RKP I I' → I' 117 10 = I 117 10 → Q (.inl 0, mk I' J R)) ∧ (∀ (E : String) (s' : SGM) (z : Int32) (I' : IM), D (.inr (.inr (s', z))) → CRE s' I' → RKP I I' → I' 117 10 = z → EXR z E → Q (.inr E, mk I' J R))
abbrev W3 (X : RX) (G : Nat → Nat → Prop) (p lim ic : Nat) (inp : Nat → Int32) (R : RM) (tag : Nat) (g : Nat → Option Nat → Int32 → WW → Option ((Int32 ⊕ String) × WW)) : Prop := ∀ {n : Nat} {d : Int32} {oy : Option Nat} {s : SGM} {I : IM} {J : JM} {Q : ((Int32 ⊕ String) × WW) → Prop}, d.toInt = n → n ≤ 3 → (∀ y, oy = some y → G n y ∧ (tag = 2 → X.F y 0 = 6)) → (tag ≠ 0 → oy ≠ none) → CRN X p lim ic inp s I R → KG X p lim ic inp R J (DR X lim ic inp tag oy s) I Q → wl (g 117 oy d (mk I J R)) Q
theorem RKP.t10 {I1 I2 : IM} (e : RKP I I1) (t : I1 117 10 = I 117 10) (e' : RKP I1 I2) (t' : I2 117 10 = I1 117 10) : RKP I I2 ∧ I2 117 10 = I 117 10 := ⟨e.trans e', t'.trans t⟩
variable {g0 g1 g2 : Nat → Option Nat → Int32 → WW → Option ((Int32 ⊕ String) × WW)}
theorem v_list_9 (hG : GDN X p G) (H1 : W3 X G p lim ic inp R 1 g1) {n : Nat} {d : Int32} (hd : d.toInt = n) (hn : n ≤ 3) {Q : ((Int32 ⊕ String) × WW) → Prop} : ∀ (N : Nat) (oy : Option Nat) (s : SGM) (I : IM), (∀ y, oy = some y → G n y) → CRN X p lim ic inp s I R → KG X p lim ic inp R J (DR X lim ic inp 0 oy s) I Q → wl (f_ru_doStatements_9 g0 g1 g2 N 117 d oy (mk I J R)) Q := by
  intro N
  induction N with
  | zero => intro oy s I ho h k; exact wl_none
  | succ N ih =>
    intro oy s I ho h k
    rw [f_ru_doStatements_9]
    unfold f_ru_doStatements_29
    cases oy with
    | none => exact wl_nl (fun _ => wl_req (fun _ => wl_some (k.1 s I .nil h (fun _ _ _ => rfl) rfl))) (fun x c => by cases c)
    | some y =>
      have hy := ho y rfl
      refine wl_nl (fun c => by cases c) (fun x c => ?_)
      cases c
      refine wl_bd2 (v_mayBegin h (fun c I1 h1 e1 t1 => ?_) (fun c => ?_))
      · dsimp only
        rw [if_neg (by decide)]
        refine wl_bdx (H1 hd hn (fun y' hy' => ⟨by cases hy'; exact hy, fun z => absurd z (by decide)⟩) (fun _ z => by cases z) h1 ⟨fun s' I2 hD h2 e2 t2 => ⟨fun v hv => ?_, fun E hE => (by cases hE)⟩, fun s' I2 hD h2 e2 t2 => ⟨fun v hv => ?_, fun E hE => (by cases hE)⟩, fun E s' z I2 hD h2 e2 t2 hx => ⟨fun v hv => (by cases hv), fun E' hE => (by cases hE; exact k.2.2 _ s' z I2 (.lend c hD (fun y => y)) h2 (e1.trans e2) t2 hx)⟩⟩)
        · cases hv
          rw [if_neg (by decide)]
          refine wl_gR (hG.t n y hy).2.1 rfl (h2.2.2.2.2.2.2.2.2.2 y 9 (hG.t n y hy).2.2.1) (ih (X.N y 9) s' I2 (fun z hz => hG.nx n y z hy hz) h2 ⟨fun s3 I3 hD3 h3 e3 t3 => k.1 s3 I3 (.lone c hD hD3) h3 (e1.trans (e2.trans e3)) (t3.trans (t2.trans t1)), fun s3 I3 hD3 h3 e3 t3 => k.2.1 s3 I3 (.lone c hD hD3) h3 (e1.trans (e2.trans e3)) (t3.trans (t2.trans t1)), fun E s3 z I3 hD3 h3 e3 t3 hx => k.2.2 E s3 z I3 (.lone c hD hD3) h3 (e1.trans (e2.trans e3)) t3 hx⟩)
        · cases hv
          rw [if_pos rfl]
          exact wl_req (fun _ => wl_some (k.2.1 s' I2 (.lend c hD (fun y => y)) h2 (e1.trans e2) (t2.trans t1)))
      · dsimp only
        rw [if_pos rfl]
        exact wl_req (fun _ => wl_some (k.2.1 s I (.lstop c) h (fun _ _ _ => rfl) rfl))
theorem v_list (hG : GDN X p G) (H1 : W3 X G p lim ic inp R 1 g1) : W3 X G p lim ic inp R 0 (fo_ru_doStatements g0 g1 g2) := by
  intro n d oy s I J Q hd hn ho _ h k
  unfold fo_ru_doStatements
  refine wl_kb ?_
  rw [if_pos (by rw [i32le, l32_3, hd]; omega)]
  exact v_list_9 hG H1 hd hn KK oy s I (fun y hy => (ho y hy).1) h k
theorem v_while_2 (hG : GDN X p G) (H0 : W3 X G p lim ic inp R 0 g0) {n : Nat} {d : Int32} (hd : d.toInt = n) {y : Nat} (hy : G n y) (h6 : X.F y 0 = 6) {Q : ((Int32 ⊕ String) × WW) → Prop} : ∀ (N : Nat) (y3 : Int32) (s : SGM) (I : IM), 0 ≤ y3.toInt ∧ y3.toInt ≤ s.bg → CRN X p lim ic inp s I R → KG X p lim ic inp R J (DR X lim ic inp 2 (some y) s) I Q → wl (f_ru_doWhile_2 g0 g1 g2 N 117 (some y) d y3 (mk I J R)) Q := by
  have n1 := hG.dp n y hy (Or.inr h6)
  have d1 : (d + 1).toInt = ((n + 1 : Nat) : Int) := by rw [i32addc (by rw [hd, l32_1]; omega), hd, l32_1]; omega
  have ly := (hG.t n y hy).2.1
  have bt := (hG.t n y hy).2.2.1
  intro N
  induction N with
  | zero => intro y3 s I hy3 h k; exact wl_none
  | succ N ih =>
    intro y3 s I hy3 h k
    have lim5 := h.2.2.2.2.2.1
    rw [f_ru_doWhile_2]
    unfold f_ru_doWhile_40
    refine wl_ite (fun c => ?_) (fun c => ?_)
    · rw [i32lt, l32_500] at c; omega
    refine wl_bdx (v_holds hG hy (Or.inr (Or.inl h6)) h (fun b I1 hH e1 t1 r1 => ⟨fun v hv => ?_, fun E hE => (by cases hE)⟩) (fun E I1 z hH e1 t1 hx => ⟨fun v hv => (by cases hv), fun E' hE => (by cases hE; exact k.2.2 _ s z I1 (.werr hH) (h.e.wk e1) e1.rk t1 hx)⟩))
    cases hv
    have h1 := h.wk e1 r1
    cases b with
    | false =>
      rw [if_pos ib0]
      exact wl_req (fun _ => wl_some (k.1 s I1 (.wend hH) h1 e1.rk t1))
    | true =>
      rw [if_neg ib1]
      refine wl_eq rfl (wl_gR ly rfl (h1.2.2.2.2.2.2.2.2.2 y 7 bt) ?_)
      refine wl_bdx (H0 d1 n1 (fun z hz => ⟨hG.bd n y z hy (Or.inr h6) (Or.inl hz), fun w => absurd w (by decide)⟩) (fun w => absurd rfl w) h1 ⟨fun s' I2 hD h2 e2 t2 => ⟨fun v hv => ?_, fun E hE => (by cases hE)⟩, fun s' I2 hD h2 e2 t2 => ⟨fun v hv => ?_, fun E hE => (by cases hE)⟩, fun E s' z I2 hD h2 e2 t2 hx => ⟨fun v hv => (by cases hv), fun E' hE => (by cases hE; exact k.2.2 _ s' z I2 (.wbad hH hD (fun y => y)) h2 (e1.rk.trans e2) t2 hx)⟩⟩)
      · cases hv
        rw [if_neg (by decide)]
        refine wl_bd2 (v_mayBegin h2 (fun c3 I3 h3 e3 t3 => ?_) (fun c3 => ?_))
        · dsimp only
          rw [if_neg (by decide)]
          have mono : s.bg ≤ s'.bg := hD.mono
          have y31 : (y3 + 1).toInt = y3.toInt + 1 := by rw [i32addc (by rw [l32_1]; omega), l32_1]
          have b1 : s'.b1.bg = s'.bg + 1 := rfl
          refine ih (y3 + 1) s'.b1 I3 (by omega) h3 ⟨fun s4 I4 hD4 h4 e4 t4 => k.1 s4 I4 (.wmore hH hD c3 hD4) h4 (e1.rk.trans (e2.trans (e3.trans e4))) (t4.trans (t3.trans (t2.trans t1))), fun s4 I4 hD4 h4 e4 t4 => k.2.1 s4 I4 (.wmore hH hD c3 hD4) h4 (e1.rk.trans (e2.trans (e3.trans e4))) (t4.trans (t3.trans (t2.trans t1))), fun E s4 z I4 hD4 h4 e4 t4 hx => k.2.2 E s4 z I4 (.wmore hH hD c3 hD4) h4 (e1.rk.trans (e2.trans (e3.trans e4))) t4 hx⟩
        · dsimp only
          rw [if_pos rfl]
          exact wl_req (fun _ => wl_some (k.2.1 s' I2 (.wstop hH hD c3) h2 (e1.rk.trans e2) (t2.trans t1)))
      · cases hv
        rw [if_pos rfl]
        exact wl_req (fun _ => wl_some (k.2.1 s' I2 (.wbad hH hD (fun y => y)) h2 (e1.rk.trans e2) (t2.trans t1)))
theorem v_while (hG : GDN X p G) (H0 : W3 X G p lim ic inp R 0 g0) : W3 X G p lim ic inp R 2 (fo_ru_doWhile g0 g1 g2) := by
  intro n d oy s I J Q hd hn ho hne h k
  cases oy with
  | none => exact absurd rfl (hne (by decide))
  | some y =>
    unfold fo_ru_doWhile
    exact wl_kb (v_while_2 hG H0 hd (ho y rfl).1 ((ho y rfl).2 rfl) KK 0 s I (by rw [l32_0]; omega) h k)
theorem v_store (hG : GDN X p G) {n y : Nat} (hy : G n y) (hk : X.F y 0 = 3) (hpl : 0 ≤ (X.F y 1).toInt ∧ (X.F y 1).toInt ≤ 199) (h : CRN X p lim ic inp s I R) {Q : ((Unit ⊕ String) × WW) → Prop} (k1 : ∀ (s' : SGM) (I' : IM), DR X lim ic inp 1 (some y) s (.inl s') → CRN X p lim ic inp s' I' R → RKP I I' → I' 117 10 = I 117 10 → Q (.inl (), mk I' J R)) (kx : ∀ (E : String) (z : Int32) (I' : IM), DR X lim ic inp 1 (some y) s (.inr (.inr (s, z))) → CRE s I' → RKP I I' → I' 117 10 = z → EXR z E → Q (.inr E, mk I' J R)) : wl (f_ru_store 117 (some y) (mk I J R)) Q := by
  obtain ⟨n3, ly, bt, _⟩ := hG.t n y hy
  obtain ⟨w1, w2⟩ := hG.e3 n y hy hk
  obtain ⟨⟨i3, i5⟩, i4⟩ := hG.i n y hy (by rw [hk]; decide)
  replace i4 := i4 (by rw [hk]; decide)
  have hF := h.2.2.2.2.2.2.2.2.1
  have hV := h.2.1
  unfold f_ru_store
  refine wl_kb (wl_eq rfl (wl_gI ly rfl (hF y 2 bt) (wl_gI ly rfl (hF y 3 bt) (wl_gI ly rfl (hF y 4 bt) (wl_bdx (v_workOut (k := X.f y 3) (e := X.f y 4) (b := 0) h.1 (by show _ = ((X.F y 3).toInt.toNat : Int); omega) (by show _ = ((X.F y 4).toInt.toNat : Int); omega) l32_0 w1 (fun I1 S1 hE e1 t1 r1 => ⟨fun v hv => ?_, fun E hE => (by cases hE)⟩) (fun E I1 z hE e1 t1 hx => ⟨fun v hv => (by cases hv), fun E' hE' => (by cases hE'; exact kx _ z I1 (.sto1 hk (by rw [← hV.1, ← hV.2.1, ← hV.2.2]; exact hE)) (h.e.wk e1) e1.rk t1 hx)⟩)))))))
  cases hv
  rw [hV.1, hV.2.1, hV.2.2] at hE
  have h1 := h.wk e1 r1
  have hV1 := h1.2.1
  have hF1 := h1.2.2.2.2.2.2.2.2.1
  refine wl_gI ly rfl (hF1 y 1 bt) (wl_bdx (v_cellOf hpl (fun z1 z2 => ⟨fun v hv => ?_, fun E hE => (by cases hE)⟩) (fun z E hx => ⟨fun v hv => (by cases hv), fun E' hE' => (by cases hE'; exact kx _ _ _ (.sto2 hk hE z) ((h.e.wk e1).k10) (e1.rk.trans (fun x j hx => by rw [up2_ne _ _ (by omega)])) up2_s hx)⟩)))
  cases hv
  refine wn_117 h1.1.1 (Or.inr (Or.inr (Or.inl ⟨rfl, rfl⟩))) (wl_gI ly rfl (hF1 y 4 bt) (wl_gI ly rfl (hF1 y 5 bt) (wl_bdx (v_workOut (k := X.f y 4) (e := X.f y 5) (b := 0) h1.1 (by show _ = ((X.F y 4).toInt.toNat : Int); omega) (by show _ = ((X.F y 5).toInt.toNat : Int); omega) l32_0 w2 (fun I2 S2 hE2 e2 t2 r2 => ⟨fun v hv => ?_, fun E hE => (by cases hE)⟩) (fun E I2 z hE2 e2 t2 hx => ⟨fun v hv => (by cases hv), fun E' hE' => (by cases hE'; exact kx _ z I2 (.sto3 hk hE ⟨z1, z2⟩ (by rw [← hV1.1, ← hV1.2.1, ← hV1.2.2]; exact hE2)) ((h.e.wk e1).wk e2) (e1.rk.trans e2.rk) t2 hx)⟩)))))
  cases hv
  rw [hV1.1, hV1.2.1, hV1.2.2] at hE2
  have h2 := h1.wk e2 r2
  obtain ⟨a1, a2, a3⟩ := h2.2.1
  refine wl_sI (n := 8) rfl (fun _ => wl_some ?_)
  have e3 : RKP I2 (up2 I2 120 (X.F y 2 + S1 0).toInt.toNat (S2 0)) := fun x j hx => by rw [up2_ne _ _ (by omega)]
  refine k1 _ _ (.sto hk hE ⟨z1, z2⟩ hE2) (h2.set e3 ?_ ?_ ?_ ?_ ?_ h2.2.2.2.2.2.1.2) (e1.rk.trans (e2.rk.trans e3)) (by rw [up2_nea (by decide)]; exact t2.trans t1)
  · rw [up2_at _ _ (by decide)]; exact a1
  · rw [up2_at _ _ (by decide)]; exact a2
  · rw [up2_row, a3]
  · rw [up2_nea (by decide)]; exact h2.2.2.1
  · rw [up2_nea (by decide)]; exact h2.2.2.2.1
theorem v_do (hG : GDN X p G) (hpl : ∀ n y, G n y → 0 ≤ (X.F y 1).toInt ∧ (X.F y 1).toInt ≤ 199) (H0 : W3 X G p lim ic inp R 0 g0) (H2 : W3 X G p lim ic inp R 2 g2) : W3 X G p lim ic inp R 1 (fo_ru_doStatement g0 g1 g2) := by
  intro n d oy s I J Q hd hn ho hne h k
  cases oy with
  | none => exact absurd rfl (hne (by decide))
  | some y =>
    have hy := (ho y rfl).1
    obtain ⟨n3, ly, bt, hkd⟩ := hG.t n y hy
    have hF := h.2.2.2.2.2.2.2.2.1
    have hV := h.2.1
    have hp1 := hpl n y hy
    unfold fo_ru_doStatement f_ru_doStatement_112 f_ru_doStatement_143
    refine wl_kb (wl_eq rfl (wl_gI ly rfl (hF y 0 bt) ?_))
    rcases hkd with c | c | c | c | c | c
    · rw [c, if_pos rfl]
      have w1 := hG.e2 n y hy c
      obtain ⟨⟨i3, i5⟩, _⟩ := hG.i n y hy (by rw [c]; decide)
      refine wl_gI ly rfl (hF y 2 bt) (wl_gI ly rfl (hF y 3 bt) (wl_gI ly rfl (hF y 5 bt) (wl_bdx (v_workOut (k := X.f y 3) (e := X.f y 5) (b := 0) h.1 (by show _ = ((X.F y 3).toInt.toNat : Int); omega) (by show _ = ((X.F y 5).toInt.toNat : Int); omega) l32_0 w1 (fun I1 S1 hE e1 t1 r1 => ⟨fun v hv => ?_, fun E hE => (by cases hE)⟩) (fun E I1 z hE e1 t1 hx => ⟨fun v hv => (by cases hv), fun E' hE' => (by cases hE'; exact k.2.2 _ s z I1 (.asge c (by rw [← hV.1, ← hV.2.1, ← hV.2.2]; exact hE)) (h.e.wk e1) e1.rk t1 hx)⟩)))))
      cases hv
      rw [hV.1, hV.2.1, hV.2.2] at hE
      exact wl_bd (v_assign (h.wk e1 r1) (fun I2 h2 e2 t2 => wl_req (fun _ => wl_some (k.1 _ I2 (.asg c hE) h2 (e1.rk.trans e2) (t2.trans t1)))))
    · rw [c, if_neg (by decide), if_pos rfl]
      exact wl_bdx (v_store hG hy c hp1 h (fun s' I' hD h' e' t' => ⟨fun v hv => wl_req (fun _ => wl_some (k.1 s' I' hD h' e' t')), fun E hE => (by cases hE)⟩) (fun E z I' hD h' e' t' hx => ⟨fun v hv => (by cases hv), fun E' hE' => (by cases hE'; exact k.2.2 _ s z I' hD h' e' t' hx)⟩))
    · rw [c, if_neg (by decide), if_neg (by decide), if_pos rfl]
      have n1 := hG.dp n y hy (Or.inl c)
      have d1 : (d + 1).toInt = ((n + 1 : Nat) : Int) := by rw [i32addc (by rw [hd, l32_1]; omega), hd, l32_1]; omega
      refine wl_bdx (v_holds hG hy (Or.inl c) h (fun b I1 hH e1 t1 r1 => ⟨fun v hv => ?_, fun E hE => (by cases hE)⟩) (fun E I1 z hH e1 t1 hx => ⟨fun v hv => (by cases hv), fun E' hE => (by cases hE; exact k.2.2 _ s z I1 (.ife c hH) (h.e.wk e1) e1.rk t1 hx)⟩))
      cases hv
      have h1 := h.wk e1 r1
      cases b with
      | false =>
        rw [if_pos ib0]
        refine wl_gR ly rfl (h1.2.2.2.2.2.2.2.2.2 y 8 bt) (wl_bdx (H0 d1 n1 (fun z hz => ⟨hG.bd n y z hy (Or.inl c) (Or.inr ⟨c, hz⟩), fun w => absurd w (by decide)⟩) (fun w => absurd rfl w) h1 ⟨fun s' I2 hD h2 e2 t2 => ⟨fun v hv => ?_, fun E hE => (by cases hE)⟩, fun s' I2 hD h2 e2 t2 => ⟨fun v hv => ?_, fun E hE => (by cases hE)⟩, fun E s' z I2 hD h2 e2 t2 hx => ⟨fun v hv => (by cases hv), fun E' hE => (by cases hE; exact k.2.2 _ s' z I2 (.iff c hH hD) h2 (e1.rk.trans e2) t2 hx)⟩⟩))
        · cases hv
          exact wl_req (fun _ => wl_some (k.1 s' I2 (.iff c hH hD) h2 (e1.rk.trans e2) (t2.trans t1)))
        · cases hv
          exact wl_req (fun _ => wl_some (k.2.1 s' I2 (.iff c hH hD) h2 (e1.rk.trans e2) (t2.trans t1)))
      | true =>
        rw [if_neg ib1]
        refine wl_gR ly rfl (h1.2.2.2.2.2.2.2.2.2 y 7 bt) (wl_bdx (H0 d1 n1 (fun z hz => ⟨hG.bd n y z hy (Or.inl c) (Or.inl hz), fun w => absurd w (by decide)⟩) (fun w => absurd rfl w) h1 ⟨fun s' I2 hD h2 e2 t2 => ⟨fun v hv => ?_, fun E hE => (by cases hE)⟩, fun s' I2 hD h2 e2 t2 => ⟨fun v hv => ?_, fun E hE => (by cases hE)⟩, fun E s' z I2 hD h2 e2 t2 hx => ⟨fun v hv => (by cases hv), fun E' hE => (by cases hE; exact k.2.2 _ s' z I2 (.ift c hH hD) h2 (e1.rk.trans e2) t2 hx)⟩⟩))
        · cases hv
          exact wl_req (fun _ => wl_some (k.1 s' I2 (.ift c hH hD) h2 (e1.rk.trans e2) (t2.trans t1)))
        · cases hv
          exact wl_req (fun _ => wl_some (k.2.1 s' I2 (.ift c hH hD) h2 (e1.rk.trans e2) (t2.trans t1)))
    · rw [c, if_neg (by decide), if_neg (by decide), if_neg (by decide), if_neg (by decide), if_pos rfl]
      refine wl_bdx (H2 hd hn (fun z hz => ⟨by cases hz; exact hy, fun _ => by cases hz; exact c⟩) (fun _ z => by cases z) h ⟨fun s' I2 hD h2 e2 t2 => ⟨fun v hv => ?_, fun E hE => (by cases hE)⟩, fun s' I2 hD h2 e2 t2 => ⟨fun v hv => ?_, fun E hE => (by cases hE)⟩, fun E s' z I2 hD h2 e2 t2 hx => ⟨fun v hv => (by cases hv), fun E' hE => (by cases hE; exact k.2.2 _ s' z I2 (.whl c hD) h2 e2 t2 hx)⟩⟩)
      · cases hv
        exact wl_req (fun _ => wl_some (k.1 s' I2 (.whl c hD) h2 e2 t2))
      · cases hv
        exact wl_req (fun _ => wl_some (k.2.1 s' I2 (.whl c hD) h2 e2 t2))
    · rw [c, if_neg (by decide), if_neg (by decide), if_neg (by decide), if_neg (by decide), if_neg (by decide), if_pos rfl]
      refine wl_bdx (v_holds hG hy (Or.inr (Or.inr c)) h (fun b I1 hH e1 t1 r1 => ⟨fun v hv => ?_, fun E hE => (by cases hE)⟩) (fun E I1 z hH e1 t1 hx => ⟨fun v hv => (by cases hv), fun E' hE => (by cases hE; exact k.2.2 _ s z I1 (.asre c hH) (h.e.wk e1) e1.rk t1 hx)⟩))
      cases hv
      have h1 := h.wk e1 r1
      have hF1 := h1.2.2.2.2.2.2.2.2.1
      cases b with
      | false =>
        rw [if_pos ib0]
        refine wl_gI ly rfl (hF1 y 1 bt) (wl_bdx (v_fail (by decide) hp1 (fun E hx => ⟨fun v hv => (by cases hv), fun E' hE => (by cases hE; exact k.2.2 _ s _ _ (.asr0 c hH) ((h.e.wk e1).k10) (e1.rk.trans (fun x j hx => by rw [up2_ne _ _ (by omega)])) up2_s hx)⟩)))
      | true =>
        rw [if_neg ib1]
        exact wl_req (fun _ => wl_some (k.1 s I1 (.asr1 c hH) h1 e1.rk t1))
    · rw [c, if_neg (by decide), if_neg (by decide), if_neg (by decide), if_neg (by decide), if_neg (by decide), if_neg (by decide), if_pos rfl]
      refine wl_gI ly rfl (hF y 2 bt) (wl_bd2 (v_nextInput h (fun c1 I1 h1 e1 t1 => ?_) (fun c1 => ?_)))
      · exact wl_bd (v_assign h1 (fun I2 h2 e2 t2 => wl_req (fun _ => wl_some (k.1 _ I2 (.inp1 c c1) h2 (e1.trans e2) (t2.trans t1)))))
      · exact wl_bd (v_assign h (fun I2 h2 e2 t2 => wl_req (fun _ => wl_some (k.1 _ I2 (.inp0 c c1) h2 e2 t2))))
theorem v_ru3 (hG : GDN X p G) (hpl : ∀ n y, G n y → 0 ≤ (X.F y 1).toInt ∧ (X.F y 1).toInt ≤ 199) : ∀ e : Nat, W3 X G p lim ic inp R 0 (sc_ru3 e).1 ∧ W3 X G p lim ic inp R 1 (sc_ru3 e).2.1 ∧ W3 X G p lim ic inp R 2 (sc_ru3 e).2.2 := by
  intro e
  induction e with
  | zero =>
    refine ⟨?_, ?_, ?_⟩
    · intro n d oy s I J Q hd hn ho hne h k; exact wl_none
    · intro n d oy s I J Q hd hn ho hne h k; exact wl_none
    · intro n d oy s I J Q hd hn ho hne h k; exact wl_none
  | succ e ih => exact ⟨v_list hG ih.2.1, v_do hG hpl ih.1 ih.2.2, v_while hG ih.1⟩
end CRV
