/-! The reference: a PROGRAM gone through; all whiles end. -/
def NX (d : Nat → Nat) (hi s : Nat) (x : Int32) (t : Nat) : Prop := x.toInt = -1 ∨ ((s : Int) < x.toInt ∧ x.toInt < hi ∧ d x.toInt.toNat = t)
def SL (I : IM) (d : Nat → Nat) (hi s : Nat) : Prop := ST I s ∧ d s ≤ 3 ∧ NX d hi s (I 386 s) (d s) ∧ ((I 376 s).toInt = 3 ∨ (I 376 s).toInt = 4 → NX d hi s (I 384 s) (d s + 1)) ∧ (I 387 s ≠ 0 → NX d hi s (I 385 s) (d s + 1))
theorem SL.pa {I I' : IM} {d : Nat → Nat} {hi s : Nat} (h : SL I d hi s) (e : PA I I') : SL I' d hi s := by
  unfold SL
  rw [e 386 s (by decide) (by decide), e 376 s (by decide) (by decide), e 384 s (by decide) (by decide), e 387 s (by decide) (by decide), e 385 s (by decide) (by decide)]
  exact ⟨h.1.pa e, h.2⟩
def PG (I : IM) (d : Nat → Nat) (lo hi : Nat) : Prop := hi ≤ 160 ∧ ∀ s, lo ≤ s → s < hi → SL I d hi s
theorem PG.pa {I I' : IM} {d : Nat → Nat} {lo hi : Nat} (h : PG I d lo hi) (e : PA I I') : PG I' d lo hi := ⟨h.1, fun s h1 h2 => (h.2 s h1 h2).pa e⟩
/-- what may change while the whiles and ifs from t on are gone through -/
def KP (t : Nat) (I I' : IM) : Prop := ∀ x j, (x ≠ 412 ∧ (x ≠ 411 ∨ (3 ≤ j ∧ j < 3 + 3 * t)) ∧ (x ≠ 410 ∨ (18 ≤ j ∧ j < 18 + 18 * t)) ∧ ((x ≠ 413 ∧ x ≠ 414 ∧ x ≠ 415) ∨ j < t) ∧ (x ≠ 373 ∨ j < 64 ∨ 66 < j)) → I' x j = I x j
def SP (t i : Nat) : Prop := i < 42 ∨ 42 + 42 * t ≤ i
theorem KP.refl (t : Nat) (I : IM) : KP t I I := fun _ _ _ => rfl
theorem KP.trans {t : Nat} {I I' I'' : IM} (h : KP t I I') (h2 : KP t I' I'') : KP t I I'' := fun x j hx => (h2 x j hx).trans (h x j hx)
theorem KP.mono {t t' : Nat} {I I' : IM} (h : KP t' I I') (ht : t ≤ t') : KP t I I' := fun x j hx => h x j (by omega)
theorem KI.kp {t : Nat} {I I' : IM} (h : KI I I') : KP t I I' := fun x j hx => h x j (by omega)
theorem KP.pa {t : Nat} {I I' : IM} (h : KP t I I') : PA I I' := fun x j _ _ => h x j (by omega)
theorem CSI.kp {t d a : Nat} {I I' : IM} (h : CSI d a I I') (hd : d < 3 ∨ 3 + 3 * t ≤ d) : KP t I I' := fun x j hx => h.1 x j (by omega)
theorem JSI.kp {t d a b : Nat} {I I' : IM} (h : JSI d a b I I') (hd : d < 3 ∨ 3 + 3 * t ≤ d) : KP t I I' := fun x j hx => h.1 x j (by omega)
theorem KP.uf {t x j : Nat} {I : IM} {v : Int32} (hx : x = 413 ∨ x = 414 ∨ x = 415) (hj : t ≤ j) : KP t I (up2 I x j v) := fun y i hy => up2_ne _ _ (by omega)
theorem KP.u3 {t j : Nat} {I : IM} {v : Int32} (hj : 64 ≤ j ∧ j ≤ 66) : KP t I (up2 I 373 j v) := fun y i hy => up2_ne _ _ (by omega)
section OKS
variable {lo hi : Nat} {d : Nat → Nat} {t tp : Nat} {I0 I I' : IM} {J0 J J' : JM} {R : RM}
def OK (lo hi : Nat) (d : Nat → Nat) (t tp : Nat) (I0 : IM) (J0 : JM) (I : IM) (J : JM) : Prop := PG I d lo hi ∧ BI I ∧ KP t I0 I ∧ JX (SP t) J0 J ∧ (I 373 64).toInt = tp ∧ 0 ≤ (I 373 7).toInt ∧ (I 373 7).toInt ≤ 5
theorem OK.pg (h : OK lo hi d t tp I0 J0 I J) : PG I d lo hi := h.1
theorem OK.bi (h : OK lo hi d t tp I0 J0 I J) : BI I := h.2.1
theorem OK.kp (h : OK lo hi d t tp I0 J0 I J) : KP t I0 I := h.2.2.1
theorem OK.jx (h : OK lo hi d t tp I0 J0 I J) : JX (SP t) J0 J := h.2.2.2.1
theorem OK.vi (h : OK lo hi d t tp I0 J0 I J) : VI J := h.2.2.2.1.1
theorem OK.top (h : OK lo hi d t tp I0 J0 I J) : (I 373 64).toInt = tp := h.2.2.2.2.1
theorem OK.nr (h : OK lo hi d t tp I0 J0 I J) : 0 ≤ (I 373 7).toInt ∧ (I 373 7).toInt ≤ 5 := h.2.2.2.2.2
theorem OK.st (h : OK lo hi d t tp I0 J0 I J) {s : Nat} (h1 : lo ≤ s) (h2 : s < hi) : SL I d hi s := h.1.2 s h1 h2
theorem OK.start (h : OK lo hi d t tp I0 J0 I J) (t' : Nat) : OK lo hi d t' tp I J I J := ⟨h.pg, h.bi, KP.refl _ _, JX.refl h.vi, h.2.2.2.2⟩
theorem OK.mk1 (h : OK lo hi d t tp I0 J0 I J) (hB : BI I') (hk : KP t I I') (h64 : I' 373 64 = I 373 64) (hj : JX (SP t) J J') : OK lo hi d t tp I0 J0 I' J' := by
  refine ⟨h.pg.pa hk.pa, hB, h.kp.trans hk, h.jx.trans hj, ?_, ?_⟩
  · rw [h64]; exact h.top
  · rw [hk 373 7 (by omega)]; exact h.nr
theorem OK.ki (h : OK lo hi d t tp I0 J0 I J) (hB : BI I') (hk : KI I I') (hj : JX SC J J') (ht : t ≤ 4) : OK lo hi d t tp I0 J0 I' J' := h.mk1 hB hk.kp (hk 373 64 (by omega)) (hj.mono (fun i hi => by unfold SC at hi; unfold SP; omega))
theorem OK.cs (h : OK lo hi d t tp I0 J0 I J) {e a : Nat} (hi' : CSI e a I I') (hj : VL e a 14 J J') (hd : e < 3 ∨ 3 + 3 * t ≤ e) (ha : a ≤ 15) : OK lo hi d t tp I0 J0 I' J' := h.mk1 (hi'.bi h.bi ha) (hi'.kp hd) (hi'.1 373 64 (by omega)) (hj.1.mono (fun i hi => by unfold SP; omega))
theorem OK.js (h : OK lo hi d t tp I0 J0 I J) {e a b : Nat} (hi' : JSI e a b I I') (hj : JX (fun i => 14 * e ≤ i ∧ i < 14 * e + 14) J J') (hd : e < 3 ∨ 3 + 3 * t ≤ e) (ha : a ≤ 15) (hb : b ≤ 15) : OK lo hi d t tp I0 J0 I' J' := h.mk1 (hi'.bi h.bi ha hb) (hi'.kp hd) (hi'.1 373 64 (by omega)) (hj.mono (fun i hi => by unfold SP; omega))
theorem OK.uf (h : OK lo hi d t tp I0 J0 I J) {x j : Nat} {v : Int32} (hx : x = 413 ∨ x = 414 ∨ x = 415) (hj : t ≤ j) : OK lo hi d t tp I0 J0 (up2 I x j v) J := h.mk1 (h.bi.oth (by omega) (by omega)) (KP.uf hx hj) (up2_ne _ _ (by omega)) (JX.refl h.vi)
theorem OK.u3 (h : OK lo hi d t tp I0 J0 I J) {j : Nat} {v : Int32} (hj : j = 65 ∨ j = 66) : OK lo hi d t tp I0 J0 (up2 I 373 j v) J := h.mk1 (h.bi.oth (by decide) (by decide)) (KP.u3 (by omega)) (up2_ne _ _ (by omega)) (JX.refl h.vi)
theorem OK.uT (h : OK lo hi d t tp I0 J0 I J) {v : Int32} {tq : Nat} (hv : v.toInt = tq) : OK lo hi d t tq I0 J0 (up2 I 373 64 v) J := by
  refine ⟨h.pg.pa (KP.u3 (t := t) (by omega)).pa, h.bi.oth (by decide) (by decide), h.kp.trans (KP.u3 (by omega)), h.jx, ?_, ?_⟩
  · rw [up2_s]; exact hv
  · rw [up2_nek (by decide)]; exact h.nr
theorem q_cs (hR : QR R) (ho : OK lo hi d t tp I0 J0 I J) {e a : Nat} {a1 a2 : Int32} (h1 : a1.toInt = e) (h2 : a2.toInt = a) (hd : e ≤ 15) (ha : a ≤ 15) (hne : e ≠ a) (hdt : e < 3 ∨ 3 + 3 * t ≤ e) {Q : WW → Prop} (k : ∀ I' J', OK lo hi d t tp I0 J0 I' J' → CSI e a I I' → VL e a 14 J J' → Q (mk I' J' R)) : wp (f_q_copyState 373 a1 a2 (mk I J R)) Q :=
  s_q_copyState hR h1 h2 hd ha hne ho.bi ho.vi (fun I' J' hi hj => k I' J' (ho.cs hi hj hdt ha) hi hj)
theorem q_as (hR : QR R) (ho : OK lo hi d t tp I0 J0 I J) (ht : t ≤ 4) {a1 a2 : Int32} (s0 : 0 ≤ a1.toInt) (s1 : lo ≤ a1.toInt.toNat) (s2 : a1.toInt.toNat < hi) (hk : 3 ≤ (I 376 a1.toInt.toNat).toInt) {Q : WW → Prop} (k : ∀ I' J', OK lo hi d t tp I0 J0 I' J' → KI I I' → JX SC J J' → Q (mk I' J' R)) : wp (f_q_assume 373 a1 a2 (mk I J R)) Q := by
  have hS := (ho.st s1 s2).1
  have := ho.pg.1
  exact s_q_assume (J0 := J) hR ⟨s0, by omega⟩ (hS.2.2.2.2.1 (by omega)) (hS.2.2.2.2.2 (by omega)) ho.bi (JX.refl ho.vi) (fun I' J' h1 h2 h3 => k I' J' (ho.ki h2 h1 h3 ht) h1 h3)
theorem q_js (hR : QR R) (ho : OK lo hi d t tp I0 J0 I J) {e a b : Nat} {a1 a2 a3 a4 : Int32} (h1 : a1.toInt = e) (h2 : a2.toInt = a) (h3 : a3.toInt = b) (hd : e ≤ 15) (ha : a ≤ 15) (hb : b ≤ 15) (na : e ≠ a) (nb : e ≠ b) (hdt : e < 3 ∨ 3 + 3 * t ≤ e) {Q : WW → Prop} (k : ∀ I' J', OK lo hi d t tp I0 J0 I' J' → JSI e a b I I' → JX (fun i => 14 * e ≤ i ∧ i < 14 * e + 14) J J' → (a4 = 0 → I 411 a = 0 → AJ J a → AJ J' e) → Q (mk I' J' R)) : wp (f_q_joinState 373 a1 a2 a3 a4 (mk I J R)) Q :=
  s_q_joinState hR h1 h2 h3 hd ha hb na nb ho.bi ho.vi (fun I' J' hi hj hA => k I' J' (ho.js hi hj hdt ha hb) hi hj hA)
theorem q_enter_78 (hR : QR R) (ho : OK lo hi d t t I0 J0 I J) (ht : t ≤ 3) {a1 y2 z2 : Int32} (hy : y2.toInt = 3 + 3 * t) (hs : 0 ≤ a1.toInt) (s1 : lo ≤ a1.toInt.toNat) (s2 : a1.toInt.toNat < hi) (hk : (I 376 a1.toInt.toNat).toInt = 3 ∨ (I 376 a1.toInt.toNat).toInt = 4) (hf : I 413 t = a1) (hu : I 415 t = 1) {z1 : Int32} (hz : z1.toInt = t) {Q : (Int32 × WW) → Prop} (k : ∀ I' J', OK lo hi d t (t + 1) I0 J0 I' J' → I' 413 t = a1 → I' 415 t = 1 → I' 414 t = z2 → I' 411 (4 + 3 * t) = I 411 0 → Q (I' 384 a1.toInt.toNat, mk I' J' R)) : wp (f_q_enter_78 373 a1 y2 414 z1 z2 (mk I J R)) Q := by
  have hi1 := ho.pg.1
  have htp := ho.top
  unfold f_q_enter_78
  refine st_sI (n := 8) rfl (by omega) (st_gI rfl rfl (up2_nea (by decide)) (st_pI rfl rfl ?_))
  have ez : z1.toInt.toNat = t := by omega
  rw [ez]
  have o1 := (ho.uf (x := 414) (j := t) (v := z2) (by decide) (Nat.le_refl t)).uT (v := I 373 64 + 1) (tq := t + 1) (by rw [i32addc (by rw [htp, l32_1]; omega), htp, l32_1]; omega)
  generalize hI1 : up2 (up2 I 414 t z2) 373 64 (I 373 64 + 1) = I1 at o1 ⊢
  have f1 : I1 413 t = a1 := by rw [← hI1, up2_nea (by decide), up2_nea (by decide)]; exact hf
  have f2 : I1 415 t = 1 := by rw [← hI1, up2_nea (by decide), up2_nea (by decide)]; exact hu
  have f3 : I1 414 t = z2 := by rw [← hI1, up2_nea (by decide), up2_s]
  have f4 : I1 411 0 = I 411 0 := by rw [← hI1, up2_nea (by decide), up2_nea (by decide)]
  have f5 : I1 376 a1.toInt.toNat = I 376 a1.toInt.toNat := by rw [← hI1, up2_nea (by decide), up2_nea (by decide)]
  refine st_bd (q_cs hR o1 (e := 3 + 3 * t) (a := 0) (by omega) rfl (by omega) (by omega) (by omega) (by omega) (fun I2 J2 o2 c2 _ => ?_))
  refine st_bd (q_cs hR o2 (e := 4 + 3 * t) (a := 0) (by rw [i32addc (by rw [hy, l32_1]; omega), hy, l32_1]; omega) rfl (by omega) (by omega) (by omega) (by omega) (fun I3 J3 o3 c3 _ => ?_))
  have g1 : I3 413 t = a1 := by rw [c3.1 413 t (by omega), c2.1 413 t (by omega)]; exact f1
  have g2 : I3 415 t = 1 := by rw [c3.1 415 t (by omega), c2.1 415 t (by omega)]; exact f2
  have g3 : I3 414 t = z2 := by rw [c3.1 414 t (by omega), c2.1 414 t (by omega)]; exact f3
  have g4 : I3 411 (4 + 3 * t) = I 411 0 := by rw [c3.2.2, c2.1 411 0 (by omega)]; exact f4
  have g5 : I3 376 a1.toInt.toNat = I 376 a1.toInt.toNat := by rw [c3.1 376 _ (by omega), c2.1 376 _ (by omega)]; exact f5
  have fin : ∀ I4, OK lo hi d t (t + 1) I0 J0 I4 J3 → (∀ x j, x ≠ 373 → I4 x j = I3 x j) → wp (f_q_enter_123 373 a1 (mk I4 J3 R)) Q := by
    intro I4 o4 h4
    unfold f_q_enter_123
    refine st_bd (q_as hR o4 (by omega) hs s1 s2 (by rw [h4 376 _ (by decide), g5]; omega) (fun I5 J5 o5 k5 _ => ?_))
    refine qn_17 hR (st_rI (n := 160) rfl (by omega) rfl (st_some (k I5 J5 o5 ?_ ?_ ?_ ?_)))
    · rw [k5 413 t (by omega), h4 413 t (by decide)]; exact g1
    · rw [k5 415 t (by omega), h4 415 t (by decide)]; exact g2
    · rw [k5 414 t (by omega), h4 414 t (by decide)]; exact g3
    · rw [k5 411 (4 + 3 * t) (by omega), h4 411 _ (by decide)]; exact g4
  refine qn_9 hR (st_rI (n := 160) rfl (by omega) rfl (st_ite (fun c => ?_) (fun c => ?_)))
  · exact st_gI rfl rfl rfl (st_pI rfl rfl (fin _ (o3.u3 (Or.inl rfl)) (fun x j hx => up2_nea hx)))
  · exact fin _ o3 (fun _ _ _ => rfl)
theorem q_enter (hR : QR R) (ho : OK lo hi d t t I0 J0 I J) (ht : t ≤ 3) {a1 : Int32} (hs : 0 ≤ a1.toInt) (s1 : lo ≤ a1.toInt.toNat) (s2 : a1.toInt.toNat < hi) (hk : (I 376 a1.toInt.toNat).toInt = 3 ∨ (I 376 a1.toInt.toNat).toInt = 4) {Q : (Int32 × WW) → Prop} (k1 : Q (I 386 a1.toInt.toNat, mk I J R)) (k2 : ∀ I' J', OK lo hi d t (t + 1) I0 J0 I' J' → I' 413 t = a1 → I' 415 t = 1 → (((I 376 a1.toInt.toNat).toInt = 3 ∧ I' 414 t = 0) ∨ ((I 376 a1.toInt.toNat).toInt = 4 ∧ I' 414 t = 2 ∧ I' 411 (4 + 3 * t) = 0)) → Q (I' 384 a1.toInt.toNat, mk I' J' R)) : wp (f_q_enter 373 a1 (mk I J R)) Q := by
  have hi1 := ho.pg.1
  have htp := ho.top
  have y2 : ((3 : Int32) + (3 : Int32) * I 373 64).toInt = 3 + 3 * t := by
    rw [i32addc (by rw [m32_3 (by omega), l32_3]; omega), m32_3 (by omega), l32_3]; omega
  have en : I 376 a1.toInt.toNat = 3 ∨ (I 376 a1.toInt.toNat = 4 ∧ I 411 0 = 0) → wp (f_q_enter_35 373 a1 ((3 : Int32) + (3 : Int32) * I 373 64) (mk I J R)) Q := by
    intro hc
    unfold f_q_enter_35
    have et : (I 373 64).toInt.toNat = t := by omega
    refine qn_61 hR (st_gI rfl rfl rfl (st_sI (n := 8) rfl (by omega) (qn_63 hR (st_gI rfl rfl (up2_nea (by decide)) (st_sI (n := 8) rfl (by omega) ?_)))))
    rw [et]
    have o1 := (ho.uf (x := 413) (j := t) (v := a1) (by decide) (Nat.le_refl t)).uf (x := 415) (j := t) (v := 1) (by decide) (Nat.le_refl t)
    refine qn_62 hR (st_gI rfl rfl ((up2_nea (by decide)).trans (up2_nea (by decide))) (qn_9 hR (st_rI (n := 160) rfl (by omega) ((up2_nea (by decide)).trans (up2_nea (by decide))) ?_)))
    have e376 : up2 (up2 I 413 t a1) 415 t 1 376 a1.toInt.toNat = I 376 a1.toInt.toNat := (up2_nea (by decide)).trans (up2_nea (by decide))
    have e411 : up2 (up2 I 413 t a1) 415 t 1 411 0 = I 411 0 := (up2_nea (by decide)).trans (up2_nea (by decide))
    refine st_ite (fun c => ?_) (fun c => ?_)
    · refine q_enter_78 hR o1 ht y2 hs s1 s2 (by rw [e376]; exact hk) ((up2_nea (by decide)).trans up2_s) up2_s htp (fun I' J' o f1 f2 f3 _ => k2 I' J' o f1 f2 (Or.inl ⟨by rw [c]; rfl, f3⟩))
    · refine q_enter_78 hR o1 ht y2 hs s1 s2 (by rw [e376]; exact hk) ((up2_nea (by decide)).trans up2_s) up2_s htp (fun I' J' o f1 f2 f3 f4 => k2 I' J' o f1 f2 (Or.inr ⟨?_, f3, ?_⟩))
      · rcases hc with hc | hc
        · exact absurd hc c
        · rw [hc.1]; rfl
      · rw [f4, e411]
        rcases hc with hc | hc
        · exact absurd hc c
        · exact hc.2
  unfold f_q_enter
  refine st_kb rfl (st_gI rfl rfl rfl (qn_9 hR (st_rI (n := 160) rfl (by omega) rfl (st_ite (fun c => ?_) (fun c => ?_)))))
  · refine qn_59 hR (st_rI (n := 16) rfl (by decide) rfl (st_ite (fun c2 => en (Or.inr ⟨c, c2⟩)) (fun c2 => ?_)))
    exact qn_19 hR (st_rI (n := 160) rfl (by omega) rfl (st_some k1))
  · refine en (Or.inl ?_)
    rcases hk with z | z
    · exact i32eq.mpr z
    · exact absurd (i32eq.mpr z) c
theorem q_endIf_62 (hR : QR R) (ho : OK lo hi d t (t + 1) I0 J0 I J) (ht : t ≤ 3) {a1 a2 : Int32} (ha : a2.toInt = 3 + 3 * t) (hs : 0 ≤ a1.toInt) (s1 : lo ≤ a1.toInt.toNat) (s2 : a1.toInt.toNat < hi) {Q : (Int32 × WW) → Prop} (k : ∀ I' J', OK lo hi d t t I0 J0 I' J' → Q (I' 386 a1.toInt.toNat, mk I' J' R)) : wp (f_q_endIf_62 373 a1 a2 (mk I J R)) Q := by
  have hi1 := ho.pg.1
  unfold f_q_endIf_62
  refine st_bd (q_js hR ho (e := 1) (a := 5 + 3 * t) (b := 0) rfl (by rw [i32addc (by rw [ha, l32_2]; omega), ha, l32_2]; omega) rfl (by decide) (by omega) (by decide) (by omega) (by decide) (by omega) (fun I1 J1 o1 _ _ _ => ?_))
  refine st_bd (q_cs hR o1 (e := 0) (a := 1) rfl rfl (by decide) (by decide) (by decide) (by omega) (fun I2 J2 o2 _ _ => ?_))
  have htp := o2.top
  refine st_gI rfl rfl rfl (st_pI rfl rfl ?_)
  have o3 := o2.uT (v := I2 373 64 - 1) (tq := t) (by rw [i32subc (by rw [htp, l32_1]; omega), htp, l32_1]; omega)
  exact qn_19 hR (st_rI (n := 160) rfl (by omega) rfl (st_some (k _ _ o3)))
theorem q_endIf (hR : QR R) (ho : OK lo hi d t (t + 1) I0 J0 I J) (ht : t ≤ 3) {a1 a2 : Int32} (ha : a2.toInt = 3 + 3 * t) (hs : 0 ≤ a1.toInt) (s1 : lo ≤ a1.toInt.toNat) (s2 : a1.toInt.toNat < hi) (hk : (I 376 a1.toInt.toNat).toInt = 3) (hf : I 413 t = a1) {Q : (Int32 × WW) → Prop} (k1 : ∀ I' J', OK lo hi d t t I0 J0 I' J' → Q (I' 386 a1.toInt.toNat, mk I' J' R)) (k2 : ∀ I' J', I 414 t = 0 → OK lo hi d t (t + 1) I0 J0 I' J' → I' 413 t = a1 → I' 414 t = 1 → I' 387 a1.toInt.toNat ≠ 0 → Q (I' 385 a1.toInt.toNat, mk I' J' R)) : wp (f_q_endIf 373 a1 a2 (mk I J R)) Q := by
  have hi1 := ho.pg.1
  have htp := ho.top
  have x1 : (I 373 64 - 1).toInt = t := by rw [i32subc (by rw [htp, l32_1]; omega), htp, l32_1]; omega
  unfold f_q_endIf
  refine st_kb rfl (qn_62 hR (st_gI rfl rfl rfl (st_rI (n := 8) (x := I 414 t) rfl (by omega) (by rw [show (I 373 64 - 1).toInt.toNat = t by omega]) (st_ite (fun c => ?_) (fun c => q_endIf_62 hR ho ht ha hs s1 s2 k1)))))
  refine st_bd (q_cs hR ho (e := 5 + 3 * t) (a := 0) (by rw [i32addc (by rw [ha, l32_2]; omega), ha, l32_2]; omega) rfl (by omega) (by decide) (by omega) (by omega) (fun I1 J1 o1 c1 _ => ?_))
  refine st_bd (q_cs hR o1 (e := 0) (a := 3 + 3 * t) rfl (by omega) (by decide) (by omega) (by omega) (by omega) (fun I2 J2 o2 c2 _ => ?_))
  refine st_bd (q_as hR o2 (by omega) hs s1 s2 (by rw [c2.1 376 _ (by omega), c1.1 376 _ (by omega), hk]; decide) (fun I3 J3 o3 c3 _ => ?_))
  have htp3 := o3.top
  have x3 : (I3 373 64 - 1).toInt = t := by rw [i32subc (by rw [htp3, l32_1]; omega), htp3, l32_1]; omega
  refine qn_62 hR (st_gI rfl rfl rfl (st_sI (n := 8) rfl (by omega) ?_))
  rw [show (I3 373 64 - 1).toInt.toNat = t by omega]
  have o4 := o3.uf (x := 414) (j := t) (v := 1) (by decide) (Nat.le_refl t)
  refine qn_20 hR (st_rI (n := 160) rfl (by omega) rfl (st_ite (fun c4 => q_endIf_62 hR o4 ht ha hs s1 s2 k1) (fun c4 => ?_)))
  refine qn_18 hR (st_rI (n := 160) rfl (by omega) rfl (st_some (k2 _ _ c o4 ?_ up2_s c4)))
  rw [up2_nea (by decide), c3 413 t (by omega), c2.1 413 t (by omega), c1.1 413 t (by omega)]
  exact hf
end OKS
