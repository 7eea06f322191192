/-! The reference: STATES. -/
def BI (I : IM) : Prop := (∀ j, j < 96 → B01 (I 410 j)) ∧ (∀ j, j < 16 → B01 (I 411 j))
theorem BI.w12 {I I' : IM} (h : BI I) (e : W12 I I') : BI I' := ⟨fun j hj => by rw [e 410 j (by decide)]; exact h.1 j hj, fun j hj => by rw [e 411 j (by decide)]; exact h.2 j hj⟩
theorem BI.up10 {I : IM} {j : Nat} {x : Int32} (h : BI I) (hx : B01 x) : BI (up2 I 410 j x) := by
  refine ⟨fun i hi => ?_, fun i hi => by rw [up2_nea (by decide)]; exact h.2 i hi⟩
  by_cases e : i = j
  · subst e; rw [up2_s]; exact hx
  · rw [up2_nek e]; exact h.1 i hi
theorem BI.up11 {I : IM} {j : Nat} {x : Int32} (h : BI I) (hx : B01 x) : BI (up2 I 411 j x) := by
  refine ⟨fun i hi => by rw [up2_nea (by decide)]; exact h.1 i hi, fun i hi => ?_⟩
  by_cases e : i = j
  · subst e; rw [up2_s]; exact hx
  · rw [up2_nek e]; exact h.2 i hi
theorem BI.oth {I : IM} {a j : Nat} {x : Int32} (h : BI I) (h1 : a ≠ 410) (h2 : a ≠ 411) : BI (up2 I a j x) :=
  ⟨fun i hi => by rw [up2_nea (Ne.symm h1)]; exact h.1 i hi, fun i hi => by rw [up2_nea (Ne.symm h2)]; exact h.2 i hi⟩
theorem nar01 {x : Int32} (h : B01 x) : vp_nar .boolean x = x := by
  rcases h with rfl | rfl
  · decide
  · decide
section HV
variable {I : IM} {J : JM} {R : RM} {J0 : JM} {S : Nat → Prop}
theorem H_look (hR : QR R) (h : JX S J0 J) {a1 a2 a3 : Int32} {a b : Nat} (hw : WFX I a b) (h1 : a1.toInt = a) (h2 : a2.toInt = b) (h3 : a3.toInt = 226 ∨ a3.toInt = 290) (hS : ∀ i, 224 ≤ i → S i) {Q : (Int32 × WW) → Prop} (k : ∀ r I' J', B01 r → W12 I I' → JX S J0 J' → Q (r, mk I' J' R)) : wp (f_q_look 373 a1 a2 a3 (mk I J R)) Q := s_q_look hR hw h1 h2 h3 h.1 (fun r I' J' hb e hj => k r I' J' hb e (h.trans (hj.mono (fun i hi => hS i hi))))
end HV
def FL (d a j : Nat) (I0 I : IM) : Prop := (∀ x i, (x ≠ 410 ∨ i < 6 * d ∨ 6 * d + j ≤ i) → I x i = I0 x i) ∧ (∀ i, i < j → I 410 (6 * d + i) = I0 410 (6 * a + i))
theorem FL.step {d a j : Nat} {I0 I : IM} (h : FL d a j I0 I) (hj : j < 6) (hne : d ≠ a) (ha : a ≤ 15) (hB : BI I0) : FL d a (j + 1) I0 (up2 I 410 (6 * d + j) (vp_nar .boolean (I 410 (6 * a + j)))) := by
  have e : I 410 (6 * a + j) = I0 410 (6 * a + j) := h.1 _ _ (by omega)
  refine ⟨fun x i hx => ?_, fun i hi => ?_⟩
  · rw [up2_ne _ _ (by omega)]; exact h.1 x i (by omega)
  · by_cases c : i = j
    · subst c; rw [up2_s, e]; exact nar01 (hB.1 _ (by omega))
    · rw [up2_nek (by omega)]; exact h.2 i (by omega)
theorem l_q_copyState_44 {J : JM} {R : RM} (hR : QR R) {d a : Nat} {y1 y2 : Int32} (h1 : y1.toInt = d) (h2 : y2.toInt = a) (hd : d ≤ 15) (ha : a ≤ 15) (hne : d ≠ a) {I0 : IM} (hB : BI I0) {Q : WW → Prop} (k : ∀ I', FL d a 6 I0 I' → Q (mk I' J R)) : ∀ (n j : Nat) (y3 : Int32) (I : IM), FL d a j I0 I → y3.toInt = j → j ≤ 6 → 6 - j < n → wp (f_q_copyState_44 n 373 y1 y2 y3 (mk I J R)) Q := by
  intro n
  induction n with
  | zero => intros; omega
  | succ n ih =>
    intro j y3 I hf q1 q2 hn
    rw [f_q_copyState_44]
    refine st_ite (fun c => st_some (k _ ?_)) (fun c => ?_)
    · rw [i32le, l32_6] at c
      have : j = 6 := by omega
      subst this; exact hf
    · rw [i32le, l32_6] at c
      have b1 : ((6 : Int32) * y1 + y3).toInt = 6 * d + j := by
        rw [i32addc (by rw [m32_6 (by omega)]; omega), m32_6 (by omega)]; omega
      have b2 : ((6 : Int32) * y2 + y3).toInt = 6 * a + j := by
        rw [i32addc (by rw [m32_6 (by omega)]; omega), m32_6 (by omega)]; omega
      refine qn_58 hR (qn_58 hR (st_rI (n := 96) rfl (by omega) rfl (st_sI (n := 96) rfl (by omega) ?_)))
      have e1 : ((6 : Int32) * y1 + y3).toInt.toNat = 6 * d + j := by omega
      have e2 : ((6 : Int32) * y2 + y3).toInt.toNat = 6 * a + j := by omega
      rw [e1, e2]
      exact ih (j + 1) _ _ (hf.step (by omega) hne ha hB) (by rw [i32add, l32_1]; omega) (by omega) (by omega)
def VL (d a j : Nat) (J0 J : JM) : Prop := JX (fun i => 14 * d ≤ i ∧ i < 14 * d + 14) J0 J ∧ ∀ i, i < j → ∀ x, 406 ≤ x → x ≤ 409 → J x (14 * d + i) = J0 x (14 * a + i)
theorem P4_x {J : JM} {d s x : Nat} (h1 : 406 ≤ x) (h2 : x ≤ 409) : P4 J d (J 406 s) (J 407 s) (J 408 s) (J 409 s) x d = J x s := by
  rcases (show x = 406 ∨ x = 407 ∨ x = 408 ∨ x = 409 by omega) with rfl | rfl | rfl | rfl
  · exact P4_a
  · exact P4_b
  · exact P4_m
  · exact P4_r
theorem VL.step {d a j : Nat} {J0 J : JM} (h : VL d a j J0 J) (hj : j < 14) (hne : d ≠ a) (ha : a ≤ 15) : VL d a (j + 1) J0 (P4 J (14 * d + j) (J 406 (14 * a + j)) (J 407 (14 * a + j)) (J 408 (14 * a + j)) (J 409 (14 * a + j))) := by
  refine ⟨h.1.p4 (VI.at h.1.1 (by omega)) ⟨by omega, by omega⟩, fun i hi x x1 x2 => ?_⟩
  by_cases c : i = j
  · subst c; rw [P4_x x1 x2]; exact h.1.2 x _ (by omega)
  · rw [P4_ne (by omega)]; exact h.2 i (by omega) x x1 x2
theorem l_q_copyState_14 {I : IM} {R : RM} (hR : QR R) {d a : Nat} {y1 y2 : Int32} (h1 : y1.toInt = d) (h2 : y2.toInt = a) (hd : d ≤ 15) (ha : a ≤ 15) (hne : d ≠ a) {J0 : JM} (hB : BI I) {Q : WW → Prop} (k : ∀ I' J', FL d a 6 I I' → VL d a 14 J0 J' → Q (mk I' J' R)) : ∀ (n j : Nat) (y3 : Int32) (J : JM), VL d a j J0 J → y3.toInt = j → j ≤ 14 → 14 - j < n → wp (f_q_copyState_14 n 373 y1 y2 y3 (mk I J R)) Q := by
  intro n
  induction n with
  | zero => intros; omega
  | succ n ih =>
    intro j y3 J hf q1 q2 hn
    rw [f_q_copyState_14]
    refine st_ite (fun c => ?_) (fun c => ?_)
    · rw [i32le, l32_14] at c
      have : j = 14 := by omega
      subst this
      exact l_q_copyState_44 hR h1 h2 hd ha hne hB (fun I' h' => k I' J h' hf) KK 0 _ _ ⟨fun _ _ _ => rfl, fun i hi => absurd hi (by omega)⟩ rfl (by decide) (by unfold KK; decide)
    · rw [i32le, l32_14] at c
      have b1 : ((14 : Int32) * y1 + y3).toInt = 14 * d + j := by
        rw [i32addc (by rw [m32_14 (by omega)]; omega), m32_14 (by omega)]; omega
      have b2 : ((14 : Int32) * y2 + y3).toInt = 14 * a + j := by
        rw [i32addc (by rw [m32_14 (by omega)]; omega), m32_14 (by omega)]; omega
      refine st_bd (s_q_copy hR (by omega) (by omega) ?_)
      have e1 : ((14 : Int32) * y1 + y3).toInt.toNat = 14 * d + j := by omega
      have e2 : ((14 : Int32) * y2 + y3).toInt.toNat = 14 * a + j := by omega
      rw [e1, e2]
      exact ih (j + 1) _ _ (hf.step (by omega) hne ha) (by rw [i32add, l32_1]; omega) (by omega) (by omega)
/-- what copying a STATE leaves -/
def CSI (d a : Nat) (I I' : IM) : Prop := (∀ x j, ((x ≠ 410 ∧ x ≠ 411) ∨ (x = 410 ∧ (j < 6 * d ∨ 6 * d + 6 ≤ j)) ∨ (x = 411 ∧ j ≠ d)) → I' x j = I x j) ∧ (∀ i, i < 6 → I' 410 (6 * d + i) = I 410 (6 * a + i)) ∧ I' 411 d = I 411 a
theorem CSI.bi {d a : Nat} {I I' : IM} (h : CSI d a I I') (hB : BI I) (ha : a ≤ 15) : BI I' := by
  refine ⟨fun j hj => ?_, fun j hj => ?_⟩
  · by_cases c : 6 * d ≤ j ∧ j < 6 * d + 6
    · have := h.2.1 (j - 6 * d) (by omega)
      rw [show 6 * d + (j - 6 * d) = j by omega] at this
      rw [this]; exact hB.1 _ (by omega)
    · rw [h.1 410 j (by omega)]; exact hB.1 j hj
  · by_cases c : j = d
    · subst c; rw [h.2.2]; exact hB.2 _ (by omega)
    · rw [h.1 411 j (by omega)]; exact hB.2 j hj
theorem s_q_copyState {I : IM} {J : JM} {R : RM} (hR : QR R) {d a : Nat} {a1 a2 : Int32} (h1 : a1.toInt = d) (h2 : a2.toInt = a) (hd : d ≤ 15) (ha : a ≤ 15) (hne : d ≠ a) (hB : BI I) (hV : VI J) {Q : WW → Prop} (k : ∀ I' J', CSI d a I I' → VL d a 14 J J' → Q (mk I' J' R)) : wp (f_q_copyState 373 a1 a2 (mk I J R)) Q := by
  unfold f_q_copyState
  have e1 : a1.toInt.toNat = d := by omega
  have e2 : a2.toInt.toNat = a := by omega
  refine st_kb rfl (qn_59 hR (qn_59 hR (st_rI (n := 16) rfl (by omega) rfl (st_sI (n := 16) rfl (by omega) ?_))))
  rw [e1, e2, nar01 (hB.2 a (by omega))]
  refine l_q_copyState_14 hR h1 h2 hd ha hne (hB.up11 (hB.2 a (by omega))) (fun I' J' hf hv => k I' J' ⟨fun x j hx => ?_, fun i hi => ?_, ?_⟩ hv) KK 0 _ _ ⟨JX.refl hV, fun i hi => absurd hi (by omega)⟩ rfl (by decide) (by unfold KK; decide)
  · rw [hf.1 x j (by omega), up2_ne _ _ (by omega)]
  · rw [hf.2 i hi, up2_nea (by decide)]
  · rw [hf.1 411 d (by omega), up2_s]
