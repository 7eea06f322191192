/-! The reference: its calls. -/
/-- what holds of the reference between calls -/
def QF (I : IM) (J : JM) : Prop := (0 ≤ (I 373 2).toInt ∧ (I 373 2).toInt ≤ 200) ∧ (0 ≤ (I 373 3).toInt ∧ (I 373 3).toInt ≤ 8) ∧ (0 ≤ (I 373 7).toInt ∧ (I 373 7).toInt ≤ 5) ∧ (0 ≤ (I 373 27).toInt ∧ (I 373 27).toInt ≤ 1) ∧ ((I 373 8).toInt ≠ 0 → PRG I (I 373 27).toInt.toNat) ∧ BI I ∧ VI J
/-- what a call of the reference leaves as it was -/
def QK (I : IM) (J : JM) (I' : IM) (J' : JM) : Prop := (∀ a k, (a < 373 ∨ (374 ≤ a ∧ a ≤ 405) ∨ (a = 373 ∧ (k = 4 ∨ k = 8 ∨ k = 27 ∨ (50 ≤ k ∧ k ≤ 53)))) → I' a k = I a k) ∧ (I' 373 6 = I 373 6 ∧ I' 373 2 = I 373 2) ∧ (I' 373 7 = I 373 7 ∧ I' 373 3 = I 373 3) ∧ (∀ a k, (a < 373 ∨ a = 416) → J' a k = J a k)
theorem QK.refl (I : IM) (J : JM) : QK I J I J := ⟨fun _ _ _ => rfl, ⟨rfl, rfl⟩, ⟨rfl, rfl⟩, fun _ _ _ => rfl⟩
/-- the same of parse, which sets where -/
def QKp (I : IM) (J : JM) (I' : IM) (J' : JM) : Prop := (∀ a k, (a < 373 ∨ a = 374 ∨ a = 375 ∨ (401 ≤ a ∧ a ≤ 405) ∨ (a = 373 ∧ 50 ≤ k ∧ k ≤ 53)) → I' a k = I a k) ∧ (I' 373 6 = I 373 6 ∧ I' 373 2 = I 373 2) ∧ (I' 373 7 = I 373 7 ∧ I' 373 3 = I 373 3) ∧ (∀ a k, (a < 373 ∨ a = 416) → J' a k = J a k)
theorem QK.p {I : IM} {J : JM} {I' : IM} {J' : JM} (h : QK I J I' J') : QKp I J I' J' := ⟨fun a k ha => h.1 a k (by omega), h.2⟩
theorem QKp.trans {I : IM} {J : JM} {I' I'' : IM} {J' J'' : JM} (h : QKp I J I' J') (h2 : QKp I' J' I'' J'') : QKp I J I'' J'' := ⟨fun a k ha => (h2.1 a k ha).trans (h.1 a k ha), ⟨h2.2.1.1.trans h.2.1.1, h2.2.1.2.trans h.2.1.2⟩, ⟨h2.2.2.1.1.trans h.2.2.1.1, h2.2.2.1.2.trans h.2.2.1.2⟩, fun a k ha => (h2.2.2.2 a k ha).trans (h.2.2.2 a k ha)⟩
/-- the same of run -/
def QKr (I : IM) (J : JM) (I' : IM) (J' : JM) : Prop := (∀ a k, (a < 373 ∨ (374 ≤ a ∧ a ≤ 400) ∨ (a = 373 ∧ (k = 4 ∨ k = 8 ∨ k = 27))) → I' a k = I a k) ∧ (I' 373 6 = I 373 6 ∧ I' 373 2 = I 373 2) ∧ (I' 373 7 = I 373 7 ∧ I' 373 3 = I 373 3) ∧ (∀ a k, (a < 373 ∨ a = 416) → J' a k = J a k)
theorem QK.r {I : IM} {J : JM} {I' : IM} {J' : JM} (h : QK I J I' J') : QKr I J I' J' := ⟨fun a k ha => h.1 a k (by omega), h.2⟩
theorem QKr.trans {I : IM} {J : JM} {I' I'' : IM} {J' J'' : JM} (h : QKr I J I' J') (h2 : QKr I' J' I'' J'') : QKr I J I'' J'' := ⟨fun a k ha => (h2.1 a k ha).trans (h.1 a k ha), ⟨h2.2.1.1.trans h.2.1.1, h2.2.1.2.trans h.2.1.2⟩, ⟨h2.2.2.1.1.trans h.2.2.1.1, h2.2.2.1.2.trans h.2.2.1.2⟩, fun a k ha => (h2.2.2.2 a k ha).trans (h.2.2.2 a k ha)⟩
section QCL
variable {I I' : IM} {J J' : JM} {R : RM}
theorem PA.hk {h : Nat} (e : PA I I') : HK h I I' := fun x j hx => e x j (by omega) (by omega)
theorem QF.keep (h : QF I J) (e : ∀ j, (j = 2 ∨ j = 3 ∨ j = 7 ∨ j = 8 ∨ j = 27) → I' 373 j = I 373 j) (p : PA I I') (hB : BI I') (hV : VI J') : QF I' J' := by
  obtain ⟨h1, h2, h3, h4, h5, _, _⟩ := h
  unfold QF
  rw [e 2 (by decide), e 3 (by decide), e 7 (by decide), e 8 (by decide), e 27 (by decide)]
  exact ⟨h1, h2, h3, h4, fun z => (h5 z).keep p.hk, hB, hV⟩
theorem QF.u5 (h : QF I J) {v : Int32} : QF (up2 I 373 5 v) J := h.keep (fun j hj => up2_nek (by omega)) (fun x j _ _ => up2_nea (by omega)) (h.2.2.2.2.2.1.oth (by decide) (by decide)) h.2.2.2.2.2.2
theorem QK.u5 {v : Int32} : QK I J (up2 I 373 5 v) J := ⟨fun a k ha => up2_ne _ _ (by omega), ⟨up2_nek (by decide), up2_nek (by decide)⟩, ⟨up2_nek (by decide), up2_nek (by decide)⟩, fun _ _ _ => rfl⟩
theorem QF.go (h : QF I J) (e : GO I I') : QF I' J := h.keep (fun j hj => e _ _ (by omega) (by omega)) e.pa ⟨fun j hj => by rw [e _ _ (by omega) (by omega)]; exact h.2.2.2.2.2.1.1 j hj, fun j hj => by rw [e _ _ (by omega) (by omega)]; exact h.2.2.2.2.2.1.2 j hj⟩ h.2.2.2.2.2.2
theorem GO.qk (e : GO I I') : QKr I J I' J := ⟨fun a k ha => e _ _ (by omega) (by omega), ⟨e _ _ (by decide) (by decide), e _ _ (by decide) (by decide)⟩, ⟨e _ _ (by decide) (by decide), e _ _ (by decide) (by decide)⟩, fun _ _ _ => rfl⟩
theorem QK.trans {I'' : IM} {J'' : JM} (h : QK I J I' J') (h2 : QK I' J' I'' J'') : QK I J I'' J'' := ⟨fun a k ha => (h2.1 a k ha).trans (h.1 a k ha), ⟨h2.2.1.1.trans h.2.1.1, h2.2.1.2.trans h.2.1.2⟩, ⟨h2.2.2.1.1.trans h.2.2.1.1, h2.2.2.1.2.trans h.2.2.1.2⟩, fun a k ha => (h2.2.2.2 a k ha).trans (h.2.2.2 a k ha)⟩
theorem q_thrown {Q : (Int32 × WW) → Prop} (k : Q (I 373 5, mk I J R)) : wp (f_q_thrown 373 (mk I J R)) Q := by
  unfold f_q_thrown
  exact st_kb rfl (st_gI rfl rfl rfl (st_some k))
/-! text -/
def byt (w : Int64) (y : Int32) : Int32 := (Int64.toInt32 (w >>> (Int32.toInt64 y &&& 63))) &&& (255 : Int32)
def nb (w : Int64) : Nat → Int
  | 0 => 0
  | n + 1 => nb w n + (if byt w (Int32.ofNat (8 * n)) = 0 then 0 else 1)
theorem nb_s (w : Int64) (n : Nat) : nb w (n + 1) = nb w n + (if byt w (Int32.ofNat (8 * n)) = 0 then 0 else 1) := rfl
theorem nb_b (w : Int64) (n : Nat) : 0 ≤ nb w n ∧ nb w n ≤ n := by
  induction n with
  | zero => exact ⟨Int.le_refl _, Int.le_refl _⟩
  | succ n ih => rw [nb_s]; split <;> omega
/-- the nonzero bytes of w appended to a text -/
def apn (w : Int64) : Nat → (Nat → Int32) × Nat → (Nat → Int32) × Nat
  | 0, p => p
  | n + 1, p => if byt w (Int32.ofNat (8 * n)) = 0 then apn w n p else apn w n (fun j => if j = p.2 then byt w (Int32.ofNat (8 * n)) else p.1 j, p.2 + 1)
theorem apn_s (w : Int64) (n : Nat) (p : (Nat → Int32) × Nat) : apn w (n + 1) p = if byt w (Int32.ofNat (8 * n)) = 0 then apn w n p else apn w n (fun j => if j = p.2 then byt w (Int32.ofNat (8 * n)) else p.1 j, p.2 + 1) := rfl
theorem apn_eq (w : Int64) : ∀ (n l : Nat) (c c' : Nat → Int32), (∀ j, j < l → c j = c' j) → (apn w n (c, l)).2 = (apn w n (c', l)).2 ∧ ((apn w n (c, l)).2 : Int) = l + nb w n ∧ ∀ j, j < (apn w n (c, l)).2 → (apn w n (c, l)).1 j = (apn w n (c', l)).1 j := by
  intro n
  induction n with
  | zero =>
    intro l c c' h
    refine ⟨rfl, ?_, h⟩
    show (l : Int) = l + nb w 0
    have hz : nb w 0 = 0 := rfl
    omega
  | succ n ih =>
    intro l c c' h
    rw [apn_s, apn_s, nb_s]
    by_cases z : byt w (Int32.ofNat (8 * n)) = 0
    · rw [if_pos z, if_pos z, if_pos z]
      obtain ⟨a1, a2, a3⟩ := ih l c c' h
      exact ⟨a1, by omega, a3⟩
    · rw [if_neg z, if_neg z, if_neg z]
      obtain ⟨a1, a2, a3⟩ := ih (l + 1) (fun j => if j = l then byt w (Int32.ofNat (8 * n)) else c j) (fun j => if j = l then byt w (Int32.ofNat (8 * n)) else c' j) (fun j hj => by
        by_cases y : j = l
        · simp only [if_pos y]
        · simp only [if_neg y]; exact h j (by omega))
      exact ⟨a1, by dsimp only; omega, a3⟩
theorem y_of {y : Int32} {n : Nat} (h : y.toInt = 8 * n) (hn : n < 100) : y = Int32.ofNat (8 * n) := i32eq.mpr (by rw [n_toInt (by omega)]; omega)
def okb (c : Int32) : Prop := c = 0 ∨ c = 10 ∨ (32 ≤ c.toInt ∧ c.toInt ≤ 126)
def GBy (a : Int64) : Prop := ∀ n, n < 8 → okb (byt a (Int32.ofNat (8 * n)))
/-- the TEXT's characters and its length may change, and what was thrown -/
def QT (I I' : IM) : Prop := ∀ x j, x ≠ 374 → (x ≠ 373 ∨ (j ≠ 2 ∧ j ≠ 5)) → I' x j = I x j
theorem QF.qt (h : QF I J) (e : QT I I') (hl : 0 ≤ (I' 373 2).toInt ∧ (I' 373 2).toInt ≤ 200) : QF I' J := by
  obtain ⟨h1, h2, h3, h4, h5, h6, h7⟩ := h
  unfold QF
  rw [e 373 3 (by decide) (by decide), e 373 7 (by decide) (by decide), e 373 8 (by decide) (by decide), e 373 27 (by decide) (by decide)]
  exact ⟨hl, h2, h3, h4, fun z => (h5 z).keep (fun x j hx => e x j (by omega) (by omega)), ⟨fun j hj => by rw [e _ _ (by omega) (by omega)]; exact h6.1 j hj, fun j hj => by rw [e _ _ (by omega) (by omega)]; exact h6.2 j hj⟩, h7⟩
theorem l_q_text_105 (hR : QR R) {a1 : Int64} {I0 : IM} {T : Int} (hT : T ≤ 200) {c8 : Nat → Int32} {Q : (Int32 × WW) → Prop} (k : ∀ (I' : IM), QT I0 I' → I' 373 5 = I0 373 5 → (I' 373 2).toInt = T → I' 374 = c8 → Q (I' 373 2, mk I' J R)) : ∀ (N n : Nat) (y5 : Int32) (I : IM), QT I0 I → I 373 5 = I0 373 5 → y5.toInt = 8 * (n : Int) - 8 → n ≤ 8 → 0 ≤ (I 373 2).toInt → (I 373 2).toInt + nb a1 n = T → (apn a1 n (I 374, (I 373 2).toInt.toNat)).1 = c8 → n < N → wp (f_q_text_105 N 373 a1 y5 (mk I J R)) Q := by
  intro N
  induction N with
  | zero => intros; omega
  | succ N ih =>
    intro n y5 I e e5' hy hn hl hs hA hN
    rw [f_q_text_105]
    unfold f_q_text_150
    have hb0 := nb_b a1 n
    refine st_ite (fun c => ?_) (fun c => ?_)
    · rw [i32lt, l32_0] at c
      have n0 : n = 0 := by omega
      subst n0
      have hz : nb a1 0 = 0 := rfl
      exact st_gI rfl rfl rfl (st_some (k I e e5' (by omega) hA))
    rw [i32lt, l32_0] at c
    obtain ⟨m, rfl⟩ : ∃ m, n = m + 1 := ⟨n - 1, by omega⟩
    have e5 : y5 = Int32.ofNat (8 * m) := y_of (by omega) (by omega)
    have y8 : (y5 + (-8)).toInt = 8 * (m : Int) - 8 := by rw [i32addc (by rw [l32_m8]; omega), l32_m8]; omega
    have hb := nb_b a1 m
    rw [nb_s a1 m, ← e5] at hs
    rw [apn_s a1 m, ← e5] at hA
    refine st_ite (fun cz => ?_) (fun cz => ?_)
    · rw [if_pos (show byt a1 y5 = 0 from cz)] at hA
      rw [show byt a1 y5 = 0 from cz, if_pos rfl] at hs
      exact ih m _ I e e5' y8 (by omega) hl (by omega) hA (by omega)
    · rw [if_neg (show ¬ byt a1 y5 = 0 from cz)] at hs hA
      refine qn_0 hR (st_gI rfl rfl rfl (st_sI (n := 200) rfl (by omega) (st_gI rfl rfl (up2_nea (by decide)) (st_pI rfl rfl ?_))))
      have x2 : (I 373 2 + 1).toInt = (I 373 2).toInt + 1 := by rw [i32addc (by rw [l32_1]; omega), l32_1]
      have fK : ∀ x j, x ≠ 374 → (x ≠ 373 ∨ j ≠ 2) → up2 (up2 I 374 (I 373 2).toInt.toNat (byt a1 y5)) 373 2 (I 373 2 + 1) x j = I x j := fun x j h1 h2 => by rw [up2_ne _ _ (by omega), up2_ne _ _ (by omega)]
      have k374 : up2 (up2 I 374 (I 373 2).toInt.toNat (byt a1 y5)) 373 2 (I 373 2 + 1) 374 = fun j => if j = (I 373 2).toInt.toNat then byt a1 y5 else I 374 j := by
        funext j
        rw [up2_nea (by decide)]
        by_cases z : j = (I 373 2).toInt.toNat
        · rw [if_pos z, z, up2_s]
        · rw [if_neg z, up2_nek z]
      have x2n : (I 373 2 + 1).toInt.toNat = (I 373 2).toInt.toNat + 1 := by omega
      have k2 : up2 (up2 I 374 (I 373 2).toInt.toNat (byt a1 y5)) 373 2 (I 373 2 + 1) 373 2 = I 373 2 + 1 := up2_s
      show wp (f_q_text_105 N 373 a1 (y5 + (-8)) (mk (up2 (up2 I 374 (I 373 2).toInt.toNat (byt a1 y5)) 373 2 (I 373 2 + 1)) J R)) Q
      generalize up2 (up2 I 374 (I 373 2).toInt.toNat (byt a1 y5)) 373 2 (I 373 2 + 1) = K at *
      refine ih m _ K (fun x j u1 u2 => (fK x j u1 (by omega)).trans (e x j u1 u2)) ((fK _ _ (by decide) (by decide)).trans e5') y8 (by omega) (by rw [k2]; omega) (by rw [k2]; omega) (by rw [k374, k2, x2n]; exact hA) (by omega)
theorem l_q_text_9 (hR : QR R) {a1 : Int64} (hq : QF I J) {Q : (Int32 × WW) → Prop} (k1 : ¬ GBy a1 → Q (0, mk (up2 I 373 5 1) J R)) (k2 : GBy a1 → 200 < (I 373 2).toInt + nb a1 8 → Q (0, mk (up2 I 373 5 2) J R)) (k3 : GBy a1 → ∀ (I' : IM), QT I I' → I' 373 5 = 0 → (I' 373 2).toInt = (I 373 2).toInt + nb a1 8 → (I' 373 2).toInt ≤ 200 → I' 374 = (apn a1 8 (I 374, (I 373 2).toInt.toNat)).1 → Q (I' 373 2, mk I' J R)) : ∀ (N n : Nat) (y3 y4 y5 : Int32), y3.toInt = nb a1 8 - nb a1 n → ((y4 = 1 ∧ ∀ i, n ≤ i → i < 8 → okb (byt a1 (Int32.ofNat (8 * i)))) ∨ (y4 = 0 ∧ ¬ GBy a1)) → y5.toInt = 8 * (n : Int) - 8 → n ≤ 8 → n < N → wp (f_q_text_9 N 373 a1 y3 y4 y5 (mk I J R)) Q := by
  intro N
  induction N with
  | zero => intros; omega
  | succ N ih =>
    intro n y3 y4 y5 h3 h4 hy hn hN
    have b8 := nb_b a1 8
    have hl := hq.1
    rw [f_q_text_9]
    unfold f_q_text_58 f_q_text_61
    refine st_ite (fun c => ?_) (fun c => ?_)
    · rw [i32lt, l32_0] at c
      have n0 : n = 0 := by omega
      subst n0
      have hz : nb a1 0 = 0 := rfl
      refine st_ite (fun c4 => ?_) (fun c4 => ?_)
      · refine st_bd2 (s_q_fail hR (st_some (k1 ?_)))
        rcases h4 with z | z
        · rw [z.1] at c4; exact absurd c4 (by decide)
        · exact z.2
      have hG : GBy a1 := by
        rcases h4 with z | z
        · exact fun i hi => z.2 i (by omega) hi
        · exact absurd z.1 c4
      refine st_gI rfl rfl rfl (st_ite (fun c2 => ?_) (fun c2 => st_bd2 (s_q_fail hR (st_some (k2 hG ?_)))))
      · rw [i32le, l32_200, i32addc (by omega)] at c2
        refine st_pI rfl rfl ?_
        refine l_q_text_105 (I0 := up2 I 373 5 0) (T := (I 373 2).toInt + nb a1 8) (c8 := (apn a1 8 (I 374, (I 373 2).toInt.toNat)).1) hR (by omega) (fun I' e e5 hl' hA => k3 hG I' (fun x j u1 u2 => (e x j u1 (by omega)).trans (up2_ne _ _ (by omega))) (e5.trans up2_s) hl' (by omega) hA) KK 8 _ _ (fun _ _ _ _ => rfl) rfl rfl (by decide) (by rw [up2_nek (by decide)]; omega) (by rw [up2_nek (by decide)]) (by rw [up2_at _ _ (by decide), up2_nek (by decide)]) (by unfold KK; decide)
      · rw [i32le, l32_200, i32addc (by omega)] at c2; omega
    rw [i32lt, l32_0] at c
    obtain ⟨m, rfl⟩ : ∃ m, n = m + 1 := ⟨n - 1, by omega⟩
    have e5 : y5 = Int32.ofNat (8 * m) := y_of (by omega) (by omega)
    have y8 : (y5 + (-8)).toInt = 8 * (m : Int) - 8 := by rw [i32addc (by rw [l32_m8]; omega), l32_m8]; omega
    have hb := nb_b a1 m
    rw [nb_s a1 m, ← e5] at h3
    have keep : okb (byt a1 y5) → ((y4 = 1 ∧ ∀ i, m ≤ i → i < 8 → okb (byt a1 (Int32.ofNat (8 * i)))) ∨ (y4 = 0 ∧ ¬ GBy a1)) := by
      intro ho
      rcases h4 with z | z
      · refine Or.inl ⟨z.1, fun i i1 i2 => ?_⟩
        by_cases ci : i = m
        · subst ci; rw [← e5]; exact ho
        · exact z.2 i (by omega) i2
      · exact Or.inr z
    refine st_ite (fun cz => ?_) (fun cz => ?_)
    · rw [show byt a1 y5 = 0 from cz, if_pos rfl] at h3
      exact ih m _ _ _ (by omega) (keep (Or.inl cz)) y8 (by omega) (by omega)
    · rw [if_neg (show ¬ byt a1 y5 = 0 from cz)] at h3
      have y31 : (y3 + 1).toInt = nb a1 8 - nb a1 m := by rw [i32addc (by rw [l32_1]; omega), l32_1]; omega
      refine st_ite (fun ct => ih m _ _ _ y31 (keep (Or.inr (Or.inl ct))) y8 (by omega) (by omega)) (fun ct => st_bd2 (s_q_in (fun r hb01 hr => ?_)))
      rw [i3264, l64_32, l64_126] at hr
      refine st_ite (fun cr => ?_) (fun cr => ?_)
      · have cr' : r.toInt = 0 := by rw [show r = 0 from cr]; rfl
        refine ih m _ _ _ y31 (Or.inr ⟨rfl, fun hG => ?_⟩) y8 (by omega) (by omega)
        have := hG m (by omega)
        rw [← e5] at this
        rcases this with z | z | z
        · exact cz z
        · exact ct z
        · have z' : 32 ≤ (byt a1 y5).toInt ∧ (byt a1 y5).toInt ≤ 126 := z
          have hr' : (r.toInt = 1 ∧ 32 ≤ (byt a1 y5).toInt ∧ (byt a1 y5).toInt ≤ 126) ∨ (r.toInt = 0 ∧ ((byt a1 y5).toInt < 32 ∨ 126 < (byt a1 y5).toInt)) := hr
          omega
      · have cr' : ¬ r.toInt = 0 := fun z => cr (i32eq.mpr z)
        have hr' : (r.toInt = 1 ∧ 32 ≤ (byt a1 y5).toInt ∧ (byt a1 y5).toInt ≤ 126) ∨ (r.toInt = 0 ∧ ((byt a1 y5).toInt < 32 ∨ 126 < (byt a1 y5).toInt)) := hr
        exact ih m _ _ _ y31 (keep (Or.inr (Or.inr (by omega)))) y8 (by omega) (by omega)
theorem c_text (hR : QR R) {a1 : Int64} (hq : QF I J) {Q : (Int32 × WW) → Prop} (k1 : ¬ GBy a1 → Q (0, mk (up2 I 373 5 1) J R)) (k2 : GBy a1 → 200 < (I 373 2).toInt + nb a1 8 → Q (0, mk (up2 I 373 5 2) J R)) (k3 : GBy a1 → ∀ (I' : IM), QT I I' → I' 373 5 = 0 → (I' 373 2).toInt = (I 373 2).toInt + nb a1 8 → (I' 373 2).toInt ≤ 200 → I' 374 = (apn a1 8 (I 374, (I 373 2).toInt.toNat)).1 → Q (I' 373 2, mk I' J R)) : wp (f_q_text 373 a1 (mk I J R)) Q := by
  unfold f_q_text
  exact st_kb rfl (l_q_text_9 hR hq k1 k2 k3 KK 8 _ _ _ (by rw [l32_0]; omega) (Or.inl ⟨rfl, fun i i1 i2 => by omega⟩) rfl (by decide) (by unfold KK; decide))
theorem c_clear (hq : QF I J) {Q : (Int32 × WW) → Prop} (k : QF (up2 (up2 I 373 5 0) 373 2 0) J → Q (I 373 2, mk (up2 (up2 I 373 5 0) 373 2 0) J R)) : wp (f_q_clear 373 (mk I J R)) Q := by
  unfold f_q_clear
  refine st_kb rfl (st_pI rfl rfl (st_gI rfl rfl (up2_nek (by decide)) (st_pI rfl rfl (st_some (k ?_)))))
  exact hq.qt (fun x j u1 u2 => by rw [up2_ne _ _ (by omega), up2_ne _ _ (by omega)]) (by rw [up2_s]; decide)
theorem c_where (hq : QF I J) {Q : (Int32 × WW) → Prop} (k : ∀ (r : Int32) (I' : IM) (J' : JM), QF I' J' → QK I J I' J' → Q (r, mk I' J' R)) : wp (f_q_where 373 (mk I J R)) Q := by
  unfold f_q_where
  exact st_kb rfl (st_pI rfl rfl (st_gI rfl rfl rfl (st_some (k _ _ J hq.u5 QK.u5))))
/-- the INPUTS may change, and what was thrown -/
def QN (I I' : IM) : Prop := ∀ x j, x ≠ 375 → (x ≠ 373 ∨ (j ≠ 3 ∧ j ≠ 5)) → I' x j = I x j
theorem QF.qn (h : QF I J) (e : QN I I') (hl : 0 ≤ (I' 373 3).toInt ∧ (I' 373 3).toInt ≤ 8) : QF I' J := by
  obtain ⟨h1, h2, h3, h4, h5, h6, h7⟩ := h
  unfold QF
  rw [e 373 2 (by decide) (by decide), e 373 7 (by decide) (by decide), e 373 8 (by decide) (by decide), e 373 27 (by decide) (by decide)]
  exact ⟨h1, hl, h3, h4, fun z => (h5 z).keep (fun x j hx => e x j (by omega) (by omega)), ⟨fun j hj => by rw [e _ _ (by omega) (by omega)]; exact h6.1 j hj, fun j hj => by rw [e _ _ (by omega) (by omega)]; exact h6.2 j hj⟩, h7⟩
theorem c_forget (hq : QF I J) {Q : (Int32 × WW) → Prop} (k : QF (up2 (up2 I 373 5 0) 373 3 0) J → Q (I 373 3, mk (up2 (up2 I 373 5 0) 373 3 0) J R)) : wp (f_q_forget 373 (mk I J R)) Q := by
  unfold f_q_forget
  refine st_kb rfl (st_pI rfl rfl (st_gI rfl rfl (up2_nek (by decide)) (st_pI rfl rfl (st_some (k ?_)))))
  exact hq.qn (fun x j u1 u2 => by rw [up2_ne _ _ (by omega), up2_ne _ _ (by omega)]) (by rw [up2_s]; decide)
theorem c_input (hR : QR R) {a1 : Int32} (hq : QF I J) {Q : (Int32 × WW) → Prop} (k1 : (I 373 3).toInt = 8 → Q (0, mk (up2 I 373 5 1) J R)) (k2 : (I 373 3).toInt < 8 → ∀ I', QN I I' → I' 373 5 = 0 → I' 373 3 = I 373 3 + 1 → (∀ j, I' 375 j = if j = (I 373 3).toInt.toNat then a1 else I 375 j) → QF I' J → Q (I 373 3 + 1, mk I' J R)) : wp (f_q_input 373 a1 (mk I J R)) Q := by
  have hi := hq.2.1
  unfold f_q_input
  refine st_kb rfl (st_gI rfl rfl rfl (st_ite (fun c => st_bd2 (s_q_fail hR (st_some (k1 (by rw [c]; rfl))))) (fun c => ?_)))
  rw [i32eq, l32_8] at c
  refine st_pI rfl rfl (qn_1 hR (st_gI rfl rfl (up2_nek (by decide)) (st_sI (n := 8) rfl (by omega) (st_gI rfl rfl ((up2_nea (by decide)).trans (up2_nek (by decide))) (st_pI rfl rfl ?_)))))
  have x3 : (I 373 3 + 1).toInt = (I 373 3).toInt + 1 := by rw [i32addc (by rw [l32_1]; omega), l32_1]
  have fK : QN I (up2 (up2 (up2 I 373 5 0) 375 (I 373 3).toInt.toNat a1) 373 3 (I 373 3 + 1)) := fun x j u1 u2 => by rw [up2_ne _ _ (by omega), up2_ne _ _ (by omega), up2_ne _ _ (by omega)]
  have k3 : up2 (up2 (up2 I 373 5 0) 375 (I 373 3).toInt.toNat a1) 373 3 (I 373 3 + 1) 373 3 = I 373 3 + 1 := up2_s
  have k5 : up2 (up2 (up2 I 373 5 0) 375 (I 373 3).toInt.toNat a1) 373 3 (I 373 3 + 1) 373 5 = 0 := by rw [up2_nek (by decide), up2_nea (by decide), up2_s]
  have k375 : ∀ j, up2 (up2 (up2 I 373 5 0) 375 (I 373 3).toInt.toNat a1) 373 3 (I 373 3 + 1) 375 j = if j = (I 373 3).toInt.toNat then a1 else I 375 j := fun j => by
    rw [up2_nea (by decide)]
    by_cases z : j = (I 373 3).toInt.toNat
    · rw [if_pos z, z, up2_s]
    · rw [if_neg z, up2_nek z, up2_nea (by decide)]
  generalize up2 (up2 (up2 I 373 5 0) 375 (I 373 3).toInt.toNat a1) 373 3 (I 373 3 + 1) = K at *
  exact st_gI rfl rfl k3 (st_some (k2 (by omega) K fK k5 k3 k375 (hq.qn fK (by rw [k3]; omega))))
theorem c_run (hR : QR R) {a1 : Int32} (hq : QF I J) {Q : (Int32 × WW) → Prop} (k : ∀ (r : Int32) (I' : IM) (J' : JM), QF I' J' → QKr I J I' J' → Q (r, mk I' J' R)) : wp (f_q_run 373 a1 (mk I J R)) Q := by
  unfold f_q_run
  refine st_kb rfl (st_bd2 (s_q_in (fun r _ hr => ?_)))
  dsimp only
  rw [i3264, l64_0, l64_500] at hr
  refine st_ite (fun _ => st_bd2 (s_q_fail hR (st_some (k _ _ J hq.u5 QK.u5.r)))) (fun c => ?_)
  rw [i32eq, l32_0] at c
  refine st_gI rfl rfl rfl (st_ite (fun _ => st_bd2 (s_q_fail hR (st_some (k _ _ J hq.u5 QK.u5.r)))) (fun c8 => ?_))
  rw [i32eq, l32_0] at c8
  have q5 := hq.u5 (v := 0)
  have e8 : up2 I 373 5 0 373 8 = I 373 8 := up2_nek (by decide)
  refine st_pI rfl rfl (st_bd2 (q_go hR (h := (up2 I 373 5 0 373 27).toInt.toNat) (by have := q5.2.2.2.1; omega) (q5.2.2.2.2.1 (by rw [e8]; exact c8)) q5.2.1 (by omega) (fun r2 I2 e2 => st_some (k _ _ J (q5.go e2) (QK.u5.r.trans e2.qk)))))
theorem l_q_warnings_4 (hR : QR R) {Q : (Int32 × WW) → Prop} (k : ∀ r, Q (r, mk I J R)) : ∀ (n : Nat) (y1 y2 : Int32), (0 ≤ y2.toInt ∧ y2.toInt ≤ 1200) → (1200 - y2.toInt).toNat < n → wp (f_q_warnings_4 n 373 y1 y2 (mk I J R)) Q := by
  intro n
  induction n with
  | zero => intros; omega
  | succ n ih =>
    intro y1 y2 q1 hn
    rw [f_q_warnings_4]
    unfold f_q_warnings_23
    refine st_ite (fun _ => st_some (k _)) (fun c => ?_)
    rw [i32le, l32_1200] at c
    have e1 : (y2 + 1).toInt = y2.toInt + 1 := by rw [i32addc (by rw [l32_1]; omega), l32_1]
    exact qn_60 hR (st_rI (n := 1200) rfl (by omega) rfl (st_ite (fun _ => ih _ _ (by omega) (by omega)) (fun _ => ih _ _ (by omega) (by omega))))
theorem s_q_warnings (hR : QR R) {Q : (Int32 × WW) → Prop} (k : ∀ r, Q (r, mk I J R)) : wp (f_q_warnings 373 (mk I J R)) Q := by
  unfold f_q_warnings
  exact st_kb rfl (l_q_warnings_4 hR k KK _ _ (by decide) (by unfold KK; decide))
theorem l_q_warning_37 (hR : QR R) {Q : (Int32 × WW) → Prop} (k : ∀ r, Q (r, mk I J R)) {k4 : Nat → Int32 → Int32 → Int32 → WW → Option (Int32 × WW)} : ∀ (n : Nat) (y1 y2 y3 y4 : Int32), (0 ≤ y3.toInt ∧ y3.toInt ≤ 199) → (1 ≤ y4.toInt ∧ y4.toInt ≤ 6) → (6 - y4.toInt).toNat < n → (K4 : ∀ (y2 : Int32), wp (k4 373 y1 y2 (y3 + 1) (mk I J R)) Q) → wp (f_q_warning_37 k4 n 373 y1 y2 y3 y4 (mk I J R)) Q := by
  intro n
  induction n with
  | zero => intros; omega
  | succ n ih =>
    intro y1 y2 y3 y4 q3 q4 hn K4
    rw [f_q_warning_37]
    unfold f_q_warning_80
    refine st_ite (fun _ => K4 _) (fun c => ?_)
    rw [i32le, l32_6] at c
    have e1 : (y4 + 1).toInt = y4.toInt + 1 := by rw [i32addc (by rw [l32_1]; omega), l32_1]
    have e2 : ((200 : Int32) * y4 + y3).toInt = 200 * y4.toInt + y3.toInt := by rw [i32addc (by rw [m32_200 (by omega)]; omega), m32_200 (by omega)]
    exact qn_60 hR (st_rI (n := 1200) rfl (by omega) rfl (st_ite (fun _ => ih _ _ _ _ q3 (by omega) (by omega) K4) (fun _ => st_ite (fun _ => st_some (k _)) (fun _ => ih _ _ _ _ q3 (by omega) (by omega) K4))))
theorem l_q_warning_27 (hR : QR R) {Q : (Int32 × WW) → Prop} (k : ∀ r, Q (r, mk I J R)) : ∀ (n : Nat) (y1 y2 y3 : Int32), (0 ≤ y3.toInt ∧ y3.toInt ≤ 200) → (200 - y3.toInt).toNat < n → wp (f_q_warning_27 n 373 y1 y2 y3 (mk I J R)) Q := by
  intro n
  induction n with
  | zero => intros; omega
  | succ n ih =>
    intro y1 y2 y3 q3 hn
    rw [f_q_warning_27]
    refine st_ite (fun _ => st_some (k _)) (fun c => ?_)
    rw [i32le, l32_200] at c
    have e1 : (y3 + 1).toInt = y3.toInt + 1 := by rw [i32addc (by rw [l32_1]; omega), l32_1]
    exact l_q_warning_37 hR k KK _ _ _ _ (by omega) (by decide) (by unfold KK; decide) (fun y2 => ih _ _ _ (by omega) (by omega))
theorem c_warning (hR : QR R) {a1 : Int32} (hq : QF I J) {Q : (Int32 × WW) → Prop} (k : ∀ (r : Int32) (I' : IM) (J' : JM), QF I' J' → QK I J I' J' → Q (r, mk I' J' R)) : wp (f_q_warning 373 a1 (mk I J R)) Q := by
  unfold f_q_warning f_q_warning_12
  refine st_kb rfl (st_ite (fun _ => st_bd2 (s_q_fail hR (st_some (k _ _ J hq.u5 QK.u5)))) (fun _ => st_bd2 (s_q_warnings hR (fun r => ?_))))
  dsimp only
  refine st_ite (fun _ => st_pI rfl rfl (l_q_warning_27 hR (fun r => k _ _ J hq.u5 QK.u5) KK _ _ _ (by decide) (by unfold KK; decide))) (fun _ => st_bd2 (s_q_fail hR (st_some (k _ _ J hq.u5 QK.u5))))
set_option maxHeartbeats 4000000 in
theorem c_ran (hR : QR R) {a1 : Int32} (hq : QF I J) {Q : (Int32 × WW) → Prop} (k : ∀ (r : Int32) (I' : IM) (J' : JM), QF I' J' → QK I J I' J' → Q (r, mk I' J' R)) : wp (f_q_ran 373 a1 (mk I J R)) Q := by
  unfold f_q_ran
  repeat' (first
    | ((with_reducible apply st_kb); (case hl => exact rfl))
    | (with_reducible apply qn_45 hR)
    | (with_reducible apply qn_46 hR)
    | (with_reducible apply qn_49 hR)
    | ((with_reducible apply st_gI); (case hl => exact rfl); (case hk => exact rfl); (case hv => (repeat (first | (apply Eq.trans (up2_nek (by decide))) | (apply Eq.trans (up2_nea (by decide))))) <;> first | exact up2_s | exact rfl))
    | ((with_reducible apply st_rI); (case hl => exact rfl); (case hi => first | with_reducible assumption | omega | (simp (disch := omega) only [m32_3, m32_4, m32_6, m32_14, m32_80, m32_200, m32_220, i32add, i32sub, l32_m8, l32_m5, l32_m2, l32_m1, l32_0, l32_1, l32_2, l32_3, l32_4, l32_5, l32_6, l32_7, l32_8, l32_9, l32_10, l32_11, l32_12, l32_14, l32_15, l32_16, l32_18, l32_20, l32_25, l32_28, l32_30, l32_32, l32_33, l32_36, l32_37, l32_40, l32_41, l32_42, l32_43, l32_45, l32_47, l32_48, l32_50, l32_56, l32_57, l32_59, l32_60, l32_61, l32_65, l32_66, l32_80, l32_90, l32_91, l32_93, l32_97, l32_100, l32_101, l32_102, l32_104, l32_105, l32_108, l32_110, l32_115, l32_119, l32_122, l32_123, l32_125, l32_126, l32_200, l32_220, l32_224, l32_225, l32_226, l32_255, l32_256, l32_257, l32_258, l32_259, l32_290, l32_359, l32_500, l32_1000, l32_1001, l32_1002, l32_1024, l32_1200] <;> omega) | (simp only [up2, eq_self, Nat.reduceEqDiff, and_self, and_true, true_and, and_false, false_and, reduceIte, i32add, i32sub, i32mul, l32_m8, l32_m5, l32_m2, l32_m1, l32_0, l32_1, l32_2, l32_3, l32_4, l32_5, l32_6, l32_7, l32_8, l32_9, l32_10, l32_11, l32_12, l32_14, l32_15, l32_16, l32_18, l32_20, l32_25, l32_28, l32_30, l32_32, l32_33, l32_36, l32_37, l32_40, l32_41, l32_42, l32_43, l32_45, l32_47, l32_48, l32_50, l32_56, l32_57, l32_59, l32_60, l32_61, l32_65, l32_66, l32_80, l32_90, l32_91, l32_93, l32_97, l32_100, l32_101, l32_102, l32_104, l32_105, l32_108, l32_110, l32_115, l32_119, l32_122, l32_123, l32_125, l32_126, l32_200, l32_220, l32_224, l32_225, l32_226, l32_255, l32_256, l32_257, l32_258, l32_259, l32_290, l32_359, l32_500, l32_1000, l32_1001, l32_1002, l32_1024, l32_1200] <;> omega) | (simp only [up2, eq_self, Nat.reduceEqDiff, and_self, and_true, true_and, and_false, false_and, reduceIte]; assumption) | (simp (disch := (first | omega | (simp (disch := omega) only [m32_3, m32_4, m32_6, m32_14, m32_80, m32_200, m32_220, l32_m8, l32_m5, l32_m2, l32_m1, l32_0, l32_1, l32_2, l32_3, l32_4, l32_5, l32_6, l32_7, l32_8, l32_9, l32_10, l32_11, l32_12, l32_14, l32_15, l32_16, l32_18, l32_20, l32_25, l32_28, l32_30, l32_32, l32_33, l32_36, l32_37, l32_40, l32_41, l32_42, l32_43, l32_45, l32_47, l32_48, l32_50, l32_56, l32_57, l32_59, l32_60, l32_61, l32_65, l32_66, l32_80, l32_90, l32_91, l32_93, l32_97, l32_100, l32_101, l32_102, l32_104, l32_105, l32_108, l32_110, l32_115, l32_119, l32_122, l32_123, l32_125, l32_126, l32_200, l32_220, l32_224, l32_225, l32_226, l32_255, l32_256, l32_257, l32_258, l32_259, l32_290, l32_359, l32_500, l32_1000, l32_1001, l32_1002, l32_1024, l32_1200] <;> omega))) only [i32addc, i32subc, m32_3, m32_4, m32_6, m32_14, m32_80, m32_200, m32_220, l32_m8, l32_m5, l32_m2, l32_m1, l32_0, l32_1, l32_2, l32_3, l32_4, l32_5, l32_6, l32_7, l32_8, l32_9, l32_10, l32_11, l32_12, l32_14, l32_15, l32_16, l32_18, l32_20, l32_25, l32_28, l32_30, l32_32, l32_33, l32_36, l32_37, l32_40, l32_41, l32_42, l32_43, l32_45, l32_47, l32_48, l32_50, l32_56, l32_57, l32_59, l32_60, l32_61, l32_65, l32_66, l32_80, l32_90, l32_91, l32_93, l32_97, l32_100, l32_101, l32_102, l32_104, l32_105, l32_108, l32_110, l32_115, l32_119, l32_122, l32_123, l32_125, l32_126, l32_200, l32_220, l32_224, l32_225, l32_226, l32_255, l32_256, l32_257, l32_258, l32_259, l32_290, l32_359, l32_500, l32_1000, l32_1001, l32_1002, l32_1024, l32_1200] <;> omega) | (simp only [i32add, i32sub, i32mul, l32_m8, l32_m5, l32_m2, l32_m1, l32_0, l32_1, l32_2, l32_3, l32_4, l32_5, l32_6, l32_7, l32_8, l32_9, l32_10, l32_11, l32_12, l32_14, l32_15, l32_16, l32_18, l32_20, l32_25, l32_28, l32_30, l32_32, l32_33, l32_36, l32_37, l32_40, l32_41, l32_42, l32_43, l32_45, l32_47, l32_48, l32_50, l32_56, l32_57, l32_59, l32_60, l32_61, l32_65, l32_66, l32_80, l32_90, l32_91, l32_93, l32_97, l32_100, l32_101, l32_102, l32_104, l32_105, l32_108, l32_110, l32_115, l32_119, l32_122, l32_123, l32_125, l32_126, l32_200, l32_220, l32_224, l32_225, l32_226, l32_255, l32_256, l32_257, l32_258, l32_259, l32_290, l32_359, l32_500, l32_1000, l32_1001, l32_1002, l32_1024, l32_1200] <;> omega) | (simp only [i32add, i32sub, i32mul, l32_m8, l32_m5, l32_m2, l32_m1, l32_0, l32_1, l32_2, l32_3, l32_4, l32_5, l32_6, l32_7, l32_8, l32_9, l32_10, l32_11, l32_12, l32_14, l32_15, l32_16, l32_18, l32_20, l32_25, l32_28, l32_30, l32_32, l32_33, l32_36, l32_37, l32_40, l32_41, l32_42, l32_43, l32_45, l32_47, l32_48, l32_50, l32_56, l32_57, l32_59, l32_60, l32_61, l32_65, l32_66, l32_80, l32_90, l32_91, l32_93, l32_97, l32_100, l32_101, l32_102, l32_104, l32_105, l32_108, l32_110, l32_115, l32_119, l32_122, l32_123, l32_125, l32_126, l32_200, l32_220, l32_224, l32_225, l32_226, l32_255, l32_256, l32_257, l32_258, l32_259, l32_290, l32_359, l32_500, l32_1000, l32_1001, l32_1002, l32_1024, l32_1200] at *; omega)); (case hv => (repeat (first | (apply Eq.trans (up2_nek (by decide))) | (apply Eq.trans (up2_nea (by decide))))) <;> first | exact up2_s | exact rfl))
    | ((with_reducible apply st_pI); (case hl => exact rfl); (case hk => exact rfl))
    | ((with_reducible apply st_bd2); (with_reducible apply s_q_in); intro r hb hr; try simp only [i3264, l64_m9223372036854775808, l64_m2147483648, l64_m100, l64_m10, l64_m1, l64_0, l64_1, l64_2, l64_3, l64_4, l64_5, l64_6, l64_10, l64_15, l64_17, l64_20, l64_27, l64_30, l64_32, l64_35, l64_40, l64_41, l64_48, l64_57, l64_65, l64_66, l64_90, l64_97, l64_100, l64_102, l64_116, l64_122, l64_126, l64_128, l64_500, l64_14592, l64_16384, l64_65536, l64_2147483647, l64_4294967295, l64_9223372036854775807] at hr; try dsimp only)
    | ((with_reducible apply s_q_in); intro r hb hr; try simp only [i3264, l64_m9223372036854775808, l64_m2147483648, l64_m100, l64_m10, l64_m1, l64_0, l64_1, l64_2, l64_3, l64_4, l64_5, l64_6, l64_10, l64_15, l64_17, l64_20, l64_27, l64_30, l64_32, l64_35, l64_40, l64_41, l64_48, l64_57, l64_65, l64_66, l64_90, l64_97, l64_100, l64_102, l64_116, l64_122, l64_126, l64_128, l64_500, l64_14592, l64_16384, l64_65536, l64_2147483647, l64_4294967295, l64_9223372036854775807] at hr)
    | ((with_reducible apply st_bd2); (with_reducible apply s_q_fail hR); try dsimp only)
    | ((with_reducible apply s_q_fail hR))
    | ((with_reducible apply st_req); (case h => first | assumption | exact Or.inl rfl | exact Or.inr rfl | decide))
    | ((with_reducible refine st_ite (fun c => ?_) (fun c => ?_)) <;> (have c0 := c; try simp only [i32lt, i32le, i32eq, i32add, i32sub, i32mul, l32_m8, l32_m5, l32_m2, l32_m1, l32_0, l32_1, l32_2, l32_3, l32_4, l32_5, l32_6, l32_7, l32_8, l32_9, l32_10, l32_11, l32_12, l32_14, l32_15, l32_16, l32_18, l32_20, l32_25, l32_28, l32_30, l32_32, l32_33, l32_36, l32_37, l32_40, l32_41, l32_42, l32_43, l32_45, l32_47, l32_48, l32_50, l32_56, l32_57, l32_59, l32_60, l32_61, l32_65, l32_66, l32_80, l32_90, l32_91, l32_93, l32_97, l32_100, l32_101, l32_102, l32_104, l32_105, l32_108, l32_110, l32_115, l32_119, l32_122, l32_123, l32_125, l32_126, l32_200, l32_220, l32_224, l32_225, l32_226, l32_255, l32_256, l32_257, l32_258, l32_259, l32_290, l32_359, l32_500, l32_1000, l32_1001, l32_1002, l32_1024, l32_1200, i64lt, i64le, i64eq, i3264, l64_m9223372036854775808, l64_m2147483648, l64_m100, l64_m10, l64_m1, l64_0, l64_1, l64_2, l64_3, l64_4, l64_5, l64_6, l64_10, l64_15, l64_17, l64_20, l64_27, l64_30, l64_32, l64_35, l64_40, l64_41, l64_48, l64_57, l64_65, l64_66, l64_90, l64_97, l64_100, l64_102, l64_116, l64_122, l64_126, l64_128, l64_500, l64_14592, l64_16384, l64_65536, l64_2147483647, l64_4294967295, l64_9223372036854775807] at c))
    | (with_reducible refine st_some ?_)
    | (unfold f_q_ran_151)
    | (unfold f_q_ran_97)
    | (unfold f_q_ran_60)
    | (exact k _ _ J hq.u5 QK.u5)
    | (exact absurd rfl c0)
    | (exact absurd c0 (by decide))
    | fail)
set_option maxHeartbeats 4000000 in
theorem c_left (hR : QR R) {a1 a2 : Int32} (hq : QF I J) {Q : (Int32 × WW) → Prop} (k : ∀ (r : Int32) (I' : IM) (J' : JM), QF I' J' → QK I J I' J' → Q (r, mk I' J' R)) : wp (f_q_left_II 373 a1 a2 (mk I J R)) Q := by
  unfold f_q_left_II
  repeat' (first
    | ((with_reducible apply st_kb); (case hl => exact rfl))
    | (with_reducible apply qn_54 hR)
    | (with_reducible apply qn_55 hR)
    | (with_reducible apply qn_56 hR)
    | (with_reducible apply qn_57 hR)
    | (with_reducible apply qn_58 hR)
    | (with_reducible apply qn_59 hR)
    | ((with_reducible apply st_gI); (case hl => exact rfl); (case hk => exact rfl); (case hv => (repeat (first | (apply Eq.trans (up2_nek (by decide))) | (apply Eq.trans (up2_nea (by decide))))) <;> first | exact up2_s | exact rfl))
    | ((with_reducible apply st_rI); (case hl => exact rfl); (case hi => first | with_reducible assumption | omega | (simp (disch := omega) only [m32_3, m32_4, m32_6, m32_14, m32_80, m32_200, m32_220, i32add, i32sub, l32_m8, l32_m5, l32_m2, l32_m1, l32_0, l32_1, l32_2, l32_3, l32_4, l32_5, l32_6, l32_7, l32_8, l32_9, l32_10, l32_11, l32_12, l32_14, l32_15, l32_16, l32_18, l32_20, l32_25, l32_28, l32_30, l32_32, l32_33, l32_36, l32_37, l32_40, l32_41, l32_42, l32_43, l32_45, l32_47, l32_48, l32_50, l32_56, l32_57, l32_59, l32_60, l32_61, l32_65, l32_66, l32_80, l32_90, l32_91, l32_93, l32_97, l32_100, l32_101, l32_102, l32_104, l32_105, l32_108, l32_110, l32_115, l32_119, l32_122, l32_123, l32_125, l32_126, l32_200, l32_220, l32_224, l32_225, l32_226, l32_255, l32_256, l32_257, l32_258, l32_259, l32_290, l32_359, l32_500, l32_1000, l32_1001, l32_1002, l32_1024, l32_1200] <;> omega) | (simp only [up2, eq_self, Nat.reduceEqDiff, and_self, and_true, true_and, and_false, false_and, reduceIte, i32add, i32sub, i32mul, l32_m8, l32_m5, l32_m2, l32_m1, l32_0, l32_1, l32_2, l32_3, l32_4, l32_5, l32_6, l32_7, l32_8, l32_9, l32_10, l32_11, l32_12, l32_14, l32_15, l32_16, l32_18, l32_20, l32_25, l32_28, l32_30, l32_32, l32_33, l32_36, l32_37, l32_40, l32_41, l32_42, l32_43, l32_45, l32_47, l32_48, l32_50, l32_56, l32_57, l32_59, l32_60, l32_61, l32_65, l32_66, l32_80, l32_90, l32_91, l32_93, l32_97, l32_100, l32_101, l32_102, l32_104, l32_105, l32_108, l32_110, l32_115, l32_119, l32_122, l32_123, l32_125, l32_126, l32_200, l32_220, l32_224, l32_225, l32_226, l32_255, l32_256, l32_257, l32_258, l32_259, l32_290, l32_359, l32_500, l32_1000, l32_1001, l32_1002, l32_1024, l32_1200] <;> omega) | (simp only [up2, eq_self, Nat.reduceEqDiff, and_self, and_true, true_and, and_false, false_and, reduceIte]; assumption) | (simp (disch := (first | omega | (simp (disch := omega) only [m32_3, m32_4, m32_6, m32_14, m32_80, m32_200, m32_220, l32_m8, l32_m5, l32_m2, l32_m1, l32_0, l32_1, l32_2, l32_3, l32_4, l32_5, l32_6, l32_7, l32_8, l32_9, l32_10, l32_11, l32_12, l32_14, l32_15, l32_16, l32_18, l32_20, l32_25, l32_28, l32_30, l32_32, l32_33, l32_36, l32_37, l32_40, l32_41, l32_42, l32_43, l32_45, l32_47, l32_48, l32_50, l32_56, l32_57, l32_59, l32_60, l32_61, l32_65, l32_66, l32_80, l32_90, l32_91, l32_93, l32_97, l32_100, l32_101, l32_102, l32_104, l32_105, l32_108, l32_110, l32_115, l32_119, l32_122, l32_123, l32_125, l32_126, l32_200, l32_220, l32_224, l32_225, l32_226, l32_255, l32_256, l32_257, l32_258, l32_259, l32_290, l32_359, l32_500, l32_1000, l32_1001, l32_1002, l32_1024, l32_1200] <;> omega))) only [i32addc, i32subc, m32_3, m32_4, m32_6, m32_14, m32_80, m32_200, m32_220, l32_m8, l32_m5, l32_m2, l32_m1, l32_0, l32_1, l32_2, l32_3, l32_4, l32_5, l32_6, l32_7, l32_8, l32_9, l32_10, l32_11, l32_12, l32_14, l32_15, l32_16, l32_18, l32_20, l32_25, l32_28, l32_30, l32_32, l32_33, l32_36, l32_37, l32_40, l32_41, l32_42, l32_43, l32_45, l32_47, l32_48, l32_50, l32_56, l32_57, l32_59, l32_60, l32_61, l32_65, l32_66, l32_80, l32_90, l32_91, l32_93, l32_97, l32_100, l32_101, l32_102, l32_104, l32_105, l32_108, l32_110, l32_115, l32_119, l32_122, l32_123, l32_125, l32_126, l32_200, l32_220, l32_224, l32_225, l32_226, l32_255, l32_256, l32_257, l32_258, l32_259, l32_290, l32_359, l32_500, l32_1000, l32_1001, l32_1002, l32_1024, l32_1200] <;> omega) | (simp only [i32add, i32sub, i32mul, l32_m8, l32_m5, l32_m2, l32_m1, l32_0, l32_1, l32_2, l32_3, l32_4, l32_5, l32_6, l32_7, l32_8, l32_9, l32_10, l32_11, l32_12, l32_14, l32_15, l32_16, l32_18, l32_20, l32_25, l32_28, l32_30, l32_32, l32_33, l32_36, l32_37, l32_40, l32_41, l32_42, l32_43, l32_45, l32_47, l32_48, l32_50, l32_56, l32_57, l32_59, l32_60, l32_61, l32_65, l32_66, l32_80, l32_90, l32_91, l32_93, l32_97, l32_100, l32_101, l32_102, l32_104, l32_105, l32_108, l32_110, l32_115, l32_119, l32_122, l32_123, l32_125, l32_126, l32_200, l32_220, l32_224, l32_225, l32_226, l32_255, l32_256, l32_257, l32_258, l32_259, l32_290, l32_359, l32_500, l32_1000, l32_1001, l32_1002, l32_1024, l32_1200] <;> omega) | (simp only [i32add, i32sub, i32mul, l32_m8, l32_m5, l32_m2, l32_m1, l32_0, l32_1, l32_2, l32_3, l32_4, l32_5, l32_6, l32_7, l32_8, l32_9, l32_10, l32_11, l32_12, l32_14, l32_15, l32_16, l32_18, l32_20, l32_25, l32_28, l32_30, l32_32, l32_33, l32_36, l32_37, l32_40, l32_41, l32_42, l32_43, l32_45, l32_47, l32_48, l32_50, l32_56, l32_57, l32_59, l32_60, l32_61, l32_65, l32_66, l32_80, l32_90, l32_91, l32_93, l32_97, l32_100, l32_101, l32_102, l32_104, l32_105, l32_108, l32_110, l32_115, l32_119, l32_122, l32_123, l32_125, l32_126, l32_200, l32_220, l32_224, l32_225, l32_226, l32_255, l32_256, l32_257, l32_258, l32_259, l32_290, l32_359, l32_500, l32_1000, l32_1001, l32_1002, l32_1024, l32_1200] at *; omega)); (case hv => (repeat (first | (apply Eq.trans (up2_nek (by decide))) | (apply Eq.trans (up2_nea (by decide))))) <;> first | exact up2_s | exact rfl))
    | ((with_reducible apply st_rL); (case hl => exact rfl); (case hi => first | with_reducible assumption | omega | (simp (disch := omega) only [m32_3, m32_4, m32_6, m32_14, m32_80, m32_200, m32_220, i32add, i32sub, l32_m8, l32_m5, l32_m2, l32_m1, l32_0, l32_1, l32_2, l32_3, l32_4, l32_5, l32_6, l32_7, l32_8, l32_9, l32_10, l32_11, l32_12, l32_14, l32_15, l32_16, l32_18, l32_20, l32_25, l32_28, l32_30, l32_32, l32_33, l32_36, l32_37, l32_40, l32_41, l32_42, l32_43, l32_45, l32_47, l32_48, l32_50, l32_56, l32_57, l32_59, l32_60, l32_61, l32_65, l32_66, l32_80, l32_90, l32_91, l32_93, l32_97, l32_100, l32_101, l32_102, l32_104, l32_105, l32_108, l32_110, l32_115, l32_119, l32_122, l32_123, l32_125, l32_126, l32_200, l32_220, l32_224, l32_225, l32_226, l32_255, l32_256, l32_257, l32_258, l32_259, l32_290, l32_359, l32_500, l32_1000, l32_1001, l32_1002, l32_1024, l32_1200] <;> omega) | (simp only [up2, eq_self, Nat.reduceEqDiff, and_self, and_true, true_and, and_false, false_and, reduceIte, i32add, i32sub, i32mul, l32_m8, l32_m5, l32_m2, l32_m1, l32_0, l32_1, l32_2, l32_3, l32_4, l32_5, l32_6, l32_7, l32_8, l32_9, l32_10, l32_11, l32_12, l32_14, l32_15, l32_16, l32_18, l32_20, l32_25, l32_28, l32_30, l32_32, l32_33, l32_36, l32_37, l32_40, l32_41, l32_42, l32_43, l32_45, l32_47, l32_48, l32_50, l32_56, l32_57, l32_59, l32_60, l32_61, l32_65, l32_66, l32_80, l32_90, l32_91, l32_93, l32_97, l32_100, l32_101, l32_102, l32_104, l32_105, l32_108, l32_110, l32_115, l32_119, l32_122, l32_123, l32_125, l32_126, l32_200, l32_220, l32_224, l32_225, l32_226, l32_255, l32_256, l32_257, l32_258, l32_259, l32_290, l32_359, l32_500, l32_1000, l32_1001, l32_1002, l32_1024, l32_1200] <;> omega) | (simp only [up2, eq_self, Nat.reduceEqDiff, and_self, and_true, true_and, and_false, false_and, reduceIte]; assumption) | (simp (disch := (first | omega | (simp (disch := omega) only [m32_3, m32_4, m32_6, m32_14, m32_80, m32_200, m32_220, l32_m8, l32_m5, l32_m2, l32_m1, l32_0, l32_1, l32_2, l32_3, l32_4, l32_5, l32_6, l32_7, l32_8, l32_9, l32_10, l32_11, l32_12, l32_14, l32_15, l32_16, l32_18, l32_20, l32_25, l32_28, l32_30, l32_32, l32_33, l32_36, l32_37, l32_40, l32_41, l32_42, l32_43, l32_45, l32_47, l32_48, l32_50, l32_56, l32_57, l32_59, l32_60, l32_61, l32_65, l32_66, l32_80, l32_90, l32_91, l32_93, l32_97, l32_100, l32_101, l32_102, l32_104, l32_105, l32_108, l32_110, l32_115, l32_119, l32_122, l32_123, l32_125, l32_126, l32_200, l32_220, l32_224, l32_225, l32_226, l32_255, l32_256, l32_257, l32_258, l32_259, l32_290, l32_359, l32_500, l32_1000, l32_1001, l32_1002, l32_1024, l32_1200] <;> omega))) only [i32addc, i32subc, m32_3, m32_4, m32_6, m32_14, m32_80, m32_200, m32_220, l32_m8, l32_m5, l32_m2, l32_m1, l32_0, l32_1, l32_2, l32_3, l32_4, l32_5, l32_6, l32_7, l32_8, l32_9, l32_10, l32_11, l32_12, l32_14, l32_15, l32_16, l32_18, l32_20, l32_25, l32_28, l32_30, l32_32, l32_33, l32_36, l32_37, l32_40, l32_41, l32_42, l32_43, l32_45, l32_47, l32_48, l32_50, l32_56, l32_57, l32_59, l32_60, l32_61, l32_65, l32_66, l32_80, l32_90, l32_91, l32_93, l32_97, l32_100, l32_101, l32_102, l32_104, l32_105, l32_108, l32_110, l32_115, l32_119, l32_122, l32_123, l32_125, l32_126, l32_200, l32_220, l32_224, l32_225, l32_226, l32_255, l32_256, l32_257, l32_258, l32_259, l32_290, l32_359, l32_500, l32_1000, l32_1001, l32_1002, l32_1024, l32_1200] <;> omega) | (simp only [i32add, i32sub, i32mul, l32_m8, l32_m5, l32_m2, l32_m1, l32_0, l32_1, l32_2, l32_3, l32_4, l32_5, l32_6, l32_7, l32_8, l32_9, l32_10, l32_11, l32_12, l32_14, l32_15, l32_16, l32_18, l32_20, l32_25, l32_28, l32_30, l32_32, l32_33, l32_36, l32_37, l32_40, l32_41, l32_42, l32_43, l32_45, l32_47, l32_48, l32_50, l32_56, l32_57, l32_59, l32_60, l32_61, l32_65, l32_66, l32_80, l32_90, l32_91, l32_93, l32_97, l32_100, l32_101, l32_102, l32_104, l32_105, l32_108, l32_110, l32_115, l32_119, l32_122, l32_123, l32_125, l32_126, l32_200, l32_220, l32_224, l32_225, l32_226, l32_255, l32_256, l32_257, l32_258, l32_259, l32_290, l32_359, l32_500, l32_1000, l32_1001, l32_1002, l32_1024, l32_1200] <;> omega) | (simp only [i32add, i32sub, i32mul, l32_m8, l32_m5, l32_m2, l32_m1, l32_0, l32_1, l32_2, l32_3, l32_4, l32_5, l32_6, l32_7, l32_8, l32_9, l32_10, l32_11, l32_12, l32_14, l32_15, l32_16, l32_18, l32_20, l32_25, l32_28, l32_30, l32_32, l32_33, l32_36, l32_37, l32_40, l32_41, l32_42, l32_43, l32_45, l32_47, l32_48, l32_50, l32_56, l32_57, l32_59, l32_60, l32_61, l32_65, l32_66, l32_80, l32_90, l32_91, l32_93, l32_97, l32_100, l32_101, l32_102, l32_104, l32_105, l32_108, l32_110, l32_115, l32_119, l32_122, l32_123, l32_125, l32_126, l32_200, l32_220, l32_224, l32_225, l32_226, l32_255, l32_256, l32_257, l32_258, l32_259, l32_290, l32_359, l32_500, l32_1000, l32_1001, l32_1002, l32_1024, l32_1200] at *; omega)); (case hv => (repeat (first | (apply Eq.trans (up2_nek (by decide))) | (apply Eq.trans (up2_nea (by decide))))) <;> first | exact up2_s | exact rfl))
    | ((with_reducible apply st_pI); (case hl => exact rfl); (case hk => exact rfl))
    | ((with_reducible apply st_bd2); (with_reducible apply s_q_fail hR); try dsimp only)
    | ((with_reducible apply s_q_fail hR))
    | ((with_reducible apply st_bd2); (with_reducible apply s_q_in); intro r hb hr; try simp only [i3264, l64_m9223372036854775808, l64_m2147483648, l64_m100, l64_m10, l64_m1, l64_0, l64_1, l64_2, l64_3, l64_4, l64_5, l64_6, l64_10, l64_15, l64_17, l64_20, l64_27, l64_30, l64_32, l64_35, l64_40, l64_41, l64_48, l64_57, l64_65, l64_66, l64_90, l64_97, l64_100, l64_102, l64_116, l64_122, l64_126, l64_128, l64_500, l64_14592, l64_16384, l64_65536, l64_2147483647, l64_4294967295, l64_9223372036854775807] at hr; try dsimp only)
    | ((with_reducible apply s_q_in); intro r hb hr; try simp only [i3264, l64_m9223372036854775808, l64_m2147483648, l64_m100, l64_m10, l64_m1, l64_0, l64_1, l64_2, l64_3, l64_4, l64_5, l64_6, l64_10, l64_15, l64_17, l64_20, l64_27, l64_30, l64_32, l64_35, l64_40, l64_41, l64_48, l64_57, l64_65, l64_66, l64_90, l64_97, l64_100, l64_102, l64_116, l64_122, l64_126, l64_128, l64_500, l64_14592, l64_16384, l64_65536, l64_2147483647, l64_4294967295, l64_9223372036854775807] at hr)
    | ((with_reducible apply st_req); (case h => first | assumption | exact Or.inl rfl | exact Or.inr rfl | decide))
    | ((with_reducible refine st_ite (fun c => ?_) (fun c => ?_)) <;> (have c0 := c; try simp only [i32lt, i32le, i32eq, i32add, i32sub, i32mul, l32_m8, l32_m5, l32_m2, l32_m1, l32_0, l32_1, l32_2, l32_3, l32_4, l32_5, l32_6, l32_7, l32_8, l32_9, l32_10, l32_11, l32_12, l32_14, l32_15, l32_16, l32_18, l32_20, l32_25, l32_28, l32_30, l32_32, l32_33, l32_36, l32_37, l32_40, l32_41, l32_42, l32_43, l32_45, l32_47, l32_48, l32_50, l32_56, l32_57, l32_59, l32_60, l32_61, l32_65, l32_66, l32_80, l32_90, l32_91, l32_93, l32_97, l32_100, l32_101, l32_102, l32_104, l32_105, l32_108, l32_110, l32_115, l32_119, l32_122, l32_123, l32_125, l32_126, l32_200, l32_220, l32_224, l32_225, l32_226, l32_255, l32_256, l32_257, l32_258, l32_259, l32_290, l32_359, l32_500, l32_1000, l32_1001, l32_1002, l32_1024, l32_1200, i64lt, i64le, i64eq, i3264, l64_m9223372036854775808, l64_m2147483648, l64_m100, l64_m10, l64_m1, l64_0, l64_1, l64_2, l64_3, l64_4, l64_5, l64_6, l64_10, l64_15, l64_17, l64_20, l64_27, l64_30, l64_32, l64_35, l64_40, l64_41, l64_48, l64_57, l64_65, l64_66, l64_90, l64_97, l64_100, l64_102, l64_116, l64_122, l64_126, l64_128, l64_500, l64_14592, l64_16384, l64_65536, l64_2147483647, l64_4294967295, l64_9223372036854775807] at c))
    | (with_reducible refine st_some ?_)
    | (unfold f_q_left_II_102)
    | (unfold f_q_left_II_186)
    | (unfold f_q_left_II_138)
    | (unfold f_q_left_II_137)
    | (unfold f_q_left_II_108)
    | (unfold f_q_left_II_76)
    | (unfold f_q_left_II_50)
    | (exact k _ _ J hq.u5 QK.u5)
    | (exact absurd rfl c0)
    | (exact absurd c0 (by decide))
    | fail)
set_option maxHeartbeats 4000000 in
theorem c_count (hR : QR R) {a1 : Int32} (hq : QF I J) {Q : (Int32 × WW) → Prop} (k : ∀ (r : Int32) (I' : IM) (J' : JM), QF I' J' → QK I J I' J' → Q (r, mk I' J' R)) : wp (f_q_count 373 a1 (mk I J R)) Q := by
  have h27 := hq.2.2.2.1
  unfold f_q_count
  repeat' (first
    | ((with_reducible apply st_kb); (case hl => exact rfl))
    | (with_reducible apply qn_22 hR)
    | ((with_reducible apply st_gI); (case hl => exact rfl); (case hk => exact rfl); (case hv => (repeat (first | (apply Eq.trans (up2_nek (by decide))) | (apply Eq.trans (up2_nea (by decide))))) <;> first | exact up2_s | exact rfl))
    | ((with_reducible apply st_rI); (case hl => exact rfl); (case hi => first | with_reducible assumption | omega | (simp (disch := omega) only [m32_3, m32_4, m32_6, m32_14, m32_80, m32_200, m32_220, i32add, i32sub, l32_m8, l32_m5, l32_m2, l32_m1, l32_0, l32_1, l32_2, l32_3, l32_4, l32_5, l32_6, l32_7, l32_8, l32_9, l32_10, l32_11, l32_12, l32_14, l32_15, l32_16, l32_18, l32_20, l32_25, l32_28, l32_30, l32_32, l32_33, l32_36, l32_37, l32_40, l32_41, l32_42, l32_43, l32_45, l32_47, l32_48, l32_50, l32_56, l32_57, l32_59, l32_60, l32_61, l32_65, l32_66, l32_80, l32_90, l32_91, l32_93, l32_97, l32_100, l32_101, l32_102, l32_104, l32_105, l32_108, l32_110, l32_115, l32_119, l32_122, l32_123, l32_125, l32_126, l32_200, l32_220, l32_224, l32_225, l32_226, l32_255, l32_256, l32_257, l32_258, l32_259, l32_290, l32_359, l32_500, l32_1000, l32_1001, l32_1002, l32_1024, l32_1200] <;> omega) | (simp only [up2, eq_self, Nat.reduceEqDiff, and_self, and_true, true_and, and_false, false_and, reduceIte, i32add, i32sub, i32mul, l32_m8, l32_m5, l32_m2, l32_m1, l32_0, l32_1, l32_2, l32_3, l32_4, l32_5, l32_6, l32_7, l32_8, l32_9, l32_10, l32_11, l32_12, l32_14, l32_15, l32_16, l32_18, l32_20, l32_25, l32_28, l32_30, l32_32, l32_33, l32_36, l32_37, l32_40, l32_41, l32_42, l32_43, l32_45, l32_47, l32_48, l32_50, l32_56, l32_57, l32_59, l32_60, l32_61, l32_65, l32_66, l32_80, l32_90, l32_91, l32_93, l32_97, l32_100, l32_101, l32_102, l32_104, l32_105, l32_108, l32_110, l32_115, l32_119, l32_122, l32_123, l32_125, l32_126, l32_200, l32_220, l32_224, l32_225, l32_226, l32_255, l32_256, l32_257, l32_258, l32_259, l32_290, l32_359, l32_500, l32_1000, l32_1001, l32_1002, l32_1024, l32_1200] <;> omega) | (simp only [up2, eq_self, Nat.reduceEqDiff, and_self, and_true, true_and, and_false, false_and, reduceIte]; assumption) | (simp (disch := (first | omega | (simp (disch := omega) only [m32_3, m32_4, m32_6, m32_14, m32_80, m32_200, m32_220, l32_m8, l32_m5, l32_m2, l32_m1, l32_0, l32_1, l32_2, l32_3, l32_4, l32_5, l32_6, l32_7, l32_8, l32_9, l32_10, l32_11, l32_12, l32_14, l32_15, l32_16, l32_18, l32_20, l32_25, l32_28, l32_30, l32_32, l32_33, l32_36, l32_37, l32_40, l32_41, l32_42, l32_43, l32_45, l32_47, l32_48, l32_50, l32_56, l32_57, l32_59, l32_60, l32_61, l32_65, l32_66, l32_80, l32_90, l32_91, l32_93, l32_97, l32_100, l32_101, l32_102, l32_104, l32_105, l32_108, l32_110, l32_115, l32_119, l32_122, l32_123, l32_125, l32_126, l32_200, l32_220, l32_224, l32_225, l32_226, l32_255, l32_256, l32_257, l32_258, l32_259, l32_290, l32_359, l32_500, l32_1000, l32_1001, l32_1002, l32_1024, l32_1200] <;> omega))) only [i32addc, i32subc, m32_3, m32_4, m32_6, m32_14, m32_80, m32_200, m32_220, l32_m8, l32_m5, l32_m2, l32_m1, l32_0, l32_1, l32_2, l32_3, l32_4, l32_5, l32_6, l32_7, l32_8, l32_9, l32_10, l32_11, l32_12, l32_14, l32_15, l32_16, l32_18, l32_20, l32_25, l32_28, l32_30, l32_32, l32_33, l32_36, l32_37, l32_40, l32_41, l32_42, l32_43, l32_45, l32_47, l32_48, l32_50, l32_56, l32_57, l32_59, l32_60, l32_61, l32_65, l32_66, l32_80, l32_90, l32_91, l32_93, l32_97, l32_100, l32_101, l32_102, l32_104, l32_105, l32_108, l32_110, l32_115, l32_119, l32_122, l32_123, l32_125, l32_126, l32_200, l32_220, l32_224, l32_225, l32_226, l32_255, l32_256, l32_257, l32_258, l32_259, l32_290, l32_359, l32_500, l32_1000, l32_1001, l32_1002, l32_1024, l32_1200] <;> omega) | (simp only [i32add, i32sub, i32mul, l32_m8, l32_m5, l32_m2, l32_m1, l32_0, l32_1, l32_2, l32_3, l32_4, l32_5, l32_6, l32_7, l32_8, l32_9, l32_10, l32_11, l32_12, l32_14, l32_15, l32_16, l32_18, l32_20, l32_25, l32_28, l32_30, l32_32, l32_33, l32_36, l32_37, l32_40, l32_41, l32_42, l32_43, l32_45, l32_47, l32_48, l32_50, l32_56, l32_57, l32_59, l32_60, l32_61, l32_65, l32_66, l32_80, l32_90, l32_91, l32_93, l32_97, l32_100, l32_101, l32_102, l32_104, l32_105, l32_108, l32_110, l32_115, l32_119, l32_122, l32_123, l32_125, l32_126, l32_200, l32_220, l32_224, l32_225, l32_226, l32_255, l32_256, l32_257, l32_258, l32_259, l32_290, l32_359, l32_500, l32_1000, l32_1001, l32_1002, l32_1024, l32_1200] <;> omega) | (simp only [i32add, i32sub, i32mul, l32_m8, l32_m5, l32_m2, l32_m1, l32_0, l32_1, l32_2, l32_3, l32_4, l32_5, l32_6, l32_7, l32_8, l32_9, l32_10, l32_11, l32_12, l32_14, l32_15, l32_16, l32_18, l32_20, l32_25, l32_28, l32_30, l32_32, l32_33, l32_36, l32_37, l32_40, l32_41, l32_42, l32_43, l32_45, l32_47, l32_48, l32_50, l32_56, l32_57, l32_59, l32_60, l32_61, l32_65, l32_66, l32_80, l32_90, l32_91, l32_93, l32_97, l32_100, l32_101, l32_102, l32_104, l32_105, l32_108, l32_110, l32_115, l32_119, l32_122, l32_123, l32_125, l32_126, l32_200, l32_220, l32_224, l32_225, l32_226, l32_255, l32_256, l32_257, l32_258, l32_259, l32_290, l32_359, l32_500, l32_1000, l32_1001, l32_1002, l32_1024, l32_1200] at *; omega)); (case hv => (repeat (first | (apply Eq.trans (up2_nek (by decide))) | (apply Eq.trans (up2_nea (by decide))))) <;> first | exact up2_s | exact rfl))
    | ((with_reducible apply st_pI); (case hl => exact rfl); (case hk => exact rfl))
    | ((with_reducible apply st_bd2); (with_reducible apply s_q_in); intro r hb hr; try simp only [i3264, l64_m9223372036854775808, l64_m2147483648, l64_m100, l64_m10, l64_m1, l64_0, l64_1, l64_2, l64_3, l64_4, l64_5, l64_6, l64_10, l64_15, l64_17, l64_20, l64_27, l64_30, l64_32, l64_35, l64_40, l64_41, l64_48, l64_57, l64_65, l64_66, l64_90, l64_97, l64_100, l64_102, l64_116, l64_122, l64_126, l64_128, l64_500, l64_14592, l64_16384, l64_65536, l64_2147483647, l64_4294967295, l64_9223372036854775807] at hr; try dsimp only)
    | ((with_reducible apply s_q_in); intro r hb hr; try simp only [i3264, l64_m9223372036854775808, l64_m2147483648, l64_m100, l64_m10, l64_m1, l64_0, l64_1, l64_2, l64_3, l64_4, l64_5, l64_6, l64_10, l64_15, l64_17, l64_20, l64_27, l64_30, l64_32, l64_35, l64_40, l64_41, l64_48, l64_57, l64_65, l64_66, l64_90, l64_97, l64_100, l64_102, l64_116, l64_122, l64_126, l64_128, l64_500, l64_14592, l64_16384, l64_65536, l64_2147483647, l64_4294967295, l64_9223372036854775807] at hr)
    | ((with_reducible apply st_bd2); (with_reducible apply s_q_fail hR); try dsimp only)
    | ((with_reducible apply s_q_fail hR))
    | ((with_reducible apply st_bd2); (with_reducible apply s_q_warnings hR); intro r; try dsimp only)
    | ((with_reducible apply s_q_warnings hR); intro r)
    | ((with_reducible apply st_req); (case h => first | assumption | exact Or.inl rfl | exact Or.inr rfl | decide))
    | ((with_reducible refine st_ite (fun c => ?_) (fun c => ?_)) <;> (have c0 := c; try simp only [i32lt, i32le, i32eq, i32add, i32sub, i32mul, l32_m8, l32_m5, l32_m2, l32_m1, l32_0, l32_1, l32_2, l32_3, l32_4, l32_5, l32_6, l32_7, l32_8, l32_9, l32_10, l32_11, l32_12, l32_14, l32_15, l32_16, l32_18, l32_20, l32_25, l32_28, l32_30, l32_32, l32_33, l32_36, l32_37, l32_40, l32_41, l32_42, l32_43, l32_45, l32_47, l32_48, l32_50, l32_56, l32_57, l32_59, l32_60, l32_61, l32_65, l32_66, l32_80, l32_90, l32_91, l32_93, l32_97, l32_100, l32_101, l32_102, l32_104, l32_105, l32_108, l32_110, l32_115, l32_119, l32_122, l32_123, l32_125, l32_126, l32_200, l32_220, l32_224, l32_225, l32_226, l32_255, l32_256, l32_257, l32_258, l32_259, l32_290, l32_359, l32_500, l32_1000, l32_1001, l32_1002, l32_1024, l32_1200, i64lt, i64le, i64eq, i3264, l64_m9223372036854775808, l64_m2147483648, l64_m100, l64_m10, l64_m1, l64_0, l64_1, l64_2, l64_3, l64_4, l64_5, l64_6, l64_10, l64_15, l64_17, l64_20, l64_27, l64_30, l64_32, l64_35, l64_40, l64_41, l64_48, l64_57, l64_65, l64_66, l64_90, l64_97, l64_100, l64_102, l64_116, l64_122, l64_126, l64_128, l64_500, l64_14592, l64_16384, l64_65536, l64_2147483647, l64_4294967295, l64_9223372036854775807] at c))
    | (with_reducible refine st_some ?_)
    | (unfold f_q_count_94)
    | (exact k _ _ J hq.u5 QK.u5)
    | (exact absurd rfl c0)
    | (exact absurd c0 (by decide))
    | fail)
end QCL
