/-! The reference: whiles end. -/
section WHS
variable {lo hi : Nat} {d : Nat → Nat} {t : Nat} {I0 I I' : IM} {J0 J J' : JM} {R : RM}
def CT (I : IM) (s : Nat) : Int := (I 410 (6 * s + 0)).toInt + (I 410 (6 * s + 1)).toInt + (I 410 (6 * s + 2)).toInt + (I 410 (6 * s + 3)).toInt + (I 410 (6 * s + 4)).toInt + (I 410 (6 * s + 5)).toInt
def WP (t : Nat) (s : Int32) (m : Nat) (I : IM) (J : JM) : Prop := I 413 t = s ∧ ((I 414 t = 2 ∧ I 411 (4 + 3 * t) = 0 ∧ ((1 ≤ (I 415 t).toInt ∧ (I 415 t).toInt ≤ 21 ∧ (m : Int) = 100 - (I 415 t).toInt) ∨ (22 ≤ (I 415 t).toInt ∧ (I 415 t).toInt ≤ 22 + CT I (4 + 3 * t) ∧ AJ J (4 + 3 * t) ∧ (m : Int) = 66 - CT I (4 + 3 * t)))) ∨ (I 414 t = 3 ∧ 0 ≤ (I 415 t).toInt ∧ (I 415 t).toInt < (I 373 7).toInt ∧ (m : Int) = 10 + (I 373 7).toInt - (I 415 t).toInt) ∨ (I 414 t = 4 ∧ m = 1))
theorem b01i {x : Int32} (h : B01 x) : 0 ≤ x.toInt ∧ x.toInt ≤ 1 := by
  rcases h with rfl | rfl
  · decide
  · decide
theorem CT_b (hB : BI I) {s : Nat} (hs : s ≤ 15) : 0 ≤ CT I s ∧ CT I s ≤ 6 := by
  have h0 := b01i (hB.1 (6 * s + 0) (by omega))
  have h1 := b01i (hB.1 (6 * s + 1) (by omega))
  have h2 := b01i (hB.1 (6 * s + 2) (by omega))
  have h3 := b01i (hB.1 (6 * s + 3) (by omega))
  have h4 := b01i (hB.1 (6 * s + 4) (by omega))
  have h5 := b01i (hB.1 (6 * s + 5) (by omega))
  unfold CT; omega
theorem CT_eq {s : Nat} (h : ∀ i, i < 6 → I' 410 (6 * s + i) = I 410 (6 * s + i)) : CT I' s = CT I s := by
  unfold CT
  rw [h 0 (by decide), h 1 (by decide), h 2 (by decide), h 3 (by decide), h 4 (by decide), h 5 (by decide)]
theorem AJ_eq {s : Nat} (h : AJ J s) (he : ∀ i x, i < 14 → 406 ≤ x → x ≤ 409 → J' x (14 * s + i) = J x (14 * s + i)) : AJ J' s := by
  intro i hi
  unfold AL
  rw [he i 406 hi (by decide) (by decide), he i 407 hi (by decide) (by decide), he i 408 hi (by decide) (by decide), he i 409 hi (by decide) (by decide)]
  exact h i hi
theorem WP.same {s : Int32} {m : Nat} (h : WP t s m I J) (e1 : I' 413 t = I 413 t) (e2 : I' 414 t = I 414 t) (e3 : I' 415 t = I 415 t) (e4 : I' 411 (4 + 3 * t) = I 411 (4 + 3 * t)) (e5 : ∀ i, i < 6 → I' 410 (6 * (4 + 3 * t) + i) = I 410 (6 * (4 + 3 * t) + i)) (e6 : I' 373 7 = I 373 7) (e7 : ∀ i x, i < 14 → 406 ≤ x → x ≤ 409 → J' x (14 * (4 + 3 * t) + i) = J x (14 * (4 + 3 * t) + i)) : WP t s m I' J' := by
  unfold WP
  rw [e1, e2, e3, e4, e6, CT_eq e5]
  refine ⟨h.1, ?_⟩
  rcases h.2 with ⟨a, b, c | ⟨c1, c2, c3, c4⟩⟩ | c | c
  · exact Or.inl ⟨a, b, Or.inl c⟩
  · exact Or.inl ⟨a, b, Or.inr ⟨c1, c2, AJ_eq c3 e7, c4⟩⟩
  · exact Or.inr (Or.inl c)
  · exact Or.inr (Or.inr c)
theorem WP.ki {s : Int32} {m : Nat} (h : WP t s m I J) (ht : t ≤ 3) (hk : KI I I') (hj : JX SC J J') : WP t s m I' J' :=
  h.same (hk _ _ (by omega)) (hk _ _ (by omega)) (hk _ _ (by omega)) (hk _ _ (by omega)) (fun i hi => hk _ _ (by omega)) (hk _ _ (by omega)) (fun i x hi _ _ => hj.2 _ _ (by unfold SC; omega))
theorem WP.kp {s : Int32} {m : Nat} (h : WP t s m I J) (ht : t ≤ 3) (hk : KP (t + 1) I I') (hj : JX (SP (t + 1)) J J') : WP t s m I' J' :=
  h.same (hk _ _ (by omega)) (hk _ _ (by omega)) (hk _ _ (by omega)) (hk _ _ (by omega)) (fun i hi => hk _ _ (by omega)) (hk _ _ (by omega)) (fun i x hi _ _ => hj.2 _ _ (by unfold SP; omega))
theorem q_again (hR : QR R) (ho : OK lo hi d t (t + 1) I0 J0 I J) (ht : t ≤ 3) {a1 a2 : Int32} (ha : a2.toInt = 3 + 3 * t) (hs : 0 ≤ a1.toInt) (s1 : lo ≤ a1.toInt.toNat) (s2 : a1.toInt.toNat < hi) (hk : (I 376 a1.toInt.toNat).toInt = 4) {Q : (Int32 × WW) → Prop} (k : ∀ I' J', OK lo hi d t (t + 1) I0 J0 I' J' → KI I I' → JX SC J J' → Q (I' 384 a1.toInt.toNat, mk I' J' R)) : wp (f_q_again 373 a1 a2 (mk I J R)) Q := by
  have hi1 := ho.pg.1
  unfold f_q_again
  refine st_kb rfl (st_bd (q_cs hR ho (e := 0) (a := 4 + 3 * t) rfl (by rw [i32addc (by rw [ha, l32_1]; omega), ha, l32_1]; omega) (by decide) (by omega) (by omega) (by omega) (fun I1 J1 o1 c1 v1 => ?_)))
  refine st_bd (q_as hR o1 (by omega) hs s1 s2 (by rw [c1.1 376 _ (by omega), hk]; decide) (fun I2 J2 o2 c2 j2 => ?_))
  exact qn_17 hR (st_rI (n := 160) rfl (by omega) rfl (st_some (k _ _ o2 ((c1.ki (by decide)).trans c2) ((v1.sc (by decide)).trans j2))))
theorem q_endWhile_220 (hR : QR R) (ho : OK lo hi d t (t + 1) I0 J0 I J) (ht : t ≤ 3) {a1 a2 y3 : Int32} (ha : a2.toInt = 3 + 3 * t) (hy : y3.toInt = t) (hs : 0 ≤ a1.toInt) (s1 : lo ≤ a1.toInt.toNat) (s2 : a1.toInt.toNat < hi) (hk : (I 376 a1.toInt.toNat).toInt = 4) (hf : I 413 t = a1) (hp : I 414 t = 3) (hu : 0 ≤ (I 415 t).toInt ∧ (I 415 t).toInt ≤ (I 373 7).toInt) {m : Nat} (hm : 10 + (I 373 7).toInt - (I 415 t).toInt < m) {Q : (Int32 × WW) → Prop} (k : ∀ I' J' m', m' < m → OK lo hi d t (t + 1) I0 J0 I' J' → WP t a1 m' I' J' → Q (I' 384 a1.toInt.toNat, mk I' J' R)) : wp (f_q_endWhile_220 373 a1 a2 y3 (mk I J R)) Q := by
  have hnr := ho.nr
  have ey : y3.toInt.toNat = t := by omega
  unfold f_q_endWhile_220 f_q_endWhile_250
  refine qn_63 hR (st_rI (n := 8) (x := I 415 t) rfl (by omega) (by rw [ey]) (st_gI rfl rfl rfl (st_ite (fun c => ?_) (fun c => ?_))))
  · refine qn_62 hR (st_sI (n := 8) rfl (by omega) (st_gI rfl rfl (up2_nea (by decide)) (st_pI rfl rfl ?_)))
    rw [ey]
    have o1 := (ho.uf (x := 414) (j := t) (v := 4) (by decide) (Nat.le_refl t)).u3 (j := 65) (v := I 373 65 - 1) (by decide)
    refine st_bd2 (q_again hR o1 ht ha hs s1 s2 (by rw [up2_nea (by decide), up2_nea (by decide)]; exact hk) (fun I2 J2 o2 c2 j2 => st_some (k _ _ 1 (by omega) o2 (WP.ki ⟨?_, Or.inr (Or.inr ⟨?_, rfl⟩)⟩ ht c2 j2))))
    · rw [up2_nea (by decide), up2_nea (by decide)]; exact hf
    · rw [up2_nea (by decide), up2_s]
  · refine st_bd2 (q_again hR ho ht ha hs s1 s2 hk (fun I2 J2 o2 c2 j2 => st_some (k _ _ (10 + (I 373 7).toInt - (I 415 t).toInt).toNat (by omega) o2 (WP.ki ⟨hf, Or.inr (Or.inl ⟨hp, hu.1, ?_, by omega⟩)⟩ ht c2 j2))))
    rw [i32eq] at c; omega
theorem l_q_endWhile_127 (hR : QR R) {a1 a2 y3 : Int32} (hy : y3.toInt = t) (ht : t ≤ 3) {Q : (Int32 × WW) → Prop} (k : ∀ J', JX (fun i => 28 ≤ i ∧ i < 42) J0 J' → (20 < (I 415 t).toInt → AJ J' 2) → wp (f_q_endWhile_160 373 a1 a2 y3 (mk I J' R)) Q) : ∀ (n j : Nat) (y5 : Int32) (J : JM), JX (fun i => 28 ≤ i ∧ i < 42) J0 J → y5.toInt = j → j ≤ 14 → (∀ i, i < j → AL J (28 + i)) → 14 - j < n → wp (f_q_endWhile_127 n 373 a1 a2 y3 y5 (mk I J R)) Q := by
  intro n
  induction n with
  | zero => intros; omega
  | succ n ih =>
    intro j y5 J hj q1 q2 q3 hn
    have ey : y3.toInt.toNat = t := by omega
    rw [f_q_endWhile_127]
    refine st_ite (fun c => k _ hj (fun _ i hi => ?_)) (fun c => ?_)
    · rw [i32le, l32_14] at c
      exact q3 i (by omega)
    rw [i32le, l32_14] at c
    refine qn_63 hR (st_rI (n := 8) (x := I 415 t) rfl (by omega) (by rw [ey]) (st_ite (fun c2 => k _ hj (fun z => ?_)) (fun c2 => ?_)))
    · rw [i32le, l32_20] at c2; omega
    have e5 : ((28 : Int32) + y5).toInt = 28 + j := by rw [i32addc (by rw [l32_28]; omega), l32_28, q1]
    refine st_bd (s_q_all hR (by omega) ?_)
    rw [show ((28 : Int32) + y5).toInt.toNat = 28 + j by omega]
    refine ih (j + 1) _ _ (hj.p4 (VV_m (by decide)) ⟨by omega, by omega⟩) (by rw [i32add, l32_1]; omega) (by omega) (fun i hi => ?_) (by omega)
    by_cases ci : i = j
    · subst ci; exact AL_p4
    · exact (q3 i (by omega)).ne (by omega)
theorem q_endWhile_160 (hR : QR R) (ho : OK lo hi d t (t + 1) I0 J0 I J) (ht : t ≤ 3) {a1 a2 y3 : Int32} (ha : a2.toInt = 3 + 3 * t) (hy : y3.toInt = t) (hs : 0 ≤ a1.toInt) (s1 : lo ≤ a1.toInt.toNat) (s2 : a1.toInt.toNat < hi) (hk : (I 376 a1.toInt.toNat).toInt = 4) (hf : I 413 t = a1) (hp : I 414 t = 2) (hd : I 411 2 = 0) {m : Nat} (hu : (1 ≤ (I 415 t).toInt ∧ (I 415 t).toInt ≤ 20 ∧ 100 - (I 415 t).toInt ≤ m) ∨ ((I 415 t).toInt = 21 ∧ AJ J 2 ∧ 79 ≤ m) ∨ (22 ≤ (I 415 t).toInt ∧ (I 415 t).toInt < 22 + CT I 2 ∧ AJ J 2 ∧ 66 - CT I 2 < m)) {Q : (Int32 × WW) → Prop} (k : ∀ I' J' m', m' < m → OK lo hi d t (t + 1) I0 J0 I' J' → WP t a1 m' I' J' → Q (I' 384 a1.toInt.toNat, mk I' J' R)) : wp (f_q_endWhile_160 373 a1 a2 y3 (mk I J R)) Q := by
  have ey : y3.toInt.toNat = t := by omega
  unfold f_q_endWhile_160
  refine st_bd (q_cs hR ho (e := 4 + 3 * t) (a := 2) (by rw [i32addc (by rw [ha, l32_1]; omega), ha, l32_1]; omega) rfl (by omega) (by decide) (by omega) (by omega) (fun I1 J1 o1 c1 v1 => ?_))
  have f1 : I1 415 t = I 415 t := c1.1 _ _ (by omega)
  have f2 : I1 414 t = 2 := by rw [c1.1 _ _ (by omega)]; exact hp
  have f3 : I1 413 t = a1 := by rw [c1.1 _ _ (by omega)]; exact hf
  have f4 : I1 411 (4 + 3 * t) = 0 := by rw [c1.2.2]; exact hd
  have f5 : CT I1 (4 + 3 * t) = CT I 2 := by
    have g := c1.2.1
    unfold CT
    rw [g 0 (by decide), g 1 (by decide), g 2 (by decide), g 3 (by decide), g 4 (by decide), g 5 (by decide)]
  have f6 : AJ J 2 → AJ J1 (4 + 3 * t) := by
    intro h i hi
    unfold AL
    rw [v1.2 i hi 406 (by decide) (by decide), v1.2 i hi 407 (by decide) (by decide), v1.2 i hi 408 (by decide) (by decide), v1.2 i hi 409 (by decide) (by decide)]
    exact h i hi
  have hcb := CT_b ho.bi (s := 2) (by decide)
  refine qn_63 hR (st_rI (n := 8) (x := I 415 t) rfl (by omega) (by rw [ey]; exact f1) (st_sI (n := 8) rfl (by omega) ?_))
  rw [ey]
  have hu1 : (I 415 t + 1).toInt = (I 415 t).toInt + 1 := by rw [i32addc (by rw [l32_1]; omega), l32_1]
  have o2 := o1.uf (x := 415) (j := t) (v := I 415 t + 1) (by decide) (Nat.le_refl t)
  have g413 : up2 I1 415 t (I 415 t + 1) 413 t = a1 := by rw [up2_nea (by decide)]; exact f3
  have g414 : up2 I1 415 t (I 415 t + 1) 414 t = 2 := by rw [up2_nea (by decide)]; exact f2
  have g411 : up2 I1 415 t (I 415 t + 1) 411 (4 + 3 * t) = 0 := by rw [up2_nea (by decide)]; exact f4
  have gct : CT (up2 I1 415 t (I 415 t + 1)) (4 + 3 * t) = CT I 2 := by rw [CT_eq (fun i _ => up2_nea (by decide))]; exact f5
  have fin : ∀ m', m' < m → WP t a1 m' (up2 I1 415 t (I 415 t + 1)) J1 → wp (bd2 (f_q_again 373 a1 a2 (mk (up2 I1 415 t (I 415 t + 1)) J1 R)) fun x43 w42 => some (x43, w42)) Q := by
    intro m' hm' hw
    exact st_bd2 (q_again hR o2 ht ha hs s1 s2 (by rw [up2_nea (by decide), c1.1 _ _ (by omega)]; exact hk) (fun I3 J3 o3 c3 j3 => st_some (k _ _ m' hm' o3 (hw.ki ht c3 j3))))
  rcases hu with ⟨a, b, c⟩ | ⟨a, b, c⟩ | ⟨a, b, c, e⟩
  · exact fin (99 - (I 415 t).toInt).toNat (by omega) ⟨g413, Or.inl ⟨g414, g411, Or.inl (by rw [up2_s]; omega)⟩⟩
  · exact fin (66 - CT I 2).toNat (by omega) ⟨g413, Or.inl ⟨g414, g411, Or.inr ⟨by rw [up2_s]; omega, by rw [up2_s, gct]; omega, f6 b, by rw [gct]; omega⟩⟩⟩
  · exact fin (66 - CT I 2).toNat (by omega) ⟨g413, Or.inl ⟨g414, g411, Or.inr ⟨by rw [up2_s]; omega, by rw [up2_s, gct]; omega, f6 c, by rw [gct]; omega⟩⟩⟩
theorem JF_ge (hB : BI I) {a b i : Nat} (ha : a ≤ 15) (hb : b ≤ 15) (hi : i < 6) (hd : I 411 a = 0) : (I 410 (6 * a + i)).toInt ≤ (JF I a b i).toInt ∧ (JF I a b i).toInt ≤ 1 := by
  have h1 := b01i (hB.1 (6 * a + i) (by omega))
  unfold JF
  rw [if_pos hd]
  split
  · have h2 := b01i (or01_b (I 410 (6 * a + i)) (I 410 (6 * b + i)))
    refine ⟨?_, h2.2⟩
    unfold or01 at h2 ⊢
    split
    · rename_i z; rw [z]; split at h2
      · split at h2
        · rename_i _ z2; rw [if_pos z2]; decide
        · rename_i _ z2; rw [if_neg z2]; decide
      · rename_i z3; exact absurd z z3
    · rw [l32_1]; omega
  · exact ⟨Int.le_refl _, h1.2⟩
theorem CT_lt {K : IM} {a : Nat} {g : Nat → Int32} (hg : ∀ i, i < 6 → (I 410 (6 * a + i)).toInt ≤ (g i).toInt) (hk : ∀ i, i < 6 → K 410 (6 * 2 + i) = g i) (hx : ∃ i, i < 6 ∧ (I 410 (6 * a + i)).toInt ≠ (g i).toInt) : CT I a < CT K 2 := by
  have g0 := hg 0 (by decide)
  have g1 := hg 1 (by decide)
  have g2 := hg 2 (by decide)
  have g3 := hg 3 (by decide)
  have g4 := hg 4 (by decide)
  have g5 := hg 5 (by decide)
  unfold CT
  rw [hk 0 (by decide), hk 1 (by decide), hk 2 (by decide), hk 3 (by decide), hk 4 (by decide), hk 5 (by decide)]
  obtain ⟨i, hi, hne⟩ := hx
  rcases (show i = 0 ∨ i = 1 ∨ i = 2 ∨ i = 3 ∨ i = 4 ∨ i = 5 by omega) with rfl | rfl | rfl | rfl | rfl | rfl <;> omega
theorem q_endWhile (hR : QR R) (ho : OK lo hi d t (t + 1) I0 J0 I J) (ht : t ≤ 3) {a1 a2 : Int32} (ha : a2.toInt = 3 + 3 * t) (hs : 0 ≤ a1.toInt) (s1 : lo ≤ a1.toInt.toNat) (s2 : a1.toInt.toNat < hi) (hk : (I 376 a1.toInt.toNat).toInt = 4) {m : Nat} (hw : WP t a1 m I J) {Q : (Int32 × WW) → Prop} (k1 : ∀ I' J', OK lo hi d t t I0 J0 I' J' → Q (I' 386 a1.toInt.toNat, mk I' J' R)) (k2 : ∀ I' J' m', m' < m → OK lo hi d t (t + 1) I0 J0 I' J' → WP t a1 m' I' J' → Q (I' 384 a1.toInt.toNat, mk I' J' R)) : wp (f_q_endWhile 373 a1 a2 (mk I J R)) Q := by
  have hi1 := ho.pg.1
  have htp := ho.top
  have x1 : (I 373 64 - 1).toInt = t := by rw [i32subc (by rw [htp, l32_1]; omega), htp, l32_1]; omega
  have ex : (I 373 64 - 1).toInt.toNat = t := by omega
  have ha1 : (a2 + 1).toInt = ((4 + 3 * t : Nat) : Int) := by rw [i32addc (by rw [ha, l32_1]; omega), ha, l32_1]; omega
  unfold f_q_endWhile
  refine st_kb rfl (st_gI rfl rfl rfl (st_gI rfl rfl rfl (st_pI rfl rfl ?_)))
  have o1 := ho.u3 (j := 66) (v := I 373 66 + 1) (by decide)
  have w1 : WP t a1 m (up2 I 373 66 (I 373 66 + 1)) J := hw.same (up2_nea (by decide)) (up2_nea (by decide)) (up2_nea (by decide)) (up2_nea (by decide)) (fun _ _ => up2_nea (by decide)) (up2_nek (by decide)) (fun _ _ _ _ _ => rfl)
  have e376 : up2 I 373 66 (I 373 66 + 1) 376 a1.toInt.toNat = I 376 a1.toInt.toNat := up2_nea (by decide)
  rw [← e376] at hk
  generalize up2 I 373 66 (I 373 66 + 1) = K at o1 w1 hk ⊢
  clear hw ho
  refine qn_62 hR (st_rI (n := 8) (x := K 414 t) rfl (by omega) (by rw [ex]) (st_ite (fun c => ?_) (fun c => ?_)))
  · refine st_bd (q_cs hR o1 (e := 0) (a := 4 + 3 * t) rfl ha1 (by decide) (by omega) (by omega) (by omega) (fun I1 J1 o2 c2 v2 => ?_))
    refine st_bd (q_as hR o2 (by omega) hs s1 s2 (by rw [c2.1 376 _ (by omega), hk]; decide) (fun I2 J2 o3 c3 j3 => ?_))
    have htp3 := o3.top
    refine st_gI rfl rfl rfl (st_pI rfl rfl ?_)
    have o4 := o3.uT (v := I2 373 64 - 1) (tq := t) (by rw [i32subc (by rw [htp3, l32_1]; omega), htp3, l32_1]; omega)
    exact qn_19 hR (st_rI (n := 160) rfl (by omega) rfl (st_some (k1 _ _ o4)))
  refine st_bd (q_js hR o1 (e := 1) (a := 3 + 3 * t) (b := 0) rfl (by omega) rfl (by decide) (by omega) (by decide) (by omega) (by decide) (by omega) (fun I1 J1 o2 c2 j2 _ => ?_))
  have w2 : WP t a1 m I1 J1 := w1.same (c2.1 _ _ (by omega)) (c2.1 _ _ (by omega)) (c2.1 _ _ (by omega)) (c2.1 _ _ (by omega)) (fun i hi => c2.1 _ _ (by omega)) (c2.1 _ _ (by omega)) (fun i x hi _ _ => j2.2 _ _ (by omega))
  have hk2 : (I1 376 a1.toInt.toNat).toInt = 4 := by rw [c2.1 376 _ (by omega)]; exact hk
  have c' : ¬ I1 414 t = 4 := by rw [c2.1 414 t (by omega)]; exact c
  clear w1 hk c
  refine qn_62 hR (st_rI (n := 8) (x := I1 414 t) rfl (by omega) (by rw [ex]) (st_ite (fun c => ?_) (fun c => ?_)))
  · obtain ⟨hf, hph⟩ := w2
    have hph : I1 411 (4 + 3 * t) = 0 ∧ ((1 ≤ (I1 415 t).toInt ∧ (I1 415 t).toInt ≤ 21 ∧ (m : Int) = 100 - (I1 415 t).toInt) ∨ (22 ≤ (I1 415 t).toInt ∧ (I1 415 t).toInt ≤ 22 + CT I1 (4 + 3 * t) ∧ AJ J1 (4 + 3 * t) ∧ (m : Int) = 66 - CT I1 (4 + 3 * t))) := by
      rcases hph with z | z | z
      · exact z.2
      · exact absurd (c.symm.trans z.1) (by decide)
      · exact absurd (c.symm.trans z.1) (by decide)
    obtain ⟨hdv, hu⟩ := hph
    have hcv := CT_b o2.bi (s := 4 + 3 * t) (by omega)
    refine st_bd (q_js hR o2 (e := 2) (a := 4 + 3 * t) (b := 1) (a4 := 0) rfl ha1 rfl (by decide) (by omega) (by decide) (by omega) (by decide) (by omega) (fun I2 J2 o3 c3 j3 hA3 => ?_))
    have dead2 : ∀ (A B : IM), JSI 2 (4 + 3 * t) 1 A B → A 411 (4 + 3 * t) = 0 → B 411 2 = 0 := by
      intro A B h hz
      rw [h.2.2, JD, if_pos hz]
      split
      · rfl
      · exact hz
    refine st_bd2 (s_q_sameState hR (a := 2) (b := 4 + 3 * t) rfl ha1 (by decide) (by omega) (fun r hr hr0 => ?_))
    dsimp only
    have fV : ∀ i, i < 6 → I2 410 (6 * (4 + 3 * t) + i) = I1 410 (6 * (4 + 3 * t) + i) := fun i hi => c3.1 _ _ (by omega)
    have fD : I2 411 (4 + 3 * t) = I1 411 (4 + 3 * t) := c3.1 _ _ (by omega)
    have fD1 : I2 411 1 = I1 411 1 := c3.1 _ _ (by omega)
    have fW : ∀ i, i < 6 → I2 410 (6 * 1 + i) = I1 410 (6 * 1 + i) := fun i hi => c3.1 _ _ (by omega)
    have hJF : ∀ i, i < 6 → JF I2 (4 + 3 * t) 1 i = JF I1 (4 + 3 * t) 1 i := by
      intro i hi
      unfold JF
      rw [fD, fD1, fV i hi, fW i hi]
    have hge := fun i hi => JF_ge (b := 1) o2.bi (a := 4 + 3 * t) (i := i) (by omega) (by decide) hi hdv
    refine st_ite (fun cr => ?_) (fun cr => ?_)
    · have hx : 22 ≤ (I1 415 t).toInt → ∃ i, i < 6 ∧ (I1 410 (6 * (4 + 3 * t) + i)).toInt ≠ (JF I1 (4 + 3 * t) 1 i).toInt := by
        intro h22
        have hAJ : AJ J1 (4 + 3 * t) := by
          rcases hu with z | z
          · omega
          · exact z.2.2.1
        have a2 := hA3 rfl hdv hAJ
        have a3 : AJ J2 (4 + 3 * t) := AJ_eq hAJ (fun i x hi _ _ => j3.2 _ _ (by omega))
        obtain ⟨i, h6, hne⟩ := hr0 cr (dead2 _ _ c3 hdv) (by rw [fD]; exact hdv) (by
          intro i hi x x1 x2
          have p := a2 i hi
          have q := a3 i hi
          rcases (show x = 406 ∨ x = 407 ∨ x = 408 ∨ x = 409 by omega) with rfl | rfl | rfl | rfl
          · rw [p.1, q.1]
          · rw [p.2.1, q.2.1]
          · rw [p.2.2.1, q.2.2.1]
          · rw [p.2.2.2, q.2.2.2])
        refine ⟨i, h6, fun z => hne ?_⟩
        rw [c3.2.1 i h6, fV i h6]
        exact (i32eq.mpr z).symm
      have g415 : I2 415 t = I1 415 t := c3.1 _ _ (by omega)
      have go : ∀ K3 L3, OK lo hi d t (t + 1) I0 J0 K3 L3 → (∀ x j, (x ≠ 410 ∧ x ≠ 411) → K3 x j = I1 x j) → (∀ i, i < 6 → K3 410 (6 * 2 + i) = JF I1 (4 + 3 * t) 1 i) → K3 411 2 = 0 → wp (f_q_endWhile_124 373 a1 a2 (I 373 64 - 1) (mk K3 L3 R)) Q := by
        intro K3 L3 o4 hK hfl hd2
        unfold f_q_endWhile_124
        have k415 : K3 415 t = I1 415 t := hK _ _ (by omega)
        refine l_q_endWhile_127 (t := t) (J0 := L3) hR x1 ht (fun L4 j4 hA4 => ?_) KK 0 _ _ (JX.refl o4.vi) rfl (by decide) (fun i hi => absurd hi (by omega)) (by unfold KK; decide)
        have o5 : OK lo hi d t (t + 1) I0 J0 K3 L4 := o4.mk1 o4.bi (KP.refl _ _) rfl (j4.mono (fun i hi => by unfold SP; omega))
        refine q_endWhile_160 hR o5 ht ha x1 hs s1 s2 (by rw [hK 376 _ (by omega)]; exact hk2) (by rw [hK 413 _ (by omega)]; exact hf) (by rw [hK 414 _ (by omega)]; exact c) hd2 (m := m) ?_ k2
        rw [k415]
        rcases hu with z | z
        · by_cases h21 : (I1 415 t).toInt = 21
          · exact Or.inr (Or.inl ⟨h21, hA4 (by rw [k415]; omega), by omega⟩)
          · exact Or.inl (by omega)
        · have hlt : CT I1 (4 + 3 * t) < CT K3 2 := CT_lt (fun i hi => (hge i hi).1) hfl (hx z.1)
          exact Or.inr (Or.inr ⟨z.1, by omega, hA4 (by rw [k415]; omega), by omega⟩)
      refine qn_63 hR (st_rI (n := 8) (x := I1 415 t) rfl (by omega) (by rw [ex]; exact g415) (st_gI rfl rfl rfl (st_ite (fun c5 => ?_) (fun c5 => ?_))))
      · exact go _ _ o3 (fun x j hx => c3.1 x j (Or.inl hx)) (fun i hi => c3.2.1 i hi) (dead2 _ _ c3 hdv)
      · refine st_bd (q_js hR o3 (e := 2) (a := 4 + 3 * t) (b := 1) rfl ha1 rfl (by decide) (by omega) (by decide) (by omega) (by decide) (by omega) (fun I4 J4 o5 c5 j5 _ => ?_))
        exact go _ _ o5 (fun x j hx => (c5.1 x j (Or.inl hx)).trans (c3.1 x j (Or.inl hx))) (fun i hi => (c5.2.1 i hi).trans (hJF i hi)) (dead2 _ _ c5 (by rw [fD]; exact hdv))
    · refine qn_62 hR (st_sI (n := 8) rfl (by omega) (qn_63 hR (st_sI (n := 8) rfl (by omega) ?_)))
      rw [ex]
      have o4 := (o3.uf (x := 414) (j := t) (v := 3) (by decide) (Nat.le_refl t)).uf (x := 415) (j := t) (v := 0) (by decide) (Nat.le_refl t)
      have hnr := o4.nr
      refine q_endWhile_220 hR o4 ht ha x1 hs s1 s2 (by rw [up2_nea (by decide), up2_nea (by decide), c3.1 376 _ (by omega)]; exact hk2) (by rw [up2_nea (by decide), up2_nea (by decide), c3.1 413 _ (by omega)]; exact hf) (by rw [up2_nea (by decide), up2_s]) (by rw [up2_s, l32_0]; omega) (m := m) ?_ k2
      rw [up2_s, l32_0]
      omega
  · obtain ⟨hf, hph⟩ := w2
    have hph : I1 414 t = 3 ∧ 0 ≤ (I1 415 t).toInt ∧ (I1 415 t).toInt < (I1 373 7).toInt ∧ (m : Int) = 10 + (I1 373 7).toInt - (I1 415 t).toInt := by
      rcases hph with z | z | z
      · exact absurd z.1 c
      · exact z
      · exact absurd z.1 c'
    refine st_bd (q_cs hR o2 (e := 4 + 3 * t) (a := 1) ha1 rfl (by omega) (by decide) (by omega) (by omega) (fun I2 J2 o3 c3 v3 => ?_))
    have hnr := o3.nr
    have e7 : I2 373 7 = I1 373 7 := c3.1 _ _ (by omega)
    refine qn_63 hR (st_rI (n := 8) (x := I1 415 t) rfl (by omega) (by rw [ex]; exact c3.1 _ _ (by omega)) (st_sI (n := 8) rfl (by omega) ?_))
    rw [ex]
    have o4 := o3.uf (x := 415) (j := t) (v := I1 415 t + 1) (by decide) (Nat.le_refl t)
    have hu1 : (I1 415 t + 1).toInt = (I1 415 t).toInt + 1 := by rw [i32addc (by rw [l32_1]; rw [e7] at hnr; omega), l32_1]
    refine q_endWhile_220 hR o4 ht ha x1 hs s1 s2 (by rw [up2_nea (by decide), c3.1 376 _ (by omega)]; exact hk2) (by rw [up2_nea (by decide), c3.1 413 _ (by omega)]; exact hf) (by rw [up2_nea (by decide), c3.1 414 _ (by omega)]; exact hph.1) (by rw [up2_s, up2_nea (by decide), e7, hu1]; omega) (m := m) ?_ k2
    rw [up2_s, up2_nea (by decide), e7, hu1]
    omega
end WHS
