/-! The class: text, clear, input, forget, choose, with their answers. -/
theorem byte_bv (x : BitVec 64) (n : Nat) (hn : n ≤ 56) : (x >>> n).signExtend 32 &&& 255#32 = (x.sshiftRight n).signExtend 32 &&& 255#32 := by
  apply BitVec.eq_of_getLsbD_eq
  intro i hi
  by_cases h8 : i < 8
  · have h1 : n + i < 64 := by omega
    have h64 : i < 64 := by omega
    have e1 : (BitVec.signExtend 32 (x >>> n)).getLsbD i = x.getLsbD (n + i) := by
      rw [BitVec.getLsbD_signExtend, if_pos h64, BitVec.getLsbD_ushiftRight, decide_eq_true hi, Bool.true_and]
    have e2 : (BitVec.signExtend 32 (x.sshiftRight n)).getLsbD i = x.getLsbD (n + i) := by
      rw [BitVec.getLsbD_signExtend, if_pos h64, BitVec.getLsbD_sshiftRight, decide_eq_true hi, Bool.true_and, if_pos h1]
      have h3 : decide (64 ≤ i) = false := decide_eq_false (by omega)
      rw [h3, Bool.not_false, Bool.true_and]
    rw [BitVec.getLsbD_and, BitVec.getLsbD_and, e1, e2]
  · have h2 : (255#32).getLsbD i = false := by
      rw [BitVec.getLsbD_ofNat]
      have : Nat.testBit 255 i = false := Nat.testBit_lt_two_pow (Nat.lt_of_lt_of_le (by decide : 255 < 2 ^ 8) (Nat.pow_le_pow_right (by decide) (by omega)))
      simp [this]
    simp [h2]
def cb (a : Int64) (s : Int32) : Int32 := (Int64.toInt32 ((Int64.toUInt64 a >>> ((Int32.toInt64 s).toUInt64 &&& Int64.toUInt64 63)).toInt64)) &&& (255 : Int32)
theorem cb_s (a : Int64) (s : Int32) (n : Nat) (hn : n ≤ 56) (hu : (((Int32.toInt64 s).toUInt64 &&& Int64.toUInt64 63).toBitVec % 64#64).toNat = n) (hi : ((Int32.toInt64 s &&& 63).toBitVec.smod 64#64).toNat = n) : cb a s = byt a s := by
  apply Int32.toBitVec_inj.mp
  have h1 : (cb a s).toBitVec = (a.toBitVec >>> n).signExtend 32 &&& 255#32 := by
    unfold cb
    rw [Int32.toBitVec_and, Int64.toBitVec_toInt32]
    show BitVec.signExtend 32 ((Int64.toUInt64 a >>> ((Int32.toInt64 s).toUInt64 &&& Int64.toUInt64 63)).toBitVec) &&& 255#32 = _
    rw [UInt64.toBitVec_shiftRight]
    show BitVec.signExtend 32 (a.toBitVec >>> (((Int32.toInt64 s).toUInt64 &&& Int64.toUInt64 63).toBitVec % 64#64).toNat) &&& 255#32 = _
    rw [hu]
  have h2 : (byt a s).toBitVec = (a.toBitVec.sshiftRight n).signExtend 32 &&& 255#32 := by
    unfold byt
    rw [Int32.toBitVec_and, Int64.toBitVec_toInt32, Int64.toBitVec_shiftRight]
    show BitVec.signExtend 32 (a.toBitVec.sshiftRight ((Int32.toInt64 s &&& 63).toBitVec.smod 64#64).toNat) &&& 255#32 = _
    rw [hi]
  rw [h1, h2]
  exact byte_bv _ n hn
set_option maxRecDepth 100000 in
theorem cb_byt (a : Int64) : ∀ m, m < 8 → cb a (Int32.ofNat (8 * m)) = byt a (Int32.ofNat (8 * m)) := by
  intro m hm
  have h : ∀ m, m < 8 → (((Int32.toInt64 (Int32.ofNat (8 * m))).toUInt64 &&& Int64.toUInt64 63).toBitVec % 64#64).toNat = 8 * m ∧ ((Int32.toInt64 (Int32.ofNat (8 * m)) &&& 63).toBitVec.smod 64#64).toNat = 8 * m := by decide +kernel
  exact cb_s a _ (8 * m) (by omega) (h m hm).1 (h m hm).2
theorem nrc_tab : (List.range 256).all (fun n => decide (vp_nar .char ((Int32.toUInt32 (Int32.ofNat n) % 65536).toInt32) = Int32.ofNat n)) = true := by decide +kernel
theorem nrc {x : Int32} (h : 0 ≤ x.toInt ∧ x.toInt ≤ 255) : vp_nar .char ((Int32.toUInt32 x % 65536).toInt32) = x := by
  have e : x = Int32.ofNat x.toInt.toNat := i32eq.mpr (by rw [n_toInt (by omega)]; omega)
  have q := of_decide_eq_true (allb nrc_tab (a := x.toInt.toNat) (by omega))
  rw [← e] at q
  exact q
section CEX
variable {I I' : IM} {J J' : JM} {R : RM}
theorem rfqN {a k : Nat} (h : LT a ≠ some oT) (h2 : a ≠ 4 ∧ a ≠ 5 ∧ a ≠ 6 ∧ a ≠ 59 ∧ a ≠ 60 ∧ a ≠ 114 ∧ a ≠ 115) : rfq a k = true := by
  have : decide (LT a = some oT) = false := decide_eq_false h
  simp only [rfq, this, Bool.false_and, Bool.not_false, Bool.and_true, Bool.and_eq_true, bne_iff_ne, ne_eq]
  omega
theorem x_isChar {c : Int32} {w : WW} {Q : (Int32 × WW) → Prop} (k1 : (c = 10 ∨ (32 ≤ c.toInt ∧ c.toInt ≤ 126)) → Q (1, w)) (k0 : ¬ (c = 10 ∨ (32 ≤ c.toInt ∧ c.toInt ≤ 126)) → Q (0, w)) : wp (f_a_isCharacter c w) Q := by
  unfold f_a_isCharacter f_a_isCharacter_18 f_a_isCharacter_22 f_a_isCharacter_23
  refine st_ite (fun c1 => st_req (Or.inr rfl) (st_some (k1 (Or.inl c1)))) (fun c1 => st_ite (fun c2 => st_req (Or.inl rfl) (st_some (k0 (fun z => ?_)))) (fun c2 => st_ite (fun c3 => st_req (Or.inl rfl) (st_some (k0 (fun z => ?_)))) (fun c3 => st_req (Or.inr rfl) (st_some (k1 (Or.inr ?_))))))
  · rw [i32lt, l32_32] at c2
    rcases z with z | z
    · exact c1 z
    · omega
  · rw [i32lt, l32_126] at c3
    rcases z with z | z
    · exact c1 z
    · omega
  · rw [i32lt, l32_32] at c2
    rw [i32lt, l32_126] at c3
    omega
/-- the TEXT's characters and its length may change -/
def TX (I I' : IM) : Prop := ∀ a k, a ≠ 3 → (a ≠ 2 ∨ k ≠ 4) → I' a k = I a k
theorem TX.trans {I'' : IM} (h : TX I I') (h2 : TX I' I'') : TX I I'' := fun a k x y => (h2 a k x y).trans (h a k x y)
set_option maxRecDepth 100000 in
theorem x_len (h : CI 0 I J I J R) : 0 ≤ (I 2 4).toInt ∧ (I 2 4).toInt ≤ 200 := (ti_r (a := 2) (k := 4) rfl).mp (h.ty (a := 2) (k := 4) (by decide) (by decide +kernel))
set_option maxRecDepth 100000 in
theorem x_inc (h : CI 0 I J I J R) : 0 ≤ (I 117 5).toInt ∧ (I 117 5).toInt ≤ 8 := (ti_r (a := 117) (k := 5) rfl).mp (h.ty (a := 117) (k := 5) (by decide) (by decide +kernel))
set_option maxRecDepth 100000 in
theorem x_append (h : CI 0 I J I J R) {c : Int32} (hl : (I 2 4).toInt < 200) {Q : WW → Prop} (k : ∀ I', TX I I' → CI 0 I' J I' J R → (I' 2 4).toInt = (I 2 4).toInt + 1 → (I' 3 = fun j => if j = (I 2 4).toInt.toNat then vp_nar .char c else I 3 j) → Q (mk I' J R)) : wp (f_rd_append 2 c (mk I J R)) Q := by
  have hb := x_len h
  unfold f_rd_append f_rd_append_30
  refine st_kb rfl (st_gI rfl rfl rfl (st_ite (fun z => ?_) (fun _ => ?_)))
  · rw [i32le, l32_200] at z; omega
  have x4 : (I 2 4 + 1).toInt = (I 2 4).toInt + 1 := by rw [i32addc (by rw [l32_1]; omega), l32_1]
  refine sn_2_0 h (st_gI rfl rfl rfl (st_sI (n := 200) rfl (by omega) (st_gI rfl rfl (up2_nea (by decide)) (st_pI rfl rfl (st_some (k _ (fun a j u1 u2 => ?_) ?_ ?_ ?_))))))
  · rw [up2_ne _ _ (by omega), up2_nea u1]
  · exact (h.re (a := 3) (by decide) ((ti_l (a := 3) rfl).mpr trivial) (rfqN (by intro z; cases z) (by decide))).re (a := 2) (k := 4) (by decide) ((ti_r (a := 2) (k := 4) rfl).mpr (show rg 0 200 (I 2 4 + 1) from ⟨by omega, by omega⟩)) (by decide +kernel)
  · rw [up2_s]; exact x4
  · funext j
    rw [up2_nea (by decide)]
    by_cases z : j = (I 2 4).toInt.toNat
    · rw [if_pos z, z, up2_s]
    · rw [if_neg z, up2_nek z]
theorem l_a_text_86 {a1 : Int64} (hG : GBy a1) {I0 : IM} {T : Int} (hT : T ≤ 200) {c8 : Nat → Int32} {Q : ((Int32 ⊕ String) × WW) → Prop} (k : ∀ I', TX I0 I' → CI 0 I' J I' J R → (I' 2 4).toInt = T → I' 3 = c8 → Q (.inl (I' 2 4), mk I' J R)) : ∀ (N n : Nat) (y4 : Int32) (I : IM), TX I0 I → CI 0 I J I J R → y4.toInt = 8 * (n : Int) - 8 → n ≤ 8 → (I 2 4).toInt + nb a1 n = T → (apn a1 n (I 3, (I 2 4).toInt.toNat)).1 = c8 → n < N → wp (f_a_text_86 N 0 a1 y4 (mk I J R)) Q := by
  intro N
  induction N with
  | zero => intros; omega
  | succ N ih =>
    intro n y4 I e h hy hn hs hA hN
    rw [f_a_text_86]
    unfold f_a_text_114 f_a_byteAt
    have hb0 := nb_b a1 n
    refine st_ite (fun c => ?_) (fun c => ?_)
    · rw [i32lt, l32_0] at c
      have n0 : n = 0 := by omega
      subst n0
      have hz : nb a1 0 = 0 := rfl
      exact sn_0_3 h (st_gI rfl rfl rfl (st_some (k I e h (by omega) hA)))
    rw [i32lt, l32_0] at c
    obtain ⟨m, rfl⟩ : ∃ m, n = m + 1 := ⟨n - 1, by omega⟩
    have e5 : y4 = Int32.ofNat (8 * m) := y_of (by omega) (by omega)
    have hcb : cb a1 y4 = byt a1 y4 := by rw [e5]; exact cb_byt a1 m (by omega)
    have y8 : (y4 + (-8)).toInt = 8 * (m : Int) - 8 := by rw [i32addc (by rw [l32_m8]; omega), l32_m8]; omega
    have hb := nb_b a1 m
    have hok := hG m (by omega)
    have hlb := x_len h
    rw [nb_s a1 m, ← e5, ← hcb] at hs
    rw [apn_s a1 m, ← e5, ← hcb] at hA
    rw [← e5, ← hcb] at hok
    refine st_bd2 (st_some ?_)
    show wp (if cb a1 y4 = 0 then _ else _) Q
    refine st_ite (fun cz => ?_) (fun cz => ?_)
    · rw [if_pos cz] at hs hA
      exact ih m _ I e h y8 (by omega) (by omega) hA (by omega)
    · rw [if_neg cz] at hs hA
      have hv : 0 ≤ (cb a1 y4).toInt ∧ (cb a1 y4).toInt ≤ 255 := by
        rcases hok with z | z | z
        · exact absurd z cz
        · rw [z, l32_10]; omega
        · omega
      refine sn_0_3 h (st_bd (x_append h (by omega) (fun I' e' h' l' r3 => ?_)))
      have e3 : I' 3 = fun j => if j = (I 2 4).toInt.toNat then cb a1 y4 else I 3 j := r3.trans (by
        show (fun j => if j = (I 2 4).toInt.toNat then vp_nar .char ((Int32.toUInt32 (cb a1 y4) % 65536).toInt32) else I 3 j) = fun j => if j = (I 2 4).toInt.toNat then cb a1 y4 else I 3 j
        rw [nrc hv])
      have l2n : (I' 2 4).toInt.toNat = (I 2 4).toInt.toNat + 1 := by omega
      exact ih m _ I' (e.trans e') h' y8 (by omega) (by omega) (by rw [e3, l2n]; exact hA) (by omega)
theorem l_a_text_6 {a1 : Int64} (h : CI 0 I J I J R) {Q : ((Int32 ⊕ String) × WW) → Prop} (k1 : ¬ GBy a1 → Q (.inr "java/lang/IllegalArgumentException", mk I J R)) (k2 : GBy a1 → 200 < (I 2 4).toInt + nb a1 8 → Q (.inr "java/lang/IllegalStateException", mk I J R)) (k3 : GBy a1 → (I 2 4).toInt + nb a1 8 ≤ 200 → ∀ I', TX I I' → CI 0 I' J I' J R → (I' 2 4).toInt = (I 2 4).toInt + nb a1 8 → I' 3 = (apn a1 8 (I 3, (I 2 4).toInt.toNat)).1 → Q (.inl (I' 2 4), mk I' J R)) : ∀ (N n : Nat) (y3 y4 : Int32), y3.toInt = nb a1 8 - nb a1 n → (∀ i, n ≤ i → i < 8 → okb (byt a1 (Int32.ofNat (8 * i)))) → y4.toInt = 8 * (n : Int) - 8 → n ≤ 8 → n < N → wp (f_a_text_6 N 0 a1 y3 y4 (mk I J R)) Q := by
  intro N
  induction N with
  | zero => intros; omega
  | succ N ih =>
    intro n y3 y4 h3 h4 hy hn hN
    have b8 := nb_b a1 8
    have hl := x_len h
    rw [f_a_text_6]
    unfold f_a_text_40 f_a_text_51 f_a_byteAt
    refine st_ite (fun c => ?_) (fun c => ?_)
    · rw [i32lt, l32_0] at c
      have n0 : n = 0 := by omega
      subst n0
      have hz : nb a1 0 = 0 := rfl
      have hG : GBy a1 := fun i hi => h4 i (by omega) hi
      refine sn_0_3 h (st_gI rfl rfl rfl (st_ite (fun c2 => ?_) (fun c2 => st_some (k2 hG ?_))))
      · rw [i32le, l32_200, i32addc (by omega)] at c2
        exact l_a_text_86 hG (I0 := I) (T := (I 2 4).toInt + nb a1 8) (c8 := (apn a1 8 (I 3, (I 2 4).toInt.toNat)).1) (by omega) (fun I' e h' l' r3 => k3 hG (by omega) I' e h' l' r3) KK 8 _ I (fun _ _ _ _ => rfl) h rfl (by decide) rfl rfl (by unfold KK; decide)
      · rw [i32le, l32_200, i32addc (by omega)] at c2; omega
    rw [i32lt, l32_0] at c
    obtain ⟨m, rfl⟩ : ∃ m, n = m + 1 := ⟨n - 1, by omega⟩
    have e5 : y4 = Int32.ofNat (8 * m) := y_of (by omega) (by omega)
    have hcb : cb a1 y4 = byt a1 y4 := by rw [e5]; exact cb_byt a1 m (by omega)
    have y8 : (y4 + (-8)).toInt = 8 * (m : Int) - 8 := by rw [i32addc (by rw [l32_m8]; omega), l32_m8]; omega
    have hb := nb_b a1 m
    rw [nb_s a1 m, ← e5, ← hcb] at h3
    have keep : okb (byt a1 y4) → ∀ i, m ≤ i → i < 8 → okb (byt a1 (Int32.ofNat (8 * i))) := by
      intro ho i i1 i2
      by_cases ci : i = m
      · subst ci; rw [← e5]; exact ho
      · exact h4 i (by omega) i2
    refine st_bd2 (st_some ?_)
    show wp (if cb a1 y4 = 0 then (if cb a1 y4 = 0 then f_a_text_6 N 0 a1 (y3 + 0) (y4 + (-8)) (mk I J R) else f_a_text_6 N 0 a1 (y3 + 1) (y4 + (-8)) (mk I J R)) else bd2 (f_a_isCharacter (cb a1 y4) (mk I J R)) fun x18 w17 => if x18 = 0 then some (.inr "java/lang/IllegalArgumentException", w17) else (if cb a1 y4 = 0 then f_a_text_6 N 0 a1 (y3 + 0) (y4 + (-8)) w17 else f_a_text_6 N 0 a1 (y3 + 1) (y4 + (-8)) w17)) Q
    refine st_ite (fun cz => ?_) (fun cz => ?_)
    · rw [if_pos cz] at h3
      rw [if_pos cz]
      exact ih m _ _ (by rw [i32addc (by rw [l32_0]; omega), l32_0]; omega) (keep (Or.inl (by rw [← hcb]; exact cz))) y8 (by omega) (by omega)
    · rw [if_neg cz] at h3
      refine st_bd2 (x_isChar (fun hc => ?_) (fun hc => ?_))
      · dsimp only
        rw [if_neg (by decide), if_neg cz]
        rw [hcb] at hc
        exact ih m _ _ (by rw [i32addc (by rw [l32_1]; omega), l32_1]; omega) (keep (Or.inr hc)) y8 (by omega) (by omega)
      · dsimp only
        rw [if_pos rfl]
        refine st_some (k1 (fun hG => ?_))
        have := hG m (by omega)
        rw [← e5, ← hcb] at this
        rcases this with z | z
        · exact cz z
        · exact hc z
theorem x_text {a1 : Int64} (h : CI 0 I J I J R) {Q : ((Int32 ⊕ String) × WW) → Prop} (k1 : ¬ GBy a1 → Q (.inr "java/lang/IllegalArgumentException", mk I J R)) (k2 : GBy a1 → 200 < (I 2 4).toInt + nb a1 8 → Q (.inr "java/lang/IllegalStateException", mk I J R)) (k3 : GBy a1 → (I 2 4).toInt + nb a1 8 ≤ 200 → ∀ I', TX I I' → CI 0 I' J I' J R → (I' 2 4).toInt = (I 2 4).toInt + nb a1 8 → I' 3 = (apn a1 8 (I 3, (I 2 4).toInt.toNat)).1 → Q (.inl (I' 2 4), mk I' J R)) : wp (f_a_text 0 a1 (mk I J R)) Q := by
  unfold f_a_text
  exact st_kb rfl (l_a_text_6 h k1 k2 k3 KK 8 _ _ (by rw [l32_0]; omega) (fun i i1 i2 => by omega) rfl (by decide) (by unfold KK; decide))
set_option maxRecDepth 100000 in
theorem x_clear (h : CI 0 I J I J R) {Q : (Int32 × WW) → Prop} (k : CI 0 (up2 I 2 4 0) J (up2 I 2 4 0) J R → Q (I 2 4, mk (up2 I 2 4 0) J R)) : wp (f_a_clear 0 (mk I J R)) Q := by
  unfold f_a_clear
  exact st_kb rfl (sn_0_3 h (st_gI rfl rfl rfl (sn_0_3 h (st_pI rfl rfl (st_some (k (h.re (a := 2) (k := 4) (by decide) ((ti_r (a := 2) (k := 4) rfl).mpr (show rg 0 200 0 by decide)) (by decide +kernel))))))))
set_option maxRecDepth 100000 in
theorem x_forget (h : CI 0 I J I J R) {Q : (Int32 × WW) → Prop} (k : CI 0 (up2 I 117 5 0) J (up2 I 117 5 0) J R → Q (I 117 5, mk (up2 I 117 5 0) J R)) : wp (f_a_forget 0 (mk I J R)) Q := by
  unfold f_a_forget
  exact st_kb rfl (sn_0_7 h (st_gI rfl rfl rfl (sn_0_7 h (st_pI rfl rfl (st_some (k (h.re (a := 117) (k := 5) (by decide) ((ti_r (a := 117) (k := 5) rfl).mpr (show rg 0 8 0 by decide)) (by decide +kernel))))))))
set_option maxRecDepth 100000 in
theorem x_input {a1 : Int32} (h : CI 0 I J I J R) {Q : ((Int32 ⊕ String) × WW) → Prop} (k1 : (I 117 5).toInt = 8 → Q (.inr "java/lang/IllegalStateException", mk I J R)) (k2 : (I 117 5).toInt < 8 → ∀ I', (∀ a k, a ≠ 122 → (a ≠ 117 ∨ k ≠ 5) → I' a k = I a k) → CI 0 I' J I' J R → I' 117 5 = I 117 5 + 1 → (∀ j, I' 122 j = if j = (I 117 5).toInt.toNat then a1 else I 122 j) → Q (.inl (I 117 5 + 1), mk I' J R)) : wp (f_a_input 0 a1 (mk I J R)) Q := by
  have hb := x_inc h
  unfold f_a_input f_ru_addInput f_ru_addInput_29
  refine st_kb rfl (sn_0_7 h (st_gI rfl rfl rfl (st_ite (fun c => ?_) (fun c => st_some (k1 ?_)))))
  · rw [i32lt, l32_8] at c
    have x5 : (I 117 5 + 1).toInt = (I 117 5).toInt + 1 := by rw [i32addc (by rw [l32_1]; omega), l32_1]
    refine sn_0_7 h (st_bd (st_kb rfl (st_gI rfl rfl rfl (st_ite (fun z => ?_) (fun _ => ?_)))))
    · rw [i32le, l32_8] at z; omega
    refine sn_117_4 h (st_gI rfl rfl rfl (st_sI (n := 8) rfl (by omega) (st_gI rfl rfl (up2_nea (by decide)) (st_pI rfl rfl (st_some ?_)))))
    have hC := (h.re (a := 122) (k := (I 117 5).toInt.toNat) (x := a1) (by decide) ((ti_l (a := 122) rfl).mpr trivial) (rfqN (by intro z; cases z) (by decide))).re (a := 117) (k := 5) (x := I 117 5 + 1) (by decide) ((ti_r (a := 117) (k := 5) rfl).mpr (show rg 0 8 (I 117 5 + 1) from ⟨by omega, by omega⟩)) (by decide +kernel)
    refine sn_0_7 hC (st_gI rfl rfl up2_s (st_some (k2 (by omega) _ (fun a j u1 u2 => ?_) hC up2_s (fun j => ?_))))
    · rw [up2_ne _ _ (by omega), up2_nea u1]
    · rw [up2_nea (by decide)]
      by_cases z : j = (I 117 5).toInt.toNat
      · rw [if_pos z, z, up2_s]
      · rw [if_neg z, up2_nek z]
  · rw [i32lt, l32_8] at c; omega
set_option maxRecDepth 100000 in
theorem x_choose {a b : Int32} (h : CI 0 I J I J R) {Q : ((Int32 ⊕ String) × WW) → Prop} (k1 : (a.toInt < 0 ∨ 1 < a.toInt ∨ b.toInt < 0 ∨ 5 < b.toInt) → Q (.inr "java/lang/IllegalArgumentException", mk I J R)) (k2 : (0 ≤ b.toInt ∧ b.toInt ≤ 5) → a = 0 → CI 0 (up2 I 0 0 b) J (up2 I 0 0 b) J R → Q (.inl (I 0 0), mk (up2 I 0 0 b) J R)) (k3 : (0 ≤ b.toInt ∧ b.toInt ≤ 5) → a = 1 → CI 0 (up2 I 0 1 b) J (up2 I 0 1 b) J R → Q (.inl (I 0 1), mk (up2 I 0 1 b) J R)) : wp (f_a_choose 0 a b (mk I J R)) Q := by
  unfold f_a_choose f_a_choose_18 f_a_choose_53
  refine st_kb rfl (st_ite (fun c => st_some (k1 (by rw [i32lt, l32_0] at c; omega))) (fun c1 => st_ite (fun c => st_some (k1 (by rw [i32lt, l32_1] at c; omega))) (fun c2 => st_ite (fun c => st_some (k1 (by rw [i32lt, l32_0] at c; omega))) (fun c3 => st_ite (fun c4 => ?_) (fun c => st_some (k1 (by rw [i32le, l32_5] at c; omega)))))))
  rw [i32lt, l32_0] at c1 c3
  rw [i32lt, l32_1] at c2
  rw [i32le, l32_5] at c4
  refine st_ite (fun z => ?_) (fun z => ?_)
  · exact st_gI rfl rfl rfl (st_pI rfl rfl (st_some (k2 (by omega) z (h.re (a := 0) (k := 0) (by decide) ((ti_r (a := 0) (k := 0) rfl).mpr (show rg 0 5 b from ⟨by omega, by omega⟩)) (by decide +kernel)))))
  · refine st_gI rfl rfl rfl (st_pI rfl rfl (st_some (k3 (by omega) (i32eq.mpr ?_) (h.re (a := 0) (k := 1) (by decide) ((ti_r (a := 0) (k := 1) rfl).mpr (show rg 0 5 b from ⟨by omega, by omega⟩)) (by decide +kernel)))))
    rw [i32eq, l32_0] at z
    rw [l32_1]; omega
set_option maxRecDepth 100000 in
theorem x_where (h : CI 0 I J I J R) {Q : (Int32 × WW) → Prop} (k : Q (I 1 3, mk I J R)) : wp (f_a_where 0 (mk I J R)) Q := by
  unfold f_a_where
  exact st_kb rfl (sn_0_2 h (st_gI rfl rfl rfl (st_some k)))
end CEX
/-- analyse, and which references it sets -/
theorem y_goThrough {I0 : IM} {J0 : JM} {I : IM} {J : JM} {R : RM} {p : Nat} {a2 a3 : Int32} (h : CI 123 I0 J0 I J R) (hp : isP p) (h3 : 0 ≤ a3.toInt ∧ a3.toInt ≤ 5) {Q : WW → Prop} (k : ∀ (I : IM) (J : JM), CI 123 I0 J0 I J (up2 R 123 4 (some p)) → Q (mk I J (up2 R 123 4 (some p)))) : wp (f_an_goThrough 123 p a2 a3 (mk I J R)) Q := by
  unfold f_an_goThrough
  refine st_kb rfl (st_pR (x := some p) rfl rfl ?_)
  have h := h.wRp (a := 123) (k := 4) hp (Or.inr (Or.inr (Or.inl ⟨rfl, rfl⟩)))
  refine sw_I h rfl rfl (wt_123_5 (by decide)) (fun h => ?_)
  refine sw_I h rfl rfl (wt_123_6 (by decide) h3) (fun h => ?_)
  exact l_an_goThrough_18 up2_s hp (fun I J h => k _ _ h) KK _ _ _ h (by decide) (by unfold KK; decide)
theorem y_analyse {I0 : IM} {J0 : JM} {I : IM} {J : JM} {R : RM} (h : CI 123 I0 J0 I J R) {Q : ((Int32 ⊕ String) × WW) → Prop} (k : ∀ (r : Int32) (I : IM) (J : JM) (R' : RM), CI 123 I0 J0 I J R' → (∀ y j, y < 123 → R' y j = R y j) → Q (.inl r, mk I J R')) (kx : ∀ (E : String) (I : IM) (J : JM), CI 123 I0 J0 I J R → E = "java/lang/IllegalStateException" → Q (.inr E, mk I J R)) : wp (f_a_analyse 0 (mk I J R)) Q := by
  unfold f_a_analyse
  refine st_kb rfl (st_gI rfl rfl rfl (st_ite (fun c => st_some (kx _ _ _ h rfl)) (fun c => ?_)))
  refine sn_0_8 h (sn_0_4 h (fun p hp _ => sg_0_0 h rfl (fun _ => sg_0_1 h rfl (fun q => ?_))))
  refine st_bd (y_goThrough h hp q (fun I J h => ?_))
  exact sn_0_8 h (st_gI rfl rfl rfl (st_some (k _ _ _ _ h (fun y j hy => up2_nea (by omega)))))
