/-! The reference: STATES joined and compared. -/
def AL (J : JM) (i : Nat) : Prop := J 406 i = -2147483648 ∧ J 407 i = 2147483647 ∧ J 408 i = 1 ∧ J 409 i = 0
theorem AL_p4 {J : JM} {d : Nat} : AL (P4 J d (-2147483648) 2147483647 1 0) d := ⟨P4_a, P4_b, P4_m, P4_r⟩
theorem AL.ne {J : JM} {d i : Nat} {a b m r : Int64} (h : AL J i) (hi : i ≠ d) : AL (P4 J d a b m r) i := by
  unfold AL
  rw [P4_ne (by omega), P4_ne (by omega), P4_ne (by omega), P4_ne (by omega)]
  exact h
theorem l_gcd1 {w : WW} {Q : (Int64 × WW) → Prop} (k : Q (1, w)) {y : Int64} (hy : y.toInt ≠ -1) (n : Nat) : wp (f_q_gcd_28 (n + 3) 1 y w) Q := by
  rw [f_q_gcd_28]
  refine st_ite (fun c => st_some k) (fun c => st_req c ?_)
  have c' : y.toInt ≠ 0 := fun z => c (i64eq.mpr z)
  have hr := rem64 (x := 1) c
  rw [l64_1] at hr
  have h0 : 0 ≤ Int.tmod 1 y.toInt := Int.tmod_nonneg _ (by decide)
  have hn : (Int.tmod 1 y.toInt).natAbs = 1 % y.toInt.natAbs := by rw [Int.natAbs_tmod]; rfl
  by_cases c1 : y.toInt = 1
  · have e : y = 1 := i64eq.mpr c1
    subst e
    have e0 : (1 - 1 / 1 * 1 : Int64) = 0 := by decide
    rw [e0, f_q_gcd_28, if_pos rfl]
    exact st_some k
  · have h1 : 1 % y.toInt.natAbs = 1 := Nat.mod_eq_of_lt (by omega)
    have e1 : (1 - 1 / y * y) = 1 := i64eq.mpr (by rw [hr, l64_1]; omega)
    rw [e1, f_q_gcd_28]
    refine st_ite (fun z => absurd z (by decide)) (fun _ => st_req (by decide) ?_)
    have hr2 := rem64 (x := y) (y := 1) (by decide)
    rw [l64_1, Int.tmod_one] at hr2
    have e2 : (y - y / 1 * 1) = 0 := i64eq.mpr (by rw [hr2, l64_0])
    rw [e2, f_q_gcd_28, if_pos rfl]
    exact st_some k
theorem s_q_gcd1 {a2 : Int64} {w : WW} {Q : (Int64 × WW) → Prop} (k : Q (1, w)) : wp (f_q_gcd 1 a2 w) Q := by
  have hk : KK = (KK - 3) + 3 := by unfold KK; omega
  unfold f_q_gcd f_q_gcd_12 f_q_gcd_26
  rw [if_pos (by decide), hk]
  refine st_ite (fun c => l_gcd1 k ?_ _) (fun c => l_gcd1 k ?_ _)
  · rw [i64le, l64_0] at c; omega
  · rw [i64le, l64_0] at c
    rw [Int64.toInt_neg]
    have b1 := Int64.le_toInt a2
    by_cases c2 : a2.toInt = -9223372036854775808
    · rw [c2]; decide
    · rw [Int.bmod_eq_of_le_mul_two (by omega) (by omega)]; omega
theorem put_ALL {I : IM} {J : JM} {R : RM} (hR : QR R) {a1 : Int32} {lw hg : Int64} (hd : 0 ≤ a1.toInt ∧ a1.toInt < 360) (hl : lw.toInt ≤ -2147483648) (hh : 2147483647 ≤ hg.toInt) {Q : WW → Prop} (k : Q (mk I (P4 J a1.toInt.toNat (-2147483648) 2147483647 1 0) R)) : wp (f_q_put 373 a1 lw hg 1 0 (mk I J R)) Q := by
  have e51 : wp (f_q_put_51 373 a1 0 (-2147483648) 2147483647 1 (mk I J R)) Q := by
    unfold f_q_put_51
    have l1 : f_q_left_JJ 0 1 (mk I J R) = some (0, mk I J R) := by
      unfold f_q_left_JJ f_q_left_JJ_29
      rw [if_neg (by decide), if_pos (by decide), if_pos (by decide)]
      exact congrArg (fun z => some (z, mk I J R)) (by decide)
    have l2 : f_q_left_JJ (0 - (-2147483648)) 1 (mk I J R) = some (0, mk I J R) := by
      unfold f_q_left_JJ f_q_left_JJ_29
      rw [if_neg (by decide), if_pos (by decide), if_pos (by decide)]
      exact congrArg (fun z => some (z, mk I J R)) (by decide)
    have l3 : f_q_left_JJ (2147483647 - 0) 1 (mk I J R) = some (0, mk I J R) := by
      unfold f_q_left_JJ f_q_left_JJ_29
      rw [if_neg (by decide), if_pos (by decide), if_pos (by decide)]
      exact congrArg (fun z => some (z, mk I J R)) (by decide)
    refine st_bd2 ⟨_, l1, ?_⟩
    dsimp only
    rw [if_neg (by decide)]
    refine st_bd2 ⟨_, l2, ?_⟩
    dsimp only
    refine st_bd2 ⟨_, l3, ?_⟩
    dsimp only
    rw [if_pos (by decide), if_neg (by decide)]
    have x1 : ((-2147483648 : Int64) + 0) = -2147483648 := by decide
    have x2 : ((2147483647 : Int64) - 0) = 2147483647 := by decide
    rw [x1, x2]
    refine st_bd (s_q_put4 hR hd ?_)
    unfold f_q_put_184
    exact st_some k
  have e34 : ∀ z, 2147483647 ≤ z.toInt → wp (f_q_put_15 373 a1 z 1 0 (-2147483648) (mk I J R)) Q := by
    intro z hz
    unfold f_q_put_15 f_q_put_34
    refine st_ite (fun c => ?_) (fun c => ?_)
    · rw [if_pos (by decide)]
      rw [i64le, l64_2147483647] at c
      have : z = 2147483647 := i64eq.mpr (by rw [l64_2147483647]; omega)
      rw [this]; exact e51
    · rw [if_pos (by decide)]; exact e51
  unfold f_q_put
  refine st_kb rfl (st_ite (fun c => ?_) (fun c => e34 _ hh))
  rw [i64le, l64_m2147483648] at c
  have : lw = -2147483648 := i64eq.mpr (by rw [l64_m2147483648]; omega)
  rw [this]; exact e34 _ hh
set_option maxHeartbeats 4000000 in
theorem s_q_joinA {I : IM} {J : JM} {R : RM} (hR : QR R) {a1 a2 a3 : Int32} (hd : 0 ≤ a1.toInt ∧ a1.toInt < 360) (h2 : 0 ≤ a2.toInt ∧ a2.toInt < 360) (h3 : 0 ≤ a3.toInt ∧ a3.toInt < 360) (hA : AL J a2.toInt.toNat) {Q : WW → Prop} (k : Q (mk I (P4 J a1.toInt.toNat (-2147483648) 2147483647 1 0) R)) : wp (f_q_join 373 a1 a2 a3 (mk I J R)) Q := by
  have zz : ¬ ¬ (0 : Int64) ≤ 1 := by decide
  unfold f_q_join
  repeat' (first
    | ((with_reducible apply st_bd2); (with_reducible apply s_q_gcd1); try dsimp only)
    | ((with_reducible apply st_bd); (with_reducible apply put_ALL hR hd); (case hl => first | omega | (simp only [l64_m9223372036854775808, l64_m2147483648, l64_m100, l64_m10, l64_m1, l64_0, l64_1, l64_2, l64_3, l64_4, l64_5, l64_6, l64_10, l64_15, l64_17, l64_20, l64_27, l64_30, l64_32, l64_35, l64_40, l64_41, l64_48, l64_57, l64_65, l64_66, l64_90, l64_97, l64_100, l64_102, l64_116, l64_122, l64_126, l64_128, l64_500, l64_14592, l64_16384, l64_65536, l64_2147483647, l64_4294967295, l64_9223372036854775807]; omega) | (rw [l64_m2147483648]; omega)); (case hh => first | omega | (simp only [l64_m9223372036854775808, l64_m2147483648, l64_m100, l64_m10, l64_m1, l64_0, l64_1, l64_2, l64_3, l64_4, l64_5, l64_6, l64_10, l64_15, l64_17, l64_20, l64_27, l64_30, l64_32, l64_35, l64_40, l64_41, l64_48, l64_57, l64_65, l64_66, l64_90, l64_97, l64_100, l64_102, l64_116, l64_122, l64_126, l64_128, l64_500, l64_14592, l64_16384, l64_65536, l64_2147483647, l64_4294967295, l64_9223372036854775807]; omega)); try dsimp only)
    | ((with_reducible apply st_bd); (with_reducible apply s_q_copy hR hd h2); (rw [hA.1, hA.2.1, hA.2.2.1, hA.2.2.2]); try dsimp only)
    | ((with_reducible apply st_kb); (case hl => exact rfl))
    | (with_reducible apply qn_54 hR)
    | (with_reducible apply qn_55 hR)
    | (with_reducible apply qn_56 hR)
    | (with_reducible apply qn_57 hR)
    | ((with_reducible apply st_rL); (case hl => exact rfl); (case hi => first | with_reducible assumption | omega | (simp (disch := omega) only [m32_3, m32_4, m32_6, m32_14, m32_80, m32_200, m32_220, i32add, i32sub, l32_m8, l32_m5, l32_m2, l32_m1, l32_0, l32_1, l32_2, l32_3, l32_4, l32_5, l32_6, l32_7, l32_8, l32_9, l32_10, l32_11, l32_12, l32_14, l32_15, l32_16, l32_18, l32_20, l32_25, l32_28, l32_30, l32_32, l32_33, l32_36, l32_37, l32_40, l32_41, l32_42, l32_43, l32_45, l32_47, l32_48, l32_50, l32_56, l32_57, l32_59, l32_60, l32_61, l32_65, l32_66, l32_80, l32_90, l32_91, l32_93, l32_97, l32_100, l32_101, l32_102, l32_104, l32_105, l32_108, l32_110, l32_115, l32_119, l32_122, l32_123, l32_125, l32_126, l32_200, l32_220, l32_224, l32_225, l32_226, l32_255, l32_256, l32_257, l32_258, l32_259, l32_290, l32_359, l32_500, l32_1000, l32_1001, l32_1002, l32_1024, l32_1200] <;> omega) | (simp only [up2, eq_self, Nat.reduceEqDiff, and_self, and_true, true_and, and_false, false_and, reduceIte, i32add, i32sub, i32mul, l32_m8, l32_m5, l32_m2, l32_m1, l32_0, l32_1, l32_2, l32_3, l32_4, l32_5, l32_6, l32_7, l32_8, l32_9, l32_10, l32_11, l32_12, l32_14, l32_15, l32_16, l32_18, l32_20, l32_25, l32_28, l32_30, l32_32, l32_33, l32_36, l32_37, l32_40, l32_41, l32_42, l32_43, l32_45, l32_47, l32_48, l32_50, l32_56, l32_57, l32_59, l32_60, l32_61, l32_65, l32_66, l32_80, l32_90, l32_91, l32_93, l32_97, l32_100, l32_101, l32_102, l32_104, l32_105, l32_108, l32_110, l32_115, l32_119, l32_122, l32_123, l32_125, l32_126, l32_200, l32_220, l32_224, l32_225, l32_226, l32_255, l32_256, l32_257, l32_258, l32_259, l32_290, l32_359, l32_500, l32_1000, l32_1001, l32_1002, l32_1024, l32_1200] <;> omega) | (simp only [up2, eq_self, Nat.reduceEqDiff, and_self, and_true, true_and, and_false, false_and, reduceIte]; assumption) | (simp (disch := (first | omega | (simp (disch := omega) only [m32_3, m32_4, m32_6, m32_14, m32_80, m32_200, m32_220, l32_m8, l32_m5, l32_m2, l32_m1, l32_0, l32_1, l32_2, l32_3, l32_4, l32_5, l32_6, l32_7, l32_8, l32_9, l32_10, l32_11, l32_12, l32_14, l32_15, l32_16, l32_18, l32_20, l32_25, l32_28, l32_30, l32_32, l32_33, l32_36, l32_37, l32_40, l32_41, l32_42, l32_43, l32_45, l32_47, l32_48, l32_50, l32_56, l32_57, l32_59, l32_60, l32_61, l32_65, l32_66, l32_80, l32_90, l32_91, l32_93, l32_97, l32_100, l32_101, l32_102, l32_104, l32_105, l32_108, l32_110, l32_115, l32_119, l32_122, l32_123, l32_125, l32_126, l32_200, l32_220, l32_224, l32_225, l32_226, l32_255, l32_256, l32_257, l32_258, l32_259, l32_290, l32_359, l32_500, l32_1000, l32_1001, l32_1002, l32_1024, l32_1200] <;> omega))) only [i32addc, i32subc, m32_3, m32_4, m32_6, m32_14, m32_80, m32_200, m32_220, l32_m8, l32_m5, l32_m2, l32_m1, l32_0, l32_1, l32_2, l32_3, l32_4, l32_5, l32_6, l32_7, l32_8, l32_9, l32_10, l32_11, l32_12, l32_14, l32_15, l32_16, l32_18, l32_20, l32_25, l32_28, l32_30, l32_32, l32_33, l32_36, l32_37, l32_40, l32_41, l32_42, l32_43, l32_45, l32_47, l32_48, l32_50, l32_56, l32_57, l32_59, l32_60, l32_61, l32_65, l32_66, l32_80, l32_90, l32_91, l32_93, l32_97, l32_100, l32_101, l32_102, l32_104, l32_105, l32_108, l32_110, l32_115, l32_119, l32_122, l32_123, l32_125, l32_126, l32_200, l32_220, l32_224, l32_225, l32_226, l32_255, l32_256, l32_257, l32_258, l32_259, l32_290, l32_359, l32_500, l32_1000, l32_1001, l32_1002, l32_1024, l32_1200] <;> omega) | (simp only [i32add, i32sub, i32mul, l32_m8, l32_m5, l32_m2, l32_m1, l32_0, l32_1, l32_2, l32_3, l32_4, l32_5, l32_6, l32_7, l32_8, l32_9, l32_10, l32_11, l32_12, l32_14, l32_15, l32_16, l32_18, l32_20, l32_25, l32_28, l32_30, l32_32, l32_33, l32_36, l32_37, l32_40, l32_41, l32_42, l32_43, l32_45, l32_47, l32_48, l32_50, l32_56, l32_57, l32_59, l32_60, l32_61, l32_65, l32_66, l32_80, l32_90, l32_91, l32_93, l32_97, l32_100, l32_101, l32_102, l32_104, l32_105, l32_108, l32_110, l32_115, l32_119, l32_122, l32_123, l32_125, l32_126, l32_200, l32_220, l32_224, l32_225, l32_226, l32_255, l32_256, l32_257, l32_258, l32_259, l32_290, l32_359, l32_500, l32_1000, l32_1001, l32_1002, l32_1024, l32_1200] <;> omega) | (simp only [i32add, i32sub, i32mul, l32_m8, l32_m5, l32_m2, l32_m1, l32_0, l32_1, l32_2, l32_3, l32_4, l32_5, l32_6, l32_7, l32_8, l32_9, l32_10, l32_11, l32_12, l32_14, l32_15, l32_16, l32_18, l32_20, l32_25, l32_28, l32_30, l32_32, l32_33, l32_36, l32_37, l32_40, l32_41, l32_42, l32_43, l32_45, l32_47, l32_48, l32_50, l32_56, l32_57, l32_59, l32_60, l32_61, l32_65, l32_66, l32_80, l32_90, l32_91, l32_93, l32_97, l32_100, l32_101, l32_102, l32_104, l32_105, l32_108, l32_110, l32_115, l32_119, l32_122, l32_123, l32_125, l32_126, l32_200, l32_220, l32_224, l32_225, l32_226, l32_255, l32_256, l32_257, l32_258, l32_259, l32_290, l32_359, l32_500, l32_1000, l32_1001, l32_1002, l32_1024, l32_1200] at *; omega)); (case hv => first | exact hA.1 | exact hA.2.1 | exact hA.2.2.1 | exact hA.2.2.2 | ((repeat (first | (apply Eq.trans (up2_nek (by decide))) | (apply Eq.trans (up2_nea (by decide))))) <;> first | exact up2_s | exact rfl)))
    | ((with_reducible apply st_bd2); (with_reducible apply s_q_gcd); intro r; try dsimp only)
    | ((with_reducible apply s_q_gcd); intro r)
    | ((with_reducible apply st_bd); (with_reducible apply s_q_put hR); (case hd => first | with_reducible assumption | omega | (simp (disch := omega) only [m32_3, m32_4, m32_6, m32_14, m32_80, m32_200, m32_220, i32add, i32sub, l32_m8, l32_m5, l32_m2, l32_m1, l32_0, l32_1, l32_2, l32_3, l32_4, l32_5, l32_6, l32_7, l32_8, l32_9, l32_10, l32_11, l32_12, l32_14, l32_15, l32_16, l32_18, l32_20, l32_25, l32_28, l32_30, l32_32, l32_33, l32_36, l32_37, l32_40, l32_41, l32_42, l32_43, l32_45, l32_47, l32_48, l32_50, l32_56, l32_57, l32_59, l32_60, l32_61, l32_65, l32_66, l32_80, l32_90, l32_91, l32_93, l32_97, l32_100, l32_101, l32_102, l32_104, l32_105, l32_108, l32_110, l32_115, l32_119, l32_122, l32_123, l32_125, l32_126, l32_200, l32_220, l32_224, l32_225, l32_226, l32_255, l32_256, l32_257, l32_258, l32_259, l32_290, l32_359, l32_500, l32_1000, l32_1001, l32_1002, l32_1024, l32_1200] <;> omega) | (simp only [up2, eq_self, Nat.reduceEqDiff, and_self, and_true, true_and, and_false, false_and, reduceIte, i32add, i32sub, i32mul, l32_m8, l32_m5, l32_m2, l32_m1, l32_0, l32_1, l32_2, l32_3, l32_4, l32_5, l32_6, l32_7, l32_8, l32_9, l32_10, l32_11, l32_12, l32_14, l32_15, l32_16, l32_18, l32_20, l32_25, l32_28, l32_30, l32_32, l32_33, l32_36, l32_37, l32_40, l32_41, l32_42, l32_43, l32_45, l32_47, l32_48, l32_50, l32_56, l32_57, l32_59, l32_60, l32_61, l32_65, l32_66, l32_80, l32_90, l32_91, l32_93, l32_97, l32_100, l32_101, l32_102, l32_104, l32_105, l32_108, l32_110, l32_115, l32_119, l32_122, l32_123, l32_125, l32_126, l32_200, l32_220, l32_224, l32_225, l32_226, l32_255, l32_256, l32_257, l32_258, l32_259, l32_290, l32_359, l32_500, l32_1000, l32_1001, l32_1002, l32_1024, l32_1200] <;> omega) | (simp only [up2, eq_self, Nat.reduceEqDiff, and_self, and_true, true_and, and_false, false_and, reduceIte]; assumption) | (simp (disch := (first | omega | (simp (disch := omega) only [m32_3, m32_4, m32_6, m32_14, m32_80, m32_200, m32_220, l32_m8, l32_m5, l32_m2, l32_m1, l32_0, l32_1, l32_2, l32_3, l32_4, l32_5, l32_6, l32_7, l32_8, l32_9, l32_10, l32_11, l32_12, l32_14, l32_15, l32_16, l32_18, l32_20, l32_25, l32_28, l32_30, l32_32, l32_33, l32_36, l32_37, l32_40, l32_41, l32_42, l32_43, l32_45, l32_47, l32_48, l32_50, l32_56, l32_57, l32_59, l32_60, l32_61, l32_65, l32_66, l32_80, l32_90, l32_91, l32_93, l32_97, l32_100, l32_101, l32_102, l32_104, l32_105, l32_108, l32_110, l32_115, l32_119, l32_122, l32_123, l32_125, l32_126, l32_200, l32_220, l32_224, l32_225, l32_226, l32_255, l32_256, l32_257, l32_258, l32_259, l32_290, l32_359, l32_500, l32_1000, l32_1001, l32_1002, l32_1024, l32_1200] <;> omega))) only [i32addc, i32subc, m32_3, m32_4, m32_6, m32_14, m32_80, m32_200, m32_220, l32_m8, l32_m5, l32_m2, l32_m1, l32_0, l32_1, l32_2, l32_3, l32_4, l32_5, l32_6, l32_7, l32_8, l32_9, l32_10, l32_11, l32_12, l32_14, l32_15, l32_16, l32_18, l32_20, l32_25, l32_28, l32_30, l32_32, l32_33, l32_36, l32_37, l32_40, l32_41, l32_42, l32_43, l32_45, l32_47, l32_48, l32_50, l32_56, l32_57, l32_59, l32_60, l32_61, l32_65, l32_66, l32_80, l32_90, l32_91, l32_93, l32_97, l32_100, l32_101, l32_102, l32_104, l32_105, l32_108, l32_110, l32_115, l32_119, l32_122, l32_123, l32_125, l32_126, l32_200, l32_220, l32_224, l32_225, l32_226, l32_255, l32_256, l32_257, l32_258, l32_259, l32_290, l32_359, l32_500, l32_1000, l32_1001, l32_1002, l32_1024, l32_1200] <;> omega) | (simp only [i32add, i32sub, i32mul, l32_m8, l32_m5, l32_m2, l32_m1, l32_0, l32_1, l32_2, l32_3, l32_4, l32_5, l32_6, l32_7, l32_8, l32_9, l32_10, l32_11, l32_12, l32_14, l32_15, l32_16, l32_18, l32_20, l32_25, l32_28, l32_30, l32_32, l32_33, l32_36, l32_37, l32_40, l32_41, l32_42, l32_43, l32_45, l32_47, l32_48, l32_50, l32_56, l32_57, l32_59, l32_60, l32_61, l32_65, l32_66, l32_80, l32_90, l32_91, l32_93, l32_97, l32_100, l32_101, l32_102, l32_104, l32_105, l32_108, l32_110, l32_115, l32_119, l32_122, l32_123, l32_125, l32_126, l32_200, l32_220, l32_224, l32_225, l32_226, l32_255, l32_256, l32_257, l32_258, l32_259, l32_290, l32_359, l32_500, l32_1000, l32_1001, l32_1002, l32_1024, l32_1200] <;> omega) | (simp only [i32add, i32sub, i32mul, l32_m8, l32_m5, l32_m2, l32_m1, l32_0, l32_1, l32_2, l32_3, l32_4, l32_5, l32_6, l32_7, l32_8, l32_9, l32_10, l32_11, l32_12, l32_14, l32_15, l32_16, l32_18, l32_20, l32_25, l32_28, l32_30, l32_32, l32_33, l32_36, l32_37, l32_40, l32_41, l32_42, l32_43, l32_45, l32_47, l32_48, l32_50, l32_56, l32_57, l32_59, l32_60, l32_61, l32_65, l32_66, l32_80, l32_90, l32_91, l32_93, l32_97, l32_100, l32_101, l32_102, l32_104, l32_105, l32_108, l32_110, l32_115, l32_119, l32_122, l32_123, l32_125, l32_126, l32_200, l32_220, l32_224, l32_225, l32_226, l32_255, l32_256, l32_257, l32_258, l32_259, l32_290, l32_359, l32_500, l32_1000, l32_1001, l32_1002, l32_1024, l32_1200] at *; omega)); intro a b m r hv; try dsimp only)
    | ((with_reducible apply s_q_put hR); (case hd => first | with_reducible assumption | omega | (simp (disch := omega) only [m32_3, m32_4, m32_6, m32_14, m32_80, m32_200, m32_220, i32add, i32sub, l32_m8, l32_m5, l32_m2, l32_m1, l32_0, l32_1, l32_2, l32_3, l32_4, l32_5, l32_6, l32_7, l32_8, l32_9, l32_10, l32_11, l32_12, l32_14, l32_15, l32_16, l32_18, l32_20, l32_25, l32_28, l32_30, l32_32, l32_33, l32_36, l32_37, l32_40, l32_41, l32_42, l32_43, l32_45, l32_47, l32_48, l32_50, l32_56, l32_57, l32_59, l32_60, l32_61, l32_65, l32_66, l32_80, l32_90, l32_91, l32_93, l32_97, l32_100, l32_101, l32_102, l32_104, l32_105, l32_108, l32_110, l32_115, l32_119, l32_122, l32_123, l32_125, l32_126, l32_200, l32_220, l32_224, l32_225, l32_226, l32_255, l32_256, l32_257, l32_258, l32_259, l32_290, l32_359, l32_500, l32_1000, l32_1001, l32_1002, l32_1024, l32_1200] <;> omega) | (simp only [up2, eq_self, Nat.reduceEqDiff, and_self, and_true, true_and, and_false, false_and, reduceIte, i32add, i32sub, i32mul, l32_m8, l32_m5, l32_m2, l32_m1, l32_0, l32_1, l32_2, l32_3, l32_4, l32_5, l32_6, l32_7, l32_8, l32_9, l32_10, l32_11, l32_12, l32_14, l32_15, l32_16, l32_18, l32_20, l32_25, l32_28, l32_30, l32_32, l32_33, l32_36, l32_37, l32_40, l32_41, l32_42, l32_43, l32_45, l32_47, l32_48, l32_50, l32_56, l32_57, l32_59, l32_60, l32_61, l32_65, l32_66, l32_80, l32_90, l32_91, l32_93, l32_97, l32_100, l32_101, l32_102, l32_104, l32_105, l32_108, l32_110, l32_115, l32_119, l32_122, l32_123, l32_125, l32_126, l32_200, l32_220, l32_224, l32_225, l32_226, l32_255, l32_256, l32_257, l32_258, l32_259, l32_290, l32_359, l32_500, l32_1000, l32_1001, l32_1002, l32_1024, l32_1200] <;> omega) | (simp only [up2, eq_self, Nat.reduceEqDiff, and_self, and_true, true_and, and_false, false_and, reduceIte]; assumption) | (simp (disch := (first | omega | (simp (disch := omega) only [m32_3, m32_4, m32_6, m32_14, m32_80, m32_200, m32_220, l32_m8, l32_m5, l32_m2, l32_m1, l32_0, l32_1, l32_2, l32_3, l32_4, l32_5, l32_6, l32_7, l32_8, l32_9, l32_10, l32_11, l32_12, l32_14, l32_15, l32_16, l32_18, l32_20, l32_25, l32_28, l32_30, l32_32, l32_33, l32_36, l32_37, l32_40, l32_41, l32_42, l32_43, l32_45, l32_47, l32_48, l32_50, l32_56, l32_57, l32_59, l32_60, l32_61, l32_65, l32_66, l32_80, l32_90, l32_91, l32_93, l32_97, l32_100, l32_101, l32_102, l32_104, l32_105, l32_108, l32_110, l32_115, l32_119, l32_122, l32_123, l32_125, l32_126, l32_200, l32_220, l32_224, l32_225, l32_226, l32_255, l32_256, l32_257, l32_258, l32_259, l32_290, l32_359, l32_500, l32_1000, l32_1001, l32_1002, l32_1024, l32_1200] <;> omega))) only [i32addc, i32subc, m32_3, m32_4, m32_6, m32_14, m32_80, m32_200, m32_220, l32_m8, l32_m5, l32_m2, l32_m1, l32_0, l32_1, l32_2, l32_3, l32_4, l32_5, l32_6, l32_7, l32_8, l32_9, l32_10, l32_11, l32_12, l32_14, l32_15, l32_16, l32_18, l32_20, l32_25, l32_28, l32_30, l32_32, l32_33, l32_36, l32_37, l32_40, l32_41, l32_42, l32_43, l32_45, l32_47, l32_48, l32_50, l32_56, l32_57, l32_59, l32_60, l32_61, l32_65, l32_66, l32_80, l32_90, l32_91, l32_93, l32_97, l32_100, l32_101, l32_102, l32_104, l32_105, l32_108, l32_110, l32_115, l32_119, l32_122, l32_123, l32_125, l32_126, l32_200, l32_220, l32_224, l32_225, l32_226, l32_255, l32_256, l32_257, l32_258, l32_259, l32_290, l32_359, l32_500, l32_1000, l32_1001, l32_1002, l32_1024, l32_1200] <;> omega) | (simp only [i32add, i32sub, i32mul, l32_m8, l32_m5, l32_m2, l32_m1, l32_0, l32_1, l32_2, l32_3, l32_4, l32_5, l32_6, l32_7, l32_8, l32_9, l32_10, l32_11, l32_12, l32_14, l32_15, l32_16, l32_18, l32_20, l32_25, l32_28, l32_30, l32_32, l32_33, l32_36, l32_37, l32_40, l32_41, l32_42, l32_43, l32_45, l32_47, l32_48, l32_50, l32_56, l32_57, l32_59, l32_60, l32_61, l32_65, l32_66, l32_80, l32_90, l32_91, l32_93, l32_97, l32_100, l32_101, l32_102, l32_104, l32_105, l32_108, l32_110, l32_115, l32_119, l32_122, l32_123, l32_125, l32_126, l32_200, l32_220, l32_224, l32_225, l32_226, l32_255, l32_256, l32_257, l32_258, l32_259, l32_290, l32_359, l32_500, l32_1000, l32_1001, l32_1002, l32_1024, l32_1200] <;> omega) | (simp only [i32add, i32sub, i32mul, l32_m8, l32_m5, l32_m2, l32_m1, l32_0, l32_1, l32_2, l32_3, l32_4, l32_5, l32_6, l32_7, l32_8, l32_9, l32_10, l32_11, l32_12, l32_14, l32_15, l32_16, l32_18, l32_20, l32_25, l32_28, l32_30, l32_32, l32_33, l32_36, l32_37, l32_40, l32_41, l32_42, l32_43, l32_45, l32_47, l32_48, l32_50, l32_56, l32_57, l32_59, l32_60, l32_61, l32_65, l32_66, l32_80, l32_90, l32_91, l32_93, l32_97, l32_100, l32_101, l32_102, l32_104, l32_105, l32_108, l32_110, l32_115, l32_119, l32_122, l32_123, l32_125, l32_126, l32_200, l32_220, l32_224, l32_225, l32_226, l32_255, l32_256, l32_257, l32_258, l32_259, l32_290, l32_359, l32_500, l32_1000, l32_1001, l32_1002, l32_1024, l32_1200] at *; omega)); intro a b m r hv)
    | ((with_reducible apply st_bd); (with_reducible apply H_copy hR h); (case hd => first | with_reducible assumption | omega | (simp only [i32add, i32sub, i32mul, l32_m8, l32_m5, l32_m2, l32_m1, l32_0, l32_1, l32_2, l32_3, l32_4, l32_5, l32_6, l32_7, l32_8, l32_9, l32_10, l32_11, l32_12, l32_14, l32_15, l32_16, l32_18, l32_20, l32_25, l32_28, l32_30, l32_32, l32_33, l32_36, l32_37, l32_40, l32_41, l32_42, l32_43, l32_45, l32_47, l32_48, l32_50, l32_56, l32_57, l32_59, l32_60, l32_61, l32_65, l32_66, l32_80, l32_90, l32_91, l32_93, l32_97, l32_100, l32_101, l32_102, l32_104, l32_105, l32_108, l32_110, l32_115, l32_119, l32_122, l32_123, l32_125, l32_126, l32_200, l32_220, l32_224, l32_225, l32_226, l32_255, l32_256, l32_257, l32_258, l32_259, l32_290, l32_359, l32_500, l32_1000, l32_1001, l32_1002, l32_1024, l32_1200]; omega)); (case hs => first | with_reducible assumption | omega | (simp only [i32add, i32sub, i32mul, l32_m8, l32_m5, l32_m2, l32_m1, l32_0, l32_1, l32_2, l32_3, l32_4, l32_5, l32_6, l32_7, l32_8, l32_9, l32_10, l32_11, l32_12, l32_14, l32_15, l32_16, l32_18, l32_20, l32_25, l32_28, l32_30, l32_32, l32_33, l32_36, l32_37, l32_40, l32_41, l32_42, l32_43, l32_45, l32_47, l32_48, l32_50, l32_56, l32_57, l32_59, l32_60, l32_61, l32_65, l32_66, l32_80, l32_90, l32_91, l32_93, l32_97, l32_100, l32_101, l32_102, l32_104, l32_105, l32_108, l32_110, l32_115, l32_119, l32_122, l32_123, l32_125, l32_126, l32_200, l32_220, l32_224, l32_225, l32_226, l32_255, l32_256, l32_257, l32_258, l32_259, l32_290, l32_359, l32_500, l32_1000, l32_1001, l32_1002, l32_1024, l32_1200]; omega)); (case hS => (show 224 ≤ _; first | omega | (simp only [i32add, i32sub, i32mul, l32_m8, l32_m5, l32_m2, l32_m1, l32_0, l32_1, l32_2, l32_3, l32_4, l32_5, l32_6, l32_7, l32_8, l32_9, l32_10, l32_11, l32_12, l32_14, l32_15, l32_16, l32_18, l32_20, l32_25, l32_28, l32_30, l32_32, l32_33, l32_36, l32_37, l32_40, l32_41, l32_42, l32_43, l32_45, l32_47, l32_48, l32_50, l32_56, l32_57, l32_59, l32_60, l32_61, l32_65, l32_66, l32_80, l32_90, l32_91, l32_93, l32_97, l32_100, l32_101, l32_102, l32_104, l32_105, l32_108, l32_110, l32_115, l32_119, l32_122, l32_123, l32_125, l32_126, l32_200, l32_220, l32_224, l32_225, l32_226, l32_255, l32_256, l32_257, l32_258, l32_259, l32_290, l32_359, l32_500, l32_1000, l32_1001, l32_1002, l32_1024, l32_1200]; omega))); intro J h; try dsimp only)
    | ((with_reducible apply H_copy hR h); (case hd => first | with_reducible assumption | omega | (simp only [i32add, i32sub, i32mul, l32_m8, l32_m5, l32_m2, l32_m1, l32_0, l32_1, l32_2, l32_3, l32_4, l32_5, l32_6, l32_7, l32_8, l32_9, l32_10, l32_11, l32_12, l32_14, l32_15, l32_16, l32_18, l32_20, l32_25, l32_28, l32_30, l32_32, l32_33, l32_36, l32_37, l32_40, l32_41, l32_42, l32_43, l32_45, l32_47, l32_48, l32_50, l32_56, l32_57, l32_59, l32_60, l32_61, l32_65, l32_66, l32_80, l32_90, l32_91, l32_93, l32_97, l32_100, l32_101, l32_102, l32_104, l32_105, l32_108, l32_110, l32_115, l32_119, l32_122, l32_123, l32_125, l32_126, l32_200, l32_220, l32_224, l32_225, l32_226, l32_255, l32_256, l32_257, l32_258, l32_259, l32_290, l32_359, l32_500, l32_1000, l32_1001, l32_1002, l32_1024, l32_1200]; omega)); (case hs => first | with_reducible assumption | omega | (simp only [i32add, i32sub, i32mul, l32_m8, l32_m5, l32_m2, l32_m1, l32_0, l32_1, l32_2, l32_3, l32_4, l32_5, l32_6, l32_7, l32_8, l32_9, l32_10, l32_11, l32_12, l32_14, l32_15, l32_16, l32_18, l32_20, l32_25, l32_28, l32_30, l32_32, l32_33, l32_36, l32_37, l32_40, l32_41, l32_42, l32_43, l32_45, l32_47, l32_48, l32_50, l32_56, l32_57, l32_59, l32_60, l32_61, l32_65, l32_66, l32_80, l32_90, l32_91, l32_93, l32_97, l32_100, l32_101, l32_102, l32_104, l32_105, l32_108, l32_110, l32_115, l32_119, l32_122, l32_123, l32_125, l32_126, l32_200, l32_220, l32_224, l32_225, l32_226, l32_255, l32_256, l32_257, l32_258, l32_259, l32_290, l32_359, l32_500, l32_1000, l32_1001, l32_1002, l32_1024, l32_1200]; omega)); (case hS => (show 224 ≤ _; first | omega | (simp only [i32add, i32sub, i32mul, l32_m8, l32_m5, l32_m2, l32_m1, l32_0, l32_1, l32_2, l32_3, l32_4, l32_5, l32_6, l32_7, l32_8, l32_9, l32_10, l32_11, l32_12, l32_14, l32_15, l32_16, l32_18, l32_20, l32_25, l32_28, l32_30, l32_32, l32_33, l32_36, l32_37, l32_40, l32_41, l32_42, l32_43, l32_45, l32_47, l32_48, l32_50, l32_56, l32_57, l32_59, l32_60, l32_61, l32_65, l32_66, l32_80, l32_90, l32_91, l32_93, l32_97, l32_100, l32_101, l32_102, l32_104, l32_105, l32_108, l32_110, l32_115, l32_119, l32_122, l32_123, l32_125, l32_126, l32_200, l32_220, l32_224, l32_225, l32_226, l32_255, l32_256, l32_257, l32_258, l32_259, l32_290, l32_359, l32_500, l32_1000, l32_1001, l32_1002, l32_1024, l32_1200]; omega))); intro J h)
    | ((with_reducible apply st_req); (case h => first | assumption | exact Or.inl rfl | exact Or.inr rfl | decide))
    | ((with_reducible refine st_ite (fun c => ?_) (fun c => ?_)) <;> (have c0 := c; try simp only [i32lt, i32le, i32eq, i32add, i32sub, i32mul, l32_m8, l32_m5, l32_m2, l32_m1, l32_0, l32_1, l32_2, l32_3, l32_4, l32_5, l32_6, l32_7, l32_8, l32_9, l32_10, l32_11, l32_12, l32_14, l32_15, l32_16, l32_18, l32_20, l32_25, l32_28, l32_30, l32_32, l32_33, l32_36, l32_37, l32_40, l32_41, l32_42, l32_43, l32_45, l32_47, l32_48, l32_50, l32_56, l32_57, l32_59, l32_60, l32_61, l32_65, l32_66, l32_80, l32_90, l32_91, l32_93, l32_97, l32_100, l32_101, l32_102, l32_104, l32_105, l32_108, l32_110, l32_115, l32_119, l32_122, l32_123, l32_125, l32_126, l32_200, l32_220, l32_224, l32_225, l32_226, l32_255, l32_256, l32_257, l32_258, l32_259, l32_290, l32_359, l32_500, l32_1000, l32_1001, l32_1002, l32_1024, l32_1200, i64lt, i64le, i64eq, i3264, l64_m9223372036854775808, l64_m2147483648, l64_m100, l64_m10, l64_m1, l64_0, l64_1, l64_2, l64_3, l64_4, l64_5, l64_6, l64_10, l64_15, l64_17, l64_20, l64_27, l64_30, l64_32, l64_35, l64_40, l64_41, l64_48, l64_57, l64_65, l64_66, l64_90, l64_97, l64_100, l64_102, l64_116, l64_122, l64_126, l64_128, l64_500, l64_14592, l64_16384, l64_65536, l64_2147483647, l64_4294967295, l64_9223372036854775807] at c))
    | (with_reducible refine st_some ?_)
    | (unfold f_q_join_144)
    | (unfold f_q_join_104)
    | (unfold f_q_join_73)
    | (exact k)
    | (exact absurd c0 zz)
    | (exact absurd rfl c0)
    | (exact absurd c0 (by decide)))
theorem s_q_join2 {I : IM} {J : JM} {R : RM} (hR : QR R) {a1 a2 a3 : Int32} (hd : 0 ≤ a1.toInt ∧ a1.toInt < 360) (h2 : 0 ≤ a2.toInt ∧ a2.toInt < 360) (h3 : 0 ≤ a3.toInt ∧ a3.toInt < 360) (hV : VI J) {Q : WW → Prop} (k : ∀ a b m r, VV a b m r → (AL J a2.toInt.toNat → AL (P4 J a1.toInt.toNat a b m r) a1.toInt.toNat) → Q (mk I (P4 J a1.toInt.toNat a b m r) R)) : wp (f_q_join 373 a1 a2 a3 (mk I J R)) Q := by
  by_cases c : AL J a2.toInt.toNat
  · exact s_q_joinA hR hd h2 h3 c (k _ _ _ _ (VV_m (by decide)) (fun _ => AL_p4))
  · exact s_q_join hR hd h2 h3 hV (fun a b m r hv => k a b m r hv (fun z => absurd z c))
def or01 (x y : Int32) : Int32 := if x = 0 then (if y = 0 then 0 else 1) else 1
def JF (I : IM) (a b i : Nat) : Int32 := if I 411 a = 0 then (if I 411 b = 0 then or01 (I 410 (6 * a + i)) (I 410 (6 * b + i)) else I 410 (6 * a + i)) else I 410 (6 * b + i)
def JD (I : IM) (a b : Nat) : Int32 := if I 411 a = 0 then (if I 411 b = 0 then 0 else I 411 a) else I 411 b
def FG (g : Nat → Int32) (d j : Nat) (I0 I : IM) : Prop := (∀ x i, (x ≠ 410 ∨ i < 6 * d ∨ 6 * d + j ≤ i) → I x i = I0 x i) ∧ (∀ i, i < j → I 410 (6 * d + i) = g i)
theorem FG.step {g : Nat → Int32} {d j : Nat} {I0 I : IM} {x : Int32} (h : FG g d j I0 I) (hx : x = g j) : FG g d (j + 1) I0 (up2 I 410 (6 * d + j) x) := by
  refine ⟨fun y i hy => ?_, fun i hi => ?_⟩
  · rw [up2_ne _ _ (by omega)]; exact h.1 y i (by omega)
  · by_cases c : i = j
    · subst c; rw [up2_s]; exact hx
    · rw [up2_nek (by omega)]; exact h.2 i (by omega)
set_option maxHeartbeats 4000000 in
theorem l_q_joinState_122 {J : JM} {R : RM} (hR : QR R) {d a b : Nat} {y1 y2 y3 : Int32} (h1 : y1.toInt = d) (h2 : y2.toInt = a) (h3 : y3.toInt = b) (hd : d ≤ 15) (ha : a ≤ 15) (hb : b ≤ 15) (na : d ≠ a) (nb : d ≠ b) {I0 : IM} {Q : WW → Prop} (k : ∀ I', FG (fun i => or01 (I0 410 (6 * a + i)) (I0 410 (6 * b + i))) d 6 I0 I' → Q (mk I' J R)) : ∀ (n j : Nat) (y5 : Int32) (I : IM), FG (fun i => or01 (I0 410 (6 * a + i)) (I0 410 (6 * b + i))) d j I0 I → y5.toInt = j → j ≤ 6 → 6 - j < n → wp (f_q_joinState_122 n 373 y1 y2 y3 y5 (mk I J R)) Q := by
  intro n
  induction n with
  | zero => intros; omega
  | succ n ih =>
    intro j y5 I hf q1 q2 hn
    rw [f_q_joinState_122]
    refine st_ite (fun c => st_some (k _ ?_)) (fun c => ?_)
    · rw [i32le, l32_6] at c
      have : j = 6 := by omega
      subst this; exact hf
    · rw [i32le, l32_6] at c
      have b1 : ((6 : Int32) * y1 + y5).toInt = 6 * d + j := by
        rw [i32addc (by rw [m32_6 (by omega)]; omega), m32_6 (by omega)]; omega
      have b2 : ((6 : Int32) * y2 + y5).toInt = 6 * a + j := by
        rw [i32addc (by rw [m32_6 (by omega)]; omega), m32_6 (by omega)]; omega
      have b3 : ((6 : Int32) * y3 + y5).toInt = 6 * b + j := by
        rw [i32addc (by rw [m32_6 (by omega)]; omega), m32_6 (by omega)]; omega
      have e1 : ((6 : Int32) * y1 + y5).toInt.toNat = 6 * d + j := by omega
      have e2 : ((6 : Int32) * y2 + y5).toInt.toNat = 6 * a + j := by omega
      have e3 : ((6 : Int32) * y3 + y5).toInt.toNat = 6 * b + j := by omega
      have v2 : I 410 ((6 : Int32) * y2 + y5).toInt.toNat = I0 410 (6 * a + j) := by rw [e2]; exact hf.1 _ _ (by omega)
      have v3 : I 410 ((6 : Int32) * y3 + y5).toInt.toNat = I0 410 (6 * b + j) := by rw [e3]; exact hf.1 _ _ (by omega)
      have go : ∀ x : Int32, vp_nar .boolean x = or01 (I0 410 (6 * a + j)) (I0 410 (6 * b + j)) → wp (f_q_joinState_175 (f_q_joinState_122 n) 373 y1 y2 y3 y5 410 ((6 : Int32) * y1 + y5) x (mk I J R)) Q := by
        intro x hx
        unfold f_q_joinState_175
        refine st_sI (n := 96) rfl (by omega) ?_
        rw [e1, hx]
        exact ih (j + 1) _ _ (hf.step rfl) (by rw [i32add, l32_1]; omega) (by omega) (by omega)
      have z0 : vp_nar .boolean (0 : Int32) = 0 := by decide
      have z1 : vp_nar .boolean (1 : Int32) = 1 := by decide
      refine qn_58 hR (qn_58 hR (st_rI (n := 96) rfl (by omega) v2 (st_ite (fun c2 => ?_) (fun c2 => ?_))))
      · refine qn_58 hR (st_rI (n := 96) rfl (by omega) v3 (st_ite (fun c3 => go 0 ?_) (fun c3 => ?_)))
        · rw [z0, or01, if_pos c2, if_pos c3]
        · unfold f_q_joinState_170
          refine go 1 ?_
          rw [z1, or01, if_pos c2, if_neg c3]
      · unfold f_q_joinState_170
        refine go 1 ?_
        rw [z1, or01, if_neg c2]
def AJ (J : JM) (s : Nat) : Prop := ∀ k, k < 14 → AL J (14 * s + k)
def VG (p : Prop) (d a j : Nat) (J0 J : JM) : Prop := JX (fun i => 14 * d ≤ i ∧ i < 14 * d + 14) J0 J ∧ (p → AJ J0 a → ∀ i, i < j → AL J (14 * d + i))
set_option maxHeartbeats 4000000 in
theorem l_q_joinState_48 {I : IM} {R : RM} (hR : QR R) {d a b : Nat} {y1 y2 y3 y4 : Int32} (h1 : y1.toInt = d) (h2 : y2.toInt = a) (h3 : y3.toInt = b) (hd : d ≤ 15) (ha : a ≤ 15) (hb : b ≤ 15) (na : d ≠ a) (nb : d ≠ b) {J0 : JM} {Q : WW → Prop} (k : ∀ I' J', FG (fun i => or01 (I 410 (6 * a + i)) (I 410 (6 * b + i))) d 6 I I' → VG (y4 = 0) d a 14 J0 J' → Q (mk I' J' R)) : ∀ (n j : Nat) (y5 : Int32) (J : JM), VG (y4 = 0) d a j J0 J → y5.toInt = j → j ≤ 14 → 14 - j < n → wp (f_q_joinState_48 n 373 y1 y2 y3 y4 y5 (mk I J R)) Q := by
  intro n
  induction n with
  | zero => intros; omega
  | succ n ih =>
    intro j y5 J hf q1 q2 hn
    rw [f_q_joinState_48]
    refine st_ite (fun c => ?_) (fun c => ?_)
    · rw [i32le, l32_14] at c
      have : j = 14 := by omega
      subst this
      exact l_q_joinState_122 hR h1 h2 h3 hd ha hb na nb (fun I' h' => k I' J h' hf) KK 0 _ _ ⟨fun _ _ _ => rfl, fun i hi => absurd hi (by omega)⟩ rfl (by decide) (by unfold KK; decide)
    · rw [i32le, l32_14] at c
      have b1 : ((14 : Int32) * y1 + y5).toInt = 14 * d + j := by
        rw [i32addc (by rw [m32_14 (by omega)]; omega), m32_14 (by omega)]; omega
      have b2 : ((14 : Int32) * y2 + y5).toInt = 14 * a + j := by
        rw [i32addc (by rw [m32_14 (by omega)]; omega), m32_14 (by omega)]; omega
      have b3 : ((14 : Int32) * y3 + y5).toInt = 14 * b + j := by
        rw [i32addc (by rw [m32_14 (by omega)]; omega), m32_14 (by omega)]; omega
      have e1 : ((14 : Int32) * y1 + y5).toInt.toNat = 14 * d + j := by omega
      have e2 : ((14 : Int32) * y2 + y5).toInt.toNat = 14 * a + j := by omega
      unfold f_q_joinState_113
      have q5 : (y5 + 1).toInt = ((j + 1 : Nat) : Int) := by rw [i32add, l32_1]; omega
      refine st_ite (fun c2 => ?_) (fun c2 => ?_)
      · refine st_bd (s_q_join2 hR (by omega) (by omega) (by omega) hf.1.1 (fun x y m r hv hA => ?_))
        rw [e1, e2] at hA
        rw [e1]
        refine ih (j + 1) _ _ ⟨hf.1.p4 hv ⟨by omega, by omega⟩, fun p hj i hi => ?_⟩ q5 (by omega) (by omega)
        by_cases ci : i = j
        · subst ci
          refine hA ?_
          have := hj i (by omega)
          unfold AL
          rw [hf.1.2 406 _ (by omega), hf.1.2 407 _ (by omega), hf.1.2 408 _ (by omega), hf.1.2 409 _ (by omega)]
          exact this
        · exact (hf.2 p hj i (by omega)).ne (by omega)
      · refine st_bd (s_q_widen hR (by omega) (by omega) (by omega) hf.1.1 (fun J' hj => ?_))
        rw [e1] at hj
        exact ih (j + 1) _ _ ⟨hf.1.trans (hj.mono (fun i hi => by rw [hi]; exact ⟨by omega, by omega⟩)), fun p => absurd p c2⟩ q5 (by omega) (by omega)
def JSI (d a b : Nat) (I I' : IM) : Prop := (∀ x j, ((x ≠ 410 ∧ x ≠ 411) ∨ (x = 410 ∧ (j < 6 * d ∨ 6 * d + 6 ≤ j)) ∨ (x = 411 ∧ j ≠ d)) → I' x j = I x j) ∧ (∀ i, i < 6 → I' 410 (6 * d + i) = JF I a b i) ∧ I' 411 d = JD I a b
theorem or01_b (x y : Int32) : B01 (or01 x y) := by
  unfold or01
  split
  · split
    · exact Or.inl rfl
    · exact Or.inr rfl
  · exact Or.inr rfl
theorem JSI.bi {d a b : Nat} {I I' : IM} (h : JSI d a b I I') (hB : BI I) (ha : a ≤ 15) (hb : b ≤ 15) : BI I' := by
  refine ⟨fun j hj => ?_, fun j hj => ?_⟩
  · by_cases c : 6 * d ≤ j ∧ j < 6 * d + 6
    · have := h.2.1 (j - 6 * d) (by omega)
      rw [show 6 * d + (j - 6 * d) = j by omega] at this
      rw [this]; unfold JF
      split
      · split
        · exact or01_b _ _
        · exact hB.1 _ (by omega)
      · exact hB.1 _ (by omega)
    · rw [h.1 410 j (by omega)]; exact hB.1 j hj
  · by_cases c : j = d
    · subst c; rw [h.2.2]; unfold JD
      split
      · split
        · exact Or.inl rfl
        · exact hB.2 _ (by omega)
      · exact hB.2 _ (by omega)
    · rw [h.1 411 j (by omega)]; exact hB.2 j hj
theorem s_q_joinState {I : IM} {J : JM} {R : RM} (hR : QR R) {d a b : Nat} {a1 a2 a3 a4 : Int32} (h1 : a1.toInt = d) (h2 : a2.toInt = a) (h3 : a3.toInt = b) (hd : d ≤ 15) (ha : a ≤ 15) (hb : b ≤ 15) (na : d ≠ a) (nb : d ≠ b) (hB : BI I) (hV : VI J) {Q : WW → Prop} (k : ∀ I' J', JSI d a b I I' → JX (fun i => 14 * d ≤ i ∧ i < 14 * d + 14) J J' → (a4 = 0 → I 411 a = 0 → AJ J a → AJ J' d) → Q (mk I' J' R)) : wp (f_q_joinState 373 a1 a2 a3 a4 (mk I J R)) Q := by
  have e1 : a1.toInt.toNat = d := by omega
  have e2 : a2.toInt.toNat = a := by omega
  have e3 : a3.toInt.toNat = b := by omega
  have cpa : I 411 a = 0 → I 411 b ≠ 0 → wp (f_q_joinState_34 373 a1 a2 (mk I J R)) Q := by
    intro za zb
    unfold f_q_joinState_34
    refine st_bd (s_q_copyState hR h1 h2 hd ha na hB hV (fun I' J' hi hj => st_some (k I' J' ⟨hi.1, fun i h6 => ?_, ?_⟩ hj.1 (fun _ _ hA i h14 => ?_))))
    · rw [hi.2.1 i h6, JF, if_pos za, if_neg zb]
    · rw [hi.2.2, JD, if_pos za, if_neg zb]
    · unfold AL
      rw [hj.2 i h14 406 (by decide) (by decide), hj.2 i h14 407 (by decide) (by decide), hj.2 i h14 408 (by decide) (by decide), hj.2 i h14 409 (by decide) (by decide)]
      exact hA i h14
  have cpb : I 411 a ≠ 0 → wp (f_q_joinState_34 373 a1 a3 (mk I J R)) Q := by
    intro za
    unfold f_q_joinState_34
    refine st_bd (s_q_copyState hR h1 h3 hd hb nb hB hV (fun I' J' hi hj => st_some (k I' J' ⟨hi.1, fun i h6 => ?_, ?_⟩ hj.1 (fun _ z => absurd z za))))
    · rw [hi.2.1 i h6, JF, if_neg za]
    · rw [hi.2.2, JD, if_neg za]
  unfold f_q_joinState f_q_joinState_18
  refine st_kb rfl (qn_59 hR (st_rI (n := 16) rfl (by omega) (by rw [e2]) (st_ite (fun za => ?_) (fun za => ?_))))
  · refine qn_59 hR (st_rI (n := 16) rfl (by omega) (by rw [e3]) (st_ite (fun zb => ?_) (fun zb => ?_)))
    · refine qn_59 hR (st_sI (n := 16) rfl (by omega) ?_)
      rw [e1, show vp_nar .boolean (0 : Int32) = 0 by decide]
      refine l_q_joinState_48 hR h1 h2 h3 hd ha hb na nb (fun I' J' hf hv => k I' J' ⟨fun x j hx => ?_, fun i hi => ?_, ?_⟩ hv.1 (fun z _ hA i h14 => hv.2 z hA i h14)) KK 0 _ _ ⟨JX.refl hV, fun _ _ i hi => absurd hi (by omega)⟩ rfl (by decide) (by unfold KK; decide)
      · rw [hf.1 x j (by omega), up2_ne _ _ (by omega)]
      · rw [hf.2 i hi]
        show or01 (up2 I 411 d 0 410 (6 * a + i)) (up2 I 411 d 0 410 (6 * b + i)) = _
        rw [up2_nea (show (410 : Nat) ≠ 411 by decide), up2_nea (show (410 : Nat) ≠ 411 by decide), JF, if_pos za, if_pos zb]
      · rw [hf.1 411 d (by omega), up2_s, JD, if_pos za, if_pos zb]
    · refine qn_59 hR (st_rI (n := 16) rfl (by omega) (by rw [e2]) ?_)
      rw [if_pos za]; exact cpa za zb
  · refine qn_59 hR (st_rI (n := 16) rfl (by omega) (by rw [e2]) ?_)
    rw [if_neg za]; exact cpb za
set_option maxHeartbeats 4000000 in
theorem s_q_sameE {I : IM} {J : JM} {R : RM} (hR : QR R) {a1 a2 : Int32} (hd : 0 ≤ a1.toInt ∧ a1.toInt < 360) (h2 : 0 ≤ a2.toInt ∧ a2.toInt < 360) {Q : (Int32 × WW) → Prop} (k : ∀ r, B01 r → (((∀ x, 406 ≤ x → x ≤ 409 → J x a1.toInt.toNat = J x a2.toInt.toNat)) → r = 1) → Q (r, mk I J R)) : wp (f_q_same 373 a1 a2 (mk I J R)) Q := by
  unfold f_q_same
  repeat' (first
    | ((with_reducible apply st_kb); (case hl => exact rfl))
    | (with_reducible apply qn_54 hR)
    | (with_reducible apply qn_55 hR)
    | (with_reducible apply qn_56 hR)
    | (with_reducible apply qn_57 hR)
    | ((with_reducible apply st_rL); (case hl => exact rfl); (case hi => first | with_reducible assumption | omega | (simp (disch := omega) only [m32_3, m32_4, m32_6, m32_14, m32_80, m32_200, m32_220, i32add, i32sub, l32_m8, l32_m5, l32_m2, l32_m1, l32_0, l32_1, l32_2, l32_3, l32_4, l32_5, l32_6, l32_7, l32_8, l32_9, l32_10, l32_11, l32_12, l32_14, l32_15, l32_16, l32_18, l32_20, l32_25, l32_28, l32_30, l32_32, l32_33, l32_36, l32_37, l32_40, l32_41, l32_42, l32_43, l32_45, l32_47, l32_48, l32_50, l32_56, l32_57, l32_59, l32_60, l32_61, l32_65, l32_66, l32_80, l32_90, l32_91, l32_93, l32_97, l32_100, l32_101, l32_102, l32_104, l32_105, l32_108, l32_110, l32_115, l32_119, l32_122, l32_123, l32_125, l32_126, l32_200, l32_220, l32_224, l32_225, l32_226, l32_255, l32_256, l32_257, l32_258, l32_259, l32_290, l32_359, l32_500, l32_1000, l32_1001, l32_1002, l32_1024, l32_1200] <;> omega) | (simp only [up2, eq_self, Nat.reduceEqDiff, and_self, and_true, true_and, and_false, false_and, reduceIte, i32add, i32sub, i32mul, l32_m8, l32_m5, l32_m2, l32_m1, l32_0, l32_1, l32_2, l32_3, l32_4, l32_5, l32_6, l32_7, l32_8, l32_9, l32_10, l32_11, l32_12, l32_14, l32_15, l32_16, l32_18, l32_20, l32_25, l32_28, l32_30, l32_32, l32_33, l32_36, l32_37, l32_40, l32_41, l32_42, l32_43, l32_45, l32_47, l32_48, l32_50, l32_56, l32_57, l32_59, l32_60, l32_61, l32_65, l32_66, l32_80, l32_90, l32_91, l32_93, l32_97, l32_100, l32_101, l32_102, l32_104, l32_105, l32_108, l32_110, l32_115, l32_119, l32_122, l32_123, l32_125, l32_126, l32_200, l32_220, l32_224, l32_225, l32_226, l32_255, l32_256, l32_257, l32_258, l32_259, l32_290, l32_359, l32_500, l32_1000, l32_1001, l32_1002, l32_1024, l32_1200] <;> omega) | (simp only [up2, eq_self, Nat.reduceEqDiff, and_self, and_true, true_and, and_false, false_and, reduceIte]; assumption) | (simp (disch := (first | omega | (simp (disch := omega) only [m32_3, m32_4, m32_6, m32_14, m32_80, m32_200, m32_220, l32_m8, l32_m5, l32_m2, l32_m1, l32_0, l32_1, l32_2, l32_3, l32_4, l32_5, l32_6, l32_7, l32_8, l32_9, l32_10, l32_11, l32_12, l32_14, l32_15, l32_16, l32_18, l32_20, l32_25, l32_28, l32_30, l32_32, l32_33, l32_36, l32_37, l32_40, l32_41, l32_42, l32_43, l32_45, l32_47, l32_48, l32_50, l32_56, l32_57, l32_59, l32_60, l32_61, l32_65, l32_66, l32_80, l32_90, l32_91, l32_93, l32_97, l32_100, l32_101, l32_102, l32_104, l32_105, l32_108, l32_110, l32_115, l32_119, l32_122, l32_123, l32_125, l32_126, l32_200, l32_220, l32_224, l32_225, l32_226, l32_255, l32_256, l32_257, l32_258, l32_259, l32_290, l32_359, l32_500, l32_1000, l32_1001, l32_1002, l32_1024, l32_1200] <;> omega))) only [i32addc, i32subc, m32_3, m32_4, m32_6, m32_14, m32_80, m32_200, m32_220, l32_m8, l32_m5, l32_m2, l32_m1, l32_0, l32_1, l32_2, l32_3, l32_4, l32_5, l32_6, l32_7, l32_8, l32_9, l32_10, l32_11, l32_12, l32_14, l32_15, l32_16, l32_18, l32_20, l32_25, l32_28, l32_30, l32_32, l32_33, l32_36, l32_37, l32_40, l32_41, l32_42, l32_43, l32_45, l32_47, l32_48, l32_50, l32_56, l32_57, l32_59, l32_60, l32_61, l32_65, l32_66, l32_80, l32_90, l32_91, l32_93, l32_97, l32_100, l32_101, l32_102, l32_104, l32_105, l32_108, l32_110, l32_115, l32_119, l32_122, l32_123, l32_125, l32_126, l32_200, l32_220, l32_224, l32_225, l32_226, l32_255, l32_256, l32_257, l32_258, l32_259, l32_290, l32_359, l32_500, l32_1000, l32_1001, l32_1002, l32_1024, l32_1200] <;> omega) | (simp only [i32add, i32sub, i32mul, l32_m8, l32_m5, l32_m2, l32_m1, l32_0, l32_1, l32_2, l32_3, l32_4, l32_5, l32_6, l32_7, l32_8, l32_9, l32_10, l32_11, l32_12, l32_14, l32_15, l32_16, l32_18, l32_20, l32_25, l32_28, l32_30, l32_32, l32_33, l32_36, l32_37, l32_40, l32_41, l32_42, l32_43, l32_45, l32_47, l32_48, l32_50, l32_56, l32_57, l32_59, l32_60, l32_61, l32_65, l32_66, l32_80, l32_90, l32_91, l32_93, l32_97, l32_100, l32_101, l32_102, l32_104, l32_105, l32_108, l32_110, l32_115, l32_119, l32_122, l32_123, l32_125, l32_126, l32_200, l32_220, l32_224, l32_225, l32_226, l32_255, l32_256, l32_257, l32_258, l32_259, l32_290, l32_359, l32_500, l32_1000, l32_1001, l32_1002, l32_1024, l32_1200] <;> omega) | (simp only [i32add, i32sub, i32mul, l32_m8, l32_m5, l32_m2, l32_m1, l32_0, l32_1, l32_2, l32_3, l32_4, l32_5, l32_6, l32_7, l32_8, l32_9, l32_10, l32_11, l32_12, l32_14, l32_15, l32_16, l32_18, l32_20, l32_25, l32_28, l32_30, l32_32, l32_33, l32_36, l32_37, l32_40, l32_41, l32_42, l32_43, l32_45, l32_47, l32_48, l32_50, l32_56, l32_57, l32_59, l32_60, l32_61, l32_65, l32_66, l32_80, l32_90, l32_91, l32_93, l32_97, l32_100, l32_101, l32_102, l32_104, l32_105, l32_108, l32_110, l32_115, l32_119, l32_122, l32_123, l32_125, l32_126, l32_200, l32_220, l32_224, l32_225, l32_226, l32_255, l32_256, l32_257, l32_258, l32_259, l32_290, l32_359, l32_500, l32_1000, l32_1001, l32_1002, l32_1024, l32_1200] at *; omega)); (case hv => (repeat (first | (apply Eq.trans (up2_nek (by decide))) | (apply Eq.trans (up2_nea (by decide))))) <;> first | exact up2_s | exact rfl))
    | ((with_reducible apply st_req); (case h => first | assumption | exact Or.inl rfl | exact Or.inr rfl | decide))
    | ((with_reducible refine st_ite (fun c => ?_) (fun c => ?_)) <;> (have c0 := c; try simp only [i32lt, i32le, i32eq, i32add, i32sub, i32mul, l32_m8, l32_m5, l32_m2, l32_m1, l32_0, l32_1, l32_2, l32_3, l32_4, l32_5, l32_6, l32_7, l32_8, l32_9, l32_10, l32_11, l32_12, l32_14, l32_15, l32_16, l32_18, l32_20, l32_25, l32_28, l32_30, l32_32, l32_33, l32_36, l32_37, l32_40, l32_41, l32_42, l32_43, l32_45, l32_47, l32_48, l32_50, l32_56, l32_57, l32_59, l32_60, l32_61, l32_65, l32_66, l32_80, l32_90, l32_91, l32_93, l32_97, l32_100, l32_101, l32_102, l32_104, l32_105, l32_108, l32_110, l32_115, l32_119, l32_122, l32_123, l32_125, l32_126, l32_200, l32_220, l32_224, l32_225, l32_226, l32_255, l32_256, l32_257, l32_258, l32_259, l32_290, l32_359, l32_500, l32_1000, l32_1001, l32_1002, l32_1024, l32_1200, i64lt, i64le, i64eq, i3264, l64_m9223372036854775808, l64_m2147483648, l64_m100, l64_m10, l64_m1, l64_0, l64_1, l64_2, l64_3, l64_4, l64_5, l64_6, l64_10, l64_15, l64_17, l64_20, l64_27, l64_30, l64_32, l64_35, l64_40, l64_41, l64_48, l64_57, l64_65, l64_66, l64_90, l64_97, l64_100, l64_102, l64_116, l64_122, l64_126, l64_128, l64_500, l64_14592, l64_16384, l64_65536, l64_2147483647, l64_4294967295, l64_9223372036854775807] at c))
    | (with_reducible refine st_some ?_)
    | (unfold f_q_same_80)
    | (unfold f_q_same_79)
    | (unfold f_q_same_75)
    | (exact k _ (by first | exact Or.inl rfl | exact Or.inr rfl) (fun z => by first | exact rfl | exact absurd (z 406 (by decide) (by decide)) (by assumption) | exact absurd (z 407 (by decide) (by decide)) (by assumption) | exact absurd (z 408 (by decide) (by decide)) (by assumption) | exact absurd (z 409 (by decide) (by decide)) (by assumption)))
    | (exact absurd rfl c0)
    | (exact absurd c0 (by decide)))
def EQ (J : JM) (a b : Nat) : Prop := ∀ i, i < 14 → ∀ x, 406 ≤ x → x ≤ 409 → J x (14 * a + i) = J x (14 * b + i)
theorem l_q_sameState_80 {I : IM} {J : JM} {R : RM} (hR : QR R) {a b : Nat} {y1 y2 : Int32} (h1 : y1.toInt = a) (h2 : y2.toInt = b) (ha : a ≤ 15) (hb : b ≤ 15) {Q : (Int32 × WW) → Prop} (k : ∀ r, B01 r → (r = 0 → ∃ i, i < 6 ∧ I 410 (6 * a + i) ≠ I 410 (6 * b + i)) → Q (r, mk I J R)) : ∀ (n j : Nat) (y3 : Int32), y3.toInt = j → j ≤ 6 → 6 - j < n → wp (f_q_sameState_80 n 373 y1 y2 y3 (mk I J R)) Q := by
  intro n
  induction n with
  | zero => intros; omega
  | succ n ih =>
    intro j y3 q1 q2 hn
    rw [f_q_sameState_80]
    refine st_ite (fun c => st_req (Or.inr rfl) (st_some (k _ (Or.inr rfl) (fun z => absurd z (by decide))))) (fun c => ?_)
    rw [i32le, l32_6] at c
    have b1 : ((6 : Int32) * y1 + y3).toInt = 6 * a + j := by
      rw [i32addc (by rw [m32_6 (by omega)]; omega), m32_6 (by omega)]; omega
    have b2 : ((6 : Int32) * y2 + y3).toInt = 6 * b + j := by
      rw [i32addc (by rw [m32_6 (by omega)]; omega), m32_6 (by omega)]; omega
    have e1 : ((6 : Int32) * y1 + y3).toInt.toNat = 6 * a + j := by omega
    have e2 : ((6 : Int32) * y2 + y3).toInt.toNat = 6 * b + j := by omega
    refine qn_58 hR (st_rI (n := 96) rfl (by omega) (by rw [e1]) (qn_58 hR (st_rI (n := 96) rfl (by omega) (by rw [e2]) (st_ite (fun c2 => ?_) (fun c2 => ?_)))))
    · exact ih (j + 1) _ (by rw [i32add, l32_1]; omega) (by omega) (by omega)
    · exact st_req (Or.inl rfl) (st_some (k _ (Or.inl rfl) (fun _ => ⟨j, by omega, c2⟩)))
theorem l_q_sameState_41 {I : IM} {J : JM} {R : RM} (hR : QR R) {a b : Nat} {y1 y2 : Int32} (h1 : y1.toInt = a) (h2 : y2.toInt = b) (ha : a ≤ 15) (hb : b ≤ 15) {Q : (Int32 × WW) → Prop} (k : ∀ r, B01 r → (r = 0 → EQ J a b → ∃ i, i < 6 ∧ I 410 (6 * a + i) ≠ I 410 (6 * b + i)) → Q (r, mk I J R)) : ∀ (n j : Nat) (y3 : Int32), y3.toInt = j → j ≤ 14 → 14 - j < n → wp (f_q_sameState_41 n 373 y1 y2 y3 (mk I J R)) Q := by
  intro n
  induction n with
  | zero => intros; omega
  | succ n ih =>
    intro j y3 q1 q2 hn
    rw [f_q_sameState_41]
    refine st_ite (fun c => l_q_sameState_80 hR h1 h2 ha hb (fun r hb hr => k r hb (fun z _ => hr z)) KK 0 _ rfl (by decide) (by unfold KK; decide)) (fun c => ?_)
    rw [i32le, l32_14] at c
    have b1 : ((14 : Int32) * y1 + y3).toInt = 14 * a + j := by
      rw [i32addc (by rw [m32_14 (by omega)]; omega), m32_14 (by omega)]; omega
    have b2 : ((14 : Int32) * y2 + y3).toInt = 14 * b + j := by
      rw [i32addc (by rw [m32_14 (by omega)]; omega), m32_14 (by omega)]; omega
    have e1 : ((14 : Int32) * y1 + y3).toInt.toNat = 14 * a + j := by omega
    have e2 : ((14 : Int32) * y2 + y3).toInt.toNat = 14 * b + j := by omega
    refine st_bd2 (s_q_sameE hR (by omega) (by omega) (fun r hbr hr => ?_))
    rw [e1, e2] at hr
    dsimp only
    refine st_ite (fun c2 => st_req (Or.inl rfl) (st_some (k _ (Or.inl rfl) (fun _ hE => ?_)))) (fun c2 => ih (j + 1) _ (by rw [i32add, l32_1]; omega) (by omega) (by omega))
    have := hr (fun x x1 x2 => hE j (by omega) x x1 x2)
    rw [this] at c2
    exact absurd c2 (by decide)
theorem s_q_sameState {I : IM} {J : JM} {R : RM} (hR : QR R) {a b : Nat} {a1 a2 : Int32} (h1 : a1.toInt = a) (h2 : a2.toInt = b) (ha : a ≤ 15) (hb : b ≤ 15) {Q : (Int32 × WW) → Prop} (k : ∀ r, B01 r → (r = 0 → I 411 a = 0 → I 411 b = 0 → EQ J a b → ∃ i, i < 6 ∧ I 410 (6 * a + i) ≠ I 410 (6 * b + i)) → Q (r, mk I J R)) : wp (f_q_sameState 373 a1 a2 (mk I J R)) Q := by
  have e1 : a1.toInt.toNat = a := by omega
  have e2 : a2.toInt.toNat = b := by omega
  have k18 : ¬ (I 411 a = 0 ∧ I 411 b = 0) → wp (f_q_sameState_18 373 a1 a2 (mk I J R)) Q := by
    intro hn
    unfold f_q_sameState_18 f_q_sameState_38
    refine qn_59 hR (st_rI (n := 16) rfl (by omega) (by rw [e1]) (qn_59 hR (st_rI (n := 16) rfl (by omega) (by rw [e2]) ?_)))
    exact st_ite (fun _ => st_req (Or.inr rfl) (st_some (k _ (Or.inr rfl) (fun z => absurd z (by decide))))) (fun _ => st_req (Or.inl rfl) (st_some (k _ (Or.inl rfl) (fun _ z1 z2 => absurd ⟨z1, z2⟩ hn))))
  unfold f_q_sameState
  refine st_kb rfl (qn_59 hR (st_rI (n := 16) rfl (by omega) (by rw [e1]) (st_ite (fun za => ?_) (fun za => k18 (fun z => za z.1)))))
  refine qn_59 hR (st_rI (n := 16) rfl (by omega) (by rw [e2]) (st_ite (fun zb => ?_) (fun zb => k18 (fun z => zb z.2))))
  exact l_q_sameState_41 hR h1 h2 ha hb (fun r hbr hr => k r hbr (fun z _ _ hE => hr z hE)) KK 0 _ rfl (by decide) (by unfold KK; decide)
