/-! The reference: runs. -/
def GO (I I' : IM) : Prop := ∀ x j, (x < 401 ∨ 405 < x) → (x ≠ 373 ∨ (j ≠ 5 ∧ (j < 50 ∨ 53 < j))) → I' x j = I x j
theorem GO.refl (I : IM) : GO I I := fun _ _ _ _ => rfl
theorem GO.trans {I I' I'' : IM} (h : GO I I') (h2 : GO I' I'') : GO I I'' := fun x j a b => (h2 x j a b).trans (h x j a b)
theorem GO.pa {I I' : IM} (h : GO I I') : PA I I' := fun x j _ _ => h x j (by omega) (by omega)
/-- what working out an EXPR changes -/
def WK (I I' : IM) : Prop := ∀ x j, x ≠ 403 → (x ≠ 373 ∨ (j ≠ 50 ∧ j ≠ 51)) → I' x j = I x j
theorem WK.refl (I : IM) : WK I I := fun _ _ _ _ => rfl
theorem WK.trans {I I' I'' : IM} (h : WK I I') (h2 : WK I' I'') : WK I I'' := fun x j a b => (h2 x j a b).trans (h x j a b)
theorem WK.u3 {I I' : IM} {i : Nat} {v : Int32} (h : WK I I') : WK I (up2 I' 403 i v) := fun x j a b => (up2_nea a).trans (h x j a b)
theorem WK.u5 {I I' : IM} {i : Nat} {v : Int32} (h : WK I I') (hi : i = 50 ∨ i = 51) : WK I (up2 I' 373 i v) := fun x j a b => (up2_ne _ _ (by omega)).trans (h x j a b)
theorem WK.go {I I' : IM} (h : WK I I') : GO I I' := fun x j a b => h x j (by omega) (by omega)
theorem WK.pa {I I' : IM} (h : WK I I') : PA I I' := h.go.pa
set_option maxHeartbeats 4000000 in
theorem s_q_stop {I : IM} {J : JM} {R : RM} (hR : QR R)  {a1 : Int32} {a2 : Int32}  {Q : (Int32 × WW) → Prop} (k : Q (0, mk (up2 I 373 51 (1024 * a1 + a2)) J R)) : wp (f_q_stop 373 a1 a2 (mk I J R)) Q := by
  unfold f_q_stop
  repeat' (first
    | ((with_reducible apply st_kb); (case hl => exact rfl))
    | ((with_reducible apply st_pI); (case hl => exact rfl); (case hk => exact rfl))
    | ((with_reducible apply st_req); (case h => first | assumption | exact Or.inl rfl | exact Or.inr rfl | decide))
    | ((with_reducible refine st_ite (fun c => ?_) (fun c => ?_)) <;> (have c0 := c; try simp only [i32lt, i32le, i32eq, i32add, i32sub, i32mul, l32_m8, l32_m5, l32_m2, l32_m1, l32_0, l32_1, l32_2, l32_3, l32_4, l32_5, l32_6, l32_7, l32_8, l32_9, l32_10, l32_11, l32_12, l32_14, l32_15, l32_16, l32_18, l32_20, l32_25, l32_28, l32_30, l32_32, l32_33, l32_36, l32_37, l32_40, l32_41, l32_42, l32_43, l32_45, l32_47, l32_48, l32_50, l32_56, l32_57, l32_59, l32_60, l32_61, l32_65, l32_66, l32_80, l32_90, l32_91, l32_93, l32_97, l32_100, l32_101, l32_102, l32_104, l32_105, l32_108, l32_110, l32_115, l32_119, l32_122, l32_123, l32_125, l32_126, l32_200, l32_220, l32_224, l32_225, l32_226, l32_255, l32_256, l32_257, l32_258, l32_259, l32_290, l32_359, l32_500, l32_1000, l32_1001, l32_1002, l32_1024, l32_1200, i64lt, i64le, i64eq, i3264, l64_m9223372036854775808, l64_m2147483648, l64_m100, l64_m10, l64_m1, l64_0, l64_1, l64_2, l64_3, l64_4, l64_5, l64_6, l64_10, l64_15, l64_17, l64_20, l64_27, l64_30, l64_32, l64_35, l64_40, l64_41, l64_48, l64_57, l64_65, l64_66, l64_90, l64_97, l64_100, l64_102, l64_116, l64_122, l64_126, l64_128, l64_500, l64_14592, l64_16384, l64_65536, l64_2147483647, l64_4294967295, l64_9223372036854775807] at c))
    | (with_reducible refine st_some ?_)
    | (exact k)
    | (exact absurd rfl c0)
    | (exact absurd c0 (by decide))
    | fail)
set_option maxRecDepth 100000 in
set_option maxHeartbeats 16000000 in
theorem l_q_work_5 {R : RM} {J : JM} (hR : QR R) {I0 : IM} {a b : Nat} {y2 : Int32} (hw : WFX I0 a b) (hb : y2.toInt = b) {Q : (Int32 × WW) → Prop} (k : ∀ (r : Int32) (I' : IM), B01 r → WK I0 I' → Q (r, mk I' J R)) : ∀ (n j : Nat) (y3 y4 : Int32) (I : IM), WK I0 I → y4.toInt = j → (a ≤ j ∧ j ≤ b) → y3.toInt = dq I0 a (j - a) → b - j < n → wp (f_q_work_5 n 373 y2 y3 y4 (mk I J R)) Q := by
  intro n
  induction n with
  | zero => intros; omega
  | succ n ih =>
    intro j y3 y4 I e q1 q2 q3 hn
    have hb4 := hw.2.1
    rw [f_q_work_5]
    refine st_ite (fun c => ?_) (fun c => ?_)
    · exact qn_47 hR (st_rI (n := 120) rfl (by decide) rfl (st_pI rfl rfl (st_req (Or.inr rfl) (st_some (k _ _ (Or.inr rfl) (e.u5 (Or.inl rfl)))))))
    rw [i32le] at c
    have cj : j < b := by omega
    have ej : y4.toInt.toNat = j := by omega
    obtain ⟨s1, s2, s3, s4, s5, s6, s7, s8⟩ := hw.2.2 j q2.1 cj
    have hq := dq_succ I0 q2.1
    have hc := dl_c (I0 391 j)
    have e1 : I 391 y4.toInt.toNat = I0 391 j := by rw [ej]; exact e 391 j (by omega) (by omega)
    have e2 : I 392 y4.toInt.toNat = I0 392 j := by rw [ej]; exact e 392 j (by omega) (by omega)
    have e3 : I 393 y4.toInt.toNat = I0 393 j := by rw [ej]; exact e 393 j (by omega) (by omega)
    repeat' (first
      | ((with_reducible apply st_kb); (case hl => exact rfl))
      | (with_reducible apply qn_24 hR)
      | (with_reducible apply qn_25 hR)
      | (with_reducible apply qn_26 hR)
      | (with_reducible apply qn_45 hR)
      | (with_reducible apply qn_46 hR)
      | (with_reducible apply qn_47 hR)
      | (with_reducible apply qn_49 hR)
      | ((with_reducible apply st_rI); (case hl => exact rfl); (case hi => first | with_reducible assumption | omega | (simp (disch := omega) only [m32_3, m32_4, m32_6, m32_14, m32_80, m32_200, m32_220, i32add, i32sub, l32_m8, l32_m5, l32_m2, l32_m1, l32_0, l32_1, l32_2, l32_3, l32_4, l32_5, l32_6, l32_7, l32_8, l32_9, l32_10, l32_11, l32_12, l32_14, l32_15, l32_16, l32_18, l32_20, l32_25, l32_28, l32_30, l32_32, l32_33, l32_36, l32_37, l32_40, l32_41, l32_42, l32_43, l32_45, l32_47, l32_48, l32_50, l32_56, l32_57, l32_59, l32_60, l32_61, l32_65, l32_66, l32_80, l32_90, l32_91, l32_93, l32_97, l32_100, l32_101, l32_102, l32_104, l32_105, l32_108, l32_110, l32_115, l32_119, l32_122, l32_123, l32_125, l32_126, l32_200, l32_220, l32_224, l32_225, l32_226, l32_255, l32_256, l32_257, l32_258, l32_259, l32_290, l32_359, l32_500, l32_1000, l32_1001, l32_1002, l32_1024, l32_1200] <;> omega) | (simp only [up2, eq_self, Nat.reduceEqDiff, and_self, and_true, true_and, and_false, false_and, reduceIte, i32add, i32sub, i32mul, l32_m8, l32_m5, l32_m2, l32_m1, l32_0, l32_1, l32_2, l32_3, l32_4, l32_5, l32_6, l32_7, l32_8, l32_9, l32_10, l32_11, l32_12, l32_14, l32_15, l32_16, l32_18, l32_20, l32_25, l32_28, l32_30, l32_32, l32_33, l32_36, l32_37, l32_40, l32_41, l32_42, l32_43, l32_45, l32_47, l32_48, l32_50, l32_56, l32_57, l32_59, l32_60, l32_61, l32_65, l32_66, l32_80, l32_90, l32_91, l32_93, l32_97, l32_100, l32_101, l32_102, l32_104, l32_105, l32_108, l32_110, l32_115, l32_119, l32_122, l32_123, l32_125, l32_126, l32_200, l32_220, l32_224, l32_225, l32_226, l32_255, l32_256, l32_257, l32_258, l32_259, l32_290, l32_359, l32_500, l32_1000, l32_1001, l32_1002, l32_1024, l32_1200] <;> omega) | (simp only [up2, eq_self, Nat.reduceEqDiff, and_self, and_true, true_and, and_false, false_and, reduceIte]; assumption) | (simp (disch := (first | omega | (simp (disch := omega) only [m32_3, m32_4, m32_6, m32_14, m32_80, m32_200, m32_220, l32_m8, l32_m5, l32_m2, l32_m1, l32_0, l32_1, l32_2, l32_3, l32_4, l32_5, l32_6, l32_7, l32_8, l32_9, l32_10, l32_11, l32_12, l32_14, l32_15, l32_16, l32_18, l32_20, l32_25, l32_28, l32_30, l32_32, l32_33, l32_36, l32_37, l32_40, l32_41, l32_42, l32_43, l32_45, l32_47, l32_48, l32_50, l32_56, l32_57, l32_59, l32_60, l32_61, l32_65, l32_66, l32_80, l32_90, l32_91, l32_93, l32_97, l32_100, l32_101, l32_102, l32_104, l32_105, l32_108, l32_110, l32_115, l32_119, l32_122, l32_123, l32_125, l32_126, l32_200, l32_220, l32_224, l32_225, l32_226, l32_255, l32_256, l32_257, l32_258, l32_259, l32_290, l32_359, l32_500, l32_1000, l32_1001, l32_1002, l32_1024, l32_1200] <;> omega))) only [i32addc, i32subc, m32_3, m32_4, m32_6, m32_14, m32_80, m32_200, m32_220, l32_m8, l32_m5, l32_m2, l32_m1, l32_0, l32_1, l32_2, l32_3, l32_4, l32_5, l32_6, l32_7, l32_8, l32_9, l32_10, l32_11, l32_12, l32_14, l32_15, l32_16, l32_18, l32_20, l32_25, l32_28, l32_30, l32_32, l32_33, l32_36, l32_37, l32_40, l32_41, l32_42, l32_43, l32_45, l32_47, l32_48, l32_50, l32_56, l32_57, l32_59, l32_60, l32_61, l32_65, l32_66, l32_80, l32_90, l32_91, l32_93, l32_97, l32_100, l32_101, l32_102, l32_104, l32_105, l32_108, l32_110, l32_115, l32_119, l32_122, l32_123, l32_125, l32_126, l32_200, l32_220, l32_224, l32_225, l32_226, l32_255, l32_256, l32_257, l32_258, l32_259, l32_290, l32_359, l32_500, l32_1000, l32_1001, l32_1002, l32_1024, l32_1200] <;> omega) | (simp only [i32add, i32sub, i32mul, l32_m8, l32_m5, l32_m2, l32_m1, l32_0, l32_1, l32_2, l32_3, l32_4, l32_5, l32_6, l32_7, l32_8, l32_9, l32_10, l32_11, l32_12, l32_14, l32_15, l32_16, l32_18, l32_20, l32_25, l32_28, l32_30, l32_32, l32_33, l32_36, l32_37, l32_40, l32_41, l32_42, l32_43, l32_45, l32_47, l32_48, l32_50, l32_56, l32_57, l32_59, l32_60, l32_61, l32_65, l32_66, l32_80, l32_90, l32_91, l32_93, l32_97, l32_100, l32_101, l32_102, l32_104, l32_105, l32_108, l32_110, l32_115, l32_119, l32_122, l32_123, l32_125, l32_126, l32_200, l32_220, l32_224, l32_225, l32_226, l32_255, l32_256, l32_257, l32_258, l32_259, l32_290, l32_359, l32_500, l32_1000, l32_1001, l32_1002, l32_1024, l32_1200] <;> omega) | (simp only [i32add, i32sub, i32mul, l32_m8, l32_m5, l32_m2, l32_m1, l32_0, l32_1, l32_2, l32_3, l32_4, l32_5, l32_6, l32_7, l32_8, l32_9, l32_10, l32_11, l32_12, l32_14, l32_15, l32_16, l32_18, l32_20, l32_25, l32_28, l32_30, l32_32, l32_33, l32_36, l32_37, l32_40, l32_41, l32_42, l32_43, l32_45, l32_47, l32_48, l32_50, l32_56, l32_57, l32_59, l32_60, l32_61, l32_65, l32_66, l32_80, l32_90, l32_91, l32_93, l32_97, l32_100, l32_101, l32_102, l32_104, l32_105, l32_108, l32_110, l32_115, l32_119, l32_122, l32_123, l32_125, l32_126, l32_200, l32_220, l32_224, l32_225, l32_226, l32_255, l32_256, l32_257, l32_258, l32_259, l32_290, l32_359, l32_500, l32_1000, l32_1001, l32_1002, l32_1024, l32_1200] at *; omega) | (simp (disch := omega) only [m32_3, m32_4, m32_6, m32_14, m32_80, m32_200, m32_220, i32addc, l32_m8, l32_m5, l32_m2, l32_m1, l32_0, l32_1, l32_2, l32_3, l32_4, l32_5, l32_6, l32_7, l32_8, l32_9, l32_10, l32_11, l32_12, l32_14, l32_15, l32_16, l32_18, l32_20, l32_25, l32_28, l32_30, l32_32, l32_33, l32_36, l32_37, l32_40, l32_41, l32_42, l32_43, l32_45, l32_47, l32_48, l32_50, l32_56, l32_57, l32_59, l32_60, l32_61, l32_65, l32_66, l32_80, l32_90, l32_91, l32_93, l32_97, l32_100, l32_101, l32_102, l32_104, l32_105, l32_108, l32_110, l32_115, l32_119, l32_122, l32_123, l32_125, l32_126, l32_200, l32_220, l32_224, l32_225, l32_226, l32_255, l32_256, l32_257, l32_258, l32_259, l32_290, l32_359, l32_500, l32_1000, l32_1001, l32_1002, l32_1024, l32_1200] <;> omega)); (case hv => first | exact e1 | exact e2 | exact e3 | ((repeat (first | (apply Eq.trans (up2_nek (by decide))) | (apply Eq.trans (up2_nea (by decide))))) <;> first | exact up2_s | exact rfl)))
      | ((with_reducible apply st_sI); (case hl => exact rfl); (case hi => first | with_reducible assumption | omega | (simp (disch := omega) only [m32_3, m32_4, m32_6, m32_14, m32_80, m32_200, m32_220, i32add, i32sub, l32_m8, l32_m5, l32_m2, l32_m1, l32_0, l32_1, l32_2, l32_3, l32_4, l32_5, l32_6, l32_7, l32_8, l32_9, l32_10, l32_11, l32_12, l32_14, l32_15, l32_16, l32_18, l32_20, l32_25, l32_28, l32_30, l32_32, l32_33, l32_36, l32_37, l32_40, l32_41, l32_42, l32_43, l32_45, l32_47, l32_48, l32_50, l32_56, l32_57, l32_59, l32_60, l32_61, l32_65, l32_66, l32_80, l32_90, l32_91, l32_93, l32_97, l32_100, l32_101, l32_102, l32_104, l32_105, l32_108, l32_110, l32_115, l32_119, l32_122, l32_123, l32_125, l32_126, l32_200, l32_220, l32_224, l32_225, l32_226, l32_255, l32_256, l32_257, l32_258, l32_259, l32_290, l32_359, l32_500, l32_1000, l32_1001, l32_1002, l32_1024, l32_1200] <;> omega) | (simp only [up2, eq_self, Nat.reduceEqDiff, and_self, and_true, true_and, and_false, false_and, reduceIte, i32add, i32sub, i32mul, l32_m8, l32_m5, l32_m2, l32_m1, l32_0, l32_1, l32_2, l32_3, l32_4, l32_5, l32_6, l32_7, l32_8, l32_9, l32_10, l32_11, l32_12, l32_14, l32_15, l32_16, l32_18, l32_20, l32_25, l32_28, l32_30, l32_32, l32_33, l32_36, l32_37, l32_40, l32_41, l32_42, l32_43, l32_45, l32_47, l32_48, l32_50, l32_56, l32_57, l32_59, l32_60, l32_61, l32_65, l32_66, l32_80, l32_90, l32_91, l32_93, l32_97, l32_100, l32_101, l32_102, l32_104, l32_105, l32_108, l32_110, l32_115, l32_119, l32_122, l32_123, l32_125, l32_126, l32_200, l32_220, l32_224, l32_225, l32_226, l32_255, l32_256, l32_257, l32_258, l32_259, l32_290, l32_359, l32_500, l32_1000, l32_1001, l32_1002, l32_1024, l32_1200] <;> omega) | (simp only [up2, eq_self, Nat.reduceEqDiff, and_self, and_true, true_and, and_false, false_and, reduceIte]; assumption) | (simp (disch := (first | omega | (simp (disch := omega) only [m32_3, m32_4, m32_6, m32_14, m32_80, m32_200, m32_220, l32_m8, l32_m5, l32_m2, l32_m1, l32_0, l32_1, l32_2, l32_3, l32_4, l32_5, l32_6, l32_7, l32_8, l32_9, l32_10, l32_11, l32_12, l32_14, l32_15, l32_16, l32_18, l32_20, l32_25, l32_28, l32_30, l32_32, l32_33, l32_36, l32_37, l32_40, l32_41, l32_42, l32_43, l32_45, l32_47, l32_48, l32_50, l32_56, l32_57, l32_59, l32_60, l32_61, l32_65, l32_66, l32_80, l32_90, l32_91, l32_93, l32_97, l32_100, l32_101, l32_102, l32_104, l32_105, l32_108, l32_110, l32_115, l32_119, l32_122, l32_123, l32_125, l32_126, l32_200, l32_220, l32_224, l32_225, l32_226, l32_255, l32_256, l32_257, l32_258, l32_259, l32_290, l32_359, l32_500, l32_1000, l32_1001, l32_1002, l32_1024, l32_1200] <;> omega))) only [i32addc, i32subc, m32_3, m32_4, m32_6, m32_14, m32_80, m32_200, m32_220, l32_m8, l32_m5, l32_m2, l32_m1, l32_0, l32_1, l32_2, l32_3, l32_4, l32_5, l32_6, l32_7, l32_8, l32_9, l32_10, l32_11, l32_12, l32_14, l32_15, l32_16, l32_18, l32_20, l32_25, l32_28, l32_30, l32_32, l32_33, l32_36, l32_37, l32_40, l32_41, l32_42, l32_43, l32_45, l32_47, l32_48, l32_50, l32_56, l32_57, l32_59, l32_60, l32_61, l32_65, l32_66, l32_80, l32_90, l32_91, l32_93, l32_97, l32_100, l32_101, l32_102, l32_104, l32_105, l32_108, l32_110, l32_115, l32_119, l32_122, l32_123, l32_125, l32_126, l32_200, l32_220, l32_224, l32_225, l32_226, l32_255, l32_256, l32_257, l32_258, l32_259, l32_290, l32_359, l32_500, l32_1000, l32_1001, l32_1002, l32_1024, l32_1200] <;> omega) | (simp only [i32add, i32sub, i32mul, l32_m8, l32_m5, l32_m2, l32_m1, l32_0, l32_1, l32_2, l32_3, l32_4, l32_5, l32_6, l32_7, l32_8, l32_9, l32_10, l32_11, l32_12, l32_14, l32_15, l32_16, l32_18, l32_20, l32_25, l32_28, l32_30, l32_32, l32_33, l32_36, l32_37, l32_40, l32_41, l32_42, l32_43, l32_45, l32_47, l32_48, l32_50, l32_56, l32_57, l32_59, l32_60, l32_61, l32_65, l32_66, l32_80, l32_90, l32_91, l32_93, l32_97, l32_100, l32_101, l32_102, l32_104, l32_105, l32_108, l32_110, l32_115, l32_119, l32_122, l32_123, l32_125, l32_126, l32_200, l32_220, l32_224, l32_225, l32_226, l32_255, l32_256, l32_257, l32_258, l32_259, l32_290, l32_359, l32_500, l32_1000, l32_1001, l32_1002, l32_1024, l32_1200] <;> omega) | (simp only [i32add, i32sub, i32mul, l32_m8, l32_m5, l32_m2, l32_m1, l32_0, l32_1, l32_2, l32_3, l32_4, l32_5, l32_6, l32_7, l32_8, l32_9, l32_10, l32_11, l32_12, l32_14, l32_15, l32_16, l32_18, l32_20, l32_25, l32_28, l32_30, l32_32, l32_33, l32_36, l32_37, l32_40, l32_41, l32_42, l32_43, l32_45, l32_47, l32_48, l32_50, l32_56, l32_57, l32_59, l32_60, l32_61, l32_65, l32_66, l32_80, l32_90, l32_91, l32_93, l32_97, l32_100, l32_101, l32_102, l32_104, l32_105, l32_108, l32_110, l32_115, l32_119, l32_122, l32_123, l32_125, l32_126, l32_200, l32_220, l32_224, l32_225, l32_226, l32_255, l32_256, l32_257, l32_258, l32_259, l32_290, l32_359, l32_500, l32_1000, l32_1001, l32_1002, l32_1024, l32_1200] at *; omega) | (simp (disch := omega) only [m32_3, m32_4, m32_6, m32_14, m32_80, m32_200, m32_220, i32addc, l32_m8, l32_m5, l32_m2, l32_m1, l32_0, l32_1, l32_2, l32_3, l32_4, l32_5, l32_6, l32_7, l32_8, l32_9, l32_10, l32_11, l32_12, l32_14, l32_15, l32_16, l32_18, l32_20, l32_25, l32_28, l32_30, l32_32, l32_33, l32_36, l32_37, l32_40, l32_41, l32_42, l32_43, l32_45, l32_47, l32_48, l32_50, l32_56, l32_57, l32_59, l32_60, l32_61, l32_65, l32_66, l32_80, l32_90, l32_91, l32_93, l32_97, l32_100, l32_101, l32_102, l32_104, l32_105, l32_108, l32_110, l32_115, l32_119, l32_122, l32_123, l32_125, l32_126, l32_200, l32_220, l32_224, l32_225, l32_226, l32_255, l32_256, l32_257, l32_258, l32_259, l32_290, l32_359, l32_500, l32_1000, l32_1001, l32_1002, l32_1024, l32_1200] <;> omega)))
      | ((with_reducible apply st_pI); (case hl => exact rfl); (case hk => exact rfl))
      | ((with_reducible apply st_bd2); (with_reducible apply s_q_in); intro r hb hr; try simp only [i3264, l64_m9223372036854775808, l64_m2147483648, l64_m100, l64_m10, l64_m1, l64_0, l64_1, l64_2, l64_3, l64_4, l64_5, l64_6, l64_10, l64_15, l64_17, l64_20, l64_27, l64_30, l64_32, l64_35, l64_40, l64_41, l64_48, l64_57, l64_65, l64_66, l64_90, l64_97, l64_100, l64_102, l64_116, l64_122, l64_126, l64_128, l64_500, l64_14592, l64_16384, l64_65536, l64_2147483647, l64_4294967295, l64_9223372036854775807] at hr; try dsimp only)
      | ((with_reducible apply s_q_in); intro r hb hr; try simp only [i3264, l64_m9223372036854775808, l64_m2147483648, l64_m100, l64_m10, l64_m1, l64_0, l64_1, l64_2, l64_3, l64_4, l64_5, l64_6, l64_10, l64_15, l64_17, l64_20, l64_27, l64_30, l64_32, l64_35, l64_40, l64_41, l64_48, l64_57, l64_65, l64_66, l64_90, l64_97, l64_100, l64_102, l64_116, l64_122, l64_126, l64_128, l64_500, l64_14592, l64_16384, l64_65536, l64_2147483647, l64_4294967295, l64_9223372036854775807] at hr)
      | ((with_reducible apply st_bd2); (with_reducible apply s_q_stop hR); try dsimp only)
      | ((with_reducible apply s_q_stop hR))
      | ((with_reducible apply st_req); (case h => first | assumption | exact Or.inl rfl | exact Or.inr rfl | decide))
      | ((with_reducible refine st_ite (fun c => ?_) (fun c => ?_)) <;> (have c0 := c; try simp only [i32lt, i32le, i32eq, i32add, i32sub, i32mul, l32_m8, l32_m5, l32_m2, l32_m1, l32_0, l32_1, l32_2, l32_3, l32_4, l32_5, l32_6, l32_7, l32_8, l32_9, l32_10, l32_11, l32_12, l32_14, l32_15, l32_16, l32_18, l32_20, l32_25, l32_28, l32_30, l32_32, l32_33, l32_36, l32_37, l32_40, l32_41, l32_42, l32_43, l32_45, l32_47, l32_48, l32_50, l32_56, l32_57, l32_59, l32_60, l32_61, l32_65, l32_66, l32_80, l32_90, l32_91, l32_93, l32_97, l32_100, l32_101, l32_102, l32_104, l32_105, l32_108, l32_110, l32_115, l32_119, l32_122, l32_123, l32_125, l32_126, l32_200, l32_220, l32_224, l32_225, l32_226, l32_255, l32_256, l32_257, l32_258, l32_259, l32_290, l32_359, l32_500, l32_1000, l32_1001, l32_1002, l32_1024, l32_1200, i64lt, i64le, i64eq, i3264, l64_m9223372036854775808, l64_m2147483648, l64_m100, l64_m10, l64_m1, l64_0, l64_1, l64_2, l64_3, l64_4, l64_5, l64_6, l64_10, l64_15, l64_17, l64_20, l64_27, l64_30, l64_32, l64_35, l64_40, l64_41, l64_48, l64_57, l64_65, l64_66, l64_90, l64_97, l64_100, l64_102, l64_116, l64_122, l64_126, l64_128, l64_500, l64_14592, l64_16384, l64_65536, l64_2147483647, l64_4294967295, l64_9223372036854775807] at c))
      | (with_reducible refine st_some ?_)
      | (unfold f_q_work_345)
      | (unfold f_q_work_334)
      | (unfold f_q_work_296)
      | (unfold f_q_work_253)
      | (unfold f_q_work_226)
      | (unfold f_q_work_194)
      | (refine ih (j + 1) _ _ _ (WK.u3 e) ?_ ?_ ?_ ?_ <;> (first | with_reducible assumption | omega | (simp only [i32add, i32sub, i32mul, l32_m8, l32_m5, l32_m2, l32_m1, l32_0, l32_1, l32_2, l32_3, l32_4, l32_5, l32_6, l32_7, l32_8, l32_9, l32_10, l32_11, l32_12, l32_14, l32_15, l32_16, l32_18, l32_20, l32_25, l32_28, l32_30, l32_32, l32_33, l32_36, l32_37, l32_40, l32_41, l32_42, l32_43, l32_45, l32_47, l32_48, l32_50, l32_56, l32_57, l32_59, l32_60, l32_61, l32_65, l32_66, l32_80, l32_90, l32_91, l32_93, l32_97, l32_100, l32_101, l32_102, l32_104, l32_105, l32_108, l32_110, l32_115, l32_119, l32_122, l32_123, l32_125, l32_126, l32_200, l32_220, l32_224, l32_225, l32_226, l32_255, l32_256, l32_257, l32_258, l32_259, l32_290, l32_359, l32_500, l32_1000, l32_1001, l32_1002, l32_1024, l32_1200]; omega) | (simp (disch := omega) only [m32_3, m32_4, m32_6, m32_14, m32_80, m32_200, m32_220, i32addc, l32_m8, l32_m5, l32_m2, l32_m1, l32_0, l32_1, l32_2, l32_3, l32_4, l32_5, l32_6, l32_7, l32_8, l32_9, l32_10, l32_11, l32_12, l32_14, l32_15, l32_16, l32_18, l32_20, l32_25, l32_28, l32_30, l32_32, l32_33, l32_36, l32_37, l32_40, l32_41, l32_42, l32_43, l32_45, l32_47, l32_48, l32_50, l32_56, l32_57, l32_59, l32_60, l32_61, l32_65, l32_66, l32_80, l32_90, l32_91, l32_93, l32_97, l32_100, l32_101, l32_102, l32_104, l32_105, l32_108, l32_110, l32_115, l32_119, l32_122, l32_123, l32_125, l32_126, l32_200, l32_220, l32_224, l32_225, l32_226, l32_255, l32_256, l32_257, l32_258, l32_259, l32_290, l32_359, l32_500, l32_1000, l32_1001, l32_1002, l32_1024, l32_1200] <;> omega)))
      | (exact k _ _ (Or.inl rfl) (e.u5 (Or.inr rfl)))
      | (exfalso; omega)
      | (exact absurd rfl c0)
      | (exact absurd c0 (by decide))
      | fail)
theorem s_q_work {I : IM} {J : JM} {R : RM} (hR : QR R) {a1 a2 : Int32} {a b : Nat} (hw : WFX I a b) (h1 : a1.toInt = a) (h2 : a2.toInt = b) {Q : (Int32 × WW) → Prop} (k : ∀ (r : Int32) (I' : IM), B01 r → WK I I' → Q (r, mk I' J R)) : wp (f_q_work 373 a1 a2 (mk I J R)) Q := by
  unfold f_q_work
  have hl := hw.1
  have hb := hw.2.1
  refine st_kb rfl (l_q_work_5 hR hw h2 k KK a _ _ _ (WK.refl I) h1 ⟨Nat.le_refl a, hw.1⟩ ?_ ?_)
  · rw [Nat.sub_self]; rfl
  · unfold KK; omega
theorem s_q_ask {I : IM} {J : JM} {R : RM} (hR : QR R) {a1 : Int32} (s0 : 0 ≤ a1.toInt ∧ a1.toInt < 160) (hE1 : E1 I a1.toInt.toNat) (hE2 : E2 I a1.toInt.toNat) {Q : (Int32 × WW) → Prop} (k : ∀ (r : Int32) (I' : IM), (-1 ≤ r.toInt ∧ r.toInt ≤ 1) → WK I I' → Q (r, mk I' J R)) : wp (f_q_ask 373 a1 (mk I J R)) Q := by
  have a1' := hE1.a
  unfold f_q_ask f_q_ask_49 f_q_ask_50 f_q_ask_81
  refine st_kb rfl (qn_12 hR (st_rI (n := 160) rfl (by omega) rfl (qn_13 hR (st_rI (n := 160) rfl (by omega) rfl (st_bd2 (s_q_work hR hE1.w (by omega) (by omega) (fun r I1 hb e1 => ?_)))))))
  dsimp only
  have hE2' := hE2.pa e1.pa
  have a2' := hE2'.a
  refine st_gI rfl rfl rfl (st_ite (fun _ => ?_) (fun _ => ?_))
  · rw [if_pos rfl]; exact st_some (k _ _ (by decide) e1)
  refine qn_14 hR (st_rI (n := 160) rfl (by omega) rfl (qn_15 hR (st_rI (n := 160) rfl (by omega) rfl (st_bd2 (s_q_work hR hE2'.w (by omega) (by omega) (fun r2 I2 hb2 e2 => ?_))))))
  dsimp only
  refine st_ite (fun _ => ?_) (fun _ => ?_)
  · rw [if_pos rfl]; exact st_some (k _ _ (by decide) (e1.trans e2))
  rw [if_neg (by decide)]
  refine qn_16 hR (st_rI (n := 160) rfl (by omega) rfl (st_gI rfl rfl rfl (st_bd2 (s_q_holds (fun r3 hb3 => ?_)))))
  dsimp only
  exact st_ite (fun _ => st_some (k _ _ (by decide) (e1.trans e2))) (fun _ => st_some (k _ _ (by decide) (e1.trans e2)))
/-- the INPUTS taken, the STATEMENTS of a half -/
def TKN (I : IM) : Prop := 0 ≤ (I 373 53).toInt ∧ (I 373 53).toInt ≤ 8 ∧ 0 ≤ (I 373 3).toInt ∧ (I 373 3).toInt ≤ 8
theorem TKN.wk {I I' : IM} (h : TKN I) (e : WK I I') : TKN I' := by
  unfold TKN; rw [e 373 53 (by omega) (by omega), e 373 3 (by omega) (by omega)]; exact h
theorem TKN.oth {I : IM} {x i : Nat} {v : Int32} (h : TKN I) (hx : x ≠ 373 ∨ (i ≠ 53 ∧ i ≠ 3)) : TKN (up2 I x i v) := by
  unfold TKN; rw [up2_ne _ _ (by omega), up2_ne _ _ (by omega)]; exact h
theorem q_simple {I : IM} {J : JM} {R : RM} (hR : QR R) {a1 : Int32} (s0 : 0 ≤ a1.toInt ∧ a1.toInt < 160) (hS : ST I a1.toInt.toNat) (ht : TKN I) {Q : (Int32 × WW) → Prop} (k : ∀ (r : Int32) (I' : IM), B01 r → GO I I' → TKN I' → I' 373 52 = I 373 52 → (∀ j, I' 404 j = I 404 j) → Q (r, mk I' J R)) (hk : (I 376 a1.toInt.toNat).toInt ≠ 3 ∧ (I 376 a1.toInt.toNat).toInt ≠ 4) : wp (f_q_simple 373 a1 (mk I J R)) Q := by
  have hkd := hS.1
  have hT1 := hS.2.2.1
  have hT2 := hS.2.2.2.1
  have ht' := ht
  unfold TKN at ht'
  unfold f_q_simple f_q_simple_123 f_q_simple_254
  refine st_kb rfl (qn_9 hR (st_rI (n := 160) rfl (by omega) rfl (st_ite (fun c => ?_) (fun c => ?_))))
  · have c' : (I 376 a1.toInt.toNat).toInt = 1 := by rw [c]; rfl
    have t1 := hT1 (by omega)
    have e44 : ∀ v : Int32, wp (f_q_simple_44 373 a1 401 (I 377 a1.toInt.toNat) v (mk I J R)) Q := by
      intro v
      unfold f_q_simple_44
      refine st_sI (n := 6) rfl (by omega) ?_
      have fK : ∀ x j, x ≠ 401 → up2 I 401 (I 377 a1.toInt.toNat).toInt.toNat v x j = I x j := fun x j hx => up2_nea hx
      generalize up2 I 401 (I 377 a1.toInt.toNat).toInt.toNat v = K at *
      have e66 : ∀ L, (∀ x j, x ≠ 401 → (x ≠ 373 ∨ j ≠ 53) → L x j = I x j) → TKN L → wp (f_q_simple_66 373 a1 (mk L J R)) Q := by
        intro L fL tL
        unfold f_q_simple_66
        refine qn_49 hR (qn_10 hR (st_rI (n := 160) (x := I 377 a1.toInt.toNat) rfl (by omega) (fL _ _ (by omega) (by omega)) (st_sI (n := 6) rfl (by omega) (st_req (Or.inr rfl) (st_some (k _ _ (Or.inr rfl) (fun x j h1 h2 => ?_) (tL.oth (by omega)) ?_ (fun j => ?_)))))))
        · rw [up2_nea (by omega)]; exact fL x j (by omega) (by omega)
        · rw [up2_nea (by decide)]; exact fL _ _ (by omega) (by omega)
        · rw [up2_nea (by decide)]; exact fL _ _ (by omega) (by omega)
      have k53 : K 373 53 = I 373 53 := fK _ _ (by decide)
      have k3 : K 373 3 = I 373 3 := fK _ _ (by decide)
      have tK : TKN K := by unfold TKN; rw [k53, k3]; exact ht'
      refine st_gI rfl rfl k53 (st_gI rfl rfl k3 (st_ite (fun c2 => e66 K (fun x j h1 _ => fK x j h1) tK) (fun c2 => ?_)))
      rw [i32le] at c2
      refine st_gI rfl rfl k53 (st_pI rfl rfl (e66 _ (fun x j h1 h2 => ?_) ?_))
      · rw [up2_ne _ _ (by omega)]; exact fK x j h1
      · have x53 : (I 373 53 + 1).toInt = (I 373 53).toInt + 1 := by rw [i32addc (by rw [l32_1]; omega), l32_1]
        unfold TKN
        rw [up2_s, up2_nek (by decide), k3, x53]; omega
    refine qn_45 hR (qn_10 hR (st_rI (n := 160) rfl (by omega) rfl (st_gI rfl rfl rfl (st_gI rfl rfl rfl (st_ite (fun _ => e44 _) (fun c2 => ?_))))))
    rw [i32le] at c2
    exact qn_1 hR (st_gI rfl rfl rfl (st_rI (n := 8) rfl (by omega) rfl (e44 _)))
  have c' : (I 376 a1.toInt.toNat).toInt ≠ 1 := fun z => c (i32eq.mpr (by rw [z]; rfl))
  have hE1 := hS.e1 c'
  have w1 := hE1.a
  refine qn_9 hR (st_rI (n := 160) rfl (by omega) rfl (st_ite (fun c5 => ?_) (fun c5 => ?_)))
  · have c5' : (I 376 a1.toInt.toNat).toInt = 5 := by rw [c5]; rfl
    refine st_bd2 (s_q_ask hR s0 hE1 (hS.e2 (by omega)) (fun r I1 hr e1 => ?_))
    dsimp only
    refine st_ite (fun _ => ?_) (fun _ => ?_)
    · refine qn_11 hR (st_rI (n := 160) rfl (by omega) rfl (st_bd2 (s_q_stop hR ?_)))
      dsimp only
      exact st_req (Or.inl rfl) (st_some (k _ _ (Or.inl rfl) (e1.u5 (Or.inr rfl)).go ((ht.wk e1).oth (by omega)) (by rw [up2_nek (by decide)]; exact e1 _ _ (by omega) (by omega)) (fun j => by rw [up2_nea (by decide)]; exact e1 _ _ (by omega) (by omega))))
    · exact st_ite (fun _ => st_req (Or.inl rfl) (st_some (k _ _ (Or.inl rfl) e1.go (ht.wk e1) (e1 _ _ (by omega) (by omega)) (fun j => e1 _ _ (by omega) (by omega))))) (fun _ => st_req (Or.inr rfl) (st_some (k _ _ (Or.inr rfl) e1.go (ht.wk e1) (e1 _ _ (by omega) (by omega)) (fun j => e1 _ _ (by omega) (by omega)))))
  have c5' : (I 376 a1.toInt.toNat).toInt ≠ 5 := fun z => c5 (i32eq.mpr (by rw [z]; rfl))
  refine qn_12 hR (st_rI (n := 160) rfl (by omega) rfl (qn_13 hR (st_rI (n := 160) rfl (by omega) rfl (st_bd2 (s_q_work hR hE1.w (by omega) (by omega) (fun r I1 hr e1 => ?_))))))
  dsimp only
  have kk : ∀ (r : Int32) (L : IM), B01 r → WK I1 L → Q (r, mk L J R) := fun r L hr eL => k _ _ hr (e1.trans eL).go (ht.wk (e1.trans eL)) ((e1.trans eL) _ _ (by omega) (by omega)) (fun j => (e1.trans eL) _ _ (by omega) (by omega))
  refine st_ite (fun _ => st_req (Or.inl rfl) (st_some (kk _ _ (Or.inl rfl) (WK.refl _)))) (fun _ => ?_)
  have p1 := e1.pa
  have g377 : I1 377 a1.toInt.toNat = I 377 a1.toInt.toNat := p1 _ _ (by omega) (by omega)
  refine qn_9 hR (st_rI (n := 160) (x := I 376 a1.toInt.toNat) rfl (by omega) (p1 _ _ (by omega) (by omega)) (st_ite (fun c0 => ?_) (fun c0 => ?_)))
  · have t1 := hT1 (by rw [c0]; decide)
    refine qn_45 hR (qn_10 hR (st_rI (n := 160) (x := I 377 a1.toInt.toNat) rfl (by omega) g377 (st_gI rfl rfl rfl (st_sI (n := 6) rfl (by omega) ?_))))
    refine qn_49 hR (qn_10 hR (st_rI (n := 160) (x := I 377 a1.toInt.toNat) rfl (by omega) ((up2_nea (by decide)).trans g377) (st_sI (n := 6) rfl (by omega) (st_req (Or.inr rfl) (st_some (k _ _ (Or.inr rfl) (fun x j h1 h2 => ?_) (((ht.wk e1).oth (by omega)).oth (by omega)) ?_ (fun j => ?_)))))))
    · rw [up2_nea (by omega), up2_nea (by omega)]; exact e1.go x j h1 h2
    · rw [up2_nea (by decide), up2_nea (by decide)]; exact e1 _ _ (by omega) (by omega)
    · rw [up2_nea (by decide), up2_nea (by decide)]; exact e1 _ _ (by omega) (by omega)
  · have c0' : (I 376 a1.toInt.toNat).toInt ≠ 0 := fun z => c0 (i32eq.mpr (by rw [z]; rfl))
    have k2 : (I 376 a1.toInt.toNat).toInt = 2 := by omega
    have t2 := hT2 k2
    have hE2 := (hS.e2 (by omega)).pa p1
    have w2 := hE2.a
    refine st_gI rfl rfl rfl (st_bd2 (s_q_in (fun r2 hb2 hr2 => ?_)))
    dsimp only
    refine st_ite (fun _ => ?_) (fun ci => ?_)
    · refine qn_11 hR (st_rI (n := 160) rfl (by omega) rfl (st_bd2 (s_q_stop hR ?_)))
      dsimp only
      exact st_req (Or.inl rfl) (st_some (kk _ _ (Or.inl rfl) ((WK.refl I1).u5 (Or.inr rfl))))
    rw [i32eq, l32_0] at ci
    rw [i3264, l64_0, l64_3] at hr2
    refine qn_14 hR (st_rI (n := 160) rfl (by omega) rfl (qn_15 hR (st_rI (n := 160) rfl (by omega) rfl (st_bd2 (s_q_work hR hE2.w (by omega) (by omega) (fun r3 I2 hr3 e2 => ?_))))))
    dsimp only
    refine st_ite (fun _ => st_req hr3 (st_some (kk _ _ hr3 e2))) (fun _ => ?_)
    have g377' : I2 377 a1.toInt.toNat = I 377 a1.toInt.toNat := by rw [e2.pa _ _ (by omega) (by omega)]; exact g377
    have xi : ((4 : Int32) * I 377 a1.toInt.toNat + I1 373 50).toInt = 4 * (I 377 a1.toInt.toNat).toInt + (I1 373 50).toInt := by
      rw [i32addc (by rw [m32_4 (by omega)]; omega), m32_4 (by omega)]
    refine qn_46 hR (qn_10 hR (st_rI (n := 160) (x := I 377 a1.toInt.toNat) rfl (by omega) g377' (st_gI rfl rfl rfl (st_sI (n := 8) rfl (by omega) (st_req hr3 (st_some (k _ _ hr3 (fun x j h1 h2 => ?_) ((ht.wk (e1.trans e2)).oth (by omega)) ?_ (fun j => ?_))))))))
    · rw [up2_nea (by omega)]; exact (e1.trans e2).go x j h1 h2
    · rw [up2_nea (by decide)]; exact (e1.trans e2) _ _ (by omega) (by omega)
    · rw [up2_nea (by decide)]; exact (e1.trans e2) _ _ (by omega) (by omega)
/-- the owners of the BLOCKS that are run -/
def OWN (lo hi : Nat) (d : Nat → Nat) (t : Nat) (I0 I : IM) : Prop := ∀ j, j < t → 0 ≤ (I 404 j).toInt ∧ lo ≤ (I 404 j).toInt.toNat ∧ (I 404 j).toInt.toNat < hi ∧ d (I 404 j).toInt.toNat = j
theorem l_q_go_79 {J : JM} {R : RM} (hR : QR R) {lo hi : Nat} {d : Nat → Nat} {I0 : IM} (hg : PG I0 d lo hi) {y1 : Int32} (h1 : 0 ≤ y1.toInt ∧ y1.toInt ≤ 500) {Q : (Int32 × WW) → Prop} (k : ∀ (r : Int32) (I' : IM), GO I0 I' → Q (r, mk I' J R)) : ∀ (N t : Nat) (y2 y3 y4 : Int32) (I : IM), GO I0 I → TKN I → VS lo hi d t y2 → y3.toInt = t → t ≤ 4 → OWN lo hi d t I0 I → (0 ≤ (I 373 52).toInt ∧ (I 373 52).toInt ≤ y1.toInt) → (20 * (y1.toInt - (I 373 52).toInt) + 2 * t + (if 0 ≤ y2.toInt then 1 else 0)).toNat + 1 < N → wp (f_q_go_79 N 373 y1 y2 y3 y4 (mk I J R)) Q := by
  intro N
  induction N with
  | zero => intros; omega
  | succ N ih =>
    intro t y2 y3 y4 I e ht hv h3 ht4 ho hb hN
    have hg1 := hg.1
    rw [f_q_go_79]
    refine st_ite (fun _ => ?_) (fun _ => ?_)
    · have fin : ∀ z : Int32, wp (f_q_go_318 373 z (mk I J R)) Q := by
        intro z
        unfold f_q_go_318
        exact st_pI rfl rfl (st_some (k _ _ (fun x j a b => (up2_ne _ _ (by omega)).trans (e x j a b))))
      refine st_gI rfl rfl rfl (st_req (by decide) ?_)
      exact st_ite (fun _ => fin _) (fun _ => st_ite (fun _ => fin _) (fun _ => st_ite (fun _ => fin _) (fun _ => fin _)))
    refine st_ite (fun c2 => ?_) (fun c2 => ?_)
    · rw [i32le, l32_0] at c2
      have hv' : lo ≤ y2.toInt.toNat ∧ y2.toInt.toNat < hi ∧ d y2.toInt.toNat = t := by
        rcases hv with z | z
        · omega
        · exact z.2
      obtain ⟨v1, v2, v3⟩ := hv'
      have hSL := (hg.2 _ v1 v2).pa e.pa
      have hS := hSL.1
      have hd3 := hSL.2.1
      have hkd := hS.1
      rw [if_pos c2] at hN
      refine st_gI rfl rfl rfl (st_ite (fun _ => st_some (k _ _ e)) (fun cl => ?_))
      rw [i32eq] at cl
      have x52 : (I 373 52 + 1).toInt = (I 373 52).toInt + 1 := by rw [i32addc (by rw [l32_1]; omega), l32_1]
      refine st_gI rfl rfl rfl (st_pI rfl rfl ?_)
      have fK : ∀ x j, (x ≠ 373 ∨ j ≠ 52) → up2 I 373 52 (I 373 52 + 1) x j = I x j := fun x j hx => up2_ne _ _ (by omega)
      have k52 : up2 I 373 52 (I 373 52 + 1) 373 52 = I 373 52 + 1 := up2_s
      generalize up2 I 373 52 (I 373 52 + 1) = K at *
      have eK : GO I0 K := fun x j a b => (fK x j (by omega)).trans (e x j a b)
      have pIK : PA I K := fun x j _ _ => fK x j (by omega)
      have hSK := hS.pa pIK
      have tK : TKN K := by
        unfold TKN; rw [fK _ _ (by omega), fK _ _ (by omega)]; exact ht
      have oK : ∀ j, K 404 j = I 404 j := fun j => fK _ _ (by omega)
      have k376 : K 376 y2.toInt.toNat = I 376 y2.toInt.toNat := fK _ _ (by omega)
      have g177 : ((I 376 y2.toInt.toNat).toInt = 3 ∨ (I 376 y2.toInt.toNat).toInt = 4) → wp (f_q_go_177 (f_q_go_79 N) 373 y1 y2 y3 (mk K J R)) Q := by
        intro hk
        unfold f_q_go_177
        refine st_bd2 (s_q_ask hR (by omega) (hSK.e1 (by rw [k376]; omega)) (hSK.e2 (by rw [k376]; omega)) (fun r I2 hr e2 => ?_))
        dsimp only
        have eI2 : GO I0 I2 := eK.trans e2.go
        have t2 := tK.wk e2
        have o2 : ∀ j, I2 404 j = I 404 j := fun j => (e2 _ _ (by omega) (by omega)).trans (oK j)
        have x2 : I2 373 52 = I 373 52 + 1 := (e2 _ _ (by omega) (by omega)).trans k52
        have pa2 : PA I I2 := pIK.trans e2.pa
        have g194 : ∀ z : Int32, wp (f_q_go_194 (f_q_go_79 N) 373 y1 y2 y3 r z (mk I2 J R)) Q := by
          intro z
          have g249 : wp (f_q_go_249 (f_q_go_79 N) 373 y1 y2 y3 z (mk I2 J R)) Q := by
            unfold f_q_go_249 f_q_go_256
            refine qn_19 hR (st_rI (n := 160) (x := I 386 y2.toInt.toNat) rfl (by omega) (pa2 _ _ (by omega) (by omega)) ?_)
            have hn := hSL.2.2.1
            rw [v3] at hn
            refine ih t _ _ _ I2 eI2 t2 (hn.vs v1) h3 ht4 (fun j hj => by rw [o2]; exact ho j hj) (by rw [x2, x52]; omega) ?_
            rw [x2, x52]
            split <;> omega
          have g215 : ((0 : Int32) < r ∨ I2 387 y2.toInt.toNat ≠ 0) → wp (f_q_go_215 (f_q_go_79 N) 373 y1 y2 y3 z r (mk I2 J R)) Q := by
            intro hor
            unfold f_q_go_215 f_q_go_245 f_q_go_256
            refine qn_48 hR (st_sI (n := 8) rfl (by omega) ?_)
            have e3 : y3.toInt.toNat = t := by omega
            rw [e3]
            have fL : ∀ x j, (x ≠ 404 ∨ j ≠ t) → up2 I2 404 t y2 x j = I2 x j := fun x j hx => up2_ne _ _ (by omega)
            have l404 : up2 I2 404 t y2 404 t = y2 := up2_s
            generalize up2 I2 404 t y2 = L at *
            have eL : GO I0 L := fun x j a b => (fL x j (by omega)).trans (eI2 x j a b)
            have tL : TKN L := by unfold TKN; rw [fL _ _ (by omega), fL _ _ (by omega)]; exact t2
            have xL : L 373 52 = I 373 52 + 1 := (fL _ _ (by omega)).trans x2
            have oL : OWN lo hi d (t + 1) I0 L := by
              intro j hj
              by_cases cj : j = t
              · subst cj; rw [l404]; exact ⟨c2, v1, v2, v3⟩
              · rw [fL _ _ (by omega), o2]; exact ho j (by omega)
            have y31 : (y3 + 1).toInt = ((t + 1 : Nat) : Int) := by rw [i32addc (by rw [l32_1]; omega), l32_1]; omega
            have go : ∀ s' : Int32, VS lo hi d (t + 1) s' → wp (f_q_go_79 N 373 y1 s' (y3 + 1) z (mk L J R)) Q := by
              intro s' hs'
              refine ih (t + 1) _ _ _ L eL tL hs' y31 (by omega) oL (by rw [xL, x52]; omega) ?_
              rw [xL, x52]
              split <;> omega
            refine st_ite (fun cr => ?_) (fun cr => ?_)
            · refine qn_18 hR (st_rI (n := 160) (x := I 385 y2.toInt.toNat) rfl (by omega) ((fL _ _ (by omega)).trans (pa2 _ _ (by omega) (by omega))) (go _ ?_))
              have h387 : I 387 y2.toInt.toNat ≠ 0 := by
                rcases hor with z | z
                · rw [i32lt, l32_0] at z; rw [i32le, l32_0] at cr; omega
                · rw [← pa2 387 _ (by omega) (by omega)]; exact z
              have := (hSL.2.2.2.2 h387).vs v1
              rw [v3] at this; exact this
            · refine qn_17 hR (st_rI (n := 160) (x := I 384 y2.toInt.toNat) rfl (by omega) ((fL _ _ (by omega)).trans (pa2 _ _ (by omega) (by omega))) (go _ ?_))
              have := (hSL.2.2.2.1 hk).vs v1
              rw [v3] at this; exact this
          unfold f_q_go_194
          refine st_ite (fun cr => g215 (Or.inl cr)) (fun _ => st_ite (fun _ => ?_) (fun _ => g249))
          exact qn_20 hR (st_rI (n := 160) rfl (by omega) rfl (st_ite (fun _ => g249) (fun c7 => g215 (Or.inr c7))))
        exact st_ite (fun _ => g194 _) (fun _ => g194 _)
      refine qn_9 hR (st_rI (n := 160) (x := I 376 y2.toInt.toNat) rfl (by omega) k376 (st_ite (fun ck => g177 (Or.inl (by rw [ck]; rfl))) (fun ck => ?_)))
      refine qn_9 hR (st_rI (n := 160) (x := I 376 y2.toInt.toNat) rfl (by omega) k376 (st_ite (fun ck2 => g177 (Or.inr (by rw [ck2]; rfl))) (fun ck2 => ?_)))
      refine st_bd2 (q_simple hR (by omega) hSK tK (fun r I2 hr e2 t2 b2 o2 => ?_) ⟨fun z => ck (i32eq.mpr (by rw [← k376, z]; rfl)), fun z => ck2 (i32eq.mpr (by rw [← k376, z]; rfl))⟩)
      dsimp only
      have pa2 : PA I I2 := pIK.trans e2.pa
      refine qn_19 hR (st_rI (n := 160) (x := I 386 y2.toInt.toNat) rfl (by omega) (pa2 _ _ (by omega) (by omega)) ?_)
      have hn := hSL.2.2.1
      rw [v3] at hn
      refine ih t _ _ _ I2 (eK.trans e2) t2 (hn.vs v1) h3 ht4 (fun j hj => by rw [o2, oK]; exact ho j hj) (by rw [b2, k52, x52]; omega) ?_
      rw [b2, k52, x52]
      split <;> omega
    · rw [i32le, l32_0] at c2
      refine st_ite (fun _ => st_some (k _ _ e)) (fun ct => ?_)
      rw [i32eq, l32_0] at ct
      rw [if_neg c2] at hN
      obtain ⟨u, rfl⟩ : ∃ u, t = u + 1 := ⟨t - 1, by omega⟩
      have xm : (y3 + (-1)).toInt = u := by rw [i32addc (by rw [l32_m1]; omega), l32_m1]; omega
      have xn : (y3 + (-1)).toInt.toNat = u := by omega
      obtain ⟨w0, w1, w2, w3⟩ := ho u (by omega)
      have go : ∀ s' : Int32, VS lo hi d u s' → wp (f_q_go_132 (f_q_go_79 N) 373 y1 (y3 + (-1)) y4 s' (mk I J R)) Q := by
        intro s' hs'
        unfold f_q_go_132
        refine ih u _ _ _ I e ht hs' xm (by omega) (fun j hj => ho j (by omega)) hb ?_
        split <;> omega
      refine qn_9 hR (qn_48 hR (st_rI (n := 8) (x := I 404 u) rfl (by omega) (by rw [xn]) (st_rI (n := 160) rfl (by omega) rfl (st_ite (fun _ => ?_) (fun _ => ?_)))))
      · exact qn_48 hR (st_rI (n := 8) (x := I 404 u) rfl (by omega) (by rw [xn]) (go _ (Or.inr ⟨w0, w1, w2, w3⟩)))
      · refine qn_19 hR (qn_48 hR (st_rI (n := 8) (x := I 404 u) rfl (by omega) (by rw [xn]) (st_rI (n := 160) rfl (by omega) rfl (go _ ?_))))
        have hn := ((hg.2 _ w1 w2).pa e.pa).2.2.1
        rw [w3] at hn
        exact hn.vs w1
theorem PRG.pg {I : IM} {h : Nat} (hp : PRG I h) : ∃ (d : Nat → Nat) (hi : Nat), PG I d (80 * h) hi ∧ (∀ s, 80 * h ≤ s → s < hi → d s ≤ 3) ∧ VS (80 * h) hi d 0 (I 388 h) := by
  obtain ⟨h1, h2, h3, d, h4, h5⟩ := hp
  refine ⟨d, 80 * h + (I 389 h).toInt.toNat, ⟨by omega, fun s s1 s2 => (h4 s s1 s2).1⟩, fun s s1 s2 => (h4 s s1 s2).1.2.1, ?_⟩
  rcases h5 with z | z
  · exact Or.inl z
  · exact Or.inr ⟨by omega, by omega, by omega, z.2.2⟩
theorem q_go {I : IM} {J : JM} {R : RM} (hR : QR R) {h : Nat} (hl : (I 373 27).toInt = h) (hp : PRG I h) (hin : 0 ≤ (I 373 3).toInt ∧ (I 373 3).toInt ≤ 8) {a1 : Int32} (h1 : 0 ≤ a1.toInt ∧ a1.toInt ≤ 500) {Q : (Int32 × WW) → Prop} (k : ∀ (r : Int32) (I' : IM), GO I I' → Q (r, mk I' J R)) : wp (f_q_go 373 a1 (mk I J R)) Q := by
  have hh := hp.1
  obtain ⟨d, hi, hg, _, hv⟩ := hp.pg
  have g30 : ∀ (N j : Nat) (y2 : Int32) (L : IM), GO I L → y2.toInt = j → j ≤ 8 → 8 - j < N → wp (f_q_go_30 N 373 a1 y2 (mk L J R)) Q := by
    intro N
    induction N with
    | zero => intros; omega
    | succ N ih =>
      intro j y2 L e hj hj8 hN
      rw [f_q_go_30]
      refine st_ite (fun _ => ?_) (fun c => ?_)
      · refine st_pI rfl rfl (st_pI rfl rfl (st_pI rfl rfl ?_))
        have fK : ∀ x j, (x ≠ 373 ∨ (j ≠ 51 ∧ j ≠ 52 ∧ j ≠ 53)) → up2 (up2 (up2 L 373 52 0) 373 53 0) 373 51 0 x j = L x j := fun x j hx => by rw [up2_ne _ _ (by omega), up2_ne _ _ (by omega), up2_ne _ _ (by omega)]
        have k52 : up2 (up2 (up2 L 373 52 0) 373 53 0) 373 51 0 373 52 = 0 := by rw [up2_nek (by decide), up2_nek (by decide), up2_s]
        have k53 : up2 (up2 (up2 L 373 52 0) 373 53 0) 373 51 0 373 53 = 0 := by rw [up2_nek (by decide), up2_s]
        generalize up2 (up2 (up2 L 373 52 0) 373 53 0) 373 51 0 = K at *
        have eK : GO I K := fun x j a b => (fK x j (by omega)).trans (e x j a b)
        have k27 : K 373 27 = I 373 27 := eK _ _ (by omega) (by omega)
        have k3 : K 373 3 = I 373 3 := eK _ _ (by omega) (by omega)
        have k388 : K 388 h = I 388 h := eK _ _ (by omega) (by omega)
        refine qn_21 hR (st_gI rfl rfl k27 (st_rI (n := 2) (x := I 388 h) rfl (by omega) (by rw [show (I 373 27).toInt.toNat = h by omega]; exact k388) ?_))
        refine l_q_go_79 hR hg h1 k KK 0 _ _ _ K eK ?_ hv rfl (by decide) (fun j hj => absurd hj (by omega)) (by rw [k52, l32_0]; omega) ?_
        · unfold TKN; rw [k53, k3, l32_0]; omega
        · rw [k52, l32_0]; unfold KK; split <;> omega
      · rw [i32le, l32_8] at c
        refine qn_46 hR (st_sI (n := 8) rfl (by omega) (ih (j + 1) _ _ (fun x i a b => (up2_nea (by omega)).trans (e x i a b)) (by rw [i32add, l32_1]; omega) (by omega) (by omega)))
  have g2 : ∀ (N j : Nat) (y2 : Int32) (L : IM), GO I L → y2.toInt = j → j ≤ 6 → 6 - j < N → wp (f_q_go_2 N 373 a1 y2 (mk L J R)) Q := by
    intro N
    induction N with
    | zero => intros; omega
    | succ N ih =>
      intro j y2 L e hj hj8 hN
      rw [f_q_go_2]
      refine st_ite (fun _ => g30 KK 0 _ L e rfl (by decide) (by unfold KK; decide)) (fun c => ?_)
      rw [i32le, l32_6] at c
      refine qn_49 hR (st_sI (n := 6) rfl (by omega) (qn_45 hR (st_sI (n := 6) rfl (by omega) (ih (j + 1) _ _ (fun x i a b => (up2_nea (by omega)).trans ((up2_nea (by omega)).trans (e x i a b))) (by rw [i32add, l32_1]; omega) (by omega) (by omega)))))
  unfold f_q_go
  exact st_kb rfl (g2 KK 0 _ I (GO.refl I) rfl (by decide) (by unfold KK; decide))
