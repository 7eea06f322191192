/-! text: both sides go over the eight bytes alike. -/
def okc (v : Int32) : Prop := v = 10 ∨ (32 ≤ v.toInt ∧ v.toInt ≤ 126)
theorem isC (v : Int32) (w : WW) : (okc v → f_a_isCharacter v w = some (1, w)) ∧ (¬ okc v → f_a_isCharacter v w = some (0, w)) := by
  unfold f_a_isCharacter okc
  constructor
  · intro h
    by_cases c : v = 10
    · rw [if_pos c]; simp [f_a_isCharacter_18, f_a_isCharacter_23]
    · have h2 : 32 ≤ v.toInt ∧ v.toInt ≤ 126 := by
        rcases h with h | h
        · exact absurd h c
        · exact h
      rw [if_neg c, if_neg (by rw [lt_k (y := 32) rfl]; omega), if_neg (by rw [gt_k (y := 126) rfl]; omega)]
      simp [f_a_isCharacter_18, f_a_isCharacter_23]
  · intro h
    rw [if_neg (fun z => h (Or.inl z))]
    by_cases c : v < 32
    · rw [if_pos c]; simp [f_a_isCharacter_22, f_a_isCharacter_23]
    · rw [if_neg c]
      rw [lt_k (y := 32) rfl] at c
      rw [if_pos (by rw [gt_k (y := 126) rfl]; omega)]
      simp [f_a_isCharacter_22, f_a_isCharacter_23]
/-- the first way over the bytes: how many there are, or that one is no character -/
def scan (a : Int64) : Nat → Int32 → Option Int32 → Prop
  | 0, k, r => r = some k
  | m + 1, k, r => (mb a (sh (m + 1)) = 0 ∧ scan a m k r) ∨ (mb a (sh (m + 1)) ≠ 0 ∧ okc (mb a (sh (m + 1))) ∧ scan a m (k + 1) r) ∨ (mb a (sh (m + 1)) ≠ 0 ∧ ¬ okc (mb a (sh (m + 1))) ∧ r = none)
theorem scan_all (a : Int64) : ∀ (m : Nat) (k : Int32), ∃ r, scan a m k r := by
  intro m
  induction m with
  | zero => intro k; exact ⟨some k, rfl⟩
  | succ m ih =>
    intro k
    by_cases c : mb a (sh (m + 1)) = 0
    · obtain ⟨r, h⟩ := ih k; exact ⟨r, Or.inl ⟨c, h⟩⟩
    · by_cases d : okc (mb a (sh (m + 1)))
      · obtain ⟨r, h⟩ := ih (k + 1); exact ⟨r, Or.inr (Or.inl ⟨c, d, h⟩)⟩
      · exact ⟨none, Or.inr (Or.inr ⟨c, d, rfl⟩)⟩
def cnt (a : Int64) : Nat → Nat
  | 0 => 0
  | m + 1 => (if mb a (sh (m + 1)) = 0 then 0 else 1) + cnt a m
theorem cnt_le (a : Int64) : ∀ m, cnt a m ≤ m := by
  intro m
  induction m with
  | zero => exact Nat.le_refl _
  | succ m ih => unfold cnt; split <;> omega
theorem scan_cnt (a : Int64) : ∀ (m j : Nat) (k : Int32), scan a m (Int32.ofNat j) (some k) → k = Int32.ofNat (j + cnt a m) := by
  intro m
  induction m with
  | zero => intro j k h; exact (Option.some.inj h)
  | succ m ih =>
    intro j k h
    rcases h with ⟨c, h⟩ | ⟨c, d, h⟩ | ⟨c, d, h⟩
    · rw [ih j k h]
      show Int32.ofNat (j + cnt a m) = Int32.ofNat (j + ((if mb a (sh (m + 1)) = 0 then 0 else 1) + cnt a m))
      rw [if_pos c, Nat.zero_add]
    · have e : Int32.ofNat j + 1 = Int32.ofNat (j + 1) := (Int32.ofNat_add j 1).symm
      rw [e] at h
      rw [ih (j + 1) k h]
      show Int32.ofNat (j + 1 + cnt a m) = Int32.ofNat (j + ((if mb a (sh (m + 1)) = 0 then 0 else 1) + cnt a m))
      rw [if_neg c, Nat.add_assoc]
    · cases h
/-- the object's first way -/
theorem t_a1 (a : Int64) (w : WW) : ∀ (m : Nat), m ≤ 8 → ∀ (n : Nat) (k : Int32) (r : Option Int32), scan a m k r → f_a_text_6 (n + m + 1) 0 a k (sh m) w = (match r with
    | some k2 => (gN w 0 0 3).bind fun x2 => (gI w x2 1 4).bind fun x3 => if (x3 + k2) ≤ (200 : Int32) then f_a_text_86 KK 0 a (56 : Int32) w else some (.inr "java/lang/IllegalStateException", w)
    | none => some (.inr "java/lang/IllegalArgumentException", w)) := by
  intro m
  induction m with
  | zero =>
    intro _ n k r h
    rw [show r = some k from h, f_a_text_6, if_pos sh_0]
  | succ m ih =>
    intro hm n k r h
    have hb : f_a_byteAt a (sh (m + 1)) w = some (mb a (sh (m + 1)), w) := by
      rw [← cb_mb a m (by omega)]; rfl
    have hdn := sh_dn m (by omega)
    have hn : n + (m + 1) + 1 = (n + m + 1) + 1 := rfl
    rw [hn, f_a_text_6, if_neg (sh_pos m (by omega)), hb, bd2_some]
    rcases h with ⟨c, h⟩ | ⟨c, d, h⟩ | ⟨c, d, h⟩
    · rw [if_pos c]
      unfold f_a_text_40 f_a_text_51
      rw [if_pos c, hdn, Int32.add_zero]
      exact ih (by omega) n k r h
    · rw [if_neg c, (isC _ w).1 d, bd2_some, if_neg (by decide)]
      unfold f_a_text_40 f_a_text_51
      rw [if_neg c, hdn]
      exact ih (by omega) n (k + 1) r h
    · rw [if_neg c, (isC _ w).2 d, bd2_some, if_pos rfl, h]
/-- the reference's first way -/
theorem t_q0 (a : Int64) (w : WW) : ∀ (m : Nat), m ≤ 8 → ∀ (n : Nat) (k : Int32), f_q_text_9 (n + m + 1) 373 a k 0 (sh m) w = f_q_fail 373 1 w := by
  intro m
  induction m with
  | zero =>
    intro _ n k
    rw [f_q_text_9, if_pos sh_0, if_pos rfl]
    exact bd2_eta _
  | succ m ih =>
    intro hm n k
    have hdn := sh_dn m (by omega)
    have hn : n + (m + 1) + 1 = (n + m + 1) + 1 := rfl
    rw [hn, f_q_text_9, if_neg (sh_pos m (by omega))]
    show (if mb a (sh (m + 1)) = 0 then _ else if mb a (sh (m + 1)) = 10 then _ else bd2 (f_q_in (Int32.toInt64 (mb a (sh (m + 1)))) 32 126 w) _) = _
    by_cases c : mb a (sh (m + 1)) = 0
    · rw [if_pos c]; unfold f_q_text_61; rw [hdn]; exact ih (by omega) n k
    · rw [if_neg c]
      by_cases c2 : mb a (sh (m + 1)) = 10
      · rw [if_pos c2]; unfold f_q_text_58 f_q_text_61; rw [hdn]; exact ih (by omega) n (k + 1)
      · rw [if_neg c2]
        by_cases c3 : 32 ≤ (mb a (sh (m + 1))).toInt ∧ (mb a (sh (m + 1))).toInt ≤ 126
        · rw [in_yes (x := 32) (y := 126) w rfl rfl c3.1 c3.2, bd2_some, if_neg (by decide)]; unfold f_q_text_58 f_q_text_61; rw [hdn]; exact ih (by omega) n (k + 1)
        · rw [in_no (x := 32) (y := 126) w rfl rfl (by omega), bd2_some, if_pos rfl]; unfold f_q_text_58 f_q_text_61; rw [hdn]; exact ih (by omega) n (k + 1)
theorem t_q1 (a : Int64) (w : WW) : ∀ (m : Nat), m ≤ 8 → ∀ (n : Nat) (k : Int32) (r : Option Int32), scan a m k r → f_q_text_9 (n + m + 1) 373 a k 1 (sh m) w = (match r with
    | some k2 => (gI w 373 9 2).bind fun x3 => if (x3 + k2) ≤ (200 : Int32) then (pv w 373 9 5 (.int (0 : Int32))).bind fun w5 => f_q_text_105 KK 373 a (56 : Int32) w5 else f_q_fail 373 2 w
    | none => f_q_fail 373 1 w) := by
  intro m
  induction m with
  | zero =>
    intro _ n k r h
    rw [show r = some k from h, f_q_text_9, if_pos sh_0, if_neg (by decide)]
    simp only [bd2_eta]
  | succ m ih =>
    intro hm n k r h
    have hdn := sh_dn m (by omega)
    have hn : n + (m + 1) + 1 = (n + m + 1) + 1 := rfl
    rw [hn, f_q_text_9, if_neg (sh_pos m (by omega))]
    show (if mb a (sh (m + 1)) = 0 then _ else if mb a (sh (m + 1)) = 10 then _ else bd2 (f_q_in (Int32.toInt64 (mb a (sh (m + 1)))) 32 126 w) _) = _
    rcases h with ⟨c, h⟩ | ⟨c, d, h⟩ | ⟨c, d, h⟩
    · rw [if_pos c]; unfold f_q_text_61; rw [hdn]; exact ih (by omega) n k r h
    · rw [if_neg c]
      by_cases c2 : mb a (sh (m + 1)) = 10
      · rw [if_pos c2]; unfold f_q_text_58 f_q_text_61; rw [hdn]; exact ih (by omega) n (k + 1) r h
      · have c3 : 32 ≤ (mb a (sh (m + 1))).toInt ∧ (mb a (sh (m + 1))).toInt ≤ 126 := by
          rcases d with d | d
          · exact absurd d c2
          · exact d
        rw [if_neg c2, in_yes (x := 32) (y := 126) w rfl rfl c3.1 c3.2, bd2_some, if_neg (by decide)]; unfold f_q_text_58 f_q_text_61; rw [hdn]; exact ih (by omega) n (k + 1) r h
    · have c2 : mb a (sh (m + 1)) ≠ 10 := fun z => d (Or.inl z)
      have c3 : ¬ (32 ≤ (mb a (sh (m + 1))).toInt ∧ (mb a (sh (m + 1))).toInt ≤ 126) := fun z => d (Or.inr z)
      rw [h, if_neg c, if_neg c2, in_no (x := 32) (y := 126) w rfl rfl (by omega), bd2_some, if_pos rfl]; unfold f_q_text_58 f_q_text_61; rw [hdn]; exact t_q0 a w m (by omega) n (k + 1)
/-- the object's second way: what it needs of the world, with j characters there -/
def RD : Nat := (gN W5 0 0 3).getD 0
def CH : Nat := (gN W5 RD 1 0).getD 0
def QT : Nat := (gN W5 373 9 0).getD 0
theorem tx_f : gN W5 0 0 3 = some RD ∧ kb W5 RD 1 = true ∧ gI W5 RD 1 4 = some 0 ∧ gN W5 RD 1 0 = some CH ∧ lnI W5 CH 3 = some 200 ∧ gI W5 373 9 2 = some 0 ∧ gN W5 373 9 0 = some QT ∧ lnI W5 QT 0 = some 200 ∧ (0 ≠ RD ∧ RD < 373 ∧ CH < 373 ∧ 373 < QT ∧ QT ≠ 416) := by decide +kernel
def TA (w : WW) (j : Nat) : Prop := gN w 0 0 3 = some RD ∧ kb w RD 1 = true ∧ gI w RD 1 4 = some (Int32.ofNat j) ∧ gN w RD 1 0 = some CH ∧ lnI w CH 3 = some 200 ∧ ∀ q, 373 ≤ q → w q = W5 q
theorem small : ∀ j, j < 8 → ¬ ((200 : Int32) ≤ Int32.ofNat j) ∧ ¬ (Int32.ofNat j < 0 ∨ 200 ≤ (Int32.ofNat j).toNatClampNeg) ∧ Int32.ofNat j + 1 = Int32.ofNat (j + 1) := by decide +kernel
theorem t_app {w : WW} {j : Nat} (h : TA w j) (hj : j < 8) (v : Int32) : ∃ w', f_rd_append RD v w = some w' ∧ TA w' (j + 1) := by
  obtain ⟨h1, h2, h3, h4, h5, h6⟩ := h
  obtain ⟨-, -, -, -, -, -, -, -, n0, n1, n2, -, -⟩ := tx_f
  obtain ⟨s1, s2, s3⟩ := small j hj
  obtain ⟨wA, hA⟩ := sI_do h5 s2 (vp_nar .char v)
  have g3 : gI wA RD 1 4 = some (Int32.ofNat j) := by rw [sI_gI hA]; exact h3
  obtain ⟨wB, hB⟩ := pv_do (gv_of g3) (.int (Int32.ofNat j + 1))
  refine ⟨wB, ?_, ?_, ?_, ?_, ?_, ?_, ?_⟩
  · unfold f_rd_append
    rw [if_pos h2, h3, Option.bind_some, if_neg s1, h4, Option.bind_some, Option.bind_some, hA, Option.bind_some, g3, Option.bind_some, hB, Option.bind_some]
    rfl
  · rw [pv_gN_ne hB (Or.inl n0), sI_gN hA]; exact h1
  · rw [pv_kb hB, sI_kb hA]; exact h2
  · rw [← s3]; exact pv_gI hB
  · rw [pv_gN_ne hB (Or.inr (by decide)), sI_gN hA]; exact h4
  · rw [pv_lnI hB, sI_lnI hA]; exact h5
  · intro q hq
    rw [pv_at hB (by omega), sI_at hA (by omega)]
    exact h6 q hq
theorem t_a2 (a : Int64) : ∀ (m : Nat), m ≤ 8 → ∀ (n j : Nat) (w : WW), j + m ≤ 8 → TA w j → ∃ w', f_a_text_86 (n + m + 1) 0 a (sh m) w = some (.inl (Int32.ofNat (j + cnt a m)), w') ∧ TA w' (j + cnt a m) := by
  intro m
  induction m with
  | zero =>
    intro _ n j w _ h
    refine ⟨w, ?_, h⟩
    rw [f_a_text_86, if_pos sh_0, h.1, Option.bind_some, h.2.2.1, Option.bind_some]
    rfl
  | succ m ih =>
    intro hm n j w hj h
    have hb : f_a_byteAt a (sh (m + 1)) w = some (mb a (sh (m + 1)), w) := by
      rw [← cb_mb a m (by omega)]; rfl
    have hdn := sh_dn m (by omega)
    have hn : n + (m + 1) + 1 = (n + m + 1) + 1 := rfl
    have hc : cnt a (m + 1) = (if mb a (sh (m + 1)) = 0 then 0 else 1) + cnt a m := rfl
    rw [hn, f_a_text_86, if_neg (sh_pos m (by omega)), hb, bd2_some]
    by_cases c : mb a (sh (m + 1)) = 0
    · rw [if_pos c]
      unfold f_a_text_114
      rw [hdn, hc, if_pos c, Nat.zero_add]
      exact ih (by omega) n j w (by omega) h
    · rw [if_neg c, h.1, Option.bind_some]
      obtain ⟨w1, e1, h1⟩ := t_app h (by omega) (Int32.toUInt32 (mb a (sh (m + 1))) % 65536).toInt32
      rw [e1, Option.bind_some]
      unfold f_a_text_114
      rw [hdn, hc, if_neg c, ← Nat.add_assoc]
      exact ih (by omega) n (j + 1) w1 (by omega) h1
/-- the reference's second way -/
def TQ (u : Option WE) (w : WW) (j : Nat) : Prop := kb w 373 9 = true ∧ gI w 373 9 2 = some (Int32.ofNat j) ∧ gN w 373 9 0 = some QT ∧ lnI w QT 0 = some 200 ∧ gI w 373 9 5 = some 0 ∧ w 416 = u
theorem t_q2 (a : Int64) (u : Option WE) : ∀ (m : Nat), m ≤ 8 → ∀ (n j : Nat) (w : WW), j + m ≤ 8 → TQ u w j → ∃ w', f_q_text_105 (n + m + 1) 373 a (sh m) w = some (Int32.ofNat (j + cnt a m), w') ∧ TQ u w' (j + cnt a m) := by
  obtain ⟨-, -, -, -, -, -, -, -, -, -, -, n3, n4⟩ := tx_f
  intro m
  induction m with
  | zero =>
    intro _ n j w _ h
    refine ⟨w, ?_, h⟩
    rw [f_q_text_105, if_pos sh_0, h.2.1, Option.bind_some]
    rfl
  | succ m ih =>
    intro hm n j w hj h
    have hdn := sh_dn m (by omega)
    have hn : n + (m + 1) + 1 = (n + m + 1) + 1 := rfl
    have hc : cnt a (m + 1) = (if mb a (sh (m + 1)) = 0 then 0 else 1) + cnt a m := rfl
    rw [hn, f_q_text_105, if_neg (sh_pos m (by omega))]
    show ∃ w', (if mb a (sh (m + 1)) = 0 then _ else _) = _ ∧ _
    by_cases c : mb a (sh (m + 1)) = 0
    · rw [if_pos c]
      unfold f_q_text_150
      rw [hdn, hc, if_pos c, Nat.zero_add]
      exact ih (by omega) n j w (by omega) h
    · obtain ⟨h1, h2, h3, h4, h5, h6⟩ := h
      obtain ⟨s1, s2, s3⟩ := small j (by omega)
      obtain ⟨wA, hA⟩ := sI_do h4 s2 (mb a (sh (m + 1)))
      have g2 : gI wA 373 9 2 = some (Int32.ofNat j) := by rw [sI_gI hA]; exact h2
      obtain ⟨wB, hB⟩ := pv_do (gv_of g2) (.int (Int32.ofNat j + 1))
      have hA' : sI w QT 0 (Int32.ofNat j) ((Int64.toInt32 (a >>> (Int32.toInt64 (sh (m + 1)) &&& 63))) &&& (255 : Int32)) = some wA := hA
      rw [if_neg c, h3, Option.bind_some, h2, Option.bind_some, hA', Option.bind_some, g2, Option.bind_some, hB, Option.bind_some]
      unfold f_q_text_150
      rw [hdn, hc, if_neg c, ← Nat.add_assoc]
      refine ih (by omega) n (j + 1) wB (by omega) ⟨?_, ?_, ?_, ?_, ?_, ?_⟩
      · rw [pv_kb hB, sI_kb hA]; exact h1
      · rw [← s3]; exact pv_gI hB
      · rw [pv_gN_ne hB (Or.inr (by decide)), sI_gN hA]; exact h3
      · rw [pv_lnI hB, sI_lnI hA]; exact h4
      · rw [pv_gI_ne hB (Or.inr (by decide)), sI_gI hA]; exact h5
      · rw [pv_at hB (by decide), sI_at hA (by omega)]; exact h6
theorem KK_8 : KK = 999999999991 + 8 + 1 := rfl
theorem small8 : ∀ c, c < 9 → ((0 : Int32) + Int32.ofNat c) ≤ 200 := by decide +kernel
theorem ok_text (a : Int64) : (cmp (f_lw_text 0 a 416 W5) (f_q_text 373 a)).isSome = true := by
  obtain ⟨f1, f2, f3, f4, f5, f6, f7, f8, n0, n1, n2, n3, n4⟩ := tx_f
  obtain ⟨r, hr⟩ := scan_all a 8 0
  have hA := t_a1 a W5 8 (by decide) 999999999991 0 r hr
  have hQ := fun w => t_q1 a w 8 (by decide) 999999999991 0 r hr
  rw [← KK_8, ← sh_8] at hA
  have hta : f_a_text 0 a W5 = f_a_text_6 KK 0 a 0 56 W5 := by unfold f_a_text; rw [if_pos kb0]
  cases r with
  | none =>
    refine thr (k := 1) ?_ ?_ fl_1
    · unfold f_lw_text
      rw [hta, hA]
      simp [bdh]
    · unfold f_q_text
      rw [if_pos kbq]
      have h := hQ W5
      rw [← KK_8, ← sh_8] at h
      exact h
  | some k =>
    have hk : k = Int32.ofNat (0 + cnt a 8) := scan_cnt a 8 0 k hr
    rw [Nat.zero_add] at hk
    have hc := cnt_le a 8
    have hs := small8 (cnt a 8) (by omega)
    have hT0 : TA W5 0 := ⟨f1, f2, f3, f4, f5, fun _ _ => rfl⟩
    obtain ⟨wB, hB, hTB⟩ := t_a2 a 8 (by decide) 999999999991 0 W5 (by decide) hT0
    rw [← KK_8, ← sh_8, Nat.zero_add] at hB
    rw [Nat.zero_add] at hTB
    have hin : f_a_text 0 a W5 = some (.inl (Int32.ofNat (cnt a 8)), wB) := by
      rw [hta, hA]
      show ((gN W5 0 0 3).bind fun x2 => (gI W5 x2 1 4).bind fun x3 => if (x3 + k) ≤ (200 : Int32) then f_a_text_86 KK 0 a (56 : Int32) W5 else some (.inr "java/lang/IllegalStateException", W5)) = _
      rw [f1, Option.bind_some, f3, Option.bind_some, hk, if_pos hs]
      exact hB
    have a416 : wB 416 = W5 416 := hTB.2.2.2.2.2 416 (by decide)
    obtain ⟨wC, hC⟩ := sL_do (w := wB) (a := 416) (t := 1) (n := 1) (by rw [lnL_c a416]; exact in_f.2.2.2.2.2.1) (i := 0) (by decide) (Int32.toInt64 (Int32.ofNat (cnt a 8)))
    have hlw : f_lw_text 0 a 416 W5 = some (0, wC) := by
      unfold f_lw_text
      rw [hin]
      simp only [bdh]
      rw [hC]
      rfl
    have a373 : wC 373 = W5 373 := by rw [sL_at hC (by decide)]; exact hTB.2.2.2.2.2 373 (by decide)
    have aQT : wC QT = W5 QT := by rw [sL_at hC n4]; exact hTB.2.2.2.2.2 QT (by omega)
    have q5 : gI wC 373 9 5 = some 0 := by rw [gI_c a373]; exact in_f.2.2.2.2.2.2.2.2.2
    have q2 : gI wC 373 9 2 = some 0 := by rw [gI_c a373]; exact f6
    have qk : kb wC 373 9 = true := by rw [kb_c a373]; exact kbq
    obtain ⟨wD, hD⟩ := pv_do (gv_of q5) (.int (0 : Int32))
    have hTQ : TQ (wC 416) wD 0 := ⟨by rw [pv_kb hD]; exact qk, by rw [pv_gI_ne hD (Or.inr (by decide))]; exact q2, by rw [pv_gN_ne hD (Or.inr (by decide)), gN_c a373]; exact f7, by rw [lnI_c (pv_at hD (by omega)), lnI_c aQT]; exact f8, pv_gI hD, pv_at hD (by decide)⟩
    obtain ⟨wF, hF, hTF⟩ := t_q2 a (wC 416) 8 (by decide) 999999999991 0 wD (by decide) hTQ
    rw [← KK_8, ← sh_8, Nat.zero_add] at hF
    rw [Nat.zero_add] at hTF
    have hq : f_q_text 373 a wC = some (Int32.ofNat (cnt a 8), wF) := by
      unfold f_q_text
      rw [if_pos qk]
      have h := hQ wC
      rw [← KK_8, ← sh_8] at h
      rw [h]
      show ((gI wC 373 9 2).bind fun x3 => if (x3 + k) ≤ (200 : Int32) then (pv wC 373 9 5 (.int (0 : Int32))).bind fun w5 => f_q_text_105 KK 373 a (56 : Int32) w5 else f_q_fail 373 2 wC) = _
      rw [q2, Option.bind_some, hk, if_pos hs, hD, Option.bind_some]
      exact hF
    have ht : f_q_thrown 373 wF = some (0, wF) := by
      unfold f_q_thrown
      rw [if_pos hTF.1, hTF.2.2.2.2.1, Option.bind_some]
    have hr2 : rL wF 416 1 0 = some (Int32.toInt64 (Int32.ofNat (cnt a 8))) := by rw [rL_c hTF.2.2.2.2.2]; exact sL_rL hC
    unfold cmp
    rw [hlw, bd2_some, hq, bd2_some, ht, bd2_some, if_pos rfl, if_pos rfl, hr2, Option.bind_some, if_pos rfl]
    rfl
