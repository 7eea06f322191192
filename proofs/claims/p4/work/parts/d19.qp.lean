/-! The reference parses a whole text by the same rules. -/
/-- what is left of the end of a BLOCK of the STATEMENT s, its part pt -/
def eb_rest (s pt : Int32) (w11 : WW) : Option WW :=
  (gN w11 373 9 9).bind fun x12 =>
  (rI w11 x12 0 s).bind fun x13 =>
  if x13 = (3 : Int32) then
    if pt = 0 then
      (gI w11 373 9 30).bind fun x16 =>
      if x16 = (4 : Int32) then
        (gI w11 373 9 31).bind fun x18 =>
        if x18 = (1 : Int32) then
          (f_q_read 373 w11).bind fun w20 =>
          (gN w20 373 9 20).bind fun x21 =>
          (sI w20 x21 2 s (vp_nar .boolean (1 : Int32))).bind fun w22 =>
          (f_q_openBlock 373 s (1 : Int32) w22).bind fun w23 =>
          f_q_endBlock_93 w23
        else
          f_q_endBlock_93 w11
      else
        f_q_endBlock_93 w11
    else
      f_q_endBlock_93 w11
  else
    f_q_endBlock_93 w11
def PF (Y : YC) (n c : Nat) (I I' : IM) : Prop := ∀ x j, (x < 373 ∨ x = 374 ∨ (x = 376 ∧ j < 80 * Y.H + c) ∨ ((x = 394 ∨ x = 395) ∧ j ≤ n) ∨ (x = 373 ∧ (j = 2 ∨ j = 32))) → I' x j = I x j
theorem PF.trans {Y : YC} {n c : Nat} {I I' I'' : IM} (h : PF Y n c I I') (h2 : PF Y n c I' I'') : PF Y n c I I'' := fun x j hx => (h2 x j hx).trans (h x j hx)
theorem PF.le {Y : YC} {n c n' c' : Nat} {I I' : IM} (h : PF Y n c I I') (hn : n' ≤ n) (hc : c' ≤ c) : PF Y n' c' I I' := fun x j hx => h x j (by omega)
theorem FRP.pf {Y : YC} {n c : Nat} {I I' : IM} (h : FRP (80 * Y.H + c) I I') : PF Y n c I I' := fun x j hx => h x j (by omega)
abbrev YC.lp (Y : YC) (N : Nat) (I : IM) : Prop := wl (f_q_parse_72 N 373 (mk I Y.J Y.R)) Y.Q
def YB (Y : YC) (j : Nat) : Prop := ∀ (I : IM) (N : Nat), Y.T (.inr j) I → Y.lp N I
def SKR (f : Nat → Nat → Prop) (g : Nat → Prop) : SR → Prop
  | .inl p => f p.1 p.2
  | .inr j => g j
def YS (Y : YC) (n c : Nat) (I : IM) (e : Int32) (i' c' : Nat) : Prop := ∀ (I' : IM) (N : Nat), PQ Y i' n c' I' → Y.K i' = e → PF Y n c I I' → c ≤ c' → Y.lp N I'
def YT (Y : YC) (n c : Nat) (I : IM) (i' c' : Nat) : Prop := ∀ (I' : IM) (N : Nat), PQ Y i' n c' I' → PF Y n c I I' → c ≤ c' → Y.lp N I'
def YK (Y : YC) (n c : Nat) (I : IM) (s pt : Int32) (i' c' : Nat) : Prop := ∀ (I' : IM) (N : Nat), PQ Y i' n c' I' → PF Y n c I I' → c ≤ c' → wl (eb_rest s pt (mk I' Y.J Y.R)) (fun w => wl (f_q_parse_72 N 373 w) Y.Q)
def SREF0 (Y : YC) (n : Nat) (e : Int32) (i c : Nat) (r : SR) : Prop := ∀ (I : IM) (N : Nat), (n = 0 → e = 0) → (n ≠ 0 → e = 125) → PQ Y i n c I → SKR (YS Y n c I e) (YB Y) r → Y.lp N I
def SREF1 (Y : YC) (n i c : Nat) (r : SR) : Prop := ∀ (I : IM) (N : Nat), (n = 0 → ¬ Y.K i = 0) → (n ≠ 0 → ¬ Y.K i = 125) → PQ Y i n c I → SKR (YT Y n c I) (YB Y) r → Y.lp N I
def SREF2 (Y : YC) (n i c : Nat) (r : SR) : Prop := ∀ (m : Nat), n = m + 1 → ∀ (I : IM) (N : Nat) (s pt : Int32), PQ Y i m c I → SKR (YK Y m c I s pt) (YB Y) r → wl (f_q_openBlock 373 s pt (mk I Y.J Y.R)) (fun w => wl (f_q_parse_72 N 373 w) Y.Q)
def SREFA (Y : YC) (tag n : Nat) (e : Int32) (i c : Nat) (r : SR) : Prop := (tag = 0 → SREF0 Y n e i c r) ∧ (tag = 1 → SREF1 Y n i c r) ∧ (tag = 2 → SREF2 Y n i c r)
section QPA
variable {Y : YC} {I I' : IM} {i n c : Nat}
/-- a turn of the loop, at a TOKEN that does not end it -/
theorem p_turn (hp : PQ Y i n c I) (h0 : n = 0 → ¬ Y.K i = 0) {N : Nat} (k : wl (f_q_parse_93 (f_q_parse_72 N) 373 (mk I Y.J Y.R)) Y.Q) : Y.lp (N + 1) I := by
  obtain ⟨hs, h33, hn3, h32, h389⟩ := hp
  have hc := hs.2.2.2.2.1
  unfold COR at hc
  show wl (f_q_parse_72 (N + 1) 373 (mk I Y.J Y.R)) Y.Q
  rw [f_q_parse_72]
  refine wl_gI rfl rfl rfl ?_
  rw [if_pos (i32eq.mpr (by rw [hs.2.1, l32_0]))]
  refine wl_gI rfl rfl rfl (wl_ite (fun z => wl_gI rfl rfl rfl (wl_ite (fun z2 => ?_) (fun _ => k))) (fun _ => k))
  exfalso
  rw [i32eq, l32_0] at z
  rw [i32le, l32_0, h33] at z2
  exact h0 (by omega) (i32eq.mpr (by rw [l32_0]; omega))
/-- a fault stands: the loop ends -/
theorem p_bad {j : Nat} (hb : Y.T (.inr j) I) (k : ∀ I', (∀ x k, (x ≠ 373 ∨ k ≠ 5) → I' x k = I x k) → I' 373 5 = 1 → ∀ v, Y.Q (v, mk I' Y.J Y.R)) {N : Nat} : Y.lp N I := by
  have hb' : (I 373 34).toInt ≠ 0 ∧ I 373 4 = Y.B j := hb
  have hn : ¬ I 373 34 = 0 := fun z => hb'.1 (by rw [z, l32_0])
  show wl (f_q_parse_72 N 373 (mk I Y.J Y.R)) Y.Q
  cases N with
  | zero => exact wl_none
  | succ N =>
    rw [f_q_parse_72]
    refine wl_gI rfl rfl rfl ?_
    rw [if_neg hn]
    unfold f_q_parse_177 f_q_fail
    refine wl_gI rfl rfl rfl ?_
    rw [if_neg hn]
    exact wl_bd2 (wl_kb (wl_pI rfl rfl (wl_some (wl_some (k _ (fun x j hj => up2_ne _ _ hj) up2_s _)))))
/-- the parts behind the word of a STATEMENT, up to its BLOCK or its end -/
theorem p_byWord (hR : QR Y.R) (hL2 : Y.L ≤ 200) (hH : Y.H ≤ 1) (hp : PQ Y i n c I) (hk : Y.K i = 4 ∨ Y.K i = 6 ∨ Y.K i = 7) {r : Nat ⊕ Nat} (hP : coP Y.K (i + 1) r) {Q : WW → Prop} (k : ∀ (s : Int32) (I' : IM), s.toInt = ((80 * Y.H + c : Nat) : Int) → FRP (80 * Y.H + c) I I' → PT Y n (c + 1) r I' → ((Y.K i = 4 → I' 376 (80 * Y.H + c) = 3) ∧ (Y.K i = 6 → I' 376 (80 * Y.H + c) = 4) ∧ (Y.K i = 7 → I' 376 (80 * Y.H + c) = 5)) → wl (if I' 376 (80 * Y.H + c) = (5 : Int32) then (f_q_expect 373 (59 : Int32) (mk I' Y.J Y.R)).bind fun w14 => f_q_byWord_71 w14 else (f_q_openBlock 373 s (0 : Int32) (mk I' Y.J Y.R)).bind fun w13 => f_q_byWord_71 w13) Q) : wl (f_q_byWord 373 (mk I Y.J Y.R)) Q := by
  obtain ⟨r1, p1, q1⟩ := sq.lp hP
  obtain ⟨r2, p2, q2⟩ := q1.sq
  obtain ⟨r3, p3, q3⟩ := q2.sq
  obtain ⟨r4, p4, p5⟩ := q3.sq
  have hs := hp.1
  have hc := hs.2.2.2.2.1
  unfold COR at hc
  have hk' : (Y.K i).toInt = 4 ∨ (Y.K i).toInt = 6 ∨ (Y.K i).toInt = 7 := by
    rcases hk with z | z | z <;> rw [z] <;> decide
  have go : ∀ a1 : Int32, ((Y.K i = 4 → a1 = 3) ∧ (Y.K i = 6 → a1 = 4) ∧ (Y.K i = 7 → a1 = 5)) → wl (f_q_byWord_25 373 373 a1 (mk I Y.J Y.R)) Q := by
    intro a1 ha
    unfold f_q_byWord_25
    refine wl_bd2 (s_stmt hR hL2 hH hp (by omega) (by omega) (fun s I1 sv e1 k1 hp1 => ?_))
    dsimp only
    have pt1 : PT Y n (c + 1) (.inl (i + 1)) I1 := hp1
    refine wl_bd (s_expect hR hL2 (m := 80 * Y.H + c + 1) sg_40 pt1.1 (LPr.at p1) (fun I2 e2 h2 => ?_))
    refine wl_bd (s_cond hR hL2 (m := 80 * Y.H + c + 1) h2 p2 p3 p4 (fun I3 e3 h3 => ?_))
    refine wl_bd (s_expect hR hL2 (m := 80 * Y.H + c + 1) sg_41 h3 p5 (fun I4 e4 h4 => ?_))
    have fr : FR8 (80 * Y.H + c + 1) I1 I4 := e2.trans (e3.trans e4)
    have k4 : I4 376 (80 * Y.H + c) = a1 := by rw [fr.1 _ _ (by omega)]; exact k1
    refine wq_9 hR (wl_rI (n := 160) rfl (fun _ => ?_))
    rw [tnat sv]
    exact k s I4 sv (e1.trans (fr.1.le (by omega))) (pt1.fr fr h4) (by rw [k4]; exact ha)
  unfold f_q_byWord
  refine wl_kb (wl_gI rfl rfl rfl (wl_ite (fun z => go 3 ?_) (fun z => wl_gI rfl rfl rfl (wl_ite (fun z2 => go 4 ?_) (fun z2 => go 5 ?_)))))
  · rw [i32eq, l32_0] at z
    refine ⟨fun _ => rfl, fun y => ?_, fun y => ?_⟩
    · exfalso; rw [y, l32_6] at hc; omega
    · exfalso; rw [y, l32_7] at hc; omega
  · rw [i32eq, l32_2] at z2
    refine ⟨fun y => ?_, fun _ => rfl, fun y => ?_⟩
    · exfalso; rw [y, l32_4] at hc; omega
    · exfalso; rw [y, l32_7] at hc; omega
  · rw [i32eq, l32_0] at z
    rw [i32eq, l32_2] at z2
    refine ⟨fun y => ?_, fun y => ?_, fun _ => rfl⟩
    · exfalso; rw [y, l32_4] at hc; omega
    · exfalso; rw [y, l32_6] at hc; omega
/-- at the beginning of a STATEMENT the loop calls what it must -/
theorem p_93 (hp : PQ Y i n c I) (h125 : ¬ Y.K i = 125) {N : Nat} (k2 : Y.K i = 2 → wl (f_q_assignment 373 (mk I Y.J Y.R)) (fun w => wl (f_q_parse_72 N 373 w) Y.Q)) (k3 : Y.K i = 3 → wl (f_q_storing 373 (mk I Y.J Y.R)) (fun w => wl (f_q_parse_72 N 373 w) Y.Q)) (k4 : (Y.K i = 4 ∨ Y.K i = 6 ∨ Y.K i = 7) → wl (f_q_byWord 373 (mk I Y.J Y.R)) (fun w => wl (f_q_parse_72 N 373 w) Y.Q)) (k0 : ¬ (Y.K i = 2 ∨ Y.K i = 3 ∨ Y.K i = 4 ∨ Y.K i = 6 ∨ Y.K i = 7) → YB Y i) : wl (f_q_parse_93 (f_q_parse_72 N) 373 (mk I Y.J Y.R)) Y.Q := by
  have hs := hp.1
  have hc := hs.2.2.2.2.1
  unfold COR at hc
  have bad : ¬ (Y.K i = 2 ∨ Y.K i = 3 ∨ Y.K i = 4 ∨ Y.K i = 6 ∨ Y.K i = 7) → wl (f_q_parse_170 (f_q_parse_72 N) 373 (mk I Y.J Y.R)) Y.Q := by
    intro z
    unfold f_q_parse_170
    exact wl_bd (x_wrong (X := Y.X) hs (fun I2 e2 w1 w2 => k0 z I2 N (show _ ∧ _ from ⟨by omega, w2⟩)))
  have ne : ∀ a : Int32, (Y.K i).toInt ≠ a.toInt → ¬ Y.K i = a := fun a h e => h (by rw [e])
  unfold f_q_parse_93
  refine wl_bd2 (x_isK (X := Y.X) hs sg_125 (fun z => absurd z h125) (fun z => ?_))
  dsimp only
  rw [if_pos rfl]
  refine wl_gI rfl rfl rfl (wl_ite (fun z2 => ?_) (fun z2 => wl_gI rfl rfl rfl (wl_ite (fun z3 => ?_) (fun z3 => wl_gI rfl rfl rfl (wl_ite (fun z4 => ?_) (fun z4 => bad ?_))))))
  · rw [i32eq, l32_2] at z2
    exact wl_bd (k2 (i32eq.mpr (by rw [l32_2]; omega)))
  · rw [i32eq, l32_3] at z3
    exact wl_bd (k3 (i32eq.mpr (by rw [l32_3]; omega)))
  · rw [i32eq, l32_4] at z4
    have hk : (Y.K i).toInt = 4 + (I 373 31).toInt ∧ 0 ≤ (I 373 31).toInt ∧ (I 373 31).toInt ≤ 4 := by omega
    refine wl_gI rfl rfl rfl (wl_ite (fun z5 => bad ?_) (fun z5 => wl_gI rfl rfl rfl (wl_ite (fun z6 => bad ?_) (fun z6 => wl_bd (k4 ?_)))))
    · rw [i32eq, l32_1] at z5
      intro w
      rcases w with w | w | w | w | w
      · exact ne 2 (by rw [l32_2]; omega) w
      · exact ne 3 (by rw [l32_3]; omega) w
      · exact ne 4 (by rw [l32_4]; omega) w
      · exact ne 6 (by rw [l32_6]; omega) w
      · exact ne 7 (by rw [l32_7]; omega) w
    · rw [i32eq, l32_4] at z6
      intro w
      rcases w with w | w | w | w | w
      · exact ne 2 (by rw [l32_2]; omega) w
      · exact ne 3 (by rw [l32_3]; omega) w
      · exact ne 4 (by rw [l32_4]; omega) w
      · exact ne 6 (by rw [l32_6]; omega) w
      · exact ne 7 (by rw [l32_7]; omega) w
    · rw [i32eq, l32_1] at z5
      rw [i32eq, l32_4] at z6
      have h3 : (Y.K i).toInt = 4 ∨ (Y.K i).toInt = 6 ∨ (Y.K i).toInt = 7 := by omega
      rcases h3 with h3 | h3 | h3
      · exact Or.inl (i32eq.mpr (by rw [h3, l32_4]))
      · exact Or.inr (Or.inl (i32eq.mpr (by rw [h3, l32_6])))
      · exact Or.inr (Or.inr (i32eq.mpr (by rw [h3, l32_7])))
  · rw [i32eq, l32_2] at z2
    rw [i32eq, l32_3] at z3
    rw [i32eq, l32_4] at z4
    intro w
    rcases w with w | w | w | w | w
    · exact ne 2 (by rw [l32_2]; omega) w
    · exact ne 3 (by rw [l32_3]; omega) w
    · exact ne 4 (by rw [l32_4]; omega) w
    · exact ne 6 (by rw [l32_6]; omega) w
    · exact ne 7 (by rw [l32_7]; omega) w
/-- a BLOCK is opened, or not -/
theorem p_open (hR : QR Y.R) (hL2 : Y.L ≤ 200) {s pt : Int32} (hp : PQ Y i n c I) {Q : WW → Prop} (kb : (3 < n + 1 ∨ ¬ Y.K i = 123) → ∀ I', Y.T (.inr i) I' → Q (mk I' Y.J Y.R)) (k : n + 1 ≤ 3 → Y.K i = 123 → ∀ I', PQ Y (i + 1) (n + 1) c I' → PF Y n c I I' → I' 394 (n + 1) = s → I' 395 (n + 1) = pt → Q (mk I' Y.J Y.R)) : wl (f_q_openBlock 373 s pt (mk I Y.J Y.R)) Q := by
  obtain ⟨hs, h33, hn3, h32, h389⟩ := hp
  have wr : (3 < n + 1 ∨ ¬ Y.K i = 123) → wl (f_q_openBlock_25 373 (mk I Y.J Y.R)) Q := by
    intro z
    unfold f_q_openBlock_25
    exact wl_bd (x_wrong (X := Y.X) hs (fun I2 e2 w1 w2 => wl_some (kb z I2 (show _ ∧ _ from ⟨by omega, w2⟩))))
  unfold f_q_openBlock
  refine wl_kb (wl_gI rfl rfl rfl ?_)
  rw [if_pos (i32eq.mpr (by rw [hs.2.1, l32_0]))]
  refine wl_bd2 (x_isK (X := Y.X) hs sg_123 (fun z => ?_) (fun z => ?_))
  · dsimp only
    rw [if_neg (by decide)]
    refine wl_gI rfl rfl rfl (wl_ite (fun z3 => wr (Or.inl ?_)) (fun z3 => ?_))
    · rw [i32eq, l32_3, h33] at z3; omega
    rw [i32eq, l32_3, h33] at z3
    have z' : Y.K i = 123 := z
    refine wl_bd (x_next (X := Y.X) hR hL2 hs (show (Y.K i).toInt ≠ 0 by rw [z']; decide) (show (Y.K i).toInt ≠ -1 by rw [z']; decide) (fun I1 e1 hs1 => ?_))
    have h33' : (I1 373 33).toInt = n := by rw [e1 _ _ (by decide)]; exact h33
    have x33 : (I1 373 33 + 1).toInt = ((n + 1 : Nat) : Int) := by rw [i32addc (by rw [h33', l32_1]; omega), h33', l32_1]; omega
    refine wl_gI rfl rfl rfl (wl_pIa rfl rfl (fun I2 e2 f2 => ?_))
    have v2 : (I2 373 33).toInt = ((n + 1 : Nat) : Int) := by rw [f2]; exact x33
    refine wq_35 hR (wl_gI rfl rfl rfl (wl_sIa (n := 8) rfl (fun I3 e3 f3 _ => ?_)))
    rw [tnat v2] at e3 f3
    have v3 : (I3 373 33).toInt = ((n + 1 : Nat) : Int) := by rw [e3 _ _ (by omega)]; exact v2
    refine wq_36 hR (wl_gI rfl rfl rfl (wl_sIa (n := 8) rfl (fun I4 e4 f4 _ => ?_)))
    rw [tnat v3] at e4 f4
    have v4 : (I4 373 33).toInt = ((n + 1 : Nat) : Int) := by rw [e4 _ _ (by omega)]; exact v3
    refine wq_37 hR (wl_gI rfl rfl rfl (wl_sIa (n := 8) rfl (fun I5 e5 f5 _ => ?_)))
    have fin : ∀ I6 : IM, (∀ x j, (x ≠ 384 ∧ x ≠ 385) → I6 x j = I5 x j) → Q (mk I6 Y.J Y.R) := by
      intro I6 e6
      refine k (by omega) z I6 ⟨hs1.keep (fun x j hx => ?_), ?_, by omega, ?_, ?_⟩ (fun x j hx => ?_) ?_ ?_
      · rw [e6 x j (by omega), e5 x j (by omega), e4 x j (by omega), e3 x j (by omega), e2 x j (by omega)]
      · rw [e6 _ _ (by omega), e5 _ _ (by omega)]; exact v4
      · rw [e6 _ _ (by omega), e5 _ _ (by omega), e4 _ _ (by omega), e3 _ _ (by omega), e2 _ _ (by omega), e1 _ _ (by omega)]; exact h32
      · rw [e6 _ _ (by omega), e5 _ _ (by omega), e4 _ _ (by omega), e3 _ _ (by omega), e2 _ _ (by omega), e1 _ _ (by omega)]; exact h389
      · rw [e6 x j (by omega), e5 x j (by omega), e4 x j (by omega), e3 x j (by omega), e2 x j (by omega), e1 x j (by omega)]
      · rw [e6 _ _ (by omega), e5 _ _ (by omega), e4 _ _ (by omega)]; exact f3
      · rw [e6 _ _ (by omega), e5 _ _ (by omega)]; exact f4
    unfold f_q_openBlock_95
    refine wl_ite (fun _ => wq_17 hR (wl_sIa (n := 160) rfl (fun I6 e6 _ _ => wl_some (fin I6 (fun x j hx => e6 x j (by omega)))))) (fun _ => wq_18 hR (wl_sIa (n := 160) rfl (fun I6 e6 _ _ => wl_some (fin I6 (fun x j hx => e6 x j (by omega))))))
  · dsimp only
    rw [if_pos rfl]
    exact wr (Or.inr z)
/-- a BLOCK ends -/
theorem p_end (hR : QR Y.R) (hL2 : Y.L ≤ 200) {s pt : Int32} (hp : PQ Y i (n + 1) c I) (hk : Y.K i = 125) (hs4 : I 394 (n + 1) = s) (hs5 : I 395 (n + 1) = pt) {N : Nat} (k : ∀ I', PQ Y (i + 1) n c I' → PF Y (n + 1) c I I' → wl (eb_rest s pt (mk I' Y.J Y.R)) (fun w => wl (f_q_parse_72 N 373 w) Y.Q)) : Y.lp (N + 1) I := by
  refine p_turn hp (fun z => by omega) ?_
  obtain ⟨hs, h33, hn3, h32, h389⟩ := hp
  unfold f_q_parse_93
  refine wl_bd2 (x_isK (X := Y.X) hs sg_125 (fun z => ?_) (fun z => absurd hk z))
  dsimp only
  rw [if_neg (by decide)]
  refine wl_bd ?_
  unfold f_q_endBlock
  refine wl_kb (wq_35 hR (wl_gI rfl rfl rfl (wl_rI (n := 8) rfl (fun _ => wq_36 hR (wl_gI rfl rfl rfl (wl_rI (n := 8) rfl (fun _ => wl_gI rfl rfl rfl ?_)))))))
  rw [tnat h33, hs4, hs5]
  rw [if_neg (fun y => by rw [i32eq, l32_0, h33] at y; omega)]
  have x33 : (I 373 33 - 1).toInt = n := by rw [i32subc (by rw [h33, l32_1]; omega), h33, l32_1]; omega
  refine wl_gI rfl rfl rfl (wl_pIa rfl rfl (fun I1 e1 f1 => ?_))
  have hs1 : QS Y.c Y.L Y.K Y.B i I1 := hs.keep (fun x j hx => e1 x j (by omega))
  refine wl_bd (x_next (X := Y.X) hR hL2 hs1 (by rw [show Y.X.K i = 125 from hk]; decide) (by rw [show Y.X.K i = 125 from hk]; decide) (fun I2 e2 hs2 => ?_))
  exact k I2 ⟨hs2, by rw [e2 _ _ (by decide), f1]; exact x33, by omega, by rw [e2 _ _ (by decide), e1 _ _ (by decide)]; exact h32, by rw [e2 _ _ (by omega), e1 _ _ (by omega)]; exact h389⟩ (fun x j hx => by rw [e2 x j (by omega), e1 x j (by omega)])
/-- behind a BLOCK, if its STATEMENT has no other -/
theorem p_rest0 (hR : QR Y.R) {s pt : Int32} {q : Nat} (sv : s.toInt = q) (h : I 376 q ≠ 3 ∨ ¬ pt = 0 ∨ (QS Y.c Y.L Y.K Y.B i I ∧ ¬ Y.K i = 5)) {Q : WW → Prop} (k : Q (mk I Y.J Y.R)) : wl (eb_rest s pt (mk I Y.J Y.R)) Q := by
  unfold eb_rest f_q_endBlock_93
  refine wq_9 hR (wl_rI (n := 160) rfl (fun _ => ?_))
  rw [tnat sv]
  refine wl_ite (fun z => wl_ite (fun z2 => ?_) (fun _ => wl_some k)) (fun _ => wl_some k)
  rcases h with h | h | ⟨hs, h⟩
  · exact absurd z h
  · exact absurd z2 h
  · have hc := hs.2.2.2.2.1
    unfold COR at hc
    refine wl_gI rfl rfl rfl (wl_ite (fun z3 => wl_gI rfl rfl rfl (wl_ite (fun z4 => ?_) (fun _ => wl_some k))) (fun _ => wl_some k))
    exfalso
    rw [i32eq, l32_4] at z3
    rw [i32eq, l32_1] at z4
    exact h (i32eq.mpr (by rw [l32_5]; omega))
/-- behind a BLOCK: else -/
theorem p_rest1 (hR : QR Y.R) (hL2 : Y.L ≤ 200) {s : Int32} {q : Nat} (sv : s.toInt = q) (h3 : I 376 q = 3) (hp : PQ Y i n c I) (hk : Y.K i = 5) {Q : WW → Prop} (k : ∀ I', PQ Y (i + 1) n c I' → (∀ m, PF Y 8 m I I') → wl (f_q_openBlock 373 s 1 (mk I' Y.J Y.R)) Q) : wl (eb_rest s 0 (mk I Y.J Y.R)) Q := by
  obtain ⟨hs, h33, hn3, h32, h389⟩ := hp
  have hc := hs.2.2.2.2.1
  unfold COR at hc
  have k5 : (Y.K i).toInt = 5 := by rw [hk]; exact l32_5
  unfold eb_rest f_q_endBlock_93
  refine wq_9 hR (wl_rI (n := 160) rfl (fun _ => ?_))
  rw [tnat sv, h3, if_pos rfl, if_pos rfl]
  refine wl_gI rfl rfl rfl ?_
  rw [if_pos (i32eq.mpr (by rw [l32_4]; omega))]
  refine wl_gI rfl rfl rfl ?_
  rw [if_pos (i32eq.mpr (by rw [l32_1]; omega))]
  refine wl_bd (x_next (X := Y.X) hR hL2 hs (by show (Y.K i).toInt ≠ 0; omega) (by show (Y.K i).toInt ≠ -1; omega) (fun I1 e1 hs1 => ?_))
  refine wq_20 hR (wl_sIa (n := 160) rfl (fun I2 e2 _ _ => wl_bd (wl_mono (k I2 ⟨hs1.keep (fun x j hx => e2 x j (by omega)), ?_, hn3, ?_, ?_⟩ (fun m x j hx => ?_)) (fun w hw => wl_some hw))))
  · rw [e2 _ _ (by omega), e1 _ _ (by omega)]; exact h33
  · rw [e2 _ _ (by omega), e1 _ _ (by omega)]; exact h32
  · rw [e2 _ _ (by omega), e1 _ _ (by omega)]; exact h389
  · rw [e2 x j (by omega), e1 x j (by omega)]
theorem PT.q {j : Nat} (h : PT Y n c (.inl j) I) : PQ Y j n c I := h
/-- IF and WHILE, up to their BLOCK -/
theorem p_blk (hR : QR Y.R) (hL2 : Y.L ≤ 200) (hH : Y.H ≤ 1) (hp : PQ Y i n c I) (hk : Y.K i = 4 ∨ Y.K i = 6) {j : Nat} (hP : coP Y.K (i + 1) (.inl j)) {N : Nat} (h0 : n = 0 → ¬ Y.K i = 0) (k : ∀ (s : Int32) (I' : IM), s.toInt = ((80 * Y.H + c : Nat) : Int) → FRP (80 * Y.H + c) I I' → PQ Y j n (c + 1) I' → ((Y.K i = 4 → I' 376 (80 * Y.H + c) = 3) ∧ (Y.K i = 6 → I' 376 (80 * Y.H + c) = 4)) → wl (f_q_openBlock 373 s 0 (mk I' Y.J Y.R)) (fun w => wl (f_q_parse_72 N 373 w) Y.Q)) : Y.lp (N + 1) I := by
  refine p_turn hp h0 (p_93 hp (fun z => ?_) (fun z => ?_) (fun z => ?_) (fun hk3 => ?_) (fun z => ?_))
  · rcases hk with y | y <;> (rw [y] at z; exact absurd z (by decide))
  · rcases hk with y | y <;> (rw [y] at z; exact absurd z (by decide))
  · rcases hk with y | y <;> (rw [y] at z; exact absurd z (by decide))
  · refine p_byWord hR hL2 hH hp hk3 hP (fun s I' sv e1 pt ks => ?_)
    have n5 : ¬ I' 376 (80 * Y.H + c) = 5 := by
      rcases hk with y | y
      · rw [ks.1 y]; decide
      · rw [ks.2.1 y]; decide
    rw [if_neg n5]
    unfold f_q_byWord_71
    exact wl_bd (wl_mono (k s I' sv e1 pt.q ⟨ks.1, ks.2.1⟩) (fun w hw => wl_some hw))
  · exfalso
    rcases hk with y | y
    · exact z (Or.inr (Or.inr (Or.inl y)))
    · exact z (Or.inr (Or.inr (Or.inr (Or.inl y))))
/-- a STATEMENT whose parts end in one of two ways -/
theorem sref_all (hR : QR Y.R) (hL2 : Y.L ≤ 200) (hH : Y.H ≤ 1) {tag n : Nat} {e : Int32} {i c : Nat} {r : SR} (hd : DS Y.K tag n e i c r) : SREFA Y tag n e i c r := by
  have no : ∀ {a b : Nat} {P : Prop}, a ≠ b → a = b → P := fun h e => absurd e h
  have ne : ∀ {a b c : Int32}, a = b → b ≠ c → ¬ a = c := fun h1 h2 h3 => h2 (h1.symm.trans h3)
  refine DS.ind (M := fun tag n e i c r => SREFA Y tag n e i c r) ?_ ?_ ?_ ?_ ?_ ?_ ?_ ?_ ?_ ?_ ?_ ?_ ?_ ?_ ?_ ?_ ?_ ?_ hd
  · intro n_ i_ c_ e_ h1
    refine ⟨fun _ => ?_, no (by decide), no (by decide)⟩
    intro I N he0 he1 hp k
    exact k I N hp h1 (fun _ _ _ => rfl) (Nat.le_refl _)
  · intro n_ i_ c_ j_ e_ h1 h2 ih
    refine ⟨fun _ => ?_, no (by decide), no (by decide)⟩
    intro I N he0 he1 hp k
    exact ih.2.1 rfl I N (fun z => by rw [← he0 z]; exact h1) (fun z => by rw [← he1 z]; exact h1) hp k
  · intro n_ i_ c_ i'_ c'_ e_ r_ h1 h2 h3 ih2 ih3
    refine ⟨fun _ => ?_, no (by decide), no (by decide)⟩
    intro I N he0 he1 hp k
    refine ih2.2.1 rfl I N (fun z => by rw [← he0 z]; exact h1) (fun z => by rw [← he1 z]; exact h1) hp (fun I1 N1 hp1 f1 le1 => ih3.1 rfl I1 N1 he0 he1 hp1 ?_)
    cases r_ with
    | inl q => exact fun I2 N2 hp2 ke f2 le2 => k I2 N2 hp2 ke (f1.trans (f2.le (Nat.le_refl _) le1)) (by omega)
    | inr j => exact k
  · intro n i c h1
    refine ⟨no (by decide), fun _ => ?_, no (by decide)⟩
    intro I N h0 h125 hp k
    cases N with
    | zero => exact wl_none
    | succ N =>
      refine p_turn hp h0 ?_
      by_cases z : Y.K i = 125
      · have n0 : n = 0 := by
          by_cases y : n = 0
          · exact y
          · exact absurd z (h125 y)
        obtain ⟨hs, h33, hn3, h32, h389⟩ := hp
        unfold f_q_parse_93
        refine wl_bd2 (x_isK (X := Y.X) hs sg_125 (fun z => ?_) (fun y => absurd z y))
        dsimp only
        rw [if_neg (by decide)]
        refine wl_bd ?_
        unfold f_q_endBlock
        refine wl_kb (wq_35 hR (wl_gI rfl rfl rfl (wl_rI (n := 8) rfl (fun _ => wq_36 hR (wl_gI rfl rfl rfl (wl_rI (n := 8) rfl (fun _ => wl_gI rfl rfl rfl ?_)))))))
        rw [if_pos (i32eq.mpr (by rw [h33, l32_0, n0]; rfl))]
        exact wl_bd (x_wrong (X := Y.X) hs (fun I2 e2 w1 w2 => wl_some (k I2 N (show _ ∧ _ from ⟨by omega, w2⟩))))
      · exact p_93 hp z (fun y => absurd (Or.inl y) h1) (fun y => absurd (Or.inr (Or.inl y)) h1) (fun y => absurd (Or.inr (Or.inr y)) h1) (fun _ => k)
  · intro n_ i_ c_ j_ h1 h2
    refine ⟨no (by decide), fun _ => ?_, no (by decide)⟩
    intro I N h0 h125 hp k
    cases N with
    | zero => exact wl_none
    | succ N => exact p_turn hp h0 (p_93 hp (ne h1 (by decide)) (fun _ => s_asg hR hL2 hH hp h1 h2 (fun I1 e1 pt => k I1 N pt.q e1.pf (by omega))) (fun y => absurd y (ne h1 (by decide))) (fun y => absurd y (by rw [h1]; decide)) (fun y => absurd (Or.inl h1) y))
  · intro n_ i_ c_ j_ h1 h2
    refine ⟨no (by decide), fun _ => ?_, no (by decide)⟩
    intro I N h0 h125 hp k
    cases N with
    | zero => exact wl_none
    | succ N => exact p_turn hp h0 (p_93 hp (ne h1 (by decide)) (fun _ => s_asg hR hL2 hH hp h1 h2 (fun I1 e1 pt => k I1 N pt.1)) (fun y => absurd y (ne h1 (by decide))) (fun y => absurd y (by rw [h1]; decide)) (fun y => absurd (Or.inl h1) y))
  · intro n_ i_ c_ j_ h1 h2
    refine ⟨no (by decide), fun _ => ?_, no (by decide)⟩
    intro I N h0 h125 hp k
    cases N with
    | zero => exact wl_none
    | succ N => exact p_turn hp h0 (p_93 hp (ne h1 (by decide)) (fun y => absurd y (ne h1 (by decide))) (fun _ => s_sto hR hL2 hH hp h1 h2 (fun I1 e1 pt => k I1 N pt.q e1.pf (by omega))) (fun y => absurd y (by rw [h1]; decide)) (fun y => absurd (Or.inr (Or.inl h1)) y))
  · intro n_ i_ c_ j_ h1 h2
    refine ⟨no (by decide), fun _ => ?_, no (by decide)⟩
    intro I N h0 h125 hp k
    cases N with
    | zero => exact wl_none
    | succ N => exact p_turn hp h0 (p_93 hp (ne h1 (by decide)) (fun y => absurd y (ne h1 (by decide))) (fun _ => s_sto hR hL2 hH hp h1 h2 (fun I1 e1 pt => k I1 N pt.1)) (fun y => absurd y (by rw [h1]; decide)) (fun y => absurd (Or.inr (Or.inl h1)) y))
  · intro n i c j h1 h2
    refine ⟨no (by decide), fun _ => ?_, no (by decide)⟩
    intro I N h0 h125 hp k
    have hne : ∀ a : Int32, a ≠ 4 → a ≠ 6 → a ≠ 7 → ¬ Y.K i = a := fun a a1 a2 a3 z => by
      rcases h1 with y | y | y
      · exact a1 (z.symm.trans y)
      · exact a2 (z.symm.trans y)
      · exact a3 (z.symm.trans y)
    cases N with
    | zero => exact wl_none
    | succ N =>
      refine p_turn hp h0 (p_93 hp (hne _ (by decide) (by decide) (by decide)) (fun y => absurd y (hne _ (by decide) (by decide) (by decide))) (fun y => absurd y (hne _ (by decide) (by decide) (by decide))) (fun _ => p_byWord hR hL2 hH hp h1 h2 (fun s I1 sv e1 pt ks => ?_)) (fun y => absurd (Or.inr (Or.inr h1)) y))
      have hb : (I1 373 34).toInt ≠ 0 ∧ I1 373 4 = Y.B j := pt.1
      unfold f_q_byWord_71
      refine wl_ite (fun _ => wl_bd (s_expect hR hL2 (m := 0) sg_59 pt.1 (Or.inl ⟨j, rfl, rfl⟩) (fun I2 e2 h2 => wl_some (k I2 N h2)))) (fun _ => wl_bd ?_)
      unfold f_q_openBlock
      refine wl_kb (wl_gI rfl rfl rfl ?_)
      rw [if_neg (fun z => hb.1 (by rw [z, l32_0]))]
      exact wl_some (wl_some (k I1 N pt.1))
  · intro n_ i_ c_ j_ h1 h2 h3
    refine ⟨no (by decide), fun _ => ?_, no (by decide)⟩
    intro I N h0 h125 hp k
    cases N with
    | zero => exact wl_none
    | succ N =>
      refine p_turn hp h0 (p_93 hp (ne h1 (by decide)) (fun y => absurd y (ne h1 (by decide))) (fun y => absurd y (ne h1 (by decide))) (fun hk => p_byWord hR hL2 hH hp hk h2 (fun s I1 sv e1 pt ks => ?_)) (fun y => absurd (Or.inr (Or.inr (Or.inr (Or.inr h1)))) y))
      rw [if_pos (ks.2.2 h1)]
      unfold f_q_byWord_71
      exact wl_bd (s_expect hR hL2 (m := _) sg_59 pt.1 (LPr.at (Or.inl ⟨h3, rfl⟩)) (fun I2 e2 h2 => wl_some (k I2 N (pt.fr e2 h2).q (e1.trans e2.1).pf (by omega))))
  · intro n_ i_ c_ j_ h1 h2 h3
    refine ⟨no (by decide), fun _ => ?_, no (by decide)⟩
    intro I N h0 h125 hp k
    cases N with
    | zero => exact wl_none
    | succ N =>
      refine p_turn hp h0 (p_93 hp (ne h1 (by decide)) (fun y => absurd y (ne h1 (by decide))) (fun y => absurd y (ne h1 (by decide))) (fun hk => p_byWord hR hL2 hH hp hk h2 (fun s I1 sv e1 pt ks => ?_)) (fun y => absurd (Or.inr (Or.inr (Or.inr (Or.inr h1)))) y))
      rw [if_pos (ks.2.2 h1)]
      unfold f_q_byWord_71
      exact wl_bd (s_expect hR hL2 (m := 0) sg_59 pt.1 (LPr.at (Or.inr ⟨h3, rfl⟩)) (fun I2 e2 h2 => wl_some (k I2 N h2)))
  · intro n_ i_ c_ j_ j'_ h1 h2 h3 ih
    refine ⟨no (by decide), fun _ => ?_, no (by decide)⟩
    intro I N h0 h125 hp k
    cases N with
    | zero => exact wl_none
    | succ N => exact p_blk hR hL2 hH hp h1 h2 h0 (fun s I1 sv e1 hp1 ks => ih.2.2 rfl _ rfl I1 N s 0 hp1 k)
  · intro n i c j j' c' h1 h2 h3 h4 ih
    refine ⟨no (by decide), fun _ => ?_, no (by decide)⟩
    intro I N h0 h125 hp k
    cases N with
    | zero => exact wl_none
    | succ N =>
      refine p_blk hR hL2 hH hp h1 h2 h0 (fun s I1 sv e1 hp1 ks => ih.2.2 rfl _ rfl I1 N s 0 hp1 (fun I2 N2 hp2 f2 le2 => ?_))
      refine p_rest0 hR sv (i := j') ?_ (k I2 N2 hp2 (e1.pf.trans (f2.le (Nat.le_refl _) (by omega))) (by omega))
      have kq : I2 376 (80 * Y.H + c) = I1 376 (80 * Y.H + c) := f2 _ _ (by omega)
      rcases h1 with y | y
      · exact Or.inr (Or.inr ⟨hp2.1, fun z => h4 ⟨y, z⟩⟩)
      · left
        rw [kq, ks.2 y]; decide
  · intro n i c j j' c' r h1 h2 h3 h4 h5 ih3 ih5
    refine ⟨no (by decide), fun _ => ?_, no (by decide)⟩
    intro I N h0 h125 hp k
    cases N with
    | zero => exact wl_none
    | succ N =>
      refine p_blk hR hL2 hH hp (Or.inl h1) h2 h0 (fun s I1 sv e1 hp1 ks => ih3.2.2 rfl _ rfl I1 N s 0 hp1 (fun I2 N2 hp2 f2 le2 => ?_))
      have kq : I2 376 (80 * Y.H + c) = 3 := by rw [f2 _ _ (by omega)]; exact ks.1 h1
      refine p_rest1 hR hL2 sv kq hp2 h4 (fun I3 hp3 f3 => ih5.2.2 rfl _ rfl I3 N2 s 1 hp3 ?_)
      cases r with
      | inl q =>
        obtain ⟨i4, c4⟩ := q
        intro I4 N4 hp4 f4 le4
        exact p_rest0 hR sv (i := i4) (Or.inr (Or.inl (by decide))) (k I4 N4 hp4 (e1.pf.trans ((f2.le (Nat.le_refl _) (by omega)).trans (((f3 c).le (by have := hp2.2.2.1; omega) (Nat.le_refl _)).trans (f4.le (Nat.le_refl _) (by omega))))) (by omega))
      | inr j4 => exact k
  · intro n_ i_ c_ h1
    refine ⟨no (by decide), no (by decide), fun _ => ?_⟩
    intro m hm I N s pt hp k
    exact p_open hR hL2 hp (fun _ I' hb => k I' N hb) (fun z => absurd z (by omega))
  · intro n_ i_ c_ h1 h2
    refine ⟨no (by decide), no (by decide), fun _ => ?_⟩
    intro m hm I N s pt hp k
    exact p_open hR hL2 hp (fun _ I' hb => k I' N hb) (fun _ z => absurd z h2)
  · intro n_ i_ c_ j_ h1 h2 h3 ih
    refine ⟨no (by decide), no (by decide), fun _ => ?_⟩
    intro m hm I N s pt hp k
    subst hm
    exact p_open hR hL2 hp (fun z => by rcases z with z | z; exact absurd h1 (by omega); exact absurd h2 z) (fun _ _ I1 hp1 f1 s4 s5 => ih.1 rfl I1 N (fun z => by omega) (fun _ => rfl) hp1 k)
  · intro n_ i_ c_ j_ c'_ h1 h2 h3 h4 ih
    refine ⟨no (by decide), no (by decide), fun _ => ?_⟩
    intro m hm I N s pt hp k
    subst hm
    refine p_open hR hL2 hp (fun z => by rcases z with z | z; exact absurd h1 (by omega); exact absurd h2 z) (fun _ _ I1 hp1 f1 s4 s5 => ih.1 rfl I1 N (fun z => by omega) (fun _ => rfl) hp1 (fun I2 N2 hp2 ke f2 le2 => ?_))
    cases N2 with
    | zero => exact wl_none
    | succ N2 => exact p_end hR hL2 hp2 ke (by rw [f2 _ _ (by omega)]; exact s4) (by rw [f2 _ _ (by omega)]; exact s5) (fun I3 hp3 f3 => k I3 N2 hp3 (f1.trans ((f2.le (by omega) (Nat.le_refl _)).trans (f3.le (by omega) (by omega)))) le2)
end QPA
/-- the reference's parse, by the rules -/
theorem z_parse {c : Nat → Int32} {L : Nat} {K B : Nat → Int32} {J : JM} {R : RM} {I : IM} (hR : QR R) (hL2 : L ≤ 200) (ht : TXQ c L I) (h27 : 0 ≤ (I 373 27).toInt ∧ (I 373 27).toInt ≤ 1) (hT : TL c L K B 0 0) {r : SR} (hD : DS K 0 0 0 0 0 r) {Q : (Int32 × WW) → Prop} (k : ∀ (v : Int32) (I' : IM), SKR (fun _ c' => I' 373 4 = -2 ∧ I' 373 5 = 0 ∧ v.toInt = c') (fun j => I' 373 4 = B j ∧ I' 373 5 = 1) r → Q (v, mk I' J R)) : wl (f_q_parse 373 (mk I J R)) Q := by
  have x32 : ((1 : Int32) - I 373 27).toInt = 1 - (I 373 27).toInt := by rw [i32subc (by rw [l32_1]; omega), l32_1]
  obtain ⟨H, hH⟩ : ∃ H : Nat, (H : Int) = 1 - (I 373 27).toInt := ⟨(1 - (I 373 27).toInt).toNat, by omega⟩
  have hH1 : H ≤ 1 := by omega
  unfold f_q_parse
  refine wl_kb (wl_gI rfl rfl rfl (wl_pIa rfl rfl (fun I1 e1 f1 => ?_)))
  have v1 : (I1 373 32).toInt = H := by rw [f1, x32, hH]
  refine wq_21 hR (wl_gI rfl rfl rfl (wl_sIa (n := 2) rfl (fun I2 e2 _ _ => ?_)))
  have v2 : (I2 373 32).toInt = H := by rw [e2 _ _ (by omega)]; exact v1
  refine wq_22 hR (wl_gI rfl rfl rfl (wl_sIa (n := 2) rfl (fun I3 e3 f3 _ => ?_)))
  rw [tnat v2] at e3 f3
  have v3 : (I3 373 32).toInt = H := by rw [e3 _ _ (by omega)]; exact v2
  refine wq_23 hR (wl_gI rfl rfl rfl (wl_sIa (n := 2) rfl (fun I4 e4 _ _ => wl_pIa rfl rfl (fun I5 e5 f5 => wq_37 hR (wl_sIa (n := 8) rfl (fun I6 e6 _ _ => wl_pIa rfl rfl (fun I7 e7 f7 => wl_req (fun _ => wl_pIa rfl rfl (fun I8 e8 f8 => wl_pIa rfl rfl (fun I9 e9 f9 => wl_bd ?_))))))))))
  have t9 : TXQ c L I9 := ⟨by rw [e9 _ _ (by omega), e8 _ _ (by omega), e7 _ _ (by omega), e6 _ _ (by omega), e5 _ _ (by omega), e4 _ _ (by omega), e3 _ _ (by omega), e2 _ _ (by omega), e1 _ _ (by omega)]; exact ht.1, fun j hj => by rw [e9 _ _ (by omega), e8 _ _ (by omega), e7 _ _ (by omega), e6 _ _ (by omega), e5 _ _ (by omega), e4 _ _ (by omega), e3 _ _ (by omega), e2 _ _ (by omega), e1 _ _ (by omega)]; exact ht.2 j hj⟩
  have p9 : (I9 373 28).toInt = ((0 : Nat) : Int) := by rw [e9 _ _ (by omega), e8 _ _ (by omega), f7]; exact l32_0
  obtain ⟨b2, q2, t1, t2, t3⟩ := hT.inv
  refine u_read hR t9 p9 hL2 (Nat.zero_le _) (fun I10 b q kk e10 h29 h28 hk hc => ?_)
  obtain ⟨u1, u2, u3⟩ := hk.uniq t1
  have hb := t1.bnd (Nat.zero_le _)
  let Y : YC := ⟨c, L, K, B, J, R, H, Q⟩
  have hs : QS c L K B 0 I10 := by
    refine ⟨e10.tx t9, ?_, ?_, i32eq.mpr (by rw [h29, t2, u1]), by rw [← u3]; exact hc, q, h28, by omega, fun z0 z1 => ?_⟩
    · rw [e10 _ _ (by decide), e9 _ _ (by omega), f8]; exact l32_0
    · rw [e10 _ _ (by decide), f9]
    · rw [u2]; exact t3 z0 z1
  have hp : PQ Y 0 0 0 I10 := by
    refine ⟨hs, ?_, by decide, ?_, ?_⟩
    · rw [e10 _ _ (by decide), e9 _ _ (by omega), e8 _ _ (by omega), e7 _ _ (by omega), e6 _ _ (by omega), f5]; exact l32_0
    · rw [e10 _ _ (by decide), e9 _ _ (by omega), e8 _ _ (by omega), e7 _ _ (by omega), e6 _ _ (by omega), e5 _ _ (by omega), e4 _ _ (by omega)]; exact v3
    · show (I10 389 H).toInt = ((0 : Nat) : Int)
      rw [e10 _ _ (by omega), e9 _ _ (by omega), e8 _ _ (by omega), e7 _ _ (by omega), e6 _ _ (by omega), e5 _ _ (by omega), e4 _ _ (by omega), f3]; exact l32_0
  refine (sref_all (Y := Y) hR hL2 hH1 hD).1 rfl I10 KK (fun _ => rfl) (fun z => absurd rfl z) hp ?_
  cases r with
  | inl q =>
    obtain ⟨i', c'⟩ := q
    intro I11 N hp11 ke f11 le
    obtain ⟨hs11, h33, _, h32, h389⟩ := hp11
    have hc11 := hs11.2.2.2.2.1
    have ke' : (K i').toInt = 0 := by rw [show K i' = 0 from ke]; exact l32_0
    unfold COR at hc11
    have hc11' : COR (K i').toInt (I11 373 30).toInt (I11 373 31).toInt := hs11.2.2.2.2.1
    unfold COR at hc11'
    show wl (f_q_parse_72 N 373 (mk I11 J R)) Q
    cases N with
    | zero => exact wl_none
    | succ N =>
      rw [f_q_parse_72]
      refine wl_gI rfl rfl rfl ?_
      rw [if_pos (i32eq.mpr (by rw [hs11.2.1, l32_0]))]
      refine wl_gI rfl rfl rfl ?_
      rw [if_pos (i32eq.mpr (by rw [l32_0]; omega))]
      refine wl_gI rfl rfl rfl ?_
      rw [if_pos (by rw [i32le, l32_0, h33]; exact Int.le_refl _)]
      unfold f_q_parse_177
      refine wl_gI rfl rfl rfl ?_
      rw [if_pos (i32eq.mpr (by rw [hs11.2.1, l32_0]))]
      refine wl_pIa rfl rfl (fun I12 e12 f12 => wl_gI rfl rfl rfl (wl_pIa rfl rfl (fun I13 e13 f13 => wl_req (fun _ => wl_pIa rfl rfl (fun I14 e14 f14 => wq_22 hR (wl_gI rfl rfl rfl (wl_rI (n := 2) rfl (fun _ => wl_some ?_))))))))
      have v14 : (I14 373 27).toInt = H := by rw [e14 _ _ (by omega), f13, e12 _ _ (by omega)]; exact h32
      rw [tnat v14]
      refine k _ I14 ⟨?_, ?_, ?_⟩
      · rw [e14 _ _ (by omega), e13 _ _ (by omega), e12 _ _ (by omega)]; exact hs11.2.2.1
      · rw [e14 _ _ (by omega), e13 _ _ (by omega)]; exact f12
      · rw [e14 _ _ (by omega), e13 _ _ (by omega), e12 _ _ (by omega)]; exact h389
  | inr j =>
    intro I11 N hb
    have hb' : (I11 373 34).toInt ≠ 0 ∧ I11 373 4 = B j := hb
    exact p_bad (Y := Y) hb (fun I12 e12 f12 v => k v I12 ⟨by rw [e12 _ _ (by omega)]; exact hb'.2, f12⟩)
