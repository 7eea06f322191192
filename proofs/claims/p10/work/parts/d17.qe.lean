/-! The reference parses EXPRS by the same rules: by the rules themselves. -/
def KR (f : Int32 → Nat → Nat → Prop) (g : Nat → Prop) : Res → Prop
  | .inl p => f p.1 p.2.1 p.2.2
  | .inr j => g j
/-- the loop of an EXPR; b: 1 behind a part, 0 ahead of one -/
abbrev XC.lp (X : XC) (N : Nat) (b : Int32) (I : IM) : Prop := wl (f_q_expression_40 N 373 X.y1 b 1 (mk I X.J X.R)) X.Q
def KB (X : XC) (j : Nat) : Prop := ∀ (I : IM) (N : Nat) (b : Int32), BDS X j I → X.lp N b I
def KF (X : XC) (S : OL) (H : List Int32) (h : Int32) (i n : Nat) : Prop := ∀ (I : IM) (M N : Nat), EXS X S (h :: H) i i n I → wl (f_q_opposites_0 M 373 (mk I X.J X.R)) (fun w => wl (f_q_expression_40 N 373 X.y1 1 1 w) X.Q)
def KT (X : XC) (S : OL) (H : List Int32) (h : Int32) (i n : Nat) : Prop := ∀ (I : IM) (N : Nat), LZ2 X S h H i n I → ¬ isPr (X.K i) → X.lp N 1 I
def KE (X : XC) (S : OL) (H : List Int32) (h : Int32) (i n : Nat) : Prop := ∀ (I : IM) (N : Nat), LZ1 X S h H i n I → ¬ isPr (X.K i) → ¬ isSm (X.K i) → X.lp N 1 I
def REF0 (X : XC) (d i n : Nat) (r : Res) : Prop := ∀ (S : OL) (H : List Int32) (I : IM) (N : Nat), EXS X S H i i n I → ins S = d → KR (KF X S H) (KB X) r → X.lp N 0 I
def REF1 (X : XC) (d : Nat) (h : Int32) (i n : Nat) (r : Res) : Prop := ∀ (S : OL) (H : List Int32) (I : IM) (N : Nat), LZ2 X S h H i n I → ins S = d → T3 S → KR (KT X S H) (KB X) r → X.lp N 1 I
def REF2 (X : XC) (d : Nat) (h : Int32) (i n : Nat) (r : Res) : Prop := ∀ (S : OL) (H : List Int32) (I : IM) (N : Nat), LZ1 X S h H i n I → ¬ isPr (X.K i) → ins S = d → T4 S → KR (KE X S H) (KB X) r → X.lp N 1 I
def REF3 (X : XC) (d i n : Nat) (r : Res) : Prop := ∀ (S : OL) (H : List Int32) (I : IM) (N : Nat), EXS X S H i i n I → ins S = d → T3 S → KR (KT X S H) (KB X) r → X.lp N 0 I
def REF4 (X : XC) (d i n : Nat) (r : Res) : Prop := ∀ (S : OL) (H : List Int32) (I : IM) (N : Nat), EXS X S H i i n I → ins S = d → T4 S → KR (KE X S H) (KB X) r → X.lp N 0 I
def REFA (X : XC) (tag d : Nat) (h : Int32) (i n : Nat) (r : Res) : Prop := (tag = 0 → REF0 X d i n r) ∧ (tag = 1 → REF1 X d h i n r) ∧ (tag = 2 → REF2 X d h i n r) ∧ (tag = 3 → REF3 X d i n r) ∧ (tag = 4 → REF4 X d i n r)
section QEY
variable {X : XC} {I I' : IM} {S : OL} {H : List Int32} {i m n : Nat}
theorem EXS.mono {m' : Nat} (h : EXS X S H i m n I) (hm : m ≤ m') : EXS X S H i m' n I := by
  obtain ⟨h1, h2, h3, h4, h5, h6, h7, h8, h9, h10, h11⟩ := h
  exact ⟨h1, h2, h3, h4, h5, h6, h7, h8, h9, h10, by omega⟩
theorem LZ2.le (hL2 : X.L ≤ 200) {h : Int32} (z : LZ2 X S h H i n I) : i ≤ 200 := by
  obtain ⟨S', H', n', e, _⟩ := z.ex
  have := e.2.1.le
  omega
theorem LZ1.le (hL2 : X.L ≤ 200) {h : Int32} (z : LZ1 X S h H i n I) : i ≤ 200 := by
  obtain ⟨S', H', n', e, _⟩ := z.ex
  have := e.2.1.le
  omega
/-- a turn of the loop ahead of a part -/
theorem y_want (hx : X.S i I) {N : Nat} (k : wl (f_q_want 373 (mk I X.J X.R)) (fun p => wl (f_q_expression_40 N 373 X.y1 p.1 1 p.2) X.Q)) : X.lp (N + 1) 0 I := by
  show wl (f_q_expression_40 (N + 1) 373 X.y1 0 1 (mk I X.J X.R)) X.Q
  rw [f_q_expression_40, if_neg (by decide)]
  refine wl_gI rfl rfl rfl ?_
  rw [if_pos (i32eq.mpr (by rw [hx.2.1, l32_0])), if_pos rfl]
  exact wl_bd2 k
/-- the end of the loop where a fault stands -/
theorem y_bad {N : Nat} {b : Int32} (hb : (I 373 34).toInt ≠ 0) (k : ∀ r : Int32, X.Q (r, mk I X.J X.R)) : X.lp N b I := by
  show wl (f_q_expression_40 N 373 X.y1 b 1 (mk I X.J X.R)) X.Q
  cases N with
  | zero => exact wl_none
  | succ N =>
    have hn : ¬ I 373 34 = 0 := fun z => hb (by rw [z, l32_0])
    rw [f_q_expression_40, if_neg (by decide)]
    refine wl_gI rfl rfl rfl ?_
    rw [if_neg hn]
    unfold f_q_expression_194 f_q_expression_206
    refine wl_gI rfl rfl rfl ?_
    rw [if_neg hn]
    exact wl_gI rfl rfl rfl (wl_some (k _))
theorem BDS.w (hx : FX9 X.H X.I0 I) (e : ∀ x j, (x ≠ 373 ∨ (j ≠ 4 ∧ j ≠ 34)) → I' x j = I x j) (h34 : (I' 373 34).toInt = 1) (h4 : I' 373 4 = X.B i) : BDS X i I' := ⟨fun x j hj => by rw [e x j (by omega)]; exact hx x j hj, by omega, h4⟩
/-- a turn of the loop behind a part, at no operator -/
theorem y_134 (hx : X.S i I) {N : Nat} (h1 : ¬ isPr (X.K i)) (h2 : ¬ isSm (X.K i)) (k : wl (f_q_expression_134 (f_q_expression_40 N) 373 X.y1 1 1 (mk I X.J X.R)) X.Q) : X.lp (N + 1) 1 I := by
  show wl (f_q_expression_40 (N + 1) 373 X.y1 1 1 (mk I X.J X.R)) X.Q
  rw [f_q_expression_40, if_neg (by decide)]
  refine wl_gI rfl rfl rfl ?_
  rw [if_pos (i32eq.mpr (by rw [hx.2.1, l32_0])), if_neg (by decide)]
  refine wl_gI rfl rfl rfl (wl_ite (fun z => wl_gI rfl rfl rfl (wl_bd2 (u_isOperator (fun y => ?_) (fun y => ?_)))) (fun z => k))
  · exfalso
    have hc := hx.2.2.2.2.1
    unfold COR at hc
    rw [i32eq, l32_5] at z
    have n1 : (X.K i).toInt ≠ 42 := fun w => h1 (Or.inl (i32eq.mpr (by rw [w, l32_42])))
    have n2 : (X.K i).toInt ≠ 47 := fun w => h1 (Or.inr (Or.inl (i32eq.mpr (by rw [w, l32_47]))))
    have n3 : (X.K i).toInt ≠ 37 := fun w => h1 (Or.inr (Or.inr (i32eq.mpr (by rw [w, l32_37]))))
    have n4 : (X.K i).toInt ≠ 43 := fun w => h2 (Or.inl (i32eq.mpr (by rw [w, l32_43])))
    have n5 : (X.K i).toInt ≠ 45 := fun w => h2 (Or.inr (i32eq.mpr (by rw [w, l32_45])))
    omega
  · dsimp only
    rw [if_pos rfl]
    exact k
/-- what is open may be reduced for the operator at hand -/
def RED (X : XC) (S : OL) (h : Int32) (H : List Int32) (i n : Nat) (I : IM) : Prop := ∀ (M : Nat) (Q' : WW → Prop), (∀ I', EXS X S (h :: H) i i n I' → Q' (mk I' X.J X.R)) → wl (f_q_reduce_0 M 373 (rnk (X.K i)) (mk I X.J X.R)) Q'
theorem red_of2 (hR : QR X.R) (hH : X.H ≤ 1) (hL2 : X.L ≤ 200) {h : Int32} (hx : LZ2 X S h H i n I) (hT : T3 S) (h1 : isPr (X.K i)) : RED X S h H i n I := fun M Q' kk => by rw [rnk_pr h1]; exact x_red2 hR hH (hx.le hL2) hx hT kk M
theorem red_of1 (hR : QR X.R) (hH : X.H ≤ 1) (hL2 : X.L ≤ 200) {h : Int32} (hx : LZ1 X S h H i n I) (hT : T4 S) (h1 : isSm (X.K i)) : RED X S h H i n I := fun M Q' kk => by rw [rnk_sm h1]; exact x_red1 hR hH (hx.le hL2) hx hT kk M
/-- a turn of the loop behind a part, at an operator -/
theorem y_op (hR : QR X.R) (hL2 : X.L ≤ 200) {h : Int32} (hs : X.S i I) (hop : isPr (X.K i) ∨ isSm (X.K i)) (red : RED X S h H i n I) {N : Nat} (kg : ¬ 16 ≤ h → ∀ I', EXS X ((4, X.K i, X.B i) :: S) (h :: H) (i + 1) (i + 1) n I' → X.lp N 0 I') (kb : 16 ≤ h → KB X i) : X.lp (N + 1) 1 I := by
  have hk : (X.K i).toInt = 42 ∨ (X.K i).toInt = 47 ∨ (X.K i).toInt = 37 ∨ (X.K i).toInt = 43 ∨ (X.K i).toInt = 45 := by
    rcases hop with (z | z | z) | (z | z) <;> rw [z] <;> decide
  have k0 : (X.K i).toInt ≠ 0 ∧ (X.K i).toInt ≠ -1 := by omega
  have hc := hs.2.2.2.2.1
  unfold COR at hc
  have t5 : I 373 30 = 5 := i32eq.mpr (by rw [l32_5]; omega)
  have v5 : I 373 31 = X.K i := i32eq.mpr (by omega)
  show wl (f_q_expression_40 (N + 1) 373 X.y1 1 1 (mk I X.J X.R)) X.Q
  rw [f_q_expression_40, if_neg (by decide)]
  refine wl_gI rfl rfl rfl ?_
  rw [if_pos (i32eq.mpr (by rw [hs.2.1, l32_0])), if_neg (by decide)]
  refine wl_gI rfl rfl t5 ?_
  rw [if_pos rfl]
  refine wl_gI rfl rfl v5 (wl_bd2 (u_isOperator (fun y => ?_) (fun y => ?_)))
  · dsimp only
    rw [if_neg (by decide)]
    refine wl_gI rfl rfl v5 (wl_bd2 (x_rank ?_))
    dsimp only
    refine wl_bd ?_
    unfold f_q_reduce
    refine wl_kb (red KK _ (fun I1 hx1 => ?_))
    have h44 : (I1 373 44).toInt = (H.length : Int) + 1 := by
      have e : (I1 373 44).toInt = ((H.length + 1 : Nat) : Int) := hx1.2.2.2.2.2.1
      omega
    have b44 := i32b (I1 373 44)
    have x4 : (I1 373 44 - 1).toInt = H.length := by rw [i32subc (by rw [l32_1]; omega), l32_1]; omega
    refine wq_41 hR (wl_gI rfl rfl rfl (wl_rI (n := 300) rfl (fun _ => ?_)))
    rw [tnat x4, hx1.2.2.2.2.2.2.1.1]
    have hs1 := hx1.2.1
    have hc1 := hs1.2.2.2.2.1
    unfold COR at hc1
    have v1 : I1 373 31 = X.K i := i32eq.mpr (by omega)
    have p1 : I1 373 29 = X.B i := hs1.2.2.2.1
    unfold f_q_expression_112
    refine wl_ite (fun z => ?_) (fun z => ?_)
    · refine wl_gI rfl rfl v1 (wl_gI rfl rfl p1 (wl_bd (x_push hR hx1.2.2.1 hx1.b43 (fun I2 e2 f1 f2 f5 f3 f4 => ?_))))
      have hx2 := hx1.push e2 f1 f2 f5 f3 f4
      refine wl_bd (x_next hR hL2 hx2.2.1 k0.1 k0.2 (fun I3 e3 hs3 => ?_))
      exact kg (fun y => by rw [i32lt] at z; rw [i32le] at y; omega) I3 (hx2.rd e3 hs3)
    · refine wl_bd (x_wrong hs1 (fun I2 e2 w1 w2 => ?_))
      refine wl_gI rfl rfl rfl (wl_gI rfl rfl rfl (wl_bd (x_push hR (n := S.length) (by rw [e2 _ _ (by decide)]; exact hx1.2.2.1) (by rw [e2 _ _ (by decide)]; exact hx1.b43) (fun I3 e3 f1 f2 f5 f3 f4 => ?_))))
      refine wl_bd (x_readb hR hL2 hs1 (I2 := I3) (fun x j hj => by rw [e3 x j (by omega) (by omega), e2 x j (by omega)]) (fun I4 e4 => ?_))
      refine kb (by rw [i32le]; rw [i32lt] at z; omega) I4 N 0 ⟨fun x j hj => ?_, ?_, ?_⟩
      · rw [e4 x j (by omega), e3 x j (by omega) (by omega), e2 x j (by omega)]; exact hx1.1 x j hj
      · rw [e4 _ _ (by decide), e3 _ _ (by omega) (by omega)]; omega
      · rw [e4 _ _ (by decide), e3 _ _ (by omega) (by omega)]; exact w2
  · exfalso; omega
/-- the end of a bracket -/
theorem y_close (hR : QR X.R) (hH : X.H ≤ 1) (hL2 : X.L ≤ 200) {s h h' : Int32} {v : Int32 × Int32} {n' : Nat} (hs : (s = 1 ∧ h' = h ∧ n' = n) ∨ (s = 2 ∧ h' = h + 1 ∧ n' = n + 1 ∧ RL1 X.P n 3 v.1 v.2)) (hx : LZ1 X ((s, v) :: S) h H i n I) (h0 : (X.K i).toInt ≠ 0) (h1 : (X.K i).toInt ≠ -1) {N : Nat} (k : KF X S H h' (i + 1) n') : wl (f_q_expression_180 (f_q_expression_40 N) 373 X.y1 1 1 (mk I X.J X.R)) X.Q := by
  have hs12 : s = 1 ∨ s = 2 := by
    rcases hs with ⟨z, _⟩ | ⟨z, _⟩
    · exact Or.inl z
    · exact Or.inr z
  unfold f_q_expression_180 f_q_expression_191
  refine wl_bd ?_
  unfold f_q_close
  refine wl_kb (wl_bd ?_)
  unfold f_q_reduce
  refine wl_kb (x_red1 hR hH (hx.le hL2) hx (fun a S' e => by cases e; exact hs12) (fun I1 hx1 => ?_) KK)
  have h42 : (I1 373 42).toInt = (S.length : Int) + 1 := by
    have e : (I1 373 42).toInt = ((S.length + 1 : Nat) : Int) := hx1.2.2.1
    omega
  have h43 : (I1 373 43).toInt = (ins S : Int) + 1 := by
    have e := hx1.2.2.2.2.1
    have e2 : ins ((s, v) :: S) = 1 + ins S := by
      show (if s.toInt < 4 then 1 else 0) + ins S = 1 + ins S
      have h4 : s.toInt < 4 := by rcases hs12 with z | z <;> rw [z] <;> decide
      rw [if_pos h4]
    rw [e2] at e
    omega
  have b42 := i32b (I1 373 42)
  have b43 := i32b (I1 373 43)
  have x1 : (I1 373 42 - 1).toInt = S.length := by rw [i32subc (by rw [l32_1]; omega), l32_1]; omega
  have x3 : (I1 373 43 - 1).toInt = ins S := by rw [i32subc (by rw [l32_1]; omega), l32_1]; omega
  refine wl_gI rfl rfl rfl (wl_pI rfl rfl (wl_gI rfl rfl (up2_nek (by decide)) (wl_pI rfl rfl ?_)))
  generalize hI2 : up2 (up2 I1 373 42 (I1 373 42 - 1)) 373 43 (I1 373 43 - 1) = I2
  have e2 : ∀ x j, (x ≠ 373 ∨ (j ≠ 42 ∧ j ≠ 43)) → I2 x j = I1 x j := fun x j hj => by rw [← hI2, up2_ne _ _ (by omega), up2_ne _ _ (by omega)]
  have f42 : (I2 373 42).toInt = S.length := by rw [← hI2, up2_nek (by decide), up2_s]; exact x1
  obtain ⟨hx2, im⟩ := hx1.pop e2 f42 (by rw [← hI2, up2_s]; exact x3)
  have i2 := hx.le hL2
  have o2 : I2 397 S.length = s := by rw [e2 _ _ (by omega)]; exact hx1.2.2.2.1.1
  have w2 : I2 399 S.length = v.1 := by rw [e2 _ _ (by omega)]; exact hx1.2.2.2.1.2.1
  have w3 : I2 398 S.length = v.2 := by rw [e2 _ _ (by omega)]; exact hx1.2.2.2.1.2.2.1
  have c76 : ∀ (I3 : IM), EXS X S (h' :: H) i i n' I3 → wl (f_q_close_76 373 (mk I3 X.J X.R)) (fun w => wl (f_q_expression_40 N 373 X.y1 1 1 w) X.Q) := by
    intro I3 hx3
    unfold f_q_close_76
    refine wl_bd (x_next hR hL2 hx3.2.1 h0 h1 (fun I4 e4 hs4 => wl_bd ?_))
    unfold f_q_opposites
    exact wl_kb (wl_mono (k I4 KK N ((hx3.rd e4 hs4).mono (by omega))) (fun w hw => wl_some hw))
  refine wq_38 hR (wl_gI rfl rfl rfl (wl_rI (n := 300) rfl (fun _ => ?_)))
  rw [tnat f42, o2]
  refine wl_ite (fun z => ?_) (fun z => c76 I2 ?_)
  · obtain ⟨eh, en, hrl⟩ : h' = h + 1 ∧ n' = n + 1 ∧ RL1 X.P n 3 v.1 v.2 := by
      rcases hs with ⟨y, _⟩ | ⟨_, y⟩
      · rw [y] at z; exact absurd z (by decide)
      · exact y
    refine wq_40 hR (wl_gI rfl rfl rfl (wl_rI (n := 300) rfl (fun _ => wq_39 hR (wl_gI rfl rfl rfl (wl_rI (n := 300) rfl (fun _ => wl_bd ?_))))))
    rw [tnat f42, w2, w3]
    refine x_em hR hH hx2 (by omega) hrl (fun I3 e3 hx3 => ?_)
    have ei : i - 1 + 1 = i := by omega
    rw [ei] at hx3
    have h44 : (I3 373 44).toInt = (H.length : Int) + 1 := by
      have e : (I3 373 44).toInt = ((H.length + 1 : Nat) : Int) := hx3.2.2.2.2.2.1
      omega
    have b44 := i32b (I3 373 44)
    have x4 : (I3 373 44 - 1).toInt = H.length := by rw [i32subc (by rw [l32_1]; omega), l32_1]; omega
    refine wq_41 hR (wl_gI rfl rfl rfl (wl_rI (n := 300) rfl (fun _ => wl_sI (n := 300) rfl (fun _ => ?_))))
    rw [tnat x4, hx3.2.2.2.2.2.2.1.1, ← eh]
    rw [← en] at hx3
    exact c76 _ hx3.top
  · obtain ⟨eh, en⟩ : h' = h ∧ n' = n := by
      rcases hs with ⟨_, y⟩ | ⟨y, _⟩
      · exact y
      · exact absurd y z
    rw [eh, en]; exact hx2.mono (by omega)
/-- what a bracket meets -/
theorem y_brk (hR : QR X.R) (hH : X.H ≤ 1) (hL2 : X.L ≤ 200) {s h h' cl : Int32} {v : Int32 × Int32} {n' : Nat} (hs : (s = 1 ∧ cl = 41 ∧ h' = h ∧ n' = n) ∨ (s = 2 ∧ cl = 93 ∧ h' = h + 1 ∧ n' = n + 1 ∧ (X.K i = cl → RL1 X.P n 3 v.1 v.2))) (k1 : X.K i = cl → KF X S H h' (i + 1) n') (k0 : ¬ X.K i = cl → KB X i) : KE X ((s, v) :: S) H h i n := by
  intro I N hx n1 n2
  obtain ⟨S', H', l', hx', hb⟩ := hx.ex
  have hs' := hx'.2.1
  cases N with
  | zero => exact wl_none
  | succ N =>
    refine y_134 hs' n1 n2 ?_
    have no : ¬ X.K i = cl → wl (f_q_expression_187 (f_q_expression_40 N) 373 X.y1 1 1 (mk I X.J X.R)) X.Q := by
      intro z
      unfold f_q_expression_187 f_q_expression_191
      exact wl_bd (x_wrong hs' (fun I2 e2 w1 w2 => k0 z I2 N 1 (BDS.w hx'.1 e2 w1 w2)))
    unfold f_q_expression_134
    refine wl_bd2 (x_bracket hR hx' ?_)
    have hb' : brk S' = s := by
      rw [hb]
      show (if s ≤ 2 then s else brk S) = s
      rcases hs with ⟨z, _⟩ | ⟨z, _⟩ <;> (rw [z, if_pos (by decide)])
    dsimp only
    rw [hb']
    rcases hs with ⟨rfl, rfl, eh, en⟩ | ⟨rfl, rfl, eh, en, hrl⟩
    · rw [if_neg (by decide), if_pos rfl]
      refine wl_bd2 (x_isK hs' sg_41 (fun z => ?_) (fun z => ?_))
      · dsimp only
        rw [if_neg (by decide)]
        exact y_close hR hH hL2 (Or.inl ⟨rfl, eh, en⟩) hx (by rw [z]; decide) (by rw [z]; decide) (k1 z)
      · dsimp only
        rw [if_pos rfl]
        unfold f_q_expression_165
        rw [if_neg (by decide)]
        exact no z
    · rw [if_neg (by decide), if_neg (by decide)]
      unfold f_q_expression_165
      rw [if_pos rfl]
      refine wl_bd2 (x_isK hs' sg_93 (fun z => ?_) (fun z => ?_))
      · dsimp only
        rw [if_neg (by decide)]
        exact y_close hR hH hL2 (Or.inr ⟨rfl, eh, en, hrl z⟩) hx (by rw [z]; decide) (by rw [z]; decide) (k1 z)
      · dsimp only
        rw [if_pos rfl]
        exact no z
/-- ahead of a part: what is wanted -/
theorem y_leaf (hR : QR X.R) (hH : X.H ≤ 1) (hL2 : X.L ≤ 200) (hx : EXS X S H i i n I) (hst : STE X.P n (X.K i) (X.M i) (X.B i)) (hd : ins S ≤ 10) (hk : X.K i = 1 ∨ X.K i = 2) {N : Nat} (k : KF X S H 1 (i + 1) (n + 1)) : X.lp (N + 1) 0 I := by
  have hs := hx.2.1
  have hc := hs.2.2.2.2.1
  have hk' : (X.K i).toInt = 1 ∨ (X.K i).toInt = 2 := by rcases hk with z | z <;> rw [z] <;> decide
  unfold COR at hc
  have lf : ∀ o : Int32, o = cop (X.K i) → wl (f_q_want_45 373 373 o (mk I X.J X.R)) (fun p => wl (f_q_expression_40 N 373 X.y1 p.1 1 p.2) X.Q) := by
    intro o ho
    unfold f_q_want_45
    refine wl_bd ?_
    unfold f_q_leaf
    have hi := hs.le
    have vm := hs.2.2.2.2.2.1
    refine wl_kb (wl_gI rfl rfl rfl (wl_gI rfl rfl rfl (wl_bd (x_em hR hH hx (by omega) ?_ (fun I1 e1 hx1 => ?_)))))
    · obtain ⟨s1, s2, s3⟩ := hst
      refine ⟨?_, by rw [s1]; exact ho, by rw [s3]; exact hs.2.2.2.1, fun z => ?_, fun z => ?_⟩
      · rw [s1]; unfold okk; rcases hk with z | z <;> rw [z] <;> decide
      · rw [s1] at z; rw [s2]; exact (vm.1 z).symm
      · rw [s1] at z; rcases hk with y | y <;> rw [y] at z <;> exact absurd z (by decide)
    have h44 := hx1.2.2.2.2.2.1
    refine wq_41 hR (wl_gI rfl rfl rfl (wl_sI (n := 300) rfl (fun hb => wl_gI rfl rfl (up2_nea (by decide)) (wl_pI rfl rfl ?_))))
    rw [tnat h44]
    have x44 : (I1 373 44 + 1).toInt = (H.length : Int) + 1 := by rw [i32addc (by rw [h44, l32_1]; omega), h44, l32_1]
    generalize hI2 : up2 (up2 I1 400 H.length 1) 373 44 (I1 373 44 + 1) = I2
    have hx2 : EXS X S (1 :: H) i (i + 1) (n + 1) I2 := by
      obtain ⟨q1, q2, q3, q4, q5, q6, q7, q8, q9, q10, q11⟩ := hx1
      refine ⟨fun x j hj => ?_, q2.keep (fun x j hj => ?_), ?_, q4.keep S (fun x j hj hl => ?_), ?_, ?_, ⟨?_, q7.keep _ (fun j hj => ?_)⟩, ?_, ?_, q10.same (fun x k hx hx' hk => ?_), q11⟩
      · rw [← hI2, up2_ne _ _ (by omega), up2_ne _ _ (by omega)]; exact q1 x j hj
      · rw [← hI2, up2_ne _ _ (by omega), up2_ne _ _ (by omega)]
      · rw [← hI2, up2_ne _ _ (by omega), up2_ne _ _ (by omega)]; exact q3
      · rw [← hI2, up2_ne _ _ (by omega), up2_ne _ _ (by omega)]
      · rw [← hI2, up2_ne _ _ (by omega), up2_ne _ _ (by omega)]; exact q5
      · rw [← hI2, up2_s, x44]; show (H.length : Int) + 1 = ((H.length + 1 : Nat) : Int); omega
      · rw [← hI2, up2_nea (by decide), up2_s]
      · rw [← hI2, up2_nea (by decide), up2_nek (by omega)]
      · rw [← hI2, up2_ne _ _ (by omega), up2_ne _ _ (by omega)]; exact q8
      · rw [← hI2, up2_ne _ _ (by omega), up2_ne _ _ (by omega)]; exact q9
      · rw [← hI2, up2_ne _ _ (by omega), up2_ne _ _ (by omega)]
    refine wl_bd (x_next hR hL2 hx2.2.1 (by omega) (by omega) (fun I3 e3 hs3 => wl_some (wl_bd ?_)))
    unfold f_q_opposites
    exact wl_kb (wl_mono (k I3 KK N (hx2.rd e3 hs3)) (fun w hw => wl_req (fun _ => wl_some hw)))
  have w31 : wl (f_q_want_31 373 (mk I X.J X.R)) (fun p => wl (f_q_expression_40 N 373 X.y1 p.1 1 p.2) X.Q) := by
    unfold f_q_want_31
    refine wl_gI rfl rfl rfl (wl_ite (fun z => lf _ ?_) (fun z => lf _ ?_))
    · rw [i32eq, l32_1] at z
      have e1 : X.K i = 1 := i32eq.mpr (by rw [l32_1]; omega)
      rw [e1]; decide
    · rw [i32eq, l32_1] at z
      have e1 : X.K i = 2 := i32eq.mpr (by rw [l32_2]; omega)
      rw [e1]; decide
  refine y_want hs ?_
  unfold f_q_want
  refine wl_kb (wl_gI rfl rfl rfl (wl_ite (fun z => wl_gI rfl rfl rfl (wl_ite (fun z1 => w31) (fun z1 => wl_gI rfl rfl rfl (wl_ite (fun z2 => w31) (fun z2 => ?_))))) (fun z => ?_)))
  · exfalso
    rw [i32eq, l32_1] at z1
    rw [i32eq, l32_2] at z2
    omega
  · exfalso
    have := hx.2.2.2.2.1
    rw [i32le, l32_10] at z
    omega
/-- ahead of a part: none is there, or too deep -/
theorem y_none (hR : QR X.R) (hx : EXS X S H i m n I) (h : 10 < ins S ∨ ¬ (X.K i = 1 ∨ X.K i = 2 ∨ X.K i = 3 ∨ X.K i = 45 ∨ X.K i = 40)) {N : Nat} (k : KB X i) : X.lp (N + 1) 0 I := by
  have hs := hx.2.1
  have hc := hs.2.2.2.2.1
  unfold COR at hc
  have h43 := hx.2.2.2.2.1
  have wr : wl ((f_q_wrong 373 (mk I X.J X.R)).bind fun w => if (0 : Int32) = 0 ∨ (0 : Int32) = 1 then some ((0 : Int32), w) else none) (fun p => wl (f_q_expression_40 N 373 X.y1 p.1 1 p.2) X.Q) :=
    wl_bd (x_wrong hs (fun I2 e2 w1 w2 => wl_req (fun _ => wl_some (k I2 N 0 (BDS.w hx.1 e2 w1 w2)))))
  refine y_want hs ?_
  unfold f_q_want
  refine wl_kb (wl_gI rfl rfl rfl (wl_ite (fun z => ?_) (fun z => wr)))
  rw [i32le, l32_10] at z
  have h := h.resolve_left (by omega)
  have n1 : (X.K i).toInt ≠ 1 := fun w => h (Or.inl (i32eq.mpr (by rw [w, l32_1])))
  have n2 : (X.K i).toInt ≠ 2 := fun w => h (Or.inr (Or.inl (i32eq.mpr (by rw [w, l32_2]))))
  have n3 : (X.K i).toInt ≠ 3 := fun w => h (Or.inr (Or.inr (Or.inl (i32eq.mpr (by rw [w, l32_3])))))
  refine wl_gI rfl rfl rfl (wl_ite (fun z1 => ?_) (fun z1 => wl_gI rfl rfl rfl (wl_ite (fun z2 => ?_) (fun z2 => wl_gI rfl rfl rfl (wl_ite (fun z3 => ?_) (fun z3 => ?_))))))
  · exfalso; rw [i32eq, l32_1] at z1; omega
  · exfalso; rw [i32eq, l32_2] at z2; omega
  · exfalso; rw [i32eq, l32_3] at z3; omega
  refine wl_bd2 (x_isK hs sg_45 (fun y => absurd (Or.inr (Or.inr (Or.inr (Or.inl y)))) h) (fun y => ?_))
  dsimp only
  rw [if_pos rfl]
  refine wl_bd2 (x_isK hs sg_40 (fun y2 => absurd (Or.inr (Or.inr (Or.inr (Or.inr y2)))) h) (fun y2 => ?_))
  dsimp only
  rw [if_pos rfl]
  exact wr
/-- ahead of a part: a sign, or a bracket -/
theorem y_open (hR : QR X.R) (hL2 : X.L ≤ 200) (hx : EXS X S H i i n I) (hd : ins S ≤ 10) {s : Int32} (hk : (X.K i = 45 ∧ s = 3) ∨ (X.K i = 40 ∧ s = 1)) {N : Nat} (k : ∀ I', EXS X ((s, 0, X.B i) :: S) H (i + 1) (i + 1) n I' → X.lp N 0 I') : X.lp (N + 1) 0 I := by
  have hs := hx.2.1
  have hc := hs.2.2.2.2.1
  have h43 := hx.2.2.2.2.1
  have hk' : ((X.K i).toInt = 45 ∧ s = 3) ∨ ((X.K i).toInt = 40 ∧ s = 1) := by
    rcases hk with ⟨z, y⟩ | ⟨z, y⟩
    · exact Or.inl ⟨by rw [z]; exact l32_45, y⟩
    · exact Or.inr ⟨by rw [z]; exact l32_40, y⟩
  have hkk : (X.K i).toInt = 45 ∨ (X.K i).toInt = 40 := by omega
  unfold COR at hc
  have w105 : wl (f_q_want_105 373 (mk I X.J X.R)) (fun p => wl (f_q_expression_40 N 373 X.y1 p.1 1 p.2) X.Q) := by
    have w120 : wl (f_q_want_120 373 373 s (mk I X.J X.R)) (fun p => wl (f_q_expression_40 N 373 X.y1 p.1 1 p.2) X.Q) := by
      unfold f_q_want_120
      refine wl_gI rfl rfl hs.2.2.2.1 (wl_bd (x_push hR hx.2.2.1 hx.b43 (fun I2 e2 f1 f2 f5 f3 f4 => ?_)))
      have hx2 := hx.push e2 f1 f2 f5 f3 f4
      exact wl_bd (x_next hR hL2 hx2.2.1 (by omega) (by omega) (fun I3 e3 hs3 => wl_req (fun _ => wl_some (k I3 (hx2.rd e3 hs3)))))
    unfold f_q_want_105
    refine wl_bd2 (x_isK hs sg_45 (fun y => ?_) (fun y => ?_))
    · dsimp only
      rw [if_neg (by decide)]
      rcases hk with ⟨z, rfl⟩ | ⟨z, rfl⟩
      · exact w120
      · rw [z] at y; exact absurd y (by decide)
    · dsimp only
      rw [if_pos rfl]
      rcases hk with ⟨z, rfl⟩ | ⟨z, rfl⟩
      · exact absurd z y
      · exact w120
  refine y_want hs ?_
  unfold f_q_want
  refine wl_kb (wl_gI rfl rfl rfl (wl_ite (fun z => ?_) (fun z => ?_)))
  · refine wl_gI rfl rfl rfl (wl_ite (fun z1 => ?_) (fun z1 => wl_gI rfl rfl rfl (wl_ite (fun z2 => ?_) (fun z2 => wl_gI rfl rfl rfl (wl_ite (fun z3 => ?_) (fun z3 => ?_))))))
    · exfalso; rw [i32eq, l32_1] at z1; omega
    · exfalso; rw [i32eq, l32_2] at z2; omega
    · exfalso; rw [i32eq, l32_3] at z3; omega
    refine wl_bd2 (x_isK hs sg_45 (fun y => ?_) (fun y => ?_))
    · dsimp only
      rw [if_neg (by decide)]
      exact w105
    · dsimp only
      rw [if_pos rfl]
      refine wl_bd2 (x_isK hs sg_40 (fun y2 => ?_) (fun y2 => ?_))
      · dsimp only
        rw [if_neg (by decide)]
        exact w105
      · exfalso
        rcases hk with ⟨w, _⟩ | ⟨w, _⟩
        · exact y w
        · exact y2 w
  · exfalso
    rw [i32le, l32_10] at z
    omega
/-- ahead of a part: an ARRAY -/
theorem y_arr (hR : QR X.R) (hL2 : X.L ≤ 200) (hx : EXS X S H i i n I) (hd : ins S ≤ 10) (hk : X.K i = 3) {N : Nat} (k : X.K (i + 1) = 91 → ∀ (v : Int32 × Int32) (I' : IM), (X.M i = (4 : Int32) * v.1 ∧ v.2 = X.B i) → EXS X ((2, v) :: S) H (i + 1 + 1) (i + 1 + 1) n I' → X.lp N 0 I') (k0 : ¬ X.K (i + 1) = 91 → KB X (i + 1)) : X.lp (N + 1) 0 I := by
  have hs := hx.2.1
  have hc := hs.2.2.2.2.1
  have h43 := hx.2.2.2.2.1
  have hk' : (X.K i).toInt = 3 := by rw [hk]; exact l32_3
  unfold COR at hc
  refine y_want hs ?_
  unfold f_q_want
  refine wl_kb (wl_gI rfl rfl rfl (wl_ite (fun z => ?_) (fun z => ?_)))
  · refine wl_gI rfl rfl rfl (wl_ite (fun z1 => ?_) (fun z1 => wl_gI rfl rfl rfl (wl_ite (fun z2 => ?_) (fun z2 => wl_gI rfl rfl rfl (wl_ite (fun z3 => ?_) (fun z3 => ?_))))))
    · exfalso; rw [i32eq, l32_1] at z1; omega
    · exfalso; rw [i32eq, l32_2] at z2; omega
    · refine wl_gI rfl rfl rfl (wl_gI rfl rfl hs.2.2.2.1 (wl_bd (x_push hR hx.2.2.1 hx.b43 (fun I2 e2 f1 f2 f5 f3 f4 => ?_))))
      have hx2 := hx.push e2 f1 f2 f5 f3 f4
      refine wl_bd (x_next hR hL2 hx2.2.1 (by omega) (by omega) (fun I3 e3 hs3 => wl_bd ?_))
      have hx3 := hx2.rd e3 hs3
      unfold f_q_expect f_q_expect_27
      refine wl_kb (wl_gI rfl rfl rfl ?_)
      rw [if_pos (i32eq.mpr (by rw [hs3.2.1, l32_0]))]
      refine wl_bd2 (x_isK hs3 sg_91 (fun y => ?_) (fun y => ?_))
      · dsimp only
        rw [if_neg (by decide)]
        exact wl_bd (x_next hR hL2 hs3 (by rw [y]; decide) (by rw [y]; decide) (fun I4 e4 hs4 => wl_some (wl_req (fun _ => wl_some (k y _ I4 ⟨hs.2.2.2.2.2.1.2 hk, rfl⟩ ((hx3.rd e4 hs4).mono (by omega)))))))
      · dsimp only
        rw [if_pos rfl]
        exact wl_bd (x_wrong hs3 (fun I4 e4 w1 w2 => wl_some (wl_req (fun _ => wl_some (k0 y I4 N 0 (BDS.w hx3.1 e4 w1 w2))))))
    · exfalso; rw [i32eq, l32_3] at z3; omega
  · exfalso
    rw [i32le, l32_10] at z
    omega
theorem t4_1 (v : Int32 × Int32) (S : OL) : T4 ((1, v) :: S) := fun s S' e => by cases e; exact Or.inl rfl
theorem t4_2 (v : Int32 × Int32) (S : OL) : T4 ((2, v) :: S) := fun s S' e => by cases e; exact Or.inr rfl
/-- behind a minus sign's FACTOR -/
theorem kf_neg (hR : QR X.R) (hH : X.H ≤ 1) (hL2 : X.L ≤ 200) {h sn : Int32} {v : Int32 × Int32} (hs : STE X.P n 259 sn v.2) (k : KF X S H (h + 1) i (n + 1)) : KF X ((3, v) :: S) H h i n := fun I M N hx => x_opp hR hH hx (by have := hx.2.1.le; omega) hs (fun I' M' hx' => k I' M' N hx') M
/-- a FACTOR done, with no minus sign before it -/
theorem kf_of (hR : QR X.R) {h : Int32} (hT : ∀ s S', S = s :: S' → ¬ s.1 = 3) (k : ∀ (I : IM) (N : Nat), EXS X S (h :: H) i i n I → X.lp N 1 I) : KF X S H h i n := fun I M N hx => x_opp_stop hR hx hT (k I N hx) M
theorem rl_arr {X : RX} {n : Nat} {M B : Int32} {v : Int32 × Int32} (h : STE X n 3 M B) (h1 : M = (4 : Int32) * v.1) (h2 : v.2 = B) : RL1 X n 3 v.1 v.2 := by
  obtain ⟨s1, s2, s3⟩ := h
  refine ⟨by rw [s1]; unfold okk; decide, by rw [s1]; decide, by rw [h2, s3], fun z => ?_, fun _ => by rw [s2, h1]⟩
  rw [s1] at z
  exact absurd z (by decide)
theorem ref_all (hR : QR X.R) (hH : X.H ≤ 1) (hL2 : X.L ≤ 200) {tag d : Nat} {h : Int32} {i n : Nat} {r : Res} (hd : DE X.P X.K X.B X.M tag d h i n r) : REFA X tag d h i n r := by
  have no : ∀ {a b : Nat} {P : Prop}, a ≠ b → a = b → P := fun h e => absurd e h
  refine DE.ind (W := fun tag d h i n r => REFA X tag d h i n r) ?_ ?_ ?_ ?_ ?_ ?_ ?_ ?_ ?_ ?_ ?_ ?_ ?_ ?_ ?_ ?_ ?_ ?_ ?_ ?_ ?_ ?_ ?_ ?_ hd
  · intro d i n h1
    refine ⟨fun _ => ?_, no (by decide), no (by decide), no (by decide), no (by decide)⟩
    intro S H I N hx hi k
    cases N with
    | zero => exact wl_none
    | succ N => exact y_none hR hx (Or.inl (by omega)) k
  · intro d i n h1 h2
    refine ⟨fun _ => ?_, no (by decide), no (by decide), no (by decide), no (by decide)⟩
    intro S H I N hx hi k
    cases N with
    | zero => exact wl_none
    | succ N => exact y_none hR hx (Or.inr h2) k
  · intro d i n h1 h2 hst
    refine ⟨fun _ => ?_, no (by decide), no (by decide), no (by decide), no (by decide)⟩
    intro S H I N hx hi k
    cases N with
    | zero => exact wl_none
    | succ N => exact y_leaf hR hH hL2 hx hst (by omega) h2 k
  · intro d i n j n' h h1 h2 h3 hst ih
    refine ⟨fun _ => ?_, no (by decide), no (by decide), no (by decide), no (by decide)⟩
    intro S H I N hx hi k
    cases N with
    | zero => exact wl_none
    | succ N => exact y_open hR hL2 hx (by omega) (Or.inl ⟨h2, rfl⟩) (fun I' hx' => ih.1 rfl _ H I' N hx' (by rw [ins3]; omega) (kf_neg hR hH hL2 hst k))
  · intro d i n j h1 h2 h3 ih
    refine ⟨fun _ => ?_, no (by decide), no (by decide), no (by decide), no (by decide)⟩
    intro S H I N hx hi k
    cases N with
    | zero => exact wl_none
    | succ N => exact y_open hR hL2 hx (by omega) (Or.inl ⟨h2, rfl⟩) (fun I' hx' => ih.1 rfl _ H I' N hx' (by rw [ins3]; omega) k)
  · intro d i n j n' h h1 h2 h3 h4 ih
    refine ⟨fun _ => ?_, no (by decide), no (by decide), no (by decide), no (by decide)⟩
    intro S H I N hx hi k
    cases N with
    | zero => exact wl_none
    | succ N => exact y_open hR hL2 hx (by omega) (Or.inr ⟨h2, rfl⟩) (fun I' hx' => ih.2.2.2.2 rfl _ H I' N hx' (by rw [ins1]; omega) (t4_1 _ _) (y_brk hR hH hL2 (Or.inl ⟨rfl, rfl, rfl, rfl⟩) (fun _ => k) (fun z => absurd h4 z)))
  · intro d i n j n' h h1 h2 h3 h4 ih
    refine ⟨fun _ => ?_, no (by decide), no (by decide), no (by decide), no (by decide)⟩
    intro S H I N hx hi k
    cases N with
    | zero => exact wl_none
    | succ N => exact y_open hR hL2 hx (by omega) (Or.inr ⟨h2, rfl⟩) (fun I' hx' => ih.2.2.2.2 rfl _ H I' N hx' (by rw [ins1]; omega) (t4_1 _ _) (y_brk hR hH hL2 (Or.inl ⟨rfl, rfl, rfl, rfl⟩) (fun z => absurd z h4) (fun _ => k)))
  · intro d i n j h1 h2 h3 ih
    refine ⟨fun _ => ?_, no (by decide), no (by decide), no (by decide), no (by decide)⟩
    intro S H I N hx hi k
    cases N with
    | zero => exact wl_none
    | succ N => exact y_open hR hL2 hx (by omega) (Or.inr ⟨h2, rfl⟩) (fun I' hx' => ih.2.2.2.2 rfl _ H I' N hx' (by rw [ins1]; omega) (t4_1 _ _) k)
  · intro d i n h1 h2 h3
    refine ⟨fun _ => ?_, no (by decide), no (by decide), no (by decide), no (by decide)⟩
    intro S H I N hx hi k
    cases N with
    | zero => exact wl_none
    | succ N => exact y_arr hR hL2 hx (by omega) h2 (fun z => absurd z h3) (fun _ => k)
  · intro d i n j n' h h1 h2 h3 h4 h5 hst ih
    refine ⟨fun _ => ?_, no (by decide), no (by decide), no (by decide), no (by decide)⟩
    intro S H I N hx hi k
    cases N with
    | zero => exact wl_none
    | succ N => exact y_arr hR hL2 hx (by omega) h2 (fun _ v I' hv hx' => ih.2.2.2.2 rfl _ H I' N hx' (by rw [ins2]; omega) (t4_2 _ _) (y_brk hR hH hL2 (Or.inr ⟨rfl, rfl, rfl, rfl, fun _ => rl_arr hst hv.1 hv.2⟩) (fun _ => k) (fun z => absurd h5 z))) (fun z => absurd h3 z)
  · intro d i n j n' h h1 h2 h3 h4 h5 ih
    refine ⟨fun _ => ?_, no (by decide), no (by decide), no (by decide), no (by decide)⟩
    intro S H I N hx hi k
    cases N with
    | zero => exact wl_none
    | succ N => exact y_arr hR hL2 hx (by omega) h2 (fun _ v I' hv hx' => ih.2.2.2.2 rfl _ H I' N hx' (by rw [ins2]; omega) (t4_2 _ _) (y_brk hR hH hL2 (Or.inr ⟨rfl, rfl, rfl, rfl, fun z => absurd z h5⟩) (fun z => absurd z h5) (fun _ => k))) (fun z => absurd h3 z)
  · intro d i n j h1 h2 h3 h4 ih
    refine ⟨fun _ => ?_, no (by decide), no (by decide), no (by decide), no (by decide)⟩
    intro S H I N hx hi k
    cases N with
    | zero => exact wl_none
    | succ N => exact y_arr hR hL2 hx (by omega) h2 (fun _ v I' hv hx' => ih.2.2.2.2 rfl _ H I' N hx' (by rw [ins2]; omega) (t4_2 _ _) k) (fun z => absurd h3 z)
  · intro d i n h h1
    refine ⟨no (by decide), fun _ => ?_, no (by decide), no (by decide), no (by decide)⟩
    intro S H I N hx hi hT k
    exact k I N hx h1
  · intro d i n h h1 h2
    refine ⟨no (by decide), fun _ => ?_, no (by decide), no (by decide), no (by decide)⟩
    intro S H I N hx hi hT k
    obtain ⟨S', H', l', hx', _⟩ := hx.ex
    cases N with
    | zero => exact wl_none
    | succ N => exact y_op hR hL2 hx'.2.1 (Or.inl h1) (red_of2 hR hH hL2 hx hT h1) (fun z => absurd h2 z) (fun _ => k)
  · intro d i n j h h1 h2 h3 ih
    refine ⟨no (by decide), fun _ => ?_, no (by decide), no (by decide), no (by decide)⟩
    intro S H I N hx hi hT k
    obtain ⟨S', H', l', hx', _⟩ := hx.ex
    cases N with
    | zero => exact wl_none
    | succ N => exact y_op hR hL2 hx'.2.1 (Or.inl h1) (red_of2 hR hH hL2 hx hT h1) (fun _ I' hx2 => ih.1 rfl _ _ I' N hx2 (by rw [ins4]; exact hi) k) (fun z => absurd z h2)
  · intro d i n j n' h h0 r h1 h2 h3 hst h4 ih3 ih4
    refine ⟨no (by decide), fun _ => ?_, no (by decide), no (by decide), no (by decide)⟩
    intro S H I N hx hi hT k
    obtain ⟨S', H', l', hx', _⟩ := hx.ex
    cases N with
    | zero => exact wl_none
    | succ N => exact y_op hR hL2 hx'.2.1 (Or.inl h1) (red_of2 hR hH hL2 hx hT h1) (fun _ I' hx2 => ih3.1 rfl _ _ I' N hx2 (by rw [ins4]; exact hi) (kf_of hR (fun s S' e => by cases e; exact (by decide : ¬ (4 : Int32) = 3)) (fun I2 N2 hx3 => ih4.2.1 rfl S H I2 N2 (Or.inr ⟨(X.K i, X.B i), h, h0, n', 0, h1, rfl, rfl, hst, hx3⟩) hi hT k))) (fun z => absurd z h2)
  · intro d i n h h1
    refine ⟨no (by decide), no (by decide), fun _ => ?_, no (by decide), no (by decide)⟩
    intro S H I N hx hp hi hT k
    exact k I N hx hp h1
  · intro d i n h h1 h2
    refine ⟨no (by decide), no (by decide), fun _ => ?_, no (by decide), no (by decide)⟩
    intro S H I N hx hp hi hT k
    obtain ⟨S', H', l', hx', _⟩ := hx.ex
    cases N with
    | zero => exact wl_none
    | succ N => exact y_op hR hL2 hx'.2.1 (Or.inr h1) (red_of1 hR hH hL2 hx hT h1) (fun z => absurd h2 z) (fun _ => k)
  · intro d i n j h h1 h2 h3 ih
    refine ⟨no (by decide), no (by decide), fun _ => ?_, no (by decide), no (by decide)⟩
    intro S H I N hx hp hi hT k
    obtain ⟨S', H', l', hx', _⟩ := hx.ex
    cases N with
    | zero => exact wl_none
    | succ N => exact y_op hR hL2 hx'.2.1 (Or.inr h1) (red_of1 hR hH hL2 hx hT h1) (fun _ I' hx2 => ih.2.2.2.1 rfl _ _ I' N hx2 (by rw [ins4]; exact hi) (fun s S' e => by cases e; exact ⟨(by decide : ¬ (4 : Int32) = 3), fun _ => h1⟩) k) (fun z => absurd z h2)
  · intro d i n j n' h h0 r h1 h2 h3 hst h4 ih3 ih4
    refine ⟨no (by decide), no (by decide), fun _ => ?_, no (by decide), no (by decide)⟩
    intro S H I N hx hp hi hT k
    obtain ⟨S', H', l', hx', _⟩ := hx.ex
    cases N with
    | zero => exact wl_none
    | succ N => exact y_op hR hL2 hx'.2.1 (Or.inr h1) (red_of1 hR hH hL2 hx hT h1) (fun _ I' hx2 => ih3.2.2.2.1 rfl _ _ I' N hx2 (by rw [ins4]; exact hi) (fun s S' e => by cases e; exact ⟨(by decide : ¬ (4 : Int32) = 3), fun _ => h1⟩) (fun I2 N2 hx3 np => ih4.2.2.1 rfl S H I2 N2 (Or.inr ⟨(X.K i, X.B i), h, h0, n', 0, h1, rfl, rfl, hst, hx3⟩) np hi hT k)) (fun z => absurd z h2)
  · intro d i n j n' h r h1 h2 ih1 ih2
    refine ⟨no (by decide), no (by decide), no (by decide), fun _ => ?_, no (by decide)⟩
    intro S H I N hx hi hT k
    exact ih1.1 rfl S H I N hx hi (kf_of hR (fun s S' e => (hT s S' e).1) (fun I2 N2 hx3 => ih2.2.1 rfl S H I2 N2 (Or.inl hx3) hi hT k))
  · intro d i n j h1 ih
    refine ⟨no (by decide), no (by decide), no (by decide), fun _ => ?_, no (by decide)⟩
    intro S H I N hx hi hT k
    exact ih.1 rfl S H I N hx hi k
  · intro d i n j n' h r h1 h2 ih1 ih2
    refine ⟨no (by decide), no (by decide), no (by decide), no (by decide), fun _ => ?_⟩
    intro S H I N hx hi hT k
    exact ih1.2.2.2.1 rfl S H I N hx hi hT.t3 (fun I2 N2 hx3 np => ih2.2.2.1 rfl S H I2 N2 (Or.inl hx3) np hi hT k)
  · intro d i n j h1 ih
    refine ⟨no (by decide), no (by decide), no (by decide), no (by decide), fun _ => ?_⟩
    intro S H I N hx hi hT k
    exact ih.2.2.2.1 rfl S H I N hx hi hT.t3 k
end QEY
/-- where the reference stands: at a TOKEN with its steps, or at a fault -/
def STQ (c : Nat → Int32) (L : Nat) (K B M : Nat → Int32) (P : RX) (H : Nat) : ((Nat × Nat) ⊕ Nat) → IM → Prop
  | .inl s, I => QS c L K B M s.1 I ∧ (I 390 H).toInt = s.2 ∧ RLS P H s.2 I ∧ s.2 ≤ s.1
  | .inr j, I => (I 373 34).toInt ≠ 0 ∧ I 373 4 = B j
section QEZ
variable {c : Nat → Int32} {L : Nat} {K B M : Nat → Int32} {P : RX} {H : Nat} {J : JM} {R : RM} {I : IM}
theorem z_expr (hR : QR R) (hH : H ≤ 1) (hL2 : L ≤ 200) {s : Nat × Nat} {r : (Nat × Nat) ⊕ Nat} (hs : STQ c L K B M P H (.inl s) I) (h32 : (I 373 32).toInt = H) (hP : exP P K B M s r) {Q : (Int32 × WW) → Prop} (k : ∀ (v : Int32) (I' : IM), v.toInt = ((220 * H + s.2 : Nat) : Int) → FX9 H I I' → STQ c L K B M P H r I' → Q (v, mk I' J R)) : wl (f_q_expression 373 (mk I J R)) Q := by
  obtain ⟨i, n⟩ := s
  have hs' : QS c L K B M i I ∧ (I 390 H).toInt = n ∧ RLS P H n I ∧ n ≤ i := hs
  obtain ⟨hs, h390, hl, hni⟩ := hs'
  have hi := hs.le
  have b1 := i32b (I 373 32)
  have b2 := i32b (I 390 H)
  have vv : ((220 : Int32) * I 373 32 + I 390 H).toInt = ((220 * H + n : Nat) : Int) := by rw [i32addc (by rw [m32_220 (by omega), h32, h390]; omega), m32_220 (by omega), h32, h390]; omega
  unfold f_q_expression f_q_expression_39
  refine wl_kb (wq_23 hR (wl_gI rfl rfl rfl (wl_rI (n := 2) rfl (fun _ => wl_pI rfl rfl (wl_pI rfl rfl (wl_pI rfl rfl ?_))))))
  generalize hI1 : up2 (up2 (up2 I 373 42 0) 373 43 0) 373 44 0 = I1
  have e1 : ∀ x j, (x ≠ 373 ∨ (j ≠ 42 ∧ j ≠ 43 ∧ j ≠ 44)) → I1 x j = I x j := fun x j hj => by rw [← hI1, up2_ne _ _ (by omega), up2_ne _ _ (by omega), up2_ne _ _ (by omega)]
  have hs1 : QS c L K B M i I1 := hs.keep (fun x j hj => e1 x j (by omega))
  have f1 : FX9 H I I1 := fun x j hj => e1 x j (by omega)
  refine wl_gI rfl rfl rfl ?_
  rw [if_pos (i32eq.mpr (by rw [hs1.2.1, l32_0])), tnat h32]
  let X : XC := ⟨c, L, K, B, M, P, H, I1, J, R, I 390 H, Q⟩
  have hx : EXS X [] [] i i n I1 := by
    refine ⟨fun _ _ _ => rfl, hs1, ?_, trivial, ?_, ?_, trivial, ?_, ?_, hl.same (fun x k _ _ _ => e1 x _ (by omega)), hni⟩
    · rw [← hI1, up2_nek (by decide), up2_nek (by decide), up2_s]; rfl
    · rw [← hI1, up2_nek (by decide), up2_s]; rfl
    · rw [← hI1, up2_s]; rfl
    · rw [e1 _ _ (by omega)]; exact h32
    · show (I1 390 H).toInt = n
      rw [e1 _ _ (by omega)]; exact h390
  have hT : T4 [] := fun s S' e => by cases e
  have fin : ∀ (r' : (Nat × Nat) ⊕ Nat), r' = r → ∀ (I3 : IM), FX9 H I1 I3 → STQ c L K B M P H r' I3 → wl ((gI (mk I3 J R) 373 9 32).bind fun x12 => some ((220 : Int32) * x12 + I 390 H, mk I3 J R)) Q := by
    intro r' er I3 hf hst
    subst er
    refine wl_gI rfl rfl ((hf 373 32 (by omega)).trans (e1 _ _ (by omega))) (wl_some ?_)
    exact k _ I3 vv (f1.trans hf) hst
  have kb : ∀ j, r = .inr j → KB X j := by
    intro j hj I2 N b hb
    have hb2 : (I2 373 34).toInt ≠ 0 := hb.2.1
    show wl (f_q_expression_40 N 373 (I 390 H) b 1 (mk I2 J R)) Q
    cases N with
    | zero => exact wl_none
    | succ N =>
      have hn : ¬ I2 373 34 = 0 := fun z => hb2 (by rw [z, l32_0])
      rw [f_q_expression_40, if_neg (by decide)]
      refine wl_gI rfl rfl rfl ?_
      rw [if_neg hn]
      unfold f_q_expression_194 f_q_expression_206
      refine wl_gI rfl rfl rfl ?_
      rw [if_neg hn]
      exact fin (.inr j) hj.symm I2 hb.1 ⟨hb2, hb.2.2⟩
  rcases hP with ⟨h, j, n', hD, hr⟩ | ⟨j, hD, hr⟩
  · refine (ref_all (X := X) hR hH hL2 hD).2.2.2.2 rfl [] [] I1 KK hx rfl hT ?_
    intro I2 N hz np ns
    show wl (f_q_expression_40 N 373 (I 390 H) 1 1 (mk I2 J R)) Q
    obtain ⟨S', H', l', hx', hb⟩ := hz.ex
    have hj := hz.le (X := X) hL2
    cases N with
    | zero => exact wl_none
    | succ N =>
      refine y_134 (X := X) hx'.2.1 np ns ?_
      unfold f_q_expression_134
      refine wl_bd2 (x_bracket (X := X) hR hx' ?_)
      dsimp only
      rw [hb]
      show wl (if (0 : Int32) = 0 then _ else _) Q
      rw [if_pos rfl]
      unfold f_q_expression_191
      cases N with
      | zero => exact wl_none
      | succ N =>
        rw [f_q_expression_40, if_pos rfl]
        unfold f_q_expression_194 f_q_expression_206
        refine wl_gI rfl rfl rfl ?_
        rw [if_pos (i32eq.mpr (by rw [hx'.2.1.2.1, l32_0]))]
        refine wl_bd ?_
        unfold f_q_reduce
        refine wl_kb (x_red1 (X := X) hR hH hj hz hT (fun I3 hx3 => ?_) KK)
        obtain ⟨q1, q2, _, _, _, _, _, q8, q9, q10, q11⟩ := hx3
        exact fin (.inl (j, n')) hr.symm I3 q1 ⟨q2, q9, q10, by simpa using q11⟩
  · exact (ref_all (X := X) hR hH hL2 hD).2.2.2.2 rfl [] [] I1 KK hx rfl hT (kb j hr)
/-- with a fault an EXPR changes nothing that counts -/
theorem z_exprb (hR : QR R) (hb : (I 373 34).toInt ≠ 0) {Q : (Int32 × WW) → Prop} (k : ∀ (v : Int32) (I' : IM), FX9 H I I' → I' 373 34 = I 373 34 → I' 373 4 = I 373 4 → Q (v, mk I' J R)) : wl (f_q_expression 373 (mk I J R)) Q := by
  have hn : ¬ I 373 34 = 0 := fun z => hb (by rw [z, l32_0])
  unfold f_q_expression f_q_expression_39
  refine wl_kb (wq_23 hR (wl_gI rfl rfl rfl (wl_rI (n := 2) rfl (fun _ => wl_pI rfl rfl (wl_pI rfl rfl (wl_pI rfl rfl ?_))))))
  generalize hI1 : up2 (up2 (up2 I 373 42 0) 373 43 0) 373 44 0 = I1
  have e1 : ∀ x j, (x ≠ 373 ∨ (j ≠ 42 ∧ j ≠ 43 ∧ j ≠ 44)) → I1 x j = I x j := fun x j hj => by rw [← hI1, up2_ne _ _ (by omega), up2_ne _ _ (by omega), up2_ne _ _ (by omega)]
  have hn1 : ¬ I1 373 34 = 0 := by rw [e1 _ _ (by decide)]; exact hn
  refine wl_gI rfl rfl rfl ?_
  rw [if_neg hn1]
  have go : ∀ N : Nat, wl (f_q_expression_40 N 373 (I 390 (I 373 32).toInt.toNat) 0 0 (mk I1 J R)) Q := by
    intro N
    cases N with
    | zero => exact wl_none
    | succ N =>
      rw [f_q_expression_40, if_pos rfl]
      unfold f_q_expression_194 f_q_expression_206
      refine wl_gI rfl rfl rfl ?_
      rw [if_neg hn1]
      exact wl_gI rfl rfl rfl (wl_some (k _ I1 (fun x j hj => e1 x j (by omega)) (e1 _ _ (by decide)) (e1 _ _ (by decide))))
  exact go KK
end QEZ
