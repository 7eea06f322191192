/-! The parser of the class: what it keeps. -/
abbrev PI (p : Nat) (c : Int) (I0 : IM) (J0 : JM) (I : IM) (J : JM) (R : RM) : Prop := CI 1 I0 J0 I J R ∧ R 1 2 = some p ∧ isP p ∧ c ≤ (I p 1).toInt
theorem PI.mono {p : Nat} {c c2 : Int} {I0 : IM} {J0 : JM} {I : IM} {J : JM} {R : RM} (h : PI p c I0 J0 I J R) (hc : c2 ≤ c) : PI p c2 I0 J0 I J R := ⟨h.1, h.2.1, h.2.2.1, by have := h.2.2.2; omega⟩
theorem neT {x b : Nat} (hx : LT x = some oT) (hb : LT b ≠ some oT) : b ≠ x := fun z => hb (z ▸ hx)
theorem neTP {x p : Nat} (hx : LT x = some oT) (hp : isP p) : x ≠ p := by
  intro z; subst z
  rw [(isP_lt hp).1] at hx
  cases hx
theorem neP {b p : Nat} (hp : isP p) (hb : LT b ≠ some oP) : b ≠ p := fun z => hb (z ▸ (isP_lt hp).1)
section PI
variable {p : Nat} {c : Int} {m : Nat} {I0 : IM} {J0 : JM} {I : IM} {J : JM} {R : RM} {a k : Nat} {β : Type} {Q : β → Prop}
theorem sg_12 (h : PI p c I0 J0 I J R) {f : Option Nat → Option β} (K : wp (f (some p)) Q) : wp ((gR (mk I J R) 1 2 2).bind f) Q := st_gR rfl rfl h.2.1 K
theorem PI.wI (h : PI p c I0 J0 I J R) {x : Int32} (hw : WT 1 a k x) (hn : a ≠ p ∨ k ≠ 1) : PI p c I0 J0 (up2 I a k x) J R :=
  ⟨h.1.wI hw.1 hw.2.1 hw.2.2, h.2.1, h.2.2.1, by rw [up2_ne I x (by omega)]; exact h.2.2.2⟩
theorem sw_IP (h : PI p c I0 J0 I J R) {ci : Nat} {ts : List Nat} {f : WW → Option β} {x : Int32} (hl : LT a = some (.inr (ci, ts))) (hk : ts[k]? = some 0) (hw : WT 1 a k x) (hn : a ≠ p ∨ k ≠ 1) (K : PI p c I0 J0 (up2 I a k x) J R → wp (f (mk (up2 I a k x) J R)) Q) : wp ((pv (mk I J R) a ci k (.int x)).bind f) Q :=
  st_pI hl hk (K (h.wI hw hn))
/-- a STATEMENT's kind, place and target at once -/
theorem CI.w012 (h : CI m I0 J0 I J R) {x : Nat} {a1 a2 a3 : Int32} (hm : m ≤ 9) (hx : LT x = some oT) (h2 : 0 ≤ a2.toInt ∧ a2.toInt ≤ 199) (h3 : 0 ≤ a3.toInt ∧ a3.toInt ≤ 5) (h4 : a1.toInt = 3 → a3.toInt ≤ 4) : CI m I0 J0 (up2 (up2 (up2 I x 0 a1) x 1 a2) x 2 a3) J R := by
  obtain ⟨q1, q2, q3, q4, q5, q6, q7, q8⟩ := h
  have bb := LT_oT x (LT_bound hx) hx
  have ne : ∀ b j, b ≠ x → up2 (up2 (up2 I x 0 a1) x 1 a2) x 2 a3 b j = I b j := fun b j hb => by
    rw [up2_nea hb, up2_nea hb, up2_nea hb]
  refine ⟨fun b j hb => ?_, q2, fun b j hb hj => ?_, fun j hj => ?_, fun p hp j hj => ?_, fun y hy => ?_, q7, q8⟩
  · rw [ne b j (by omega)]; exact q1 b j hb
  · by_cases e : b = x
    · subst e
      rw [ti_r hx]
      have q := (ti_r hx).mp (q3 b j hb hj)
      by_cases j0 : j = 0
      · subst j0; trivial
      by_cases j1 : j = 1
      · subst j1; rw [up2_nek (by decide), up2_s]; exact h2
      by_cases j2 : j = 2
      · subst j2; rw [up2_s]; exact h3
      rw [up2_nek j2, up2_nek j1, up2_nek j0]; exact q
    · rw [ne b j e]; exact q3 b j hb hj
  · rw [ne 4 j (by omega), ne 5 j (by omega), ne 6 j (by omega)]; exact q4 j hj
  · have e1 : p + 52 ≠ x := by rcases hp with rfl | rfl <;> omega
    have e2 : p + 53 ≠ x := by rcases hp with rfl | rfl <;> omega
    rw [ne _ j e1, ne _ j e2]; exact q5 p hp j hj
  · by_cases e : y = x
    · subst e
      rw [up2_s, up2_nek (by decide), up2_nek (by decide), up2_s]
      intro z
      exact h4 (by rw [z]; rfl)
    · rw [ne y 0 e, ne y 2 e]; exact q6 y hy
theorem CI.wT0 (h : CI m I0 J0 I J R) {x : Nat} {a1 : Int32} (hm : m ≤ 9) (hx : LT x = some oT) (h4 : a1.toInt ≠ 3) : CI m I0 J0 (up2 I x 0 a1) J R := by
  obtain ⟨q1, q2, q3, q4, q5, q6, q7, q8⟩ := h
  have bb := LT_oT x (LT_bound hx) hx
  refine ⟨fun b j hb => ?_, q2, fun b j hb hj => ?_, fun j hj => ?_, fun p hp j hj => ?_, fun y hy => ?_, q7, q8⟩
  · rw [up2_nea (by omega)]; exact q1 b j hb
  · by_cases e : b = x
    · subst e
      rw [ti_r hx]
      have q := (ti_r hx).mp (q3 b j hb hj)
      by_cases j0 : j = 0
      · subst j0; trivial
      rw [up2_nek j0]; exact q
    · rw [up2_nea e]; exact q3 b j hb hj
  · rw [up2_nea (by omega), up2_nea (by omega), up2_nea (by omega)]; exact q4 j hj
  · have e1 : p + 52 ≠ x := by rcases hp with rfl | rfl <;> omega
    have e2 : p + 53 ≠ x := by rcases hp with rfl | rfl <;> omega
    rw [up2_nea e1, up2_nea e2]; exact q5 p hp j hj
  · by_cases e : y = x
    · subst e
      rw [up2_s]
      intro z
      exact absurd (by rw [z]; rfl) h4
    · rw [up2_nea e, up2_nea e]; exact q6 y hy
theorem sw_T0P (h : PI p c I0 J0 I J R) {x : Nat} {f : WW → Option β} {v : Int32} (hx : LT x = some oT) (hv : v.toInt ≠ 3) (K : PI p c I0 J0 (up2 I x 0 v) J R → wp (f (mk (up2 I x 0 v) J R)) Q) : wp ((pv (mk I J R) x 4 0 (.int v)).bind f) Q :=
  st_pI hx rfl (K ⟨h.1.wT0 (by omega) hx hv, h.2.1, h.2.2.1, by rw [up2_ne I v (Or.inr (by decide))]; exact h.2.2.2⟩)
theorem FXR.w {R : RM} (h : FXR R) {x : Option Nat} (hm : mutR a k = true) : FXR (up2 R a k x) := by
  intro b j hb hj hm2
  by_cases e : b = a ∧ j = k
  · obtain ⟨rfl, rfl⟩ := e
    rw [hm] at hm2; cases hm2
  · rw [up2_ne R x (by omega)]; exact h b j hb hj hm2
theorem mutT {x : Nat} (hx : LT x = some oT) (hk : 7 ≤ k) : mutR x k = true := by
  have e : decide (LT x = some oT) = true := decide_eq_true hx
  have e2 : decide (7 ≤ k) = true := decide_eq_true hk
  simp only [mutR, e, e2, Bool.and_self, Bool.or_true]
theorem CI.wRT (h : CI m I0 J0 I J R) {x : Nat} {y : Option Nat} (hx : LT x = some oT) (hk : k = 7 ∨ k = 8 ∨ k = 9) (hy : OT y) (h9 : k = 9 → ∀ z, y = some z → x < z) : CI m I0 J0 I J (up2 R x k y) := by
  obtain ⟨q1, q2, q3, q4, q5, q6, q7, q8⟩ := h
  have bb := LT_oT x (LT_bound hx) hx
  refine ⟨q1, q2, q3, q4, q5, q6, q7.w (mutT hx (by omega)), ?_⟩
  obtain ⟨r1, r2, r3, r4, r5, r6, r7⟩ := q8
  refine ⟨?_, ?_, ?_, ?_, ?_, fun p hp => ?_, fun z hz => ?_⟩
  · rw [up2_nea (by omega)]; exact r1
  · rw [up2_nea (by omega)]; exact r2
  · rw [up2_nea (by omega)]; exact r3
  · rw [up2_nea (by omega)]; exact r4
  · rw [up2_nea (by omega)]; exact r5
  · rw [up2_nea (Ne.symm (neTP hx hp))]; exact r6 p hp
  · by_cases e : z = x
    · subst e
      obtain ⟨s1, s2, s3, s4⟩ := r7 z hz
      refine ⟨?_, ?_, ?_, ?_⟩
      · by_cases j : 7 = k
        · subst j; rw [up2_s]; exact hy
        · rw [up2_nek j]; exact s1
      · by_cases j : 8 = k
        · subst j; rw [up2_s]; exact hy
        · rw [up2_nek j]; exact s2
      · by_cases j : 9 = k
        · subst j; rw [up2_s]; exact hy
        · rw [up2_nek j]; exact s3
      · by_cases j : 9 = k
        · subst j; rw [up2_s]; exact h9 rfl
        · rw [up2_nek j]; exact s4
    · rw [up2_nea e, up2_nea e, up2_nea e]; exact r7 z hz
theorem PI.wRT (h : PI p c I0 J0 I J R) {x : Nat} {y : Option Nat} (hx : LT x = some oT) (hk : k = 7 ∨ k = 8 ∨ k = 9) (hy : OT y) (h9 : k = 9 → ∀ z, y = some z → x < z) : PI p c I0 J0 I J (up2 R x k y) :=
  ⟨h.1.wRT hx hk hy h9, by rw [up2_nea (neT hx (by decide))]; exact h.2.1, h.2.2.1, h.2.2.2⟩
theorem sw_RT (h : PI p c I0 J0 I J R) {x : Nat} {f : WW → Option β} {y : Option Nat} (hx : LT x = some oT) (hk : k = 7 ∨ k = 8 ∨ k = 9) (hy : OT y) (h9 : k = 9 → ∀ z, y = some z → x < z) (K : PI p c I0 J0 I J (up2 R x k y) → wp (f (mk I J (up2 R x k y))) Q) : wp ((pv (mk I J R) x 4 k (va_rf y)).bind f) Q := by
  have hs : ([0, 0, 0, 0, 0, 0, 0, 2, 2, 2] : List Nat)[k]? = some 2 := by rcases hk with rfl | rfl | rfl <;> rfl
  exact st_pR hx hs (K (h.wRT hx hk hy h9))
theorem st_beginP (h : PI p c I0 J0 I J R) {x : Nat} {a1 a2 a3 : Int32} {Q : WW → Prop} (hx : LT x = some oT) (h2 : 0 ≤ a2.toInt ∧ a2.toInt ≤ 199) (h3 : 0 ≤ a3.toInt ∧ a3.toInt ≤ 5) (h4 : a1.toInt = 3 → a3.toInt ≤ 4) (k : ∀ (I : IM) (J : JM) (R : RM), PI p c I0 J0 I J R → Q (mk I J R)) : wp (f_st_begin x a1 a2 a3 (mk I J R)) Q := by
  unfold f_st_begin
  refine st_kb hx ?_
  refine st_pI hx rfl ?_
  refine st_pI hx rfl ?_
  refine st_pI hx rfl ?_
  have h' : PI p c I0 J0 (up2 (up2 (up2 I x 0 a1) x 1 a2) x 2 a3) J R := ⟨h.1.w012 (by omega) hx h2 h3 h4, h.2.1, h.2.2.1, by
    have e := Ne.symm (neTP hx h.2.2.1)
    rw [up2_nea e, up2_nea e, up2_nea e]; exact h.2.2.2⟩
  have on : OT none := fun x z => by cases z
  have nn : ∀ j : Nat, j = 9 → ∀ z, (none : Option Nat) = some z → x < z := fun _ _ z e => by cases e
  refine sw_RT h' hx (Or.inl rfl) on (nn 7) (fun h' => ?_)
  refine sw_RT h' hx (Or.inr (Or.inl rfl)) on (nn 8) (fun h' => ?_)
  refine sw_RT h' hx (Or.inr (Or.inr rfl)) on (nn 9) (fun h' => ?_)
  exact st_some (k _ _ _ h')
theorem s_pa_kindHere (h : PI p c I0 J0 I J R) {Q : (Int32 × WW) → Prop} (k : (0 ≤ (I 1 1).toInt ∧ (I 1 1).toInt ≤ 200) → Q (I 4 (I 1 1).toInt.toNat, mk I J R)) : wp (f_pa_kindHere 1 (mk I J R)) Q := by
  unfold f_pa_kindHere
  refine st_kb rfl (sn_1_0 h.1 (sn_2_1 h.1 (sg_1_1 h.1 rfl (fun q => ?_))))
  exact st_rI (n := 201) rfl (by omega) rfl (st_some (k q))
theorem s_pa_need (h : PI p c I0 J0 I J R) {a1 : Int32} {Q : ((Unit ⊕ String) × WW) → Prop} (k : ¬ a1 = 0 → Q (.inl (), mk I J R)) (kx : ∀ (I : IM), PI p c I0 J0 I J R → Q (.inr "java/lang/IllegalArgumentException", mk I J R)) : wp (f_pa_need 1 a1 (mk I J R)) Q := by
  unfold f_pa_need
  refine st_kb rfl (st_ite (fun c => ?_) (fun c => st_some (k c)))
  refine sn_1_0 h.1 (sn_2_2 h.1 (sg_1_1 h.1 rfl (fun q => ?_)))
  refine st_rI (n := 201) rfl (by omega) rfl ?_
  refine sw_IP h rfl rfl (wt_1_3 (by omega)) (Or.inl (neP h.2.2.1 (by decide))) (fun h => ?_)
  exact st_some (kx _ h)
theorem s_pa_advance (h : PI p c I0 J0 I J R) {Q : WW → Prop} (k : ∀ (I : IM), PI p c I0 J0 I J R → Q (mk I J R)) : wp (f_pa_advance 1 (mk I J R)) Q := by
  unfold f_pa_advance f_pa_advance_20
  refine st_kb rfl (sg_1_1 h.1 rfl (fun q => st_ite (fun c => st_some (k _ h)) (fun c => ?_)))
  rw [i32le, l32_200] at c
  refine sg_1_1 h.1 rfl (fun q => ?_)
  refine sw_IP h rfl rfl (wt_1_1 (by omega) (by simp only [i32add, l32_1]; omega)) (Or.inl (neP h.2.2.1 (by decide))) (fun h => ?_)
  exact st_some (k _ h)
theorem sr_5 (h : CI m I0 J0 I J R) {i x kd : Int32} {f : Int32 → Option β} (hi : 0 ≤ i.toInt ∧ i.toInt < 201) (hx : I 5 i.toInt.toNat = x) (h4 : I 4 i.toInt.toNat = kd) (K : (0 ≤ x.toInt ∧ x.toInt ≤ 200 ∧ (kd.toInt ≠ 0 → x.toInt < 200)) → wp (f x) Q) : wp ((rI (mk I J R) 5 0 i).bind f) Q := by
  refine st_rI (n := 201) rfl hi hx (K ?_)
  have q := (ti_l (a := 5) (k := i.toInt.toNat) rfl).mp (h.ty (a := 5) (k := i.toInt.toNat) (by decide) (by show _ < 201; omega))
  have q2 : 0 ≤ (I 5 i.toInt.toNat).toInt ∧ (I 5 i.toInt.toNat).toInt ≤ 200 := q
  have q3 := (h.tks (j := i.toInt.toNat) (by omega)).1
  rw [hx] at q2 q3
  rw [h4] at q3
  refine ⟨q2.1, q2.2, fun z => q3 (fun e => z (by rw [e]; rfl))⟩
theorem sr_6 (h : CI m I0 J0 I J R) {i x kd : Int32} {f : Int32 → Option β} (hi : 0 ≤ i.toInt ∧ i.toInt < 201) (hx : I 6 i.toInt.toNat = x) (h4 : I 4 i.toInt.toNat = kd) (K : ((kd.toInt ≠ 1 → 0 ≤ x.toInt ∧ x.toInt ≤ 5) ∧ (kd.toInt = 3 → x.toInt ≤ 4)) → wp (f x) Q) : wp ((rI (mk I J R) 6 0 i).bind f) Q := by
  refine st_rI (n := 201) rfl hi hx (K ?_)
  have q3 := (h.tks (j := i.toInt.toNat) (by omega)).2
  rw [hx, h4] at q3
  refine ⟨fun z => q3.1 (fun e => z (by rw [e]; rfl)), fun z => q3.2 (Int32.toInt_inj.mp z)⟩
/-- a step more -/
theorem s_pg_addStep (h : PI p c I0 J0 I J R) {a1 a2 a3 : Int32} {Q : WW → Prop} (hp : isP p) (h2 : a1.toInt = 2 → 0 ≤ a2.toInt ∧ a2.toInt ≤ 5) (h3 : a1.toInt = 3 → 0 ≤ a2.toInt ∧ a2.toInt ≤ 4) (h4 : 0 ≤ a3.toInt ∧ a3.toInt ≤ 199) (k : ∀ (I : IM), PI p c I0 J0 I J R → Q (mk I J R)) : wp (f_pg_addStep p a1 a2 a3 (mk I J R)) Q := by
  unfold f_pg_addStep f_pg_addStep_50
  refine st_kb (isP_lt hp).1 (sg_P5 h.1 hp rfl (fun q => st_ite (fun cc => st_some (k _ h)) (fun cc => ?_)))
  rw [i32le, l32_200] at cc
  refine sn_P2 h.1 hp (sg_P5 h.1 hp rfl (fun _ => ?_))
  refine st_sI (isP_lt hp).2.2.1 (by omega) ?_
  have n2 : R p 3 = some (p + 53) := by
    rcases hp with rfl | rfl <;> exact (h.1.fx (by decide) (by decide) (by decide +kernel)).trans (by decide +kernel)
  have n3 : R p 4 = some (p + 54) := by
    rcases hp with rfl | rfl <;> exact (h.1.fx (by decide) (by decide) (by decide +kernel)).trans (by decide +kernel)
  have e52 : p ≠ p + 52 := by omega
  have e53 : p ≠ p + 53 := by omega
  have e54 : p ≠ p + 54 := by omega
  refine st_gN (isP_lt hp).1 rfl n2 (st_gI (isP_lt hp).1 rfl (up2_nea e52) ?_)
  refine st_sI (isP_lt hp).2.2.2.1 (by omega) ?_
  refine st_gN (isP_lt hp).1 rfl n3 (st_gI (isP_lt hp).1 rfl ((up2_nea e53).trans (up2_nea e52)) ?_)
  refine st_sI (isP_lt hp).2.2.2.2 (by omega) ?_
  generalize hj : (I p 5).toInt.toNat = j
  have hc : CI 1 I0 J0 (up2 (up2 (up2 I (p + 52) j a1) (p + 53) j a2) (p + 54) j a3) J R := by
    obtain ⟨q1, q2, q3, q4, q5, q6, q7, q8⟩ := h.1
    have ne : ∀ b i, (b ≠ p + 52 ∧ b ≠ p + 53 ∧ b ≠ p + 54) → up2 (up2 (up2 I (p + 52) j a1) (p + 53) j a2) (p + 54) j a3 b i = I b i := fun b i hb => by
      rw [up2_nea hb.2.2, up2_nea hb.2.1, up2_nea hb.1]
    refine ⟨fun b i hb => ?_, q2, fun b i hb hi => ?_, fun i hi => ?_, fun p' hp' i hi => ?_, fun y hy => ?_, q7, q8⟩
    · rw [ne b i (by rcases hp with rfl | rfl <;> omega)]; exact q1 b i hb
    · have qq := q3 b i hb hi
      by_cases b1 : b = p + 54
      · subst b1
        by_cases ij : i = j
        · subst ij
          rw [up2_s, ti_l (isP_lt hp).2.2.2.2]
          rcases hp with rfl | rfl <;> exact h4
        · rw [up2_nek ij, up2_nea (by omega), up2_nea (by omega)]; exact qq
      by_cases b2 : b = p + 53
      · subst b2
        rw [ti_l (isP_lt hp).2.2.2.1]
        rcases hp with rfl | rfl <;> trivial
      by_cases b3 : b = p + 52
      · subst b3
        rw [ti_l (isP_lt hp).2.2.1]
        rcases hp with rfl | rfl <;> trivial
      rw [ne b i ⟨b3, b2, b1⟩]; exact qq
    · rw [ne 4 i (by rcases hp with rfl | rfl <;> decide), ne 5 i (by rcases hp with rfl | rfl <;> decide), ne 6 i (by rcases hp with rfl | rfl <;> decide)]; exact q4 i hi
    · have qq := q5 p' hp' i hi
      by_cases pp : p' = p
      · subst pp
        by_cases ij : i = j
        · subst ij
          rw [up2_nea (by omega), up2_nea (by omega), up2_s, up2_nea (by omega), up2_s]
          exact ⟨fun z => h2 (by rw [z]; rfl), fun z => h3 (by rw [z]; rfl)⟩
        · rw [up2_nea (by omega), up2_nea (by omega), up2_nek ij, up2_nea (by omega), up2_nek ij, up2_nea (by omega)]; exact qq
      · rw [ne _ i (by rcases hp with rfl | rfl <;> rcases hp' with rfl | rfl <;> omega), ne _ i (by rcases hp with rfl | rfl <;> rcases hp' with rfl | rfl <;> omega)]; exact qq
    · have bb := LT_oT y (LT_bound hy) hy
      rw [ne y 0 (by rcases hp with rfl | rfl <;> omega), ne y 2 (by rcases hp with rfl | rfl <;> omega)]; exact q6 y hy
  have e1 : up2 (up2 (up2 I (p + 52) j a1) (p + 53) j a2) (p + 54) j a3 p 5 = I p 5 := by rw [up2_nea e54, up2_nea e53, up2_nea e52]
  refine st_gI (isP_lt hp).1 rfl e1 ?_
  have h' : PI p c I0 J0 (up2 (up2 (up2 I (p + 52) j a1) (p + 53) j a2) (p + 54) j a3) J R := ⟨hc, h.2.1, h.2.2.1, by rw [up2_nea e54, up2_nea e53, up2_nea e52]; exact h.2.2.2⟩
  refine sw_IP h' (isP_lt hp).1 rfl (wt_P5 (by omega) hp (by simp only [i32add, l32_1]; omega)) (Or.inr (by decide)) (fun h => ?_)
  exact st_some (k _ h)
theorem s_pg_newStatement (h : PI p c I0 J0 I J R) {Q : (Option Nat × WW) → Prop} (hp : isP p) (hf : (I p 1).toInt < 50) (k : ∀ y, LT y = some oT → (c ≤ y - p - 2 ∧ (p + 2 : Int) ≤ y) → PI p (y - p - 1) I0 J0 (up2 I p 1 (I p 1 + 1)) J R → Q (some y, mk (up2 I p 1 (I p 1 + 1)) J R)) : wp (f_pg_newStatement p (mk I J R)) Q := by
  unfold f_pg_newStatement
  refine st_kb (isP_lt hp).1 (sn_P0 h.1 hp (sg_P1 h.1 hp rfl (fun q => sn_Ps h.1 hp (by omega) (fun hv => sg_P1 h.1 hp rfl (fun _ => ?_)))))
  have hw : WT 1 p 1 (I p 1 + 1) := wt_P1 (by omega) hp (by simp only [i32add, l32_1]; omega)
  refine st_pI (isP_lt hp).1 rfl (st_some (k _ hv ?_ ⟨h.1.wI hw.1 hw.2.1 hw.2.2, h.2.1, h.2.2.1, ?_⟩))
  · have := h.2.2.2
    omega
  · rw [up2_s, i32add, l32_1]
    omega
theorem s_pg_isFull (h : PI p c I0 J0 I J R) {Q : (Int32 × WW) → Prop} (hp : isP p) (k : ∀ r : Int32, (r.toInt = 0 → (I p 1).toInt < 50) → Q (r, mk I J R)) : wp (f_pg_isFull p (mk I J R)) Q := by
  unfold f_pg_isFull f_pg_isFull_14
  refine st_kb (isP_lt hp).1 (sg_P1 h.1 hp rfl (fun q => st_ite (fun c => ?_) (fun c => ?_)))
  · rw [i32lt, l32_50] at c
    rw [if_pos (Or.inl rfl)]
    exact st_some (k _ (fun _ => c))
  · rw [if_pos (Or.inr rfl)]
    exact st_some (k _ (fun z => absurd z (by decide)))
end PI
