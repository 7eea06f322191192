/-! The class as a whole: rows behind its public calls. -/
section TOP
variable {m : Nat} {I0 : IM} {J0 : JM} {I : IM} {J : JM} {R : RM} {a k : Nat} {β : Type} {Q : β → Prop}
theorem CI.up (h : CI m I0 J0 I J R) (m2 : Nat) : CI m2 I J I J R := ⟨fun _ _ _ => rfl, fun _ _ _ => rfl, h.2.2⟩
theorem CI.dn {m2 : Nat} {I' : IM} {J' : JM} {R' : RM} (h : CI m I0 J0 I J R) (h' : CI m2 I J I' J' R') (hm : m ≤ m2) : CI m I0 J0 I' J' R' :=
  ⟨fun a k ha => (h'.1 a k (by omega)).trans (h.1 a k ha), fun a k ha => (h'.2.1 a k (by omega)).trans (h.2.1 a k ha), h'.2.2⟩
theorem CI.wTok (h : CI m I0 J0 I J R) {j : Nat} {kd pl nu : Int32} (hm : m ≤ 4) (ht : TOKV kd pl nu) (hp : 0 ≤ pl.toInt ∧ pl.toInt ≤ 200) : CI m I0 J0 (up2 (up2 (up2 I 4 j kd) 5 j pl) 6 j nu) J R := by
  obtain ⟨q1, q2, q3, q4, q5, q6, q7, q8⟩ := h
  have ne : ∀ b i, (b ≠ 4 ∧ b ≠ 5 ∧ b ≠ 6) → up2 (up2 (up2 I 4 j kd) 5 j pl) 6 j nu b i = I b i := fun b i hb => by
    rw [up2_nea hb.2.2, up2_nea hb.2.1, up2_nea hb.1]
  refine ⟨fun b i hb => ?_, q2, fun b i hb hi => ?_, fun i hi => ?_, fun p' hp' i hi => ?_, fun y hy => ?_, q7, q8⟩
  · rw [ne b i (by omega)]; exact q1 b i hb
  · have qq := q3 b i hb hi
    by_cases b1 : b = 6
    · subst b1
      exact (ti_l (a := 6) rfl).mpr trivial
    by_cases b2 : b = 5
    · subst b2
      rw [up2_nea (by decide)]
      by_cases ij : i = j
      · subst ij
        rw [up2_s]
        exact (ti_l (a := 5) rfl).mpr hp
      · rw [up2_nek ij, up2_nea (by decide)]; exact qq
    by_cases b3 : b = 4
    · subst b3
      exact (ti_l (a := 4) rfl).mpr trivial
    rw [ne b i ⟨b3, b2, b1⟩]; exact qq
  · by_cases ij : i = j
    · subst ij
      rw [up2_nea (by decide), up2_nea (by decide), up2_s, up2_nea (by decide), up2_s, up2_s]
      exact ⟨fun z => ht.1 (fun e => z (i32eq.mpr e)), fun z => ht.2.1 (fun e => z (i32eq.mpr e)), fun z => ht.2.2 (by rw [z]; rfl)⟩
    · rw [up2_nea (by decide), up2_nea (by decide), up2_nek ij, up2_nea (by decide), up2_nek ij, up2_nea (by decide), up2_nek ij, up2_nea (by decide), up2_nea (by decide)]
      exact q4 i hi
  · rw [ne _ i (by rcases hp' with rfl | rfl <;> decide), ne _ i (by rcases hp' with rfl | rfl <;> decide)]; exact q5 p' hp' i hi
  · have bb := LT_oT y (LT_bound hy) hy
    rw [ne y 0 (by omega), ne y 2 (by omega)]; exact q6 y hy
theorem l_rd_readAll_12 {Q : WW → Prop} (k : ∀ (I : IM) (J : JM), CI 1 I0 J0 I J R → Q (mk I J R)) : ∀ (n : Nat) (y1 : Int32) (I : IM) (J : JM), CI 1 I0 J0 I J R → (0 ≤ y1.toInt ∧ y1.toInt ≤ 201) → (201 - y1.toInt).toNat < n → wp (f_rd_readAll_12 n 2 y1 (mk I J R)) Q := by
  intro n
  induction n with
  | zero => intros; omega
  | succ n ih =>
    intro y1 I J h q1 hn
    rw [f_rd_readAll_12]
    unfold f_rd_readAll_74
    refine st_ite (fun c => st_some (k _ _ h)) (fun c => ?_)
    rw [i32lt, l32_200] at c
    refine st_gI rfl rfl rfl (st_ite (fun c => st_some (k _ _ h)) (fun c => ?_))
    refine st_gI rfl rfl rfl (st_ite (fun c => st_some (k _ _ h)) (fun c => ?_))
    refine st_bd (s_rd_readToken h (fun I J h ht => ?_))
    refine sn_2_1 h (st_gI rfl rfl rfl (st_sI (n := 201) rfl (by omega) ?_))
    have r2 : R 2 2 = some 5 := (h.fx (by decide) (by decide) (by decide +kernel)).trans (by decide +kernel)
    have r3 : R 2 3 = some 6 := (h.fx (by decide) (by decide) (by decide +kernel)).trans (by decide +kernel)
    refine st_gN rfl rfl r2 (st_gI rfl rfl (up2_nea (by decide)) (st_sI (n := 201) rfl (by omega) ?_))
    refine st_gN rfl rfl r3 (st_gI rfl rfl ((up2_nea (by decide)).trans (up2_nea (by decide))) (st_sI (n := 201) rfl (by omega) ?_))
    have e1 : (y1 + 1).toInt = y1.toInt + 1 := by rw [i32add, l32_1]; omega
    have hp : 0 ≤ (I 2 7).toInt ∧ (I 2 7).toInt ≤ 200 := (ti_r (a := 2) (k := 7) rfl).mp (h.ty (a := 2) (k := 7) (by decide) (by decide +kernel))
    exact ih _ _ _ (h.wTok (by decide) ht hp) (by omega) (by omega)
theorem s_rd_readAll (h : CI 1 I0 J0 I J R) {Q : WW → Prop} (k : ∀ (I : IM) (J : JM), CI 1 I0 J0 I J R → Q (mk I J R)) : wp (f_rd_readAll 2 (mk I J R)) Q := by
  unfold f_rd_readAll
  refine st_kb rfl ?_
  refine sw_I h rfl rfl (wt_2_5 (by decide) (by decide)) (fun h => ?_)
  refine sw_I h rfl rfl (wt_2_6 (by decide)) (fun h => ?_)
  exact l_rd_readAll_12 k KK _ _ _ h (by decide) (by unfold KK; decide)
/-- references that are written -/
theorem CI.wRp (h : CI m I0 J0 I J R) {p : Nat} (hp : isP p) (ha : (a = 1 ∧ k = 2) ∨ (a = 117 ∧ k = 6) ∨ (a = 123 ∧ k = 4) ∨ (a = 0 ∧ k = 4) ∨ (a = 0 ∧ k = 5)) : CI m I0 J0 I J (up2 R a k (some p)) := by
  obtain ⟨q1, q2, q3, q4, q5, q6, q7, q8⟩ := h
  have op : OP (some p) := fun x e => by cases e; exact hp
  have p2 : isP2 (some p) := by
    rcases hp with rfl | rfl
    · exact Or.inl rfl
    · exact Or.inr rfl
  have na : a = 0 ∨ a = 1 ∨ a = 117 ∨ a = 123 := by omega
  refine ⟨q1, q2, q3, q4, q5, q6, q7.w (by rcases ha with ⟨rfl, rfl⟩ | ⟨rfl, rfl⟩ | ⟨rfl, rfl⟩ | ⟨rfl, rfl⟩ | ⟨rfl, rfl⟩ <;> decide +kernel), ?_⟩
  obtain ⟨r1, r2, r3, r4, r5, r6, r7⟩ := q8
  refine ⟨?_, ?_, ?_, ?_, ?_, fun p' hp' => ?_, fun z hz => ?_⟩
  · unfold up2; split
    · exact p2
    · exact r1
  · unfold up2; split
    · exact p2
    · exact r2
  · unfold up2; split
    · exact op
    · exact r3
  · unfold up2; split
    · exact op
    · exact r4
  · unfold up2; split
    · exact op
    · exact r5
  · rw [up2_nea (by rcases hp' with rfl | rfl <;> omega)]; exact r6 p' hp'
  · have bb := LT_oT z (LT_bound hz) hz
    rw [up2_nea (by omega), up2_nea (by omega), up2_nea (by omega)]; exact r7 z hz
theorem CI.wRf (h : CI m I0 J0 I J R) {p : Nat} {y : Option Nat} (hp : isP p) (hy : OT y) : CI m I0 J0 I J (up2 R p 6 y) := by
  obtain ⟨q1, q2, q3, q4, q5, q6, q7, q8⟩ := h
  refine ⟨q1, q2, q3, q4, q5, q6, q7.w (by rcases hp with rfl | rfl <;> decide +kernel), ?_⟩
  obtain ⟨r1, r2, r3, r4, r5, r6, r7⟩ := q8
  refine ⟨?_, ?_, ?_, ?_, ?_, fun p' hp' => ?_, fun z hz => ?_⟩
  · rw [up2_nea (by rcases hp with rfl | rfl <;> decide)]; exact r1
  · rw [up2_nea (by rcases hp with rfl | rfl <;> decide)]; exact r2
  · rw [up2_nea (by rcases hp with rfl | rfl <;> decide)]; exact r3
  · rw [up2_nea (by rcases hp with rfl | rfl <;> decide)]; exact r4
  · rw [up2_nea (by rcases hp with rfl | rfl <;> decide)]; exact r5
  · by_cases e : p' = p
    · subst e; rw [up2_s]; exact hy
    · rw [up2_nea e]; exact r6 p' hp'
  · have e := neTP hz hp
    rw [up2_nea e, up2_nea e, up2_nea e]; exact r7 z hz
theorem sn_0_4 (h : CI m I0 J0 I J R) {f : Nat → Option β} (K : ∀ p, isP p → R 0 4 = some p → wp (f p) Q) : wp ((gN (mk I J R) 0 0 4).bind f) Q := by
  rcases h.tyr.1 with e | e
  · exact st_gN rfl rfl e (K 7 (Or.inl rfl) e)
  · exact st_gN rfl rfl e (K 62 (Or.inr rfl) e)
theorem sn_0_5 (h : CI m I0 J0 I J R) {f : Nat → Option β} (K : ∀ p, isP p → R 0 5 = some p → wp (f p) Q) : wp ((gN (mk I J R) 0 0 5).bind f) Q := by
  rcases h.tyr.2.1 with e | e
  · exact st_gN rfl rfl e (K 7 (Or.inl rfl) e)
  · exact st_gN rfl rfl e (K 62 (Or.inr rfl) e)
end TOP
abbrev IAE (E : String) : Prop := E = "java/lang/IllegalArgumentException"
theorem s_pa_readProgram {I0 : IM} {J0 : JM} {I : IM} {J : JM} {R : RM} {p : Nat} (h : CI 1 I0 J0 I J R) (hp : isP p) {Q : ((Unit ⊕ String) × WW) → Prop} (k : ∀ (I : IM) (J : JM) (R : RM), CI 1 I0 J0 I J R → Q (.inl (), mk I J R)) (kx : ∀ (E : String) (I : IM) (J : JM) (R : RM), CI 1 I0 J0 I J R → IAE E → Q (.inr E, mk I J R)) : wp (f_pa_readProgram 1 p (mk I J R)) Q := by
  unfold f_pa_readProgram f_pg_empty
  refine st_kb rfl (st_pR (x := some p) rfl rfl ?_)
  have h := h.wRp (a := 1) (k := 2) hp (Or.inl ⟨rfl, rfl⟩)
  refine st_gR rfl rfl up2_s (st_og rfl ?_)
  refine st_bd (st_kb (isP_lt hp).1 ?_)
  refine sw_I h (isP_lt hp).1 rfl (wt_P1 (by decide) hp (by decide)) (fun h => ?_)
  refine sw_I h (isP_lt hp).1 rfl (wt_P5 (by decide) hp (by decide)) (fun h => ?_)
  refine st_some ?_
  refine sw_I h rfl rfl (wt_1_3 (by decide)) (fun h => ?_)
  refine sn_1_0 h (st_bd (s_rd_readAll h (fun I J h => ?_)))
  refine sw_I h rfl rfl (wt_1_1 (by decide) (by decide)) (fun h => ?_)
  refine st_gR rfl rfl up2_s ?_
  have hc : 0 ≤ (up2 I 1 1 0 p 1).toInt := by
    rcases hp with rfl | rfl
    · exact ((ti_r (a := 7) (k := 1) rfl).mp (h.ty (a := 7) (k := 1) (by decide) (by decide +kernel))).1
    · exact ((ti_r (a := 62) (k := 1) rfl).mp (h.ty (a := 62) (k := 1) (by decide) (by decide +kernel))).1
  have h2 : PI p 0 I0 J0 (up2 I 1 1 0) J (up2 R 1 2 (some p)) := ⟨h, up2_s, hp, hc⟩
  refine st_bdx (s_pa_readStatements h2 (fun r I J R h' ho => ⟨fun v hv => ?_, fun E hE => (by cases hE)⟩) (fun E I J R h' hE => ⟨fun v hv => (by cases hv), fun E2 hE2 => ?_⟩))
  · cases hv
    dsimp only
    refine st_og rfl (st_pR (isP_lt hp).1 rfl (st_some (k _ _ _ (h'.1.wRf hp ho))))
  · cases hE2
    exact kx _ _ _ _ h'.1 hE
