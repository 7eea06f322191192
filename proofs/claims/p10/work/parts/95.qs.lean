/-! The reference: STATEMENTS are parsed. -/
section STT
variable {I I' : IM} {J : JM} {R : RM} {H : Nat} {d : Nat → Nat}
theorem PLG.b (h : PLG I H d) : H ≤ 1 ∧ (I 373 32).toInt = H ∧ 0 ≤ (I 373 33).toInt ∧ (I 373 33).toInt ≤ 3 ∧ 0 ≤ (I 390 H).toInt ∧ (I 390 H).toInt ≤ (I 373 29).toInt ∧ 0 ≤ (I 389 H).toInt ∧ 3 * (I 389 H).toInt ≤ (I 373 29).toInt ∧ (I 373 29).toInt ≤ 200 := by
  obtain ⟨⟨g1, g2, g3, g4, g5, g6, g7, g8, g9⟩, h2, h3, h4, h5⟩ := h
  have := h2.e
  exact ⟨g1, g2, g3, g4, g5, h3, h4, h5, by omega⟩
theorem q_statement (hR : QR R) (hg : PLG I H d) (htk : (I 373 30).toInt ≠ 0) {a1 : Int32} (hk1 : a1.toInt ≤ 1 → (I 373 30).toInt = 2) (hk2 : a1.toInt = 2 → (I 373 30).toInt = 3) {Q : (Int32 × WW) → Prop} (k : ∀ (s : Int32) (I' : IM) (d' : Nat → Nat), s.toInt = ((80 * H + (I 389 H).toInt.toNat : Nat) : Int) → PZ H I I' → I' 373 34 = I 373 34 → MID I' H d' (80 * H + (I 389 H).toInt.toNat) a1.toInt → TOK I' → (I 373 29).toInt + 1 ≤ (I' 373 29).toInt → I' 390 H = I 390 H → Q (s, mk I' J R)) : wp (f_q_statement 373 a1 (mk I J R)) Q := by
  have hb := hg.b
  obtain ⟨⟨g1, g2, g3, g4, g5, g6, g7, g8, g9⟩, h2, h3, h4, h5⟩ := hg
  have ht := h2.e
  have htb := ht.2.2.2.2.1 htk
  have eH : (I 373 32).toInt.toNat = H := by omega
  generalize hhi : 80 * H + (I 389 H).toInt.toNat = hi at *
  have es : ((80 : Int32) * I 373 32 + I 389 H).toInt = hi := by rw [i32addc (by rw [m32_80 (by omega)]; omega), m32_80 (by omega)]; omega
  have esn : ((80 : Int32) * I 373 32 + I 389 H).toInt.toNat = hi := by omega
  have e33 : ((I 373 33).toInt.toNat : Int) = (I 373 33).toInt := by omega
  unfold f_q_statement
  refine st_kb rfl (st_gI rfl rfl rfl (qn_22 hR (st_gI rfl rfl rfl (st_rI (n := 2) (x := I 389 H) rfl (by omega) (by rw [eH]) (qn_22 hR (st_gI rfl rfl rfl (st_rI (n := 2) (x := I 389 H) rfl (by omega) (by rw [eH]) (st_sI (n := 2) rfl (by omega) ?_))))))))
  rw [eH]
  generalize hs0 : (80 : Int32) * I 373 32 + I 389 H = s at es esn ⊢
  refine qn_9 hR (st_sI (n := 160) rfl (by omega) (qn_19 hR (st_sI (n := 160) rfl (by omega) (qn_20 hR (st_sI (n := 160) rfl (by omega) (qn_11 hR (st_gI (x := I 373 29) rfl rfl ?_ (st_sI (n := 160) rfl (by omega) (qn_10 hR (st_gI (x := I 373 31) rfl rfl ?_ (st_sI (n := 160) rfl (by omega) ?_)))))))))))
  · rw [up2_nea (by decide), up2_nea (by decide), up2_nea (by decide), up2_nea (by decide)]
  · rw [up2_nea (by decide), up2_nea (by decide), up2_nea (by decide), up2_nea (by decide), up2_nea (by decide)]
  rw [esn]
  have fK : ∀ x j, (x ≠ 389 ∨ j ≠ H) → ((x ≠ 376 ∧ x ≠ 386 ∧ x ≠ 387 ∧ x ≠ 378 ∧ x ≠ 377) ∨ j ≠ hi) → up2 (up2 (up2 (up2 (up2 (up2 I 389 H (I 389 H + 1)) 376 hi a1) 386 hi (-1)) 387 hi (vp_nar .boolean 0)) 378 hi (I 373 29)) 377 hi (I 373 31) x j = I x j := fun x j z1 z2 => by
    rw [up2_ne _ _ (by omega), up2_ne _ _ (by omega), up2_ne _ _ (by omega), up2_ne _ _ (by omega), up2_ne _ _ (by omega), up2_ne _ _ (by omega)]
  have v389 : (up2 (up2 (up2 (up2 (up2 (up2 I 389 H (I 389 H + 1)) 376 hi a1) 386 hi (-1)) 387 hi (vp_nar .boolean 0)) 378 hi (I 373 29)) 377 hi (I 373 31) 389 H).toInt = (hi : Int) + 1 - 80 * H := by
    rw [up2_nea (by decide), up2_nea (by decide), up2_nea (by decide), up2_nea (by decide), up2_nea (by decide), up2_s, i32addc (by rw [l32_1]; omega), l32_1]; omega
  have v376 : up2 (up2 (up2 (up2 (up2 (up2 I 389 H (I 389 H + 1)) 376 hi a1) 386 hi (-1)) 387 hi (vp_nar .boolean 0)) 378 hi (I 373 29)) 377 hi (I 373 31) 376 hi = a1 := by
    rw [up2_nea (by decide), up2_nea (by decide), up2_nea (by decide), up2_nea (by decide), up2_s]
  have v386 : up2 (up2 (up2 (up2 (up2 (up2 I 389 H (I 389 H + 1)) 376 hi a1) 386 hi (-1)) 387 hi (vp_nar .boolean 0)) 378 hi (I 373 29)) 377 hi (I 373 31) 386 hi = -1 := by
    rw [up2_nea (by decide), up2_nea (by decide), up2_nea (by decide), up2_s]
  have v387 : up2 (up2 (up2 (up2 (up2 (up2 I 389 H (I 389 H + 1)) 376 hi a1) 386 hi (-1)) 387 hi (vp_nar .boolean 0)) 378 hi (I 373 29)) 377 hi (I 373 31) 387 hi = 0 := by
    rw [up2_nea (by decide), up2_nea (by decide), up2_s]; decide
  have v378 : up2 (up2 (up2 (up2 (up2 (up2 I 389 H (I 389 H + 1)) 376 hi a1) 386 hi (-1)) 387 hi (vp_nar .boolean 0)) 378 hi (I 373 29)) 377 hi (I 373 31) 378 hi = I 373 29 := by
    rw [up2_nea (by decide), up2_s]
  have v377 : up2 (up2 (up2 (up2 (up2 (up2 I 389 H (I 389 H + 1)) 376 hi a1) 386 hi (-1)) 387 hi (vp_nar .boolean 0)) 378 hi (I 373 29)) 377 hi (I 373 31) 377 hi = I 373 31 := up2_s
  generalize up2 (up2 (up2 (up2 (up2 (up2 I 389 H (I 389 H + 1)) 376 hi a1) 386 hi (-1)) 387 hi (vp_nar .boolean 0)) 378 hi (I 373 29)) 377 hi (I 373 31) = K at *
  have k33 : K 373 33 = I 373 33 := fK _ _ (by omega) (by omega)
  generalize hdp : (I 373 33).toInt.toNat = dp at *
  have k3 : ∀ j, K 373 j = I 373 j := fun j => fK _ _ (by omega) (by omega)
  have fin : ∀ (x0 j0 : Nat), ((x0 = 388 ∧ j0 = H ∧ dp = 0) ∨ ((x0 = 384 ∨ x0 = 385) ∧ 80 * H ≤ j0 ∧ j0 < hi ∧ d j0 + 1 = dp) ∨ (x0 = 386 ∧ 80 * H ≤ j0 ∧ j0 < hi ∧ d j0 = dp)) → wp (f_q_statement_167 373 s (mk (up2 K x0 j0 s) J R)) Q := by
    intro x0 j0 hl
    have x0b : 384 ≤ x0 ∧ x0 ≤ 388 ∧ x0 ≠ 387 := by omega
    have u33 : up2 K x0 j0 s 373 33 = I 373 33 := by rw [up2_nea (by omega)]; exact k33
    unfold f_q_statement_167
    refine qn_37 hR (st_gI rfl rfl u33 (st_sI (n := 8) rfl (by omega) ?_))
    rw [hdp]
    generalize hL : up2 (up2 K x0 j0 s) 396 dp s = L
    have fL : ∀ x j, (x ≠ x0 ∨ j ≠ j0) → (x ≠ 396 ∨ j ≠ dp) → L x j = K x j := fun x j z1 z2 => by rw [← hL, up2_ne _ _ (by omega), up2_ne _ _ (by omega)]
    have tokL : TOK L := h2.keep ((fL _ _ (by omega) (by omega)).trans (k3 2)) (fun j _ _ => (fL _ _ (by omega) (by omega)).trans (k3 j))
    refine st_bd (q_read hR tokL (fun I2 y1 y2 y3 y4 y5 => ?_))
    have y5' := y5 (by rw [fL 373 30 (by omega) (by omega), k3]; exact htk)
    rw [fL 373 29 (by omega) (by omega), k3] at y5'
    have f2 : ∀ x j, (x ≠ 373) → I2 x j = L x j := fun x j hx => y1 x j (by omega)
    have f3 : ∀ j, (j = 32 ∨ j = 33) → I2 373 j = I 373 j := fun j hj => by rw [y1 _ _ (by omega), fL _ _ (by omega) (by omega), k3]
    -- everything in terms of I
    have fr : ∀ x j, x ≠ 373 → (x ≠ x0 ∨ j ≠ j0) → (x ≠ 396 ∨ j ≠ dp) → (x ≠ 389 ∨ j ≠ H) → ((x ≠ 376 ∧ x ≠ 386 ∧ x ≠ 387 ∧ x ≠ 378 ∧ x ≠ 377) ∨ j ≠ hi) → I2 x j = I x j := fun x j z0 z1 z2 z3 z4 => by rw [f2 x j z0, fL x j z1 z2, fK x j z3 z4]
    have lk : I2 x0 j0 = s := by rw [f2 _ _ (by omega), ← hL, up2_ne _ _ (by omega), up2_s]
    have l396 : I2 396 dp = s := by rw [f2 _ _ (by decide), ← hL, up2_s]
    have g390 : I2 390 H = I 390 H := fr _ _ (by decide) (by omega) (by omega) (by omega) (by omega)
    have atk : ∀ x, (x = 376 ∨ x = 378 ∨ x = 377 ∨ x = 387 ∨ x = 386) → I2 x hi = K x hi := fun x hx => by rw [f2 _ _ (by omega), fL _ _ (by omega) (by omega)]
    have udl : ∀ i, i < hi → ud d hi dp i = d i := fun i hi' => by unfold ud; rw [if_neg (by omega)]
    have udh : ud d hi dp hi = dp := by unfold ud; rw [if_pos rfl]
    refine st_some (k s I2 (ud d hi dp) es (fun x j hx => ?_) ?_ ⟨⟨g1, by rw [f3 32 (Or.inl rfl)]; exact g2, by rw [f3 33 (Or.inr rfl)]; exact g3, by rw [f3 33 (Or.inr rfl)]; exact g4, by rw [g390]; exact g5, fun s' s1 s2 => ?_, ?_, fun j j1 j2 => ?_, fun j j1 => ?_⟩, ?_, ?_, fun z => ?_, fun z => ?_, ?_, ?_, ?_, ?_, by omega, by omega⟩ y3 y5' g390)
    · by_cases c : x = 373
      · subst c; rw [y1 _ _ (by omega), fL _ _ (by omega) (by omega), k3]
      · exact fr x j c (by omega) (by omega) (by omega) (by omega)
    · rw [y2, fL _ _ (by omega) (by omega), k3]
    · rw [g390]
      obtain ⟨q1, q2⟩ := g6 s' s1 s2
      refine SE.link q1 q2 s2 (fun x a b => fr x s' (by omega) (by omega) (by omega) (by omega) (by omega)) (fr _ _ (by decide) (by omega) (by omega) (by omega) (by omega)) (fun x j a b _ _ => fr x j (by omega) (by omega) (by omega) (by omega) (by omega)) ?_ ?_ ?_
      · by_cases c : x0 = 386 ∧ j0 = s'
        · obtain ⟨rfl, rfl⟩ := c
          right; rw [lk]; exact ⟨es, by omega⟩
        · left; exact fr _ _ (by decide) (by omega) (by omega) (by omega) (by omega)
      · by_cases c : x0 = 384 ∧ j0 = s'
        · obtain ⟨rfl, rfl⟩ := c
          right; rw [lk]; exact ⟨es, by omega⟩
        · left; exact fr _ _ (by decide) (by omega) (by omega) (by omega) (by omega)
      · by_cases c : x0 = 385 ∧ j0 = s'
        · obtain ⟨rfl, rfl⟩ := c
          right; rw [lk]; exact ⟨es, by omega⟩
        · left; exact fr _ _ (by decide) (by omega) (by omega) (by omega) (by omega)
    · by_cases c : x0 = 388
      · have hj : j0 = H := by omega
        subst c; subst hj
        right; rw [lk]
        refine ⟨by omega, by omega, ?_⟩
        rw [esn, udh]; omega
      · rw [fr 388 H (by decide) (by omega) (by omega) (by omega) (by omega)]
        rcases g7 with z | z
        · exact Or.inl z
        · exact Or.inr ⟨z.1, by omega, by rw [udl _ (by omega)]; exact z.2.2⟩
    · rw [f3 33 (Or.inr rfl)] at j2
      rw [fr 394 j (by decide) (by omega) (by omega) (by omega) (by omega)]
      obtain ⟨z1, z2, z3⟩ := g8 j j1 j2
      exact ⟨z1, by omega, by rw [udl _ (by omega)]; exact z3⟩
    · rw [f3 33 (Or.inr rfl)] at j1
      by_cases c : j = dp
      · subst c
        right; rw [l396]
        exact ⟨by omega, by omega, by rw [esn, udh]⟩
      · rw [fr 396 j (by decide) (by omega) (by omega) (by omega) (by omega)]
        rcases g9 j j1 with z | z
        · exact Or.inl z
        · exact Or.inr ⟨z.1, by omega, by rw [udl _ (by omega)]; exact z.2.2⟩
    · rw [atk 376 (by decide), v376]
    · rw [atk 378 (by decide), v378]; omega
    · rw [atk 377 (by decide), v377]; exact ht.2.2.2.2.2.1 (hk1 z)
    · rw [atk 377 (by decide), v377]; exact ht.2.2.2.2.2.2 (hk2 z)
    · rw [atk 386 (by decide), v386]; rfl
    · rw [atk 387 (by decide), v387]
    · rw [udh, f3 33 (Or.inr rfl)]; omega
    · rw [f2 _ _ (by decide), fL _ _ (by omega) (by omega)]; exact v389
  have ed : (I 373 33).toInt.toNat = dp := hdp
  have l9 := g9 dp (by omega)
  refine qn_37 hR (st_gI rfl rfl k33 (st_rI (n := 8) (x := I 396 dp) rfl (by omega) (by rw [ed]; exact fK _ _ (by omega) (by omega)) (st_ite (fun c => ?_) (fun c => ?_))))
  · refine st_gI rfl rfl k33 (st_ite (fun c2 => ?_) (fun c2 => ?_))
    · have dp0 : dp = 0 := by rw [i32eq, l32_0] at c2; omega
      refine qn_21 hR (st_gI rfl rfl (k3 32) (st_sI (n := 2) rfl (by omega) ?_))
      rw [eH]; exact fin 388 H (Or.inl ⟨rfl, rfl, dp0⟩)
    · rw [i32eq, l32_0] at c2
      obtain ⟨z1, z2, z3⟩ := g8 dp (by omega) (by omega)
      refine qn_36 hR (st_gI rfl rfl k33 (st_rI (n := 8) rfl (by omega) rfl (st_ite (fun _ => ?_) (fun _ => ?_))))
      · refine qn_17 hR (qn_35 hR (st_gI rfl rfl k33 (st_rI (n := 8) (x := I 394 dp) rfl (by omega) (by rw [ed]; exact fK _ _ (by omega) (by omega)) (st_sI (n := 160) rfl (by omega) ?_))))
        exact fin 384 _ (Or.inr (Or.inl ⟨Or.inl rfl, by omega, by omega, z3⟩))
      · refine qn_18 hR (qn_35 hR (st_gI rfl rfl k33 (st_rI (n := 8) (x := I 394 dp) rfl (by omega) (by rw [ed]; exact fK _ _ (by omega) (by omega)) (st_sI (n := 160) rfl (by omega) ?_))))
        exact fin 385 _ (Or.inr (Or.inl ⟨Or.inr rfl, by omega, by omega, z3⟩))
  · rw [i32lt, l32_0] at c
    have z : ((80 * H : Nat) ≤ (I 396 dp).toInt ∧ (I 396 dp).toInt < (hi : Int) ∧ d (I 396 dp).toInt.toNat = dp) := by
      rcases l9 with z | z
      · omega
      · exact z
    refine qn_19 hR (qn_37 hR (st_gI rfl rfl k33 (st_rI (n := 8) (x := I 396 dp) rfl (by omega) (by rw [ed]; exact fK _ _ (by omega) (by omega)) (st_sI (n := 160) rfl (by omega) ?_))))
    exact fin 386 _ (Or.inr (Or.inr ⟨rfl, by omega, by omega, z.2.2⟩))
end STT
