/-! The class reads its TOKENS: what its rows then hold. -/
section CR
variable {I : IM} {J : JM} {R : RM}
theorem v_isDigit {x : Int32} {w : WW} {Q : (Int32 × WW) → Prop} (k1 : dgt x → Q (1, w)) (k0 : ¬ dgt x → Q (0, w)) : wl (f_rd_isDigit x w) Q := by
  unfold f_rd_isDigit f_rd_isDigit_16 f_rd_isDigit_17
  refine wl_ite (fun c => ?_) (fun c => wl_ite (fun c' => ?_) (fun c' => ?_))
  · rw [i32lt, l32_48] at c
    exact wl_req (fun _ => wl_some (k0 (fun z => by have := z.1; omega)))
  · rw [i32lt, l32_57] at c'
    exact wl_req (fun _ => wl_some (k0 (fun z => by have := z.2; omega)))
  · rw [i32lt, l32_48] at c
    rw [i32lt, l32_57] at c'
    exact wl_req (fun _ => wl_some (k1 ⟨by omega, by omega⟩))
theorem v_isLetter {x : Int32} {w : WW} {Q : (Int32 × WW) → Prop} (k1 : ltr x → Q (1, w)) (k0 : ¬ ltr x → Q (0, w)) : wl (f_rd_isLetter x w) Q := by
  have h12 : (x.toInt < 97 ∨ 122 < x.toInt) → wl (f_rd_isLetter_12 x w) Q := by
    intro c
    unfold f_rd_isLetter_12 f_rd_isLetter_28 f_rd_isLetter_24 f_rd_isLetter_29
    refine wl_ite (fun c1 => ?_) (fun c1 => wl_ite (fun c2 => ?_) (fun c2 => ?_))
    · rw [i32lt, l32_65] at c1
      exact wl_req (fun _ => wl_some (k0 (fun z => by unfold ltr at z; omega)))
    · rw [i32lt, l32_90] at c2
      exact wl_req (fun _ => wl_some (k0 (fun z => by unfold ltr at z; omega)))
    · rw [i32lt, l32_65] at c1
      rw [i32lt, l32_90] at c2
      exact wl_req (fun _ => wl_some (k1 (by unfold ltr; omega)))
  unfold f_rd_isLetter
  refine wl_ite (fun c => ?_) (fun c => wl_ite (fun c' => ?_) (fun c' => ?_))
  · rw [i32lt, l32_97] at c
    exact h12 (by omega)
  · rw [i32lt, l32_97] at c
    rw [i32le, l32_122] at c'
    unfold f_rd_isLetter_24 f_rd_isLetter_29
    exact wl_req (fun _ => wl_some (k1 (by unfold ltr; omega)))
  · rw [i32le, l32_122] at c'
    exact h12 (by omega)
/-- the text constant a1 is the word l -/
def WRD (a1 : Nat) (l : List Int) : Prop := a1 < 6 ∧ sLn.getD a1 0 = l.length ∧ l.length < 100 ∧ ∀ (m : Nat) (hm : m < l.length) (w : WW), ∃ x : Int32, f_js_charAt a1 (Int32.ofNat m) w = some (x, w) ∧ x.toInt = l[m]
theorem wrd0 : WRD 0 [105, 102] := by
  refine ⟨by decide, rfl, by decide, fun m hm w => ?_⟩
  match m, hm with
  | 0, _ => exact ⟨_, ch_0_0 w, rfl⟩
  | 1, _ => exact ⟨_, ch_0_1 w, rfl⟩
theorem wrd1 : WRD 1 [101, 108, 115, 101] := by
  refine ⟨by decide, rfl, by decide, fun m hm w => ?_⟩
  match m, hm with
  | 0, _ => exact ⟨_, ch_1_0 w, rfl⟩
  | 1, _ => exact ⟨_, ch_1_1 w, rfl⟩
  | 2, _ => exact ⟨_, ch_1_2 w, rfl⟩
  | 3, _ => exact ⟨_, ch_1_3 w, rfl⟩
theorem wrd2 : WRD 2 [119, 104, 105, 108, 101] := by
  refine ⟨by decide, rfl, by decide, fun m hm w => ?_⟩
  match m, hm with
  | 0, _ => exact ⟨_, ch_2_0 w, rfl⟩
  | 1, _ => exact ⟨_, ch_2_1 w, rfl⟩
  | 2, _ => exact ⟨_, ch_2_2 w, rfl⟩
  | 3, _ => exact ⟨_, ch_2_3 w, rfl⟩
  | 4, _ => exact ⟨_, ch_2_4 w, rfl⟩
theorem wrd3 : WRD 3 [97, 115, 115, 101, 114, 116] := by
  refine ⟨by decide, rfl, by decide, fun m hm w => ?_⟩
  match m, hm with
  | 0, _ => exact ⟨_, ch_3_0 w, rfl⟩
  | 1, _ => exact ⟨_, ch_3_1 w, rfl⟩
  | 2, _ => exact ⟨_, ch_3_2 w, rfl⟩
  | 3, _ => exact ⟨_, ch_3_3 w, rfl⟩
  | 4, _ => exact ⟨_, ch_3_4 w, rfl⟩
  | 5, _ => exact ⟨_, ch_3_5 w, rfl⟩
theorem wrd4 : WRD 4 [105, 110] := by
  refine ⟨by decide, rfl, by decide, fun m hm w => ?_⟩
  match m, hm with
  | 0, _ => exact ⟨_, ch_4_0 w, rfl⟩
  | 1, _ => exact ⟨_, ch_4_1 w, rfl⟩
theorem splAt_drop {c : Nat → Int32} {b m : Nat} {l : List Int} (hm : m < l.length) : splAt c (b + m) (l.drop m) = (decide ((c (b + m)).toInt = l[m]) && splAt c (b + (m + 1)) (l.drop (m + 1))) := by
  rw [List.drop_eq_getElem_cons hm]
  rfl
theorem v_isWord_20 {a1 : Nat} {l : List Int} (hw : WRD a1 l) (h : FXR R) {b : Nat} (hb : (I 2 7).toInt = b) (hbb : b ≤ 200) {Q : (Int32 × WW) → Prop} (k1 : splAt (I 3) b l = true → Q (1, mk I J R)) (k0 : splAt (I 3) b l = false → Q (0, mk I J R)) : ∀ (n m : Nat), m ≤ l.length → splAt (I 3) b l = splAt (I 3) (b + m) (l.drop m) → wl (f_rd_isWord_20 n 2 a1 (Int32.ofNat m) (mk I J R)) Q := by
  intro n
  have hl := hw.2.2.1
  induction n with
  | zero => intro m hm e; exact wl_none
  | succ n ih =>
    intro m hm e
    have v1 : (Int32.ofNat (sLn.getD a1 0)).toInt = l.length := by rw [hw.2.1]; exact n_toInt (by omega)
    have v2 : (Int32.ofNat m).toInt = m := n_toInt (by omega)
    rw [f_rd_isWord_20]
    refine wl_bd2 ?_
    rw [sl_len a1 hw.1]
    refine wl_some ?_
    dsimp only
    refine wl_ite (fun c => ?_) (fun c => ?_)
    · rw [i32le, v1, v2] at c
      have em : m = l.length := by omega
      refine wl_req (fun _ => wl_some (k1 ?_))
      rw [e, em, List.drop_length]
      rfl
    · rw [i32le, v1, v2] at c
      have hm' : m < l.length := by omega
      obtain ⟨x, hx1, hx2⟩ := hw.2.2.2 m hm' (mk I J R)
      have ei : (I 2 7 + Int32.ofNat m).toInt = b + m := by rw [i32addc (by rw [hb, v2]; omega), hb, v2]
      have ein : (I 2 7 + Int32.ofNat m).toInt.toNat = b + m := by omega
      rw [splAt_drop hm'] at e
      refine wn_2_0 h (wl_gI rfl rfl rfl (wl_rI (n := 200) rfl (fun hr => wl_bd2 ?_)))
      rw [hx1]
      refine wl_some ?_
      dsimp only
      rw [ein]
      refine wl_ite (fun c2 => ?_) (fun c2 => ?_)
      · have es : Int32.ofNat m + 1 = Int32.ofNat (m + 1) := i32eq.mpr (by rw [i32addc (by rw [v2, l32_1]; omega), v2, l32_1, n_toInt (by omega)]; omega)
        rw [es]
        refine ih (m + 1) (by omega) ?_
        rw [e, decide_eq_true (by rw [c2]; exact hx2), Bool.true_and]
      · refine wl_req (fun _ => wl_some (k0 ?_))
        rw [e, decide_eq_false (fun z => c2 (i32eq.mpr (by rw [z, hx2]))), Bool.false_and]
theorem v_isWord {a1 : Nat} {l : List Int} (hw : WRD a1 l) (h : FXR R) {b q : Nat} (hb : (I 2 7).toInt = b) (hq : (I 2 5).toInt = q) (hbq : b ≤ q) (hq2 : q ≤ 200) {Q : (Int32 × WW) → Prop} (k1 : spl (I 3) b q l = true → Q (1, mk I J R)) (k0 : spl (I 3) b q l = false → Q (0, mk I J R)) : wl (f_rd_isWord 2 a1 (mk I J R)) Q := by
  have hl := hw.2.2.1
  have v1 : (Int32.ofNat (sLn.getD a1 0)).toInt = l.length := by rw [hw.2.1]; exact n_toInt (by omega)
  have ed : (I 2 5 - I 2 7).toInt = (q : Int) - b := by rw [i32subc (by rw [hq, hb]; omega), hq, hb]
  unfold f_rd_isWord
  refine wl_kb (wl_gI rfl rfl rfl (wl_gI rfl rfl rfl (wl_bd2 ?_)))
  rw [sl_len a1 hw.1]
  refine wl_some ?_
  dsimp only
  refine wl_ite (fun c => ?_) (fun c => ?_)
  · rw [i32eq, ed, v1] at c
    have e2 := spl_at (c := I 3) (show q = b + l.length by omega)
    exact v_isWord_20 hw h hb (by omega) (fun z => k1 (by rw [e2]; exact z)) (fun z => k0 (by rw [e2]; exact z)) KK 0 (Nat.zero_le _) rfl
  · rw [i32eq, ed, v1] at c
    exact wl_req (fun _ => wl_some (k0 (spl_len (by omega))))
theorem bft {x : Bool} (h : x = false) : ¬ x = true := by rw [h]; decide
theorem v_kindOfWord (h : FXR R) {b q : Nat} (hb : (I 2 7).toInt = b) (hq : (I 2 5).toInt = q) (hbq : b ≤ q) (hq2 : q ≤ 200) {Q : (Int32 × WW) → Prop} (k : ∀ r : Int32, r.toInt = wkd (I 3) b q → Q (r, mk I J R)) : wl (f_rd_kindOfWord 2 (mk I J R)) Q := by
  unfold f_rd_kindOfWord f_rd_kindOfWord_61
  refine wl_kb (wl_bd2 (v_isWord wrd0 h hb hq hbq hq2 (fun z => ?_) (fun z0 => ?_)))
  · dsimp only
    rw [if_neg (by decide)]
    have e : wkd (I 3) b q = 4 := by unfold wkd; rw [if_pos z]
    exact wl_some (k _ (l32_4.trans e.symm))
  dsimp only
  rw [if_pos rfl]
  refine wl_bd2 (v_isWord wrd1 h hb hq hbq hq2 (fun z => ?_) (fun z1 => ?_))
  · dsimp only
    rw [if_neg (by decide)]
    have e : wkd (I 3) b q = 5 := by unfold wkd; rw [if_neg (bft z0), if_pos z]
    exact wl_some (k _ (l32_5.trans e.symm))
  dsimp only
  rw [if_pos rfl]
  refine wl_bd2 (v_isWord wrd2 h hb hq hbq hq2 (fun z => ?_) (fun z2 => ?_))
  · dsimp only
    rw [if_neg (by decide)]
    have e : wkd (I 3) b q = 6 := by unfold wkd; rw [if_neg (bft z0), if_neg (bft z1), if_pos z]
    exact wl_some (k _ (l32_6.trans e.symm))
  dsimp only
  rw [if_pos rfl]
  refine wl_bd2 (v_isWord wrd3 h hb hq hbq hq2 (fun z => ?_) (fun z3 => ?_))
  · dsimp only
    rw [if_neg (by decide)]
    have e : wkd (I 3) b q = 7 := by unfold wkd; rw [if_neg (bft z0), if_neg (bft z1), if_neg (bft z2), if_pos z]
    exact wl_some (k _ (l32_7.trans e.symm))
  dsimp only
  rw [if_pos rfl]
  refine wl_bd2 (v_isWord wrd4 h hb hq hbq hq2 (fun z => ?_) (fun z4 => ?_))
  · dsimp only
    rw [if_neg (by decide)]
    have e : wkd (I 3) b q = 8 := by unfold wkd; rw [if_neg (bft z0), if_neg (bft z1), if_neg (bft z2), if_neg (bft z3), if_pos z]
    exact wl_some (k _ (l32_8.trans e.symm))
  dsimp only
  rw [if_pos rfl]
  have e : wkd (I 3) b q = -1 := by unfold wkd; rw [if_neg (bft z0), if_neg (bft z1), if_neg (bft z2), if_neg (bft z3), if_neg (bft z4)]
  exact wl_some (k _ (l32_m1.trans e.symm))
/-- the TOKEN's end, kind and number may change -/
def RCw (I I' : IM) : Prop := ∀ x j, (x ≠ 2 ∨ (j ≠ 5 ∧ j ≠ 6 ∧ j ≠ 8)) → I' x j = I x j
def RC7 (I I' : IM) : Prop := ∀ x j, (x ≠ 2 ∨ (j < 5 ∨ 8 < j)) → I' x j = I x j
theorem wkd_no {c : Nat → Int32} {b q : Nat} : wkd c b q = -1 ∨ 4 ≤ wkd c b q := by
  unfold wkd
  repeat' (first | split | omega)
theorem v_readWord_0 (h : FXR R) {I0 : IM} {b L : Nat} (hb : (I0 2 7).toInt = b) (hL : (I0 2 4).toInt = L) (hL2 : L ≤ 200) (hbL : b < L) (hbl : ltr (I0 3 b)) {Q : WW → Prop} (k : ∀ (I' : IM) (q : Nat), RCw I0 I' → (I' 2 5).toInt = q → FS (fun j => j < L ∧ ltr (I0 3 j)) b q → (I' 2 6).toInt = wk (I0 3) b q → NM (I0 3) b q (wk (I0 3) b q) (I' 2 8) → Q (mk I' J R)) : ∀ (n : Nat) (I : IM) (a : Nat), RCw I0 I → (I 2 5).toInt = a → b ≤ a → a ≤ L → (∀ j, b ≤ j → j < a → j < L ∧ ltr (I0 3 j)) → wl (f_rd_readWord_0 n 2 (mk I J R)) Q := by
  have tail : ∀ (I : IM) (q : Nat), RCw I0 I → (I 2 5).toInt = q → q ≤ L → FS (fun j => j < L ∧ ltr (I0 3 j)) b q → wl (f_rd_readWord_39 2 (mk I J R)) Q := by
    intro I q e hq hqL hf
    have e7 : I 2 7 = I0 2 7 := e _ _ (by decide)
    have hb' : (I 2 7).toInt = b := by rw [e7]; exact hb
    have hm := hf.more ⟨hbL, hbl⟩
    have e3 : I 3 = I0 3 := by funext j; exact e _ _ (by omega)
    have e6 : I 3 (I 2 7).toInt.toNat = I0 3 b := by rw [tnat hb', e3]
    have ed : (I 2 5 - I 2 7).toInt = (q : Int) - b := by rw [i32subc (by rw [hq, hb']; omega), hq, hb']
    have fin : ∀ (x y : Int32), x.toInt = wk (I0 3) b q → NM (I0 3) b q (wk (I0 3) b q) y → Q (mk (up2 (up2 I 2 6 x) 2 8 y) J R) := by
      intro x y hx hn
      refine k _ q (fun a j hj => ?_) ?_ hf ?_ (by rw [up2_s]; exact hn)
      · rw [up2_ne _ _ (by omega), up2_ne _ _ (by omega)]; exact e a j hj
      · rw [up2_nek (by decide), up2_nek (by decide)]; exact hq
      · rw [up2_nek (by decide), up2_s]; exact hx
    have fin1 : ∀ (x : Int32), x.toInt = wk (I0 3) b q → ¬ (1 ≤ wk (I0 3) b q ∧ wk (I0 3) b q ≤ 3) → Q (mk (up2 I 2 6 x) J R) := by
      intro x hx hn
      refine k _ q (fun a j hj => ?_) ?_ hf ?_ (NM.no hn)
      · rw [up2_ne _ _ (by omega)]; exact e a j hj
      · rw [up2_nek (by decide)]; exact hq
      · rw [up2_s]; exact hx
    unfold f_rd_readWord_39
    refine wn_2_0 h (wl_gI rfl rfl rfl (wl_rI (n := 200) rfl (fun hr => wl_gI rfl rfl rfl (wl_gI rfl rfl rfl ?_))))
    rw [e6]
    refine wl_ite (fun c => ?_) (fun c => ?_)
    · rw [i32le, ed, l32_1] at c
      have q1 : q = b + 1 := by omega
      have w1 : wk (I0 3) b q = wk1 (I0 3 b).toInt := by unfold wk; rw [if_pos q1]
      have h101 : ¬ (97 ≤ (I0 3 b).toInt ∧ (I0 3 b).toInt ≤ 102) → wl (f_rd_readWord_101 2 (I0 3 b) (mk I J R)) Q := by
        intro c1
        unfold f_rd_readWord_101 f_rd_readWord_113 f_rd_readWord_136
        refine wl_ite (fun c2 => ?_) (fun c2 => wl_ite (fun c3 => ?_) (fun c3 => ?_))
        · rw [i32eq, l32_65] at c2
          have w3 : wk (I0 3) b q = 3 := by rw [w1]; unfold wk1; rw [if_neg c1, if_pos (Or.inl c2)]
          refine wl_pI rfl rfl (wl_pI rfl rfl (wl_some (fin _ _ (by rw [w3]; exact l32_3) ?_)))
          rw [w3]; exact ⟨fun z => by omega, fun z => by omega, fun _ => rfl⟩
        · rw [i32eq, l32_66] at c3
          have w3 : wk (I0 3) b q = 3 := by rw [w1]; unfold wk1; rw [if_neg c1, if_pos (Or.inr c3)]
          refine wl_pI rfl rfl (wl_pI rfl rfl (wl_some (fin _ _ (by rw [w3]; exact l32_3) ?_)))
          rw [w3]; exact ⟨fun z => by omega, fun z => by omega, fun _ => rfl⟩
        · rw [i32eq, l32_65] at c2
          rw [i32eq, l32_66] at c3
          have w3 : wk (I0 3) b q = -1 := by rw [w1]; unfold wk1; rw [if_neg c1, if_neg (by omega)]
          exact wl_pI rfl rfl (wl_some (fin1 _ (by rw [w3]; exact l32_m1) (by omega)))
      refine wl_ite (fun c1 => h101 ?_) (fun c1 => wl_ite (fun c2 => h101 ?_) (fun c2 => ?_))
      · rw [i32lt, l32_97] at c1; omega
      · rw [i32lt, l32_102] at c2; omega
      · rw [i32lt, l32_97] at c1
        rw [i32lt, l32_102] at c2
        unfold f_rd_readWord_136
        have w3 : wk (I0 3) b q = 2 := by rw [w1]; unfold wk1; rw [if_pos (by omega)]
        refine wl_pI rfl rfl (wl_pI rfl rfl (wl_some (fin _ _ (by rw [w3]; exact l32_2) ?_)))
        rw [w3]; exact ⟨fun z => by omega, fun _ => rfl, fun z => by omega⟩
    · rw [i32le, ed, l32_1] at c
      have w1 : wk (I0 3) b q = wkd (I0 3) b q := by unfold wk; rw [if_neg (by omega)]
      refine wl_bd2 (v_kindOfWord h hb' hq (by omega) (by omega) (fun r hr => ?_))
      dsimp only
      unfold f_rd_readWord_136
      refine wl_pI rfl rfl (wl_some (fin1 _ ?_ ?_))
      · rw [hr, w1, e3]
      · rw [w1]; have := wkd_no (c := I0 3) (b := b) (q := q); omega
  intro n
  induction n with
  | zero => intro I a e ha h1 h2 h3; exact wl_none
  | succ n ih =>
    intro I a e ha h1 h2 h3
    have e4 : (I 2 4).toInt = L := by rw [e _ _ (by decide)]; exact hL
    have e3 : I 3 = I0 3 := by funext j; exact e _ _ (by omega)
    rw [f_rd_readWord_0]
    refine wl_gI rfl rfl rfl (wl_gI rfl rfl rfl (wl_ite (fun c => ?_) (fun c => ?_)))
    · rw [i32le, e4, ha] at c
      exact tail I a e ha h2 ⟨h1, h3, fun z => by have := z.1; omega⟩
    · rw [i32le, e4, ha] at c
      refine wn_2_0 h (wl_gI rfl rfl rfl (wl_rI (n := 200) rfl (fun hr => wl_bd2 ?_)))
      rw [tnat ha, e3]
      refine v_isLetter (fun hl => ?_) (fun hl => ?_)
      · dsimp only
        rw [if_neg (by decide)]
        have x5 : (I 2 5 + 1).toInt = ((a + 1 : Nat) : Int) := by rw [i32addc (by rw [ha, l32_1]; omega), ha, l32_1]; omega
        refine wl_gI rfl rfl rfl (wl_pI rfl rfl (ih _ (a + 1) (fun x j hj => ?_) (by rw [up2_s]; exact x5) (by omega) (by omega) (fun j j1 j2 => ?_)))
        · rw [up2_ne _ _ (by omega)]; exact e x j hj
        · by_cases z : j = a
          · subst z; exact ⟨by omega, hl⟩
          · exact h3 j j1 (by omega)
      · dsimp only
        rw [if_pos rfl]
        exact tail I a e ha h2 ⟨h1, h3, fun z => hl z.2⟩
theorem v_readNumeral_5 (h : FXR R) {I0 : IM} {b L : Nat} (hb : (I0 2 7).toInt = b) (hL : (I0 2 4).toInt = L) (hL2 : L ≤ 200) (hbL : b < L) (h6 : (I0 2 6).toInt = 1) {Q : WW → Prop} (k : ∀ (I' : IM) (q : Nat), RCw I0 I' → (I' 2 5).toInt = q → FS (fun j => j < L ∧ j < b + 9 ∧ dgt (I0 3 j)) b q → (I' 2 6).toInt = 1 → I' 2 8 = nmv (I0 3) b (q - b) → Q (mk I' J R)) : ∀ (n : Nat) (I : IM) (a : Nat), RCw I0 I → I 2 6 = I0 2 6 → I 2 8 = nmv (I0 3) b (a - b) → (I 2 5).toInt = a → b ≤ a → a ≤ L → (∀ j, b ≤ j → j < a → j < L ∧ j < b + 9 ∧ dgt (I0 3 j)) → wl (f_rd_readNumeral_5 n 2 (mk I J R)) Q := by
  intro n
  induction n with
  | zero => intro I a e e6 e8 ha h1 h2 h3; exact wl_none
  | succ n ih =>
    intro I a e e6 e8 ha h1 h2 h3
    have e4 : (I 2 4).toInt = L := by rw [e _ _ (by decide)]; exact hL
    have e7 : (I 2 7).toInt = b := by rw [e _ _ (by decide)]; exact hb
    have e3 : I 3 = I0 3 := by funext j; exact e _ _ (by omega)
    have x9 : (I 2 7 + 9).toInt = (b : Int) + 9 := by rw [i32addc (by rw [e7, l32_9]; omega), e7, l32_9]
    have fin : ¬ (a < L ∧ a < b + 9 ∧ dgt (I0 3 a)) → wl (f_rd_readNumeral_82 (mk I J R)) Q := by
      intro z
      unfold f_rd_readNumeral_82
      exact wl_some (k I a e ha ⟨h1, h3, z⟩ (by rw [e6]; exact h6) e8)
    rw [f_rd_readNumeral_5]
    refine wl_gI rfl rfl rfl (wl_gI rfl rfl rfl (wl_ite (fun c => fin ?_) (fun c => wl_gI rfl rfl rfl (wl_gI rfl rfl rfl (wl_ite (fun c2 => fin ?_) (fun c2 => ?_))))))
    · rw [i32le, e4, ha] at c; omega
    · rw [i32le, x9, ha] at c2; omega
    · rw [i32le, e4, ha] at c
      rw [i32le, x9, ha] at c2
      refine wn_2_0 h (wl_gI rfl rfl rfl (wl_rI (n := 200) rfl (fun hr => wl_bd2 ?_)))
      rw [tnat ha, e3]
      refine v_isDigit (fun hl => ?_) (fun hl => ?_)
      · dsimp only
        rw [if_neg (by decide)]
        have x5 : (I 2 5 + 1).toInt = ((a + 1 : Nat) : Int) := by rw [i32addc (by rw [ha, l32_1]; omega), ha, l32_1]; omega
        refine wl_gI rfl rfl rfl (wn_2_0 h (wl_gI rfl rfl rfl (wl_rI (n := 200) rfl (fun hr => wl_pI rfl rfl (wl_gI rfl rfl (up2_nek (by decide)) (wl_pI rfl rfl (ih _ (a + 1) (fun x j hj => ?_) ?_ ?_ (by rw [up2_s]; exact x5) (by omega) (by omega) (fun j j1 j2 => ?_))))))))
        · rw [up2_ne _ _ (by omega), up2_ne _ _ (by omega)]; exact e x j hj
        · rw [up2_nek (by decide), up2_nek (by decide)]; exact e6
        · have ea : a + 1 - b = (a - b) + 1 := by omega
          have eb : b + (a - b) = a := by omega
          rw [up2_nek (by decide), up2_s, ea, e8, tnat ha, e3]
          show _ = nmv (I0 3) b (a - b) * 10 + (I0 3 (b + (a - b)) - 48)
          rw [eb]
        · by_cases z : j = a
          · subst z; exact ⟨by omega, by omega, hl⟩
          · exact h3 j j1 (by omega)
      · dsimp only
        rw [if_pos rfl]
        exact fin (fun z => hl z.2.2)
def sgb (n : Nat) : Bool := decide (n = 37 ∨ (40 ≤ n ∧ n ≤ 43) ∨ n = 45 ∨ n = 47 ∨ (59 ≤ n ∧ n ≤ 61) ∨ n = 91 ∨ n = 93 ∨ n = 123 ∨ n = 125)
def sgi (y : Int32) : Bool := (List.range 14).any (fun i => decide (tbS 5 (Int32.ofNat i) = some y))
set_option maxRecDepth 100000 in
theorem sg_tab : (List.range 256).all (fun n => decide (sgi ((Int32.toInt8 (Int32.ofNat n)).toInt32) = sgb n)) = true := by decide +kernel
theorem sgi_iff {x : Int32} (h : 0 ≤ x.toInt ∧ x.toInt ≤ 255) : sgi ((Int32.toInt8 x).toInt32) = true ↔ SGN x.toInt := by
  have e : x = Int32.ofNat x.toInt.toNat := i32eq.mpr (by rw [n_toInt (by omega)]; omega)
  have q := of_decide_eq_true (allb sg_tab (a := x.toInt.toNat) (by omega))
  rw [← e] at q
  rw [q]
  unfold sgb SGN
  rw [decide_eq_true_eq]
  omega
theorem v_indexOfChar_7 {y4 : Int32} {w : WW} {Q : (Int32 × WW) → Prop} (k1 : ∀ r : Int32, 0 ≤ r.toInt → sgi y4 = true → Q (r, w)) (k0 : ¬ sgi y4 = true → Q (-1, w)) : ∀ (n m : Nat), m ≤ 14 → (∀ i, i < m → tbS 5 (Int32.ofNat i) ≠ some y4) → wl (f_jl_indexOfChar_7 n 5 14 y4 (Int32.ofNat m) w) Q := by
  intro n
  induction n with
  | zero => intro m hm h; exact wl_none
  | succ n ih =>
    intro m hm h
    have v2 : (Int32.ofNat m).toInt = m := n_toInt (by omega)
    rw [f_jl_indexOfChar_7]
    refine wl_ite (fun c => ?_) (fun c => wl_req (fun _ => wl_bd ?_))
    · rw [i32le, l32_14, v2] at c
      refine wl_some (k0 (fun z => ?_))
      unfold sgi at z
      rw [List.any_eq_true] at z
      obtain ⟨i, i1, i2⟩ := z
      rw [List.mem_range] at i1
      exact h i (by omega) (of_decide_eq_true i2)
    · rw [i32le, l32_14, v2] at c
      intro x hx
      refine wl_ite (fun c2 => ?_) (fun c2 => ?_)
      · refine wl_some (k1 _ (by rw [v2]; omega) ?_)
        unfold sgi
        rw [List.any_eq_true]
        exact ⟨m, List.mem_range.mpr (by omega), decide_eq_true (by rw [hx, c2])⟩
      · have es : Int32.ofNat m + 1 = Int32.ofNat (m + 1) := i32eq.mpr (by rw [i32addc (by rw [v2, l32_1]; omega), v2, l32_1, n_toInt (by omega)]; omega)
        rw [es]
        refine ih (m + 1) (by omega) (fun i hi => ?_)
        by_cases z : i = m
        · subst z
          rw [hx]
          intro z2
          exact c2 (Option.some.inj z2)
        · exact h i (by omega)
theorem v_indexOf {i : Int32} {w : WW} {Q : (Int32 × WW) → Prop} (k1 : SGN i.toInt → ∀ r : Int32, 0 ≤ r.toInt → Q (r, w)) (k0 : ¬ SGN i.toInt → Q (-1, w)) : wl (f_js_indexOf_I 5 i w) Q := by
  unfold f_js_indexOf_I
  rw [if_pos (by decide)]
  refine wl_bd2 ?_
  have k1' : ∀ r, Q (r, w) → wl (some (r, w)) Q := fun r z => wl_some z
  unfold f_js_indexOf_II
  rw [if_pos (by decide)]
  refine wl_bd2 ?_
  have e1 : f_js_isLatin1 5 w = some (1, w) := rfl
  rw [e1]
  refine wl_some ?_
  dsimp only
  rw [if_neg (by decide), if_pos (by decide)]
  refine wl_bd2 ?_
  rw [sl_len 5 (by decide)]
  refine wl_some ?_
  dsimp only
  refine wl_bd2 ?_
  unfold f_jl_indexOf
  refine wl_bd2 ?_
  unfold f_jl_canEncode
  have e5 : (Int32.ofNat (sLn.getD 5 0)) = 14 := by decide +kernel
  rw [e5]
  have fin : ∀ r : Int32, Q (r, w) → wl (f_js_indexOf_II_36 r w) fun p => wl (some (p.1, p.2)) Q := fun r z => by unfold f_js_indexOf_II_36; exact wl_some (k1' r z)
  refine wl_ite (fun c => ?_) (fun c => wl_ite (fun c' => ?_) (fun c' => ?_))
  · rw [i32lt, l32_0] at c
    unfold f_jl_canEncode_15 f_jl_canEncode_16
    refine wl_req (fun _ => wl_some ?_)
    dsimp only
    rw [if_pos rfl]
    exact wl_some (fin _ (k0 (fun z => by unfold SGN at z; omega)))
  · rw [i32lt, l32_255] at c'
    unfold f_jl_canEncode_15 f_jl_canEncode_16
    refine wl_req (fun _ => wl_some ?_)
    dsimp only
    rw [if_pos rfl]
    exact wl_some (fin _ (k0 (fun z => by unfold SGN at z; omega)))
  rw [i32lt, l32_0] at c
  rw [i32lt, l32_255] at c'
  unfold f_jl_canEncode_16
  refine wl_req (fun _ => wl_some ?_)
  dsimp only
  rw [if_neg (by decide)]
  have e2 : f_ma_max_II 0 0 w = some (0, w) := rfl
  refine wl_bd2 ?_
  rw [e2]
  refine wl_some ?_
  dsimp only
  rw [if_pos (by decide)]
  have e3 : f_ma_min_II 14 14 w = some (14, w) := rfl
  refine wl_bd2 ?_
  rw [e3]
  refine wl_some ?_
  dsimp only
  rw [if_pos (by decide)]
  refine wl_bd2 ?_
  unfold f_jl_indexOfChar
  have q := sgi_iff (x := i) (by omega)
  refine v_indexOfChar_7 (fun r hr hs => ?_) (fun hs => ?_) KK 0 (by decide) (fun i hi => by omega)
  · dsimp only
    exact wl_some (fin _ (k1 (q.mp hs) r hr))
  · dsimp only
    exact wl_some (fin _ (k0 (fun z => hs (q.mpr z))))
theorem v_readSign (h : FXR R) {b L : Nat} (ha : (I 2 5).toInt = b) (hL : (I 2 4).toInt = L) (hL2 : L ≤ 200) (hbL : b < L) {Q : WW → Prop} (k : ∀ (I' : IM) (q : Nat), RCw I I' → (I' 2 5).toInt = q → SG (I 3) L b q (I' 2 6).toInt → Q (mk I' J R)) : wl (f_rd_readSign 2 (mk I J R)) Q := by
  have x5 : (I 2 5 + 1).toInt = (b : Int) + 1 := by rw [i32addc (by rw [ha, l32_1]; omega), ha, l32_1]
  have x6 : (I 2 5 + 1 + 1).toInt = (b : Int) + 2 := by rw [i32addc (by rw [x5, l32_1]; omega), x5, l32_1]; omega
  -- one letter
  have one : ¬ PAIR (I 3) L b → wl (f_rd_readSign_111 2 (I 3 b) (mk (up2 I 2 5 (I 2 5 + 1)) J R)) Q := by
    intro hn
    have fin : ∀ x : Int32, ((SGN (I 3 b).toInt ∧ x.toInt = (I 3 b).toInt) ∨ (¬ SGN (I 3 b).toInt ∧ x.toInt = -1)) → wl (f_rd_readSign_128 2 0 2 x (mk (up2 I 2 5 (I 2 5 + 1)) J R)) Q := by
      intro x hx
      unfold f_rd_readSign_128 f_rd_readSign_131 f_rd_readSign_145
      refine wl_pI rfl rfl ?_
      rw [if_pos rfl]
      refine wl_some (k _ (b + 1) (fun x j hj => ?_) ?_ (Or.inl ⟨hn, rfl, ?_⟩))
      · rw [up2_ne _ _ (by omega), up2_ne _ _ (by omega)]
      · rw [up2_nek (by decide), up2_s, x5]; omega
      · rw [up2_s]; exact hx
    unfold f_rd_readSign_111
    refine wl_bd2 (v_indexOf (fun hs r hr => ?_) (fun hs => ?_))
    · dsimp only
      rw [if_neg (by rw [i32lt, l32_0]; omega)]
      exact fin _ (Or.inl ⟨hs, rfl⟩)
    · dsimp only
      rw [if_pos (by decide)]
      exact fin _ (Or.inr ⟨hs, l32_m1⟩)
  have zero : ¬ PAIR (I 3) L b → wl (f_rd_readSign_49 2 (I 3 b) (mk (up2 I 2 5 (I 2 5 + 1)) J R)) Q := by
    intro hn
    unfold f_rd_readSign_49 f_rd_readSign_50
    rw [if_pos rfl]
    unfold f_rd_readSign_71
    rw [if_pos rfl]
    unfold f_rd_readSign_91
    rw [if_pos rfl]
    exact one hn
  have fin2 : ∀ x : Int32, PAIR (I 3) L b → (((I 3 b).toInt = 61 ∧ x.toInt = 256) ∨ ((I 3 b).toInt = 33 ∧ x.toInt = 257) ∨ ((I 3 b).toInt = 60 ∧ x.toInt = 258)) → wl ((pv (mk (up2 I 2 5 (I 2 5 + 1)) J R) 2 1 6 (.int x)).bind fun w => f_rd_readSign_131 2 1 w) Q := by
    intro x hp hx
    unfold f_rd_readSign_131 f_rd_readSign_145
    refine wl_pI rfl rfl ?_
    rw [if_neg (by decide)]
    refine wl_gI rfl rfl ((up2_nek (by decide)).trans up2_s) (wl_pI rfl rfl (wl_some (k _ (b + 2) (fun x j hj => ?_) ?_ (Or.inr ⟨hp, rfl, ?_⟩))))
    · rw [up2_ne _ _ (by omega), up2_ne _ _ (by omega), up2_ne _ _ (by omega)]
    · rw [up2_s, x6]; omega
    · rw [up2_nek (by decide), up2_s]; exact hx
  unfold f_rd_readSign
  refine wl_kb (wn_2_0 h (wl_gI rfl rfl rfl (wl_rI (n := 200) rfl (fun hr => wl_gI rfl rfl rfl (wl_pI rfl rfl (wl_gI rfl rfl up2_s (wl_gI rfl rfl (up2_nek (by decide)) ?_)))))))
  rw [tnat ha]
  refine wl_ite (fun c => zero ?_) (fun c => ?_)
  · rw [i32le, hL, x5] at c
    intro z
    have := z.1
    omega
  · rw [i32le, hL, x5] at c
    have e26 : (I 2 5 + 1).toInt.toNat = b + 1 := by omega
    refine wn_2_0 h (wl_gI rfl rfl up2_s (wl_rI (n := 200) rfl (fun hr => ?_)))
    rw [e26, up2_nea (by decide)]
    refine wl_ite (fun c2 => ?_) (fun c2 => zero ?_)
    · rw [i32eq, l32_61] at c2
      unfold f_rd_readSign_50
      rw [if_neg (by decide)]
      refine wl_ite (fun c3 => ?_) (fun c3 => ?_)
      · rw [i32eq, l32_61] at c3
        exact fin2 _ ⟨by omega, c2, Or.inl c3⟩ (Or.inl ⟨c3, l32_256⟩)
      rw [i32eq, l32_61] at c3
      unfold f_rd_readSign_71
      rw [if_neg (by decide)]
      refine wl_ite (fun c4 => ?_) (fun c4 => ?_)
      · rw [i32eq, l32_33] at c4
        exact fin2 _ ⟨by omega, c2, Or.inr (Or.inl c4)⟩ (Or.inr (Or.inl ⟨c4, l32_257⟩))
      rw [i32eq, l32_33] at c4
      unfold f_rd_readSign_91
      rw [if_neg (by decide)]
      refine wl_ite (fun c5 => ?_) (fun c5 => ?_)
      · rw [i32eq, l32_60] at c5
        exact fin2 _ ⟨by omega, c2, Or.inr (Or.inr c5)⟩ (Or.inr (Or.inr ⟨c5, l32_258⟩))
      rw [i32eq, l32_60] at c5
      exact one (fun z => by have := z.2.2; omega)
    · rw [i32eq, l32_61] at c2
      intro z
      exact c2 z.2.1
theorem v_readToken_52 (h : FXR R) {p b L : Nat} (ha : (I 2 5).toInt = b) (hL : (I 2 4).toInt = L) (hL2 : L ≤ 200) (hbL : b ≤ L) (hf : FS (fun j => j < L ∧ blk (I 3 j)) p b) {Q : WW → Prop} (k : ∀ (I' : IM) (q : Nat), RC7 I I' → (I' 2 5).toInt = q → (I' 2 7).toInt = b → TK (I 3) L p b q (I' 2 6).toInt → NM (I 3) b q (I' 2 6).toInt (I' 2 8) → Q (mk I' J R)) : wl (f_rd_readToken_52 2 (mk I J R)) Q := by
  generalize hI2 : up2 (up2 I 2 7 (I 2 5)) 2 8 0 = I2
  have e2 : ∀ x j, (x ≠ 2 ∨ (j ≠ 7 ∧ j ≠ 8)) → I2 x j = I x j := fun x j hj => by rw [← hI2, up2_ne _ _ (by omega), up2_ne _ _ (by omega)]
  have a2 : (I2 2 5).toInt = b := by rw [e2 _ _ (by decide)]; exact ha
  have L2 : (I2 2 4).toInt = L := by rw [e2 _ _ (by decide)]; exact hL
  have b2 : (I2 2 7).toInt = b := by rw [← hI2, up2_nek (by decide), up2_s]; exact ha
  have r3 : I2 3 = I 3 := by funext j; exact e2 _ _ (by omega)
  unfold f_rd_readToken_52 f_rd_readToken_132
  refine wl_gI rfl rfl rfl (wl_pI rfl rfl (wl_pI rfl rfl ?_))
  rw [hI2]
  refine wl_gI rfl rfl rfl (wl_gI rfl rfl rfl (wl_ite (fun c => ?_) (fun c => ?_)))
  · rw [i32lt, a2, L2] at c
    refine wn_2_0 h (wl_gI rfl rfl rfl (wl_rI (n := 200) rfl (fun hr => wl_bd2 ?_)))
    rw [tnat a2]
    refine v_isDigit (fun hd => ?_) (fun hd => ?_)
    · dsimp only
      rw [if_neg (by decide)]
      refine wl_bd ?_
      unfold f_rd_readNumeral
      refine wl_kb (wl_pI rfl rfl (v_readNumeral_5 h (I0 := up2 I2 2 6 1) (b := b) (L := L) (by rw [up2_nek (by decide)]; exact b2) (by rw [up2_nek (by decide)]; exact L2) hL2 (by omega) (by rw [up2_s]; exact l32_1) (fun I' q e' h5 hfs h6 h8 => ?_) KK _ b (fun _ _ _ => rfl) rfl (by rw [up2_nek (by decide), ← hI2, up2_s, show b - b = 0 by omega]; rfl) (by rw [up2_nek (by decide)]; exact a2) (Nat.le_refl _) hbL (fun j j1 j2 => by omega)))
      have q3 : up2 I2 2 6 1 3 = I 3 := by funext j; rw [up2_nea (by decide), r3]
      rw [q3] at hfs h8
      refine wl_some (k I' q (fun x j hj => ?_) h5 ?_ ⟨hf, Or.inr (Or.inl ⟨by omega, by rw [← r3]; exact hd, h6, hfs⟩)⟩ ?_)
      · rw [e' _ _ (by omega), up2_ne _ _ (by omega), e2 _ _ (by omega)]
      · rw [e' _ _ (by decide), up2_nek (by decide)]; exact b2
      · rw [h6]; exact ⟨fun _ => h8, fun z => by omega, fun z => by omega⟩
    · dsimp only
      rw [if_pos rfl]
      refine wn_2_0 h (wl_gI rfl rfl rfl (wl_rI (n := 200) rfl (fun hr => wl_bd2 ?_)))
      rw [tnat a2]
      refine v_isLetter (fun hl => ?_) (fun hl => ?_)
      · dsimp only
        rw [if_neg (by decide)]
        refine wl_bd ?_
        unfold f_rd_readWord
        refine wl_kb (v_readWord_0 h (I0 := I2) (b := b) (L := L) b2 L2 hL2 (by omega) hl (fun I' q e' h5 hfs h6 h8 => ?_) KK I2 b (fun _ _ _ => rfl) a2 (Nat.le_refl _) hbL (fun j j1 j2 => by omega))
        rw [r3] at hd hl hfs h6 h8
        refine wl_some (k I' q (fun x j hj => ?_) h5 ?_ ⟨hf, Or.inr (Or.inr (Or.inl ⟨by omega, hd, hl, hfs, h6⟩))⟩ (by rw [h6]; exact h8))
        · rw [e' _ _ (by omega), e2 _ _ (by omega)]
        · rw [e' _ _ (by decide)]; exact b2
      · dsimp only
        rw [if_pos rfl]
        refine wl_bd (v_readSign h a2 L2 hL2 (by omega) (fun I' q e' h5 hs => ?_))
        rw [r3] at hd hl hs
        refine wl_some (k I' q (fun x j hj => ?_) h5 ?_ ⟨hf, Or.inr (Or.inr (Or.inr ⟨by omega, hd, hl, hs⟩))⟩ hs.nm)
        · rw [e' _ _ (by omega), e2 _ _ (by omega)]
        · rw [e' _ _ (by decide)]; exact b2
  · rw [i32lt, a2, L2] at c
    refine wl_pI rfl rfl (wl_some (k _ b (fun x j hj => ?_) ?_ ?_ ⟨hf, Or.inl ⟨by omega, rfl, ?_⟩⟩ (NM.no (by rw [up2_s, l32_0]; omega))))
    · rw [up2_ne _ _ (by omega), e2 _ _ (by omega)]
    · rw [up2_nek (by decide)]; exact a2
    · rw [up2_nek (by decide)]; exact b2
    · rw [up2_s]; exact l32_0
theorem v_readToken (h : FXR R) {I0 : IM} {p L : Nat} (hp : (I0 2 5).toInt = p) (hL : (I0 2 4).toInt = L) (hL2 : L ≤ 200) (hpL : p ≤ L) {Q : WW → Prop} (k : ∀ (I' : IM) (b q : Nat), RC7 I0 I' → (I' 2 5).toInt = q → (I' 2 7).toInt = b → TK (I0 3) L p b q (I' 2 6).toInt → NM (I0 3) b q (I' 2 6).toInt (I' 2 8) → Q (mk I' J R)) : wl (f_rd_readToken 2 (mk I0 J R)) Q := by
  have loop : ∀ (n : Nat) (I : IM) (a : Nat), (∀ x j, (x ≠ 2 ∨ j ≠ 5) → I x j = I0 x j) → (I 2 5).toInt = a → p ≤ a → a ≤ L → (∀ j, p ≤ j → j < a → j < L ∧ blk (I0 3 j)) → wl (f_rd_readToken_0 n 2 (mk I J R)) Q := by
    intro n
    induction n with
    | zero => intro I a e ha h1 h2 h3; exact wl_none
    | succ n ih =>
      intro I a e ha h1 h2 h3
      have e4 : (I 2 4).toInt = L := by rw [e _ _ (by decide)]; exact hL
      have e3 : I 3 = I0 3 := by funext j; exact e _ _ (by omega)
      have tail : ¬ (a < L ∧ blk (I0 3 a)) → wl (f_rd_readToken_52 2 (mk I J R)) Q := by
        intro z
        refine v_readToken_52 h (p := p) (b := a) (L := L) ha e4 hL2 h2 ?_ (fun I' q e' h5 h7 hk hn => ?_)
        · rw [e3]; exact ⟨h1, h3, z⟩
        · rw [e3] at hk hn
          exact k I' a q (fun x j hj => by rw [e' x j hj, e x j (by omega)]) h5 h7 hk hn
      have go : a < L → blk (I0 3 a) → wl (f_rd_readToken_39 (f_rd_readToken_0 n) 2 (mk I J R)) Q := by
        intro z1 z2
        unfold f_rd_readToken_39
        have x5 : (I 2 5 + 1).toInt = ((a + 1 : Nat) : Int) := by rw [i32addc (by rw [ha, l32_1]; omega), ha, l32_1]; omega
        refine wl_gI rfl rfl rfl (wl_pI rfl rfl (ih _ (a + 1) (fun x j hj => ?_) (by rw [up2_s]; exact x5) (by omega) (by omega) (fun j j1 j2 => ?_)))
        · rw [up2_ne _ _ (by omega)]; exact e x j hj
        · by_cases y : j = a
          · subst y; exact ⟨z1, z2⟩
          · exact h3 j j1 (by omega)
      rw [f_rd_readToken_0]
      refine wl_gI rfl rfl rfl (wl_gI rfl rfl rfl (wl_ite (fun c => tail ?_) (fun c => ?_)))
      · rw [i32le, e4, ha] at c; omega
      · rw [i32le, e4, ha] at c
        refine wn_2_0 h (wl_gI rfl rfl rfl (wl_rI (n := 200) rfl (fun hr => ?_)))
        rw [tnat ha, e3]
        refine wl_ite (fun c2 => go (by omega) (Or.inl (by rw [c2]; exact l32_32))) (fun c2 => ?_)
        refine wn_2_0 h (wl_gI rfl rfl rfl (wl_rI (n := 200) rfl (fun hr => ?_)))
        rw [tnat ha, e3]
        refine wl_ite (fun c3 => go (by omega) (Or.inr (by rw [c3]; exact l32_10))) (fun c3 => tail ?_)
        rw [i32eq, l32_32] at c2
        rw [i32eq, l32_10] at c3
        intro z
        have := z.2
        unfold blk at this
        omega
  unfold f_rd_readToken
  exact wl_kb (loop KK I0 p (fun _ _ _ => rfl) hp (Nat.le_refl _) hpL (fun j j1 j2 => by omega))
def RA (i : Nat) (I I' : IM) : Prop := ∀ x j, (x ≠ 2 ∨ (j < 5 ∨ 8 < j)) → ((x ≠ 4 ∧ x ≠ 5 ∧ x ≠ 6) ∨ j < i) → I' x j = I x j
theorem v_readAll_12 (h : FXR R) {c : Nat → Int32} {L : Nat} (hL2 : L ≤ 200) {Q : WW → Prop} : ∀ (n : Nat) (I : IM) (y1 : Int32) (i p : Nat), y1.toInt = i → (I 2 5).toInt = p → p ≤ L → (I 2 4).toInt = L → I 3 = c → ((I 2 6).toInt ≠ 0 → i ≤ p ∧ i ≤ 200) → (∀ I', RA i I I' → ((I 2 6).toInt ≠ 0 → (I 2 6).toInt ≠ -1 → TL c L (I' 4) (I' 5) (I' 6) i p) → Q (mk I' J R)) → wl (f_rd_readAll_12 n 2 y1 (mk I J R)) Q := by
  intro n
  induction n with
  | zero => intro I y1 i p h1 h2 h3 h4 h5 h6 k; exact wl_none
  | succ n ih =>
    intro I y1 i p h1 h2 h3 h4 h5 h6 k
    rw [f_rd_readAll_12]
    unfold f_rd_readAll_74
    refine wl_ite (fun c1 => ?_) (fun c1 => wl_gI rfl rfl rfl (wl_ite (fun c2 => ?_) (fun c2 => wl_gI rfl rfl rfl (wl_ite (fun c3 => ?_) (fun c3 => wl_bd ?_)))))
    · rw [i32lt, l32_200, h1] at c1
      exact wl_some (k I (fun _ _ _ _ => rfl) (fun z => by have := h6 z; omega))
    · rw [i32eq, l32_0] at c2
      exact wl_some (k I (fun _ _ _ _ => rfl) (fun z => absurd c2 z))
    · rw [i32eq, l32_m1] at c3
      exact wl_some (k I (fun _ _ _ _ => rfl) (fun _ z => absurd c3 z))
    rw [i32eq, l32_0] at c2
    rw [i32eq, l32_m1] at c3
    have hi := h6 c2
    refine v_readToken h h2 h4 hL2 h3 (fun I1 b q e1 a5 a7 hk hn => ?_)
    rw [h5] at hk hn
    have hb := hk.bnd h3
    refine wn_2_1 h (wl_gI rfl rfl rfl (wl_sI (n := 201) rfl (fun _ => wn_2_2 h (wl_gI rfl rfl (up2_nea (by decide)) (wl_sI (n := 201) rfl (fun _ => wn_2_3 h (wl_gI rfl rfl ((up2_nea (by decide)).trans (up2_nea (by decide))) (wl_sI (n := 201) rfl (fun _ => ?_)))))))))
    rw [tnat h1]
    generalize hI4 : up2 (up2 (up2 I1 4 i (I1 2 6)) 5 i (I1 2 7)) 6 i (I1 2 8) = I4
    have e4 : ∀ x j, ((x ≠ 4 ∧ x ≠ 5 ∧ x ≠ 6) ∨ j ≠ i) → I4 x j = I1 x j := fun x j hj => by rw [← hI4, up2_ne _ _ (by omega), up2_ne _ _ (by omega), up2_ne _ _ (by omega)]
    have k4 : I4 4 i = I1 2 6 := by rw [← hI4, up2_nea (by decide), up2_nea (by decide), up2_s]
    have k5 : I4 5 i = I1 2 7 := by rw [← hI4, up2_nea (by decide), up2_s]
    have k6 : I4 6 i = I1 2 8 := by rw [← hI4, up2_s]
    have y2 : (y1 + 1).toInt = ((i + 1 : Nat) : Int) := by rw [i32addc (by rw [h1, l32_1]; omega), h1, l32_1]; omega
    have t6 : I4 2 6 = I1 2 6 := e4 _ _ (by omega)
    refine ih I4 (y1 + 1) (i + 1) q y2 (by rw [e4 _ _ (by omega)]; exact a5) hb.2.2.2.1 (by rw [e4 _ _ (by omega), e1 _ _ (by omega)]; exact h4) (by funext j; rw [e4 _ _ (by omega), e1 _ _ (by omega), h5]) (fun z => ?_) (fun I' e' hT => ?_)
    · rw [t6] at z
      have := hb.2.2.2.2 z
      omega
    · refine k I' (fun x j hx hj => ?_) (fun _ _ => ?_)
      · rw [e' x j hx (by omega), e4 x j (by omega), e1 x j hx]
      · have K4 : I' 4 i = I1 2 6 := by rw [e' 4 i (by omega) (by omega), k4]
        have K5 : I' 5 i = I1 2 7 := by rw [e' 5 i (by omega) (by omega), k5]
        have K6 : I' 6 i = I1 2 8 := by rw [e' 6 i (by omega) (by omega), k6]
        rw [t6] at hT
        by_cases z : (I1 2 6).toInt = 0 ∨ (I1 2 6).toInt = -1
        · exact TL.last (b := b) (q := q) (by rw [K4]; exact hk) (by rw [K5]; exact a7) (by rw [K4, K6]; exact hn) (by rw [K4]; exact z)
        · exact TL.more (b := b) (q := q) (by rw [K4]; exact hk) (by rw [K5]; exact a7) (by rw [K4, K6]; exact hn) (hT (by omega) (by omega))
theorem v_readAll (h : FXR R) {L : Nat} (hL : (I 2 4).toInt = L) (hL2 : L ≤ 200) {Q : WW → Prop} (k : ∀ I', RA 0 I I' → TL (I 3) L (I' 4) (I' 5) (I' 6) 0 0 → Q (mk I' J R)) : wl (f_rd_readAll 2 (mk I J R)) Q := by
  unfold f_rd_readAll
  refine wl_kb (wl_pI rfl rfl (wl_pI rfl rfl (v_readAll_12 h (c := I 3) (L := L) hL2 KK _ 0 0 0 l32_0 ?_ (Nat.zero_le _) ?_ ?_ (fun _ => ⟨Nat.le_refl _, by omega⟩) (fun I' e hT => k I' (fun x j hx hj => ?_) (hT ?_ ?_)))))
  · rw [up2_nek (by decide), up2_s]; exact l32_0
  · rw [up2_nek (by decide), up2_nek (by decide)]; exact hL
  · funext j; rw [up2_nea (by decide), up2_nea (by decide)]
  · rw [e x j hx hj, up2_ne _ _ (by omega), up2_ne _ _ (by omega)]
  · rw [up2_s, l32_1]; decide
  · rw [up2_s, l32_1]; decide
end CR
