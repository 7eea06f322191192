/-! The reference reads a TOKEN: the same place, the same end, the same kind. -/
section QRD
variable {I : IM} {J : JM} {R : RM} {c : Nat → Int32} {L : Nat}
theorem u_isDigit {x : Int32} {w : WW} {Q : (Int32 × WW) → Prop} (k1 : dgt x → Q (1, w)) (k0 : ¬ dgt x → Q (0, w)) : wl (f_q_isDigit x w) Q := by
  refine wp_wl (s_q_isDigit (fun r hb hr => ?_))
  rcases hr with ⟨h1, h2⟩ | ⟨h1, h2⟩
  · have e : r = 1 := i32eq.mpr (by rw [h1, l32_1])
    subst e; exact k1 h2
  · have e : r = 0 := i32eq.mpr (by rw [h1, l32_0])
    subst e; exact k0 (fun z => by have z1 := z.1; have z2 := z.2; omega)
theorem u_isLetter {x : Int32} {w : WW} {Q : (Int32 × WW) → Prop} (k1 : ltr x → Q (1, w)) (k0 : ¬ ltr x → Q (0, w)) : wl (f_q_isLetter x w) Q := by
  refine wp_wl (s_q_isLetter (fun r hb hr => ?_))
  rcases hr with ⟨h1, h2⟩ | ⟨h1, h2⟩
  · have e : r = 1 := i32eq.mpr (by rw [h1, l32_1])
    subst e; exact k1 h2
  · have e : r = 0 := i32eq.mpr (by rw [h1, l32_0])
    subst e; exact k0 h2
theorem u_in {x : Int32} {lo hi : Int64} {w : WW} {Q : (Int32 × WW) → Prop} (k1 : lo.toInt ≤ x.toInt ∧ x.toInt ≤ hi.toInt → Q (1, w)) (k0 : ¬ (lo.toInt ≤ x.toInt ∧ x.toInt ≤ hi.toInt) → Q (0, w)) : wl (f_q_in (Int32.toInt64 x) lo hi w) Q := by
  refine wp_wl (s_q_in (fun r hb hr => ?_))
  rw [i3264] at hr
  rcases hr with ⟨h1, h2⟩ | ⟨h1, h2⟩
  · have e : r = 1 := i32eq.mpr (by rw [h1, l32_1])
    subst e; exact k1 h2
  · have e : r = 0 := i32eq.mpr (by rw [h1, l32_0])
    subst e; exact k0 (fun z => by omega)
theorem u_isOperator {x : Int32} {w : WW} {Q : (Int32 × WW) → Prop} (k1 : (x.toInt = 43 ∨ x.toInt = 45 ∨ x.toInt = 42 ∨ x.toInt = 47 ∨ x.toInt = 37) → Q (1, w)) (k0 : ¬ (x.toInt = 43 ∨ x.toInt = 45 ∨ x.toInt = 42 ∨ x.toInt = 47 ∨ x.toInt = 37) → Q (0, w)) : wl (f_q_isOperator x w) Q := by
  unfold f_q_isOperator f_q_isOperator_30 f_q_isOperator_35
  refine wl_ite (fun z => wl_req (fun _ => wl_some (k1 ?_))) (fun z1 => wl_ite (fun z => wl_req (fun _ => wl_some (k1 ?_))) (fun z2 => wl_ite (fun z => wl_req (fun _ => wl_some (k1 ?_))) (fun z3 => wl_ite (fun z => wl_req (fun _ => wl_some (k1 ?_))) (fun z4 => wl_ite (fun z => wl_req (fun _ => wl_some (k1 ?_))) (fun z5 => wl_req (fun _ => wl_some (k0 ?_)))))))
  · rw [i32eq, l32_43] at z; omega
  · rw [i32eq, l32_45] at z; omega
  · rw [i32eq, l32_42] at z; omega
  · rw [i32eq, l32_47] at z; omega
  · rw [i32eq, l32_37] at z; omega
  · rw [i32eq, l32_43] at z1
    rw [i32eq, l32_45] at z2
    rw [i32eq, l32_42] at z3
    rw [i32eq, l32_47] at z4
    rw [i32eq, l32_37] at z5
    omega
/-- the text that the reference holds -/
def TXQ (c : Nat → Int32) (L : Nat) (I : IM) : Prop := (I 373 2).toInt = L ∧ ∀ j, j < L → I 374 j = c j
theorem u_charAt (hR : QR R) (ht : TXQ c L I) {a1 : Int32} {m : Nat} (hm : a1.toInt = m) {Q : (Int32 × WW) → Prop} (k1 : m < L → Q (c m, mk I J R)) (k0 : L ≤ m → Q (32, mk I J R)) : wl (f_q_charAt 373 a1 (mk I J R)) Q := by
  unfold f_q_charAt f_q_charAt_19
  refine wl_kb (wl_gI rfl rfl rfl (wl_ite (fun z => wl_some (k0 ?_)) (fun z => wq_0 hR (wl_rI (n := 200) rfl (fun _ => wl_some ?_)))))
  · rw [i32le, ht.1, hm] at z; omega
  · rw [i32le, ht.1, hm] at z
    have hmL : m < L := by omega
    rw [tnat hm, ht.2 m hmL]
    exact k1 hmL
theorem splAt_iff {c : Nat → Int32} : ∀ (l : List Int) (b : Nat), splAt c b l = true ↔ ∀ (i : Nat) (hi : i < l.length), (c (b + i)).toInt = l[i] := by
  intro l
  induction l with
  | nil => intro b; exact ⟨fun _ i hi => absurd hi (Nat.not_lt_zero _), fun _ => rfl⟩
  | cons x l ih =>
    intro b
    show (decide ((c b).toInt = x) && splAt c (b + 1) l) = true ↔ _
    rw [Bool.and_eq_true, decide_eq_true_eq, ih (b + 1)]
    constructor
    · intro h i hi
      cases i with
      | zero => exact h.1
      | succ i =>
        have q := h.2 i (by simpa using hi)
        have e : b + 1 + i = b + (i + 1) := by omega
        rw [e] at q
        exact q
    · intro h
      refine ⟨h 0 (by simp), fun i hi => ?_⟩
      have q := h (i + 1) (by simpa using hi)
      have e : b + 1 + i = b + (i + 1) := by omega
      rw [e]
      exact q
theorem u_isText_26 (hR : QR R) (ht : TXQ c L I) {l : List Int} {D : Nat → Int64} (hD : ∀ (m : Nat) (hm : m < l.length), (D (m + 1) - D (m + 1) / 128 * 128).toInt = l[m] ∧ D (m + 1) / 128 = D m) {b : Nat} (hb : (I 373 29).toInt = b) (hqL : b + l.length ≤ L) (hL2 : L ≤ 200) {Q : (Int32 × WW) → Prop} (k1 : splAt c b l = true → Q (1, mk I J R)) (k0 : splAt c b l = false → Q (0, mk I J R)) : ∀ (n m : Nat) (y6 : Int32), m ≤ l.length → y6.toInt = (b : Int) + m - 1 → (∀ (i : Nat) (hi : i < l.length), m ≤ i → (c (b + i)).toInt = l[i]) → wl (f_q_isText_26 n 373 (D m) y6 (mk I J R)) Q := by
  intro n
  induction n with
  | zero => intro m y6 h1 h2 h3; exact wl_none
  | succ n ih =>
    intro m y6 h1 h2 h3
    rw [f_q_isText_26]
    refine wl_gI rfl rfl rfl (wl_ite (fun z => ?_) (fun z => wq_0 hR (wl_rI (n := 200) rfl (fun hr => wl_req (fun _ => ?_)))))
    · rw [i32lt, h2, hb] at z
      exact wl_req (fun _ => wl_some (k1 ((splAt_iff l b).mpr (fun i hi => h3 i hi (by omega)))))
    · rw [i32lt, h2, hb] at z
      obtain ⟨m, rfl⟩ : ∃ m', m = m' + 1 := ⟨m - 1, by omega⟩
      have hm : m < l.length := by omega
      have e6 : y6.toInt = ((b + m : Nat) : Int) := by omega
      rw [tnat e6, ht.2 (b + m) (by omega)]
      obtain ⟨d1, d2⟩ := hD m hm
      refine wl_ite (fun z2 => wl_req (fun _ => ?_)) (fun z2 => wl_req (fun _ => wl_some (k0 ?_)))
      · rw [i64eq, i3264, d1] at z2
        rw [d2]
        refine ih m _ (by omega) (by rw [i32addc (by rw [h2, l32_m1]; omega), h2, l32_m1]; omega) (fun i hi hmi => ?_)
        by_cases y : i = m
        · subst y; exact z2
        · exact h3 i hi (by omega)
      · rw [i64eq, i3264, d1] at z2
        rw [Bool.eq_false_iff]
        intro y
        exact z2 ((splAt_iff l b).mp y m hm)
theorem u_isText (hR : QR R) (ht : TXQ c L I) {l : List Int} {D : Nat → Int64} (hD : ∀ (m : Nat) (hm : m < l.length), (D (m + 1) - D (m + 1) / 128 * 128).toInt = l[m] ∧ D (m + 1) / 128 = D m) {n : Int32} (hn : n.toInt = l.length) {what : Int64} (hw : what = D l.length) {b q : Nat} (hb : (I 373 29).toInt = b) (hq : (I 373 28).toInt = q) (hbq : b ≤ q) (hqL : q ≤ L) (hL2 : L ≤ 200) {Q : (Int32 × WW) → Prop} (k : ∀ r : Int32, ((r = 1 ∧ spl c b q l = true) ∨ (r = 0 ∧ spl c b q l = false)) → Q (r, mk I J R)) : wl (f_q_isText 373 n what (mk I J R)) Q := by
  have ed : (I 373 28 - I 373 29).toInt = (q : Int) - b := by rw [i32subc (by rw [hq, hb]; omega), hq, hb]
  unfold f_q_isText
  refine wl_kb (wl_gI rfl rfl rfl (wl_gI rfl rfl rfl (wl_ite (fun z => wl_gI rfl rfl rfl ?_) (fun z => wl_req (fun _ => wl_some (k 0 (Or.inr ⟨rfl, ?_⟩)))))))
  · rw [i32eq, ed, hn] at z
    have eq : q = b + l.length := by omega
    have e2 := spl_at (c := c) eq
    rw [hw]
    refine u_isText_26 hR ht hD hb (by omega) hL2 (fun y => k 1 (Or.inl ⟨rfl, by rw [e2]; exact y⟩)) (fun y => k 0 (Or.inr ⟨rfl, by rw [e2]; exact y⟩)) KK l.length _ (Nat.le_refl _) ?_ (fun i hi hmi => by omega)
    rw [i32subc (by rw [hq, l32_1]; omega), hq, l32_1]; omega
  · rw [i32eq, ed, hn] at z
    exact spl_len (by omega)
def dIf (m : Nat) : Int64 := ([0, 105, 13542] : List Int64).getD m 0
def dIn (m : Nat) : Int64 := ([0, 105, 13550] : List Int64).getD m 0
def dElse (m : Nat) : Int64 := ([0, 101, 13036, 1668723, 213596645] : List Int64).getD m 0
def dWhile (m : Nat) : Int64 := ([0, 119, 15336, 1963113, 251278572, 32163657317] : List Int64).getD m 0
def dAssert (m : Nat) : Int64 := ([0, 97, 12531, 1604083, 205322725, 26281308914, 3364007541108] : List Int64).getD m 0
theorem hIf : ∀ (m : Nat) (hm : m < ([105, 102] : List Int).length), (dIf (m + 1) - dIf (m + 1) / 128 * 128).toInt = ([105, 102] : List Int)[m] ∧ dIf (m + 1) / 128 = dIf m := by decide +kernel
theorem hIn : ∀ (m : Nat) (hm : m < ([105, 110] : List Int).length), (dIn (m + 1) - dIn (m + 1) / 128 * 128).toInt = ([105, 110] : List Int)[m] ∧ dIn (m + 1) / 128 = dIn m := by decide +kernel
theorem hElse : ∀ (m : Nat) (hm : m < ([101, 108, 115, 101] : List Int).length), (dElse (m + 1) - dElse (m + 1) / 128 * 128).toInt = ([101, 108, 115, 101] : List Int)[m] ∧ dElse (m + 1) / 128 = dElse m := by decide +kernel
theorem hWhile : ∀ (m : Nat) (hm : m < ([119, 104, 105, 108, 101] : List Int).length), (dWhile (m + 1) - dWhile (m + 1) / 128 * 128).toInt = ([119, 104, 105, 108, 101] : List Int)[m] ∧ dWhile (m + 1) / 128 = dWhile m := by decide +kernel
theorem hAssert : ∀ (m : Nat) (hm : m < ([97, 115, 115, 101, 114, 116] : List Int).length), (dAssert (m + 1) - dAssert (m + 1) / 128 * 128).toInt = ([97, 115, 115, 101, 114, 116] : List Int)[m] ∧ dAssert (m + 1) / 128 = dAssert m := by decide +kernel
theorem r01 {r : Int32} {s : Bool} (h : (r = 1 ∧ s = true) ∨ (r = 0 ∧ s = false)) : (r = 0 → s = false) ∧ (¬ r = 0 → s = true) ∧ (s = false → r = 0) := by
  rcases h with ⟨rfl, rfl⟩ | ⟨rfl, rfl⟩
  · exact ⟨fun z => absurd z (by decide), fun _ => rfl, fun z => absurd z (by decide)⟩
  · exact ⟨fun _ => rfl, fun z => absurd rfl z, fun _ => rfl⟩
theorem u_word_120 (hR : QR R) (ht : TXQ c L I) {b q : Nat} (hb : (I 373 29).toInt = b) (hq : (I 373 28).toInt = q) (hbq : b ≤ q) (hqL : q ≤ L) (hL2 : L ≤ 200) {Q : WW → Prop} (fin : ∀ t v : Int32, COR (wkd c b q) t.toInt v.toInt → Q (mk (up2 (up2 I 373 30 t) 373 31 v) J R)) : wl (f_q_word_120 373 (mk I J R)) Q := by
  unfold f_q_word_120 f_q_five
  refine wl_bd2 (wl_some ?_)
  dsimp only
  refine wl_bd2 (u_isText hR ht hIf (by decide) (by decide +kernel) hb hq hbq hqL hL2 (fun x18 h18 => ?_))
  dsimp only
  refine wl_bd2 (wl_some ?_)
  dsimp only
  refine wl_bd2 (u_isText hR ht hIn (by decide) (by decide +kernel) hb hq hbq hqL hL2 (fun x22 h22 => ?_))
  dsimp only
  refine wl_bd2 (wl_some ?_)
  dsimp only
  refine wl_bd2 (u_isText hR ht hElse (by decide) (by decide +kernel) hb hq hbq hqL hL2 (fun x26 h26 => ?_))
  dsimp only
  refine wl_bd2 (wl_some ?_)
  dsimp only
  refine wl_bd2 (u_isText hR ht hWhile (by decide) (by decide +kernel) hb hq hbq hqL hL2 (fun x30 h30 => ?_))
  dsimp only
  refine wl_bd2 (wl_some ?_)
  dsimp only
  refine wl_bd2 (u_isText hR ht hAssert (by decide) (by decide +kernel) hb hq hbq hqL hL2 (fun x34 h34 => ?_))
  dsimp only
  have g18 := r01 h18
  have g22 := r01 h22
  have g26 := r01 h26
  have g30 := r01 h30
  have g34 := r01 h34
  unfold f_q_word_249 f_q_word_255 f_q_word_295
  refine wl_ite (fun c18 => ?_) (fun c18 => ?_)
  · have s0 := g18.1 c18
    refine wl_ite (fun c22 => ?_) (fun c22 => ?_)
    · have s4 := g22.1 c22
      refine wl_ite (fun c26 => ?_) (fun c26 => ?_)
      · have s1 := g26.1 c26
        refine wl_ite (fun c30 => ?_) (fun c30 => ?_)
        · have s2 := g30.1 c30
          refine wl_ite (fun c34 => ?_) (fun c34 => ?_)
          · have s3 := g34.1 c34
            refine wl_pI rfl rfl ?_
            rw [if_pos c18, if_pos c26, if_pos c30, if_pos c34]
            refine wl_pI rfl rfl (wl_some (fin _ _ ?_))
            have e : wkd c b q = -1 := by unfold wkd; rw [if_neg (bft s0), if_neg (bft s1), if_neg (bft s2), if_neg (bft s3), if_neg (bft s4)]
            rw [e, l32_6, l32_4]; unfold COR; omega
          · refine wl_pI rfl rfl ?_
            rw [if_pos c18, if_pos c26, if_pos c30, if_neg c34]
            refine wl_pI rfl rfl (wl_some (fin _ _ ?_))
            have e : wkd c b q = 7 := by unfold wkd; rw [if_neg (bft s0), if_neg (bft s1), if_neg (bft s2), if_pos (g34.2.1 c34)]
            rw [e, l32_4, l32_3]; unfold COR; omega
        · refine wl_pI rfl rfl ?_
          rw [if_pos c18, if_pos c26, if_neg c30]
          refine wl_pI rfl rfl (wl_some (fin _ _ ?_))
          have e : wkd c b q = 6 := by unfold wkd; rw [if_neg (bft s0), if_neg (bft s1), if_pos (g30.2.1 c30)]
          rw [e, l32_4, l32_2]; unfold COR; omega
      · refine wl_pI rfl rfl ?_
        rw [if_pos c18, if_neg c26]
        refine wl_pI rfl rfl (wl_some (fin _ _ ?_))
        have e : wkd c b q = 5 := by unfold wkd; rw [if_neg (bft s0), if_pos (g26.2.1 c26)]
        rw [e, l32_4, l32_1]; unfold COR; omega
    · have s4 := g22.2.1 c22
      have q2 : q = b + 2 := by
        by_cases z : q = b + ([105, 110] : List Int).length
        · exact z
        · rw [spl_len z] at s4; cases s4
      have s1 : spl c b q [101, 108, 115, 101] = false := spl_len (by show q ≠ b + 4; omega)
      have s2 : spl c b q [119, 104, 105, 108, 101] = false := spl_len (by show q ≠ b + 5; omega)
      have s3 : spl c b q [97, 115, 115, 101, 114, 116] = false := spl_len (by show q ≠ b + 6; omega)
      refine wl_pI rfl rfl ?_
      rw [if_pos c18, if_pos (g26.2.2 s1), if_pos (g30.2.2 s2), if_pos (g34.2.2 s3)]
      refine wl_pI rfl rfl (wl_some (fin _ _ ?_))
      have e : wkd c b q = 8 := by unfold wkd; rw [if_neg (bft s0), if_neg (bft s1), if_neg (bft s2), if_neg (bft s3), if_pos s4]
      rw [e, l32_4]; unfold COR; omega
  · refine wl_pI rfl rfl ?_
    rw [if_neg c18]
    refine wl_pI rfl rfl (wl_some (fin _ _ ?_))
    have e : wkd c b q = 4 := by unfold wkd; rw [if_pos (g18.2.1 c18)]
    rw [e, l32_4, l32_0]; unfold COR; omega
theorem nm_eq (x y : Int32) : (10 : Int32) * x + y - 48 = x * 10 + (y - 48) := by
  rw [Int32.mul_comm, Int32.sub_eq_add_neg, Int32.sub_eq_add_neg, Int32.add_assoc]
theorem cor_no {k t v : Int} (h : COR k t v) (hk : ¬ (1 ≤ k ∧ k ≤ 3)) : ¬ (1 ≤ t ∧ t ≤ 3) := by
  unfold COR at h
  omega
/-- reading on changes at, begin, token and value alone -/
def RDQ (I I' : IM) : Prop := ∀ x j, (x ≠ 373 ∨ (j < 28 ∨ 31 < j)) → I' x j = I x j
theorem RDQ.tx {I' : IM} (h : RDQ I I') (ht : TXQ c L I) : TXQ c L I' := ⟨by rw [h _ _ (by decide)]; exact ht.1, fun j hj => by rw [h _ _ (by omega)]; exact ht.2 j hj⟩
theorem u_word_0 (hR : QR R) {I0 : IM} (ht0 : TXQ c L I0) {b : Nat} (hb : (I0 373 29).toInt = b) (hL2 : L ≤ 200) (hbL : b < L) (hbl : ltr (c b)) {Q : WW → Prop} (k : ∀ (I' : IM) (q : Nat), RDQ I0 I' → I' 373 29 = I0 373 29 → (I' 373 28).toInt = q → FS (fun j => j < L ∧ ltr (c j)) b q → COR (wk c b q) (I' 373 30).toInt (I' 373 31).toInt → VQ c b q (I' 373 30) (I' 373 31) → Q (mk I' J R)) : ∀ (n : Nat) (I : IM) (a : Nat), (∀ x j, (x ≠ 373 ∨ j ≠ 28) → I x j = I0 x j) → (I 373 28).toInt = a → b ≤ a → a ≤ L → (∀ j, b ≤ j → j < a → j < L ∧ ltr (c j)) → wl (f_q_word_0 n 373 (mk I J R)) Q := by
  intro n
  induction n with
  | zero => intro I a e ha h1 h2 h3; exact wl_none
  | succ n ih =>
    intro I a e ha h1 h2 h3
    have ht : TXQ c L I := RDQ.tx (fun x j hx => e x j (by omega)) ht0
    have hb' : (I 373 29).toInt = b := by rw [e _ _ (by decide)]; exact hb
    have tail : ¬ (a < L ∧ ltr (c a)) → wl (f_q_word_55 373 (c b) (if a = b + 1 then 1 else 0) (mk I J R)) Q := by
      intro z
      have hf : FS (fun j => j < L ∧ ltr (c j)) b a := ⟨h1, h3, z⟩
      have fin : ∀ t v : Int32, COR (wk c b a) t.toInt v.toInt → VQ c b a t v → Q (mk (up2 (up2 I 373 30 t) 373 31 v) J R) := by
        intro t v hc hv
        refine k _ a (fun x j hx => ?_) ?_ ?_ hf ?_ (by rw [up2_nek (by decide), up2_s, up2_s]; exact hv)
        · rw [up2_ne _ _ (by omega), up2_ne _ _ (by omega), e _ _ (by omega)]
        · rw [up2_nek (by decide), up2_nek (by decide), e _ _ (by decide)]
        · rw [up2_nek (by decide), up2_nek (by decide)]; exact ha
        · rw [up2_nek (by decide), up2_s, up2_s]; exact hc
      unfold f_q_word_55
      by_cases y : a = b + 1
      · rw [if_pos y]
        have w1 : wk c b a = wk1 (c b).toInt := by unfold wk; rw [if_pos y]
        have h88 : ¬ (97 ≤ (c b).toInt ∧ (c b).toInt ≤ 102) → wl (f_q_word_88 373 (c b) 1 (mk I J R)) Q := by
          intro n1
          unfold f_q_word_88
          rw [if_neg (by decide)]
          refine wl_bd2 (u_in (fun z => ?_) (fun z => ?_))
          · rw [l64_65, l64_66] at z
            dsimp only
            rw [if_neg (by decide)]
            refine wl_pI rfl rfl (wl_pI rfl rfl (wl_some (fin _ _ ?_ ⟨fun z => by rw [l32_3] at z; omega, fun z => by rw [l32_3] at z; omega, fun _ => rfl⟩)))
            have e3 : wk c b a = 3 := by rw [w1]; unfold wk1; rw [if_neg n1, if_pos (by omega)]
            rw [e3, l32_3]; unfold COR; omega
          · rw [l64_65, l64_66] at z
            dsimp only
            rw [if_pos rfl]
            refine u_word_120 hR ht hb' ha h1 h2 hL2 (fun t v hc => fin t v ?_ (VQ.no (cor_no hc (by have := wkd_no (c := c) (b := b) (q := a); omega))))
            have e3 : wk c b a = -1 := by rw [w1]; unfold wk1; rw [if_neg n1, if_neg (by omega)]
            have s0 : spl c b a [105, 102] = false := spl_len (by show a ≠ b + 2; omega)
            have s1 : spl c b a [101, 108, 115, 101] = false := spl_len (by show a ≠ b + 4; omega)
            have s2 : spl c b a [119, 104, 105, 108, 101] = false := spl_len (by show a ≠ b + 5; omega)
            have s3 : spl c b a [97, 115, 115, 101, 114, 116] = false := spl_len (by show a ≠ b + 6; omega)
            have s4 : spl c b a [105, 110] = false := spl_len (by show a ≠ b + 2; omega)
            have e4 : wkd c b a = -1 := by unfold wkd; rw [if_neg (bft s0), if_neg (bft s1), if_neg (bft s2), if_neg (bft s3), if_neg (bft s4)]
            rw [e3, ← e4]; exact hc
        rw [if_neg (by decide)]
        refine wl_bd2 (u_in (fun z => ?_) (fun z => ?_))
        · rw [l64_97, l64_102] at z
          dsimp only
          rw [if_neg (by decide)]
          refine wl_pI rfl rfl (wl_pI rfl rfl (wl_some (fin _ _ ?_ ⟨fun z => by rw [l32_2] at z; omega, fun _ => rfl, fun z => by rw [l32_2] at z; omega⟩)))
          have e3 : wk c b a = 2 := by rw [w1]; unfold wk1; rw [if_pos z]
          rw [e3, l32_2]; unfold COR; omega
        · rw [l64_97, l64_102] at z
          dsimp only
          rw [if_pos rfl]
          exact h88 z
      · rw [if_neg y, if_pos rfl]
        unfold f_q_word_88
        rw [if_pos rfl]
        refine u_word_120 hR ht hb' ha h1 h2 hL2 (fun t v hc => fin t v ?_ (VQ.no (cor_no hc (by have := wkd_no (c := c) (b := b) (q := a); omega))))
        have w1 : wk c b a = wkd c b a := by unfold wk; rw [if_neg y]
        rw [w1]; exact hc
    have tail2 : ¬ (a < L ∧ ltr (c a)) → wl ((gN (mk I J R) 373 9 0).bind fun x7 => (gI (mk I J R) 373 9 29).bind fun x8 => (rI (mk I J R) x7 0 x8).bind fun x9 => (gI (mk I J R) 373 9 28).bind fun x10 => (gI (mk I J R) 373 9 29).bind fun x11 => if x10 = (x11 + (1 : Int32)) then f_q_word_55 373 x9 (1 : Int32) (mk I J R) else f_q_word_55 373 x9 (0 : Int32) (mk I J R)) Q := by
      intro z
      have t := tail z
      refine wq_0 hR (wl_gI rfl rfl rfl (wl_rI (n := 200) rfl (fun hr => wl_gI rfl rfl rfl (wl_gI rfl rfl rfl ?_))))
      rw [tnat hb', ht.2 b hbL]
      have x1 : (I 373 29 + 1).toInt = (b : Int) + 1 := by rw [i32addc (by rw [hb', l32_1]; omega), hb', l32_1]
      refine wl_ite (fun y => ?_) (fun y => ?_)
      · rw [i32eq, ha, x1] at y
        rw [if_pos (by omega)] at t
        exact t
      · rw [i32eq, ha, x1] at y
        rw [if_neg (by omega)] at t
        exact t
    rw [f_q_word_0]
    refine wl_gI rfl rfl rfl (wl_bd2 (u_charAt hR ht ha (fun z => wl_bd2 (u_isLetter (fun y => ?_) (fun y => ?_))) (fun z => wl_bd2 (u_isLetter (fun y => ?_) (fun y => ?_)))))
    · dsimp only
      rw [if_neg (by decide)]
      have x5 : (I 373 28 + 1).toInt = ((a + 1 : Nat) : Int) := by rw [i32addc (by rw [ha, l32_1]; omega), ha, l32_1]; omega
      refine wl_gI rfl rfl rfl (wl_pI rfl rfl (ih _ (a + 1) (fun x j hj => ?_) (by rw [up2_s]; exact x5) (by omega) (by omega) (fun j j1 j2 => ?_)))
      · rw [up2_ne _ _ (by omega)]; exact e x j hj
      · by_cases y2 : j = a
        · subst y2; exact ⟨z, y⟩
        · exact h3 j j1 (by omega)
    · dsimp only
      rw [if_pos rfl]
      exact tail2 (fun y2 => y y2.2)
    · exfalso
      have y' : ltr (32 : Int32) := y
      unfold ltr at y'
      rw [l32_32] at y'
      omega
    · dsimp only
      rw [if_pos rfl]
      exact tail2 (fun y2 => by have := y2.1; omega)
theorem u_read_104 (hR : QR R) {I0 : IM} (ht0 : TXQ c L I0) {b : Nat} (hb : (I0 373 29).toInt = b) (hL2 : L ≤ 200) (hbL : b < L) (h30 : (I0 373 30).toInt = 1) {Q : WW → Prop} (k : ∀ (I' : IM) (q : Nat), RDQ I0 I' → I' 373 29 = I0 373 29 → (I' 373 28).toInt = q → FS (fun j => j < L ∧ j < b + 9 ∧ dgt (c j)) b q → COR 1 (I' 373 30).toInt (I' 373 31).toInt → I' 373 31 = nmv c b (q - b) → Q (mk I' J R)) : ∀ (n : Nat) (I : IM) (a : Nat), (∀ x j, (x ≠ 373 ∨ (j ≠ 28 ∧ j ≠ 31)) → I x j = I0 x j) → I 373 31 = nmv c b (a - b) → (I 373 28).toInt = a → b ≤ a → a ≤ L → (∀ j, b ≤ j → j < a → j < L ∧ j < b + 9 ∧ dgt (c j)) → wl (f_q_read_104 n 373 (mk I J R)) Q := by
  intro n
  induction n with
  | zero => intro I a e e31 ha h1 h2 h3; exact wl_none
  | succ n ih =>
    intro I a e e31 ha h1 h2 h3
    have ht : TXQ c L I := RDQ.tx (fun x j hx => e x j (by omega)) ht0
    have hb' : (I 373 29).toInt = b := by rw [e _ _ (by decide)]; exact hb
    have fin : ¬ (a < L ∧ a < b + 9 ∧ dgt (c a)) → wl (f_q_read_356 (mk I J R)) Q := by
      intro z
      unfold f_q_read_356
      refine wl_some (k I a (fun x j hx => e x j (by omega)) (e _ _ (by decide)) ha ⟨h1, h3, z⟩ ?_ e31)
      rw [e 373 30 (by decide), h30]
      exact Or.inr (Or.inl ⟨rfl, rfl⟩)
    rw [f_q_read_104]
    refine wl_gI rfl rfl rfl (wl_bd2 (u_charAt hR ht ha (fun z => wl_bd2 (u_isDigit (fun y => ?_) (fun y => ?_))) (fun z => wl_bd2 (u_isDigit (fun y => ?_) (fun y => ?_)))))
    · dsimp only
      rw [if_neg (by decide)]
      have x9 : (I 373 29 + 9).toInt = (b : Int) + 9 := by rw [i32addc (by rw [hb', l32_9]; omega), hb', l32_9]
      refine wl_gI rfl rfl rfl (wl_gI rfl rfl rfl (wl_ite (fun c2 => fin ?_) (fun c2 => ?_)))
      · rw [i32le, x9, ha] at c2; omega
      · rw [i32le, x9, ha] at c2
        have x5 : (I 373 28 + 1).toInt = ((a + 1 : Nat) : Int) := by rw [i32addc (by rw [ha, l32_1]; omega), ha, l32_1]; omega
        refine wl_gI rfl rfl rfl (wq_0 hR (wl_gI rfl rfl rfl (wl_rI (n := 200) rfl (fun hr => wl_pI rfl rfl (wl_gI rfl rfl (up2_nek (by decide)) (wl_pI rfl rfl (ih _ (a + 1) (fun x j hj => ?_) ?_ (by rw [up2_s]; exact x5) (by omega) (by omega) (fun j j1 j2 => ?_))))))))
        · rw [up2_ne _ _ (by omega), up2_ne _ _ (by omega)]; exact e x j hj
        · have ea : a + 1 - b = (a - b) + 1 := by omega
          have eb : b + (a - b) = a := by omega
          rw [up2_nek (by decide), up2_s, ea, e31, tnat ha, ht.2 a z, nm_eq]
          show _ = nmv c b (a - b) * 10 + (c (b + (a - b)) - 48)
          rw [eb]
        · by_cases y2 : j = a
          · subst y2; exact ⟨z, by omega, y⟩
          · exact h3 j j1 (by omega)
    · dsimp only
      rw [if_pos rfl]
      exact fin (fun y2 => y y2.2.2)
    · exfalso
      have y' : dgt (32 : Int32) := y
      unfold dgt at y'
      rw [l32_32] at y'
      omega
    · dsimp only
      rw [if_pos rfl]
      exact fin (fun y2 => by have := y2.1; omega)
theorem u_read_258 (hR : QR R) {b : Nat} (ha : (I 373 28).toInt = b) (hL2 : L ≤ 200) (hbL : b < L) {Q : WW → Prop} (k : ∀ (I' : IM) (q : Nat) (kk : Int), RDQ I I' → I' 373 29 = I 373 29 → (I' 373 28).toInt = q → SG c L b q kk → COR kk (I' 373 30).toInt (I' 373 31).toInt → Q (mk I' J R)) (hn : ¬ PAIR c L b) : wl (f_q_read_258 373 (c b) 0 373 (c b) (mk I J R)) Q := by
  have x5 : (I 373 28 + 1).toInt = (b : Int) + 1 := by rw [i32addc (by rw [ha, l32_1]; omega), ha, l32_1]
  have fin : ∀ (t : Int32) (kk : Int), ((SGN (c b).toInt ∧ kk = (c b).toInt) ∨ (¬ SGN (c b).toInt ∧ kk = -1)) → COR kk t.toInt (c b).toInt → wl (f_q_read_335 373 0 373 t (mk (up2 I 373 31 (c b)) J R)) Q := by
    intro t kk h1 h2
    unfold f_q_read_335 f_q_read_352 f_q_read_356
    refine wl_pI rfl rfl (wl_gI rfl rfl ((up2_nek (by decide)).trans (up2_nek (by decide))) ?_)
    rw [if_pos rfl]
    refine wl_pI rfl rfl (wl_some (k _ (b + 1) kk (fun x j hx => ?_) ?_ ?_ (Or.inl ⟨hn, rfl, h1⟩) ?_))
    · rw [up2_ne _ _ (by omega), up2_ne _ _ (by omega), up2_ne _ _ (by omega)]
    · rw [up2_nek (by decide), up2_nek (by decide), up2_nek (by decide)]
    · rw [up2_s, x5]; omega
    · rw [up2_nek (by decide), up2_s, up2_nek (by decide), up2_nek (by decide), up2_s]; exact h2
  have good : SGN (c b).toInt → wl (f_q_read_329 373 0 373 (mk (up2 I 373 31 (c b)) J R)) Q := by
    intro h
    unfold f_q_read_329
    refine fin 5 _ (Or.inl ⟨h, rfl⟩) ?_
    unfold SGN at h
    rw [l32_5]
    exact Or.inr (Or.inr (Or.inr (Or.inr (Or.inr (Or.inl ⟨rfl, rfl, h⟩)))))
  unfold f_q_read_258
  refine wl_pI rfl rfl ?_
  rw [if_pos rfl]
  refine wl_bd2 (u_isOperator (fun z => ?_) (fun z1 => ?_))
  · dsimp only
    rw [if_neg (by decide)]
    exact good (by unfold SGN; omega)
  dsimp only
  rw [if_pos rfl]
  refine wl_bd2 (u_in (fun z => ?_) (fun z2 => ?_))
  · rw [l64_40, l64_41] at z
    dsimp only
    rw [if_neg (by decide)]
    exact good (by unfold SGN; omega)
  rw [l64_40, l64_41] at z2
  dsimp only
  rw [if_pos rfl]
  refine wl_ite (fun z => good ?_) (fun z3 => wl_ite (fun z => good ?_) (fun z4 => wl_ite (fun z => good ?_) (fun z5 => wl_ite (fun z => good ?_) (fun z6 => wl_ite (fun z => good ?_) (fun z7 => wl_ite (fun z => good ?_) (fun z8 => wl_ite (fun z => good ?_) (fun z9 => fin 6 (-1) (Or.inr ⟨?_, rfl⟩) ?_)))))))
  · rw [i32eq, l32_91] at z; unfold SGN; omega
  · rw [i32eq, l32_93] at z; unfold SGN; omega
  · rw [i32eq, l32_123] at z; unfold SGN; omega
  · rw [i32eq, l32_125] at z; unfold SGN; omega
  · rw [i32eq, l32_59] at z; unfold SGN; omega
  · rw [i32eq, l32_61] at z; unfold SGN; omega
  · rw [i32eq, l32_60] at z; unfold SGN; omega
  · rw [i32eq, l32_91] at z3
    rw [i32eq, l32_93] at z4
    rw [i32eq, l32_123] at z5
    rw [i32eq, l32_125] at z6
    rw [i32eq, l32_59] at z7
    rw [i32eq, l32_61] at z8
    rw [i32eq, l32_60] at z9
    unfold SGN; omega
  · rw [l32_6]; unfold COR; omega
theorem u_read_258b (hR : QR R) {b : Nat} (ha : (I 373 28).toInt = b) (hL2 : L ≤ 200) {Q : WW → Prop} (k : ∀ (I' : IM) (q : Nat) (kk : Int), RDQ I I' → I' 373 29 = I 373 29 → (I' 373 28).toInt = q → SG c L b q kk → COR kk (I' 373 30).toInt (I' 373 31).toInt → Q (mk I' J R)) (hp : PAIR c L b) {v : Int32} (hv : ((c b).toInt = 61 ∧ v.toInt = 1000) ∨ ((c b).toInt = 33 ∧ v.toInt = 1001) ∨ ((c b).toInt = 60 ∧ v.toInt = 1002)) : wl (f_q_read_258 373 (c b) 1 373 v (mk I J R)) Q := by
  have hp1 := hp.1
  have x5 : (I 373 28 + 2).toInt = (b : Int) + 2 := by rw [i32addc (by rw [ha, l32_2]; omega), ha, l32_2]
  unfold f_q_read_258 f_q_read_329 f_q_read_335 f_q_read_352 f_q_read_356
  refine wl_pI rfl rfl ?_
  rw [if_neg (by decide)]
  refine wl_pI rfl rfl (wl_gI rfl rfl ((up2_nek (by decide)).trans (up2_nek (by decide))) ?_)
  rw [if_neg (by decide)]
  refine wl_pI rfl rfl (wl_some (k _ (b + 2) (v.toInt - 744) (fun x j hx => ?_) ?_ ?_ (Or.inr ⟨hp, rfl, ?_⟩) ?_))
  · rw [up2_ne _ _ (by omega), up2_ne _ _ (by omega), up2_ne _ _ (by omega)]
  · rw [up2_nek (by decide), up2_nek (by decide), up2_nek (by decide)]
  · rw [up2_s, x5]; omega
  · omega
  · rw [up2_nek (by decide), up2_s, up2_nek (by decide), up2_nek (by decide), up2_s, l32_5]; unfold COR; omega
theorem u_read_52 (hR : QR R) (ht : TXQ c L I) {p b : Nat} (ha : (I 373 28).toInt = b) (hL2 : L ≤ 200) (hbL : b ≤ L) (hf : FS (fun j => j < L ∧ blk (c j)) p b) {Q : WW → Prop} (k : ∀ (I' : IM) (q : Nat) (kk : Int), RDQ I I' → (I' 373 29).toInt = b → (I' 373 28).toInt = q → TK c L p b q kk → COR kk (I' 373 30).toInt (I' 373 31).toInt → VQ c b q (I' 373 30) (I' 373 31) → Q (mk I' J R)) : wl (f_q_read_52 373 (mk I J R)) Q := by
  generalize hI2 : up2 (up2 (up2 I 373 29 (I 373 28)) 373 30 0) 373 31 0 = I2
  have e2 : ∀ x j, (x ≠ 373 ∨ (j ≠ 29 ∧ j ≠ 30 ∧ j ≠ 31)) → I2 x j = I x j := fun x j hj => by rw [← hI2, up2_ne _ _ (by omega), up2_ne _ _ (by omega), up2_ne _ _ (by omega)]
  have a2 : (I2 373 28).toInt = b := by rw [e2 _ _ (by decide)]; exact ha
  have b2 : (I2 373 29).toInt = b := by rw [← hI2, up2_nek (by decide), up2_nek (by decide), up2_s]; exact ha
  have t2 : I2 373 30 = 0 := by rw [← hI2, up2_nek (by decide), up2_s]
  have ht2 : TXQ c L I2 := RDQ.tx (fun x j hx => e2 x j (by omega)) ht
  unfold f_q_read_52
  refine wl_gI rfl rfl rfl (wl_pI rfl rfl (wl_pI rfl rfl (wl_pI rfl rfl ?_)))
  rw [hI2]
  refine wl_gI rfl rfl rfl (wl_gI rfl rfl rfl (wl_ite (fun z => ?_) (fun z => ?_)))
  · rw [i32eq, a2, ht2.1] at z
    refine wl_some (k I2 b 0 (fun x j hx => e2 x j (by omega)) b2 a2 ⟨hf, Or.inl ⟨by omega, rfl, rfl⟩⟩ (Or.inl ⟨rfl, ?_⟩) (VQ.no (by rw [t2, l32_0]; omega)))
    rw [t2]; exact l32_0
  rw [i32eq, a2, ht2.1] at z
  have hbL' : b < L := by omega
  have sg : ¬ dgt (c b) → ¬ ltr (c b) → ∀ (I' : IM) (q : Nat) (kk : Int), RDQ I2 I' → I' 373 29 = I2 373 29 → (I' 373 28).toInt = q → SG c L b q kk → COR kk (I' 373 30).toInt (I' 373 31).toInt → Q (mk I' J R) := by
    intro hd hl I' q kk e' e29 hq hs hc
    exact k I' q kk (fun x j hx => by rw [e' x j hx, e2 x j (by omega)]) (by rw [e29]; exact b2) hq ⟨hf, Or.inr (Or.inr (Or.inr ⟨hbL', hd, hl, hs⟩))⟩ hc (VQ.no (cor_no hc hs.no))
  refine wq_0 hR (wl_gI rfl rfl rfl (wl_rI (n := 200) rfl (fun hr => ?_)))
  rw [tnat a2, ht2.2 b hbL']
  refine wl_bd2 (u_isDigit (fun hd => ?_) (fun hd => ?_))
  · dsimp only
    rw [if_neg (by decide)]
    refine wl_pI rfl rfl (u_read_104 hR (I0 := up2 I2 373 30 1) (c := c) (L := L) (b := b) ?_ ?_ hL2 hbL' (by rw [up2_s]; exact l32_1) (fun I' q e' e29 hq hfs hc h31 => ?_) KK _ b (fun _ _ _ => rfl) (by rw [up2_nek (by decide), ← hI2, up2_s, show b - b = 0 by omega]; rfl) (by rw [up2_nek (by decide)]; exact a2) (Nat.le_refl _) hbL (fun j j1 j2 => by omega))
    · exact RDQ.tx (fun x j hx => up2_ne _ _ (by omega)) ht2
    · rw [up2_nek (by decide)]; exact b2
    · refine k I' q 1 (fun x j hx => ?_) ?_ hq ⟨hf, Or.inr (Or.inl ⟨hbL', hd, rfl, hfs⟩)⟩ hc ⟨fun _ => h31, fun z => by unfold COR at hc; omega, fun z => by unfold COR at hc; omega⟩
      · rw [e' x j hx, up2_ne _ _ (by omega), e2 x j (by omega)]
      · rw [e29, up2_nek (by decide)]; exact b2
  dsimp only
  rw [if_pos rfl]
  refine wl_bd2 (u_isLetter (fun hl => ?_) (fun hl => ?_))
  · dsimp only
    rw [if_neg (by decide)]
    refine wl_bd ?_
    unfold f_q_word f_q_read_356
    refine wl_kb (u_word_0 hR (I0 := I2) ht2 b2 hL2 hbL' hl (fun I' q e' e29 hq hfs hc hv => ?_) KK I2 b (fun _ _ _ => rfl) a2 (Nat.le_refl _) hbL (fun j j1 j2 => by omega))
    refine wl_some (k I' q (wk c b q) (fun x j hx => ?_) ?_ hq ⟨hf, Or.inr (Or.inr (Or.inl ⟨hbL', hd, hl, hfs, rfl⟩))⟩ hc hv)
    · rw [e' x j hx, e2 x j (by omega)]
    · rw [e29]; exact b2
  dsimp only
  rw [if_pos rfl]
  have zero : ¬ PAIR c L b → wl (f_q_read_220 373 (c b) (mk I2 J R)) Q := by
    intro hn
    unfold f_q_read_220 f_q_read_221
    rw [if_pos rfl]
    exact u_read_258 hR a2 hL2 hbL' (sg hd hl) hn
  have h201 : ((c b).toInt = 61 ∨ (c b).toInt = 33 ∨ (c b).toInt = 60) → wl (f_q_read_201 373 (c b) (mk I2 J R)) Q := by
    intro h3
    have x1 : (I2 373 28 + 1).toInt = ((b + 1 : Nat) : Int) := by rw [i32addc (by rw [a2, l32_1]; omega), a2, l32_1]; omega
    unfold f_q_read_201
    refine wl_gI rfl rfl rfl (wl_bd2 (u_charAt hR ht2 x1 (fun y => ?_) (fun y => ?_)))
    · dsimp only
      refine wl_ite (fun z2 => ?_) (fun z2 => zero ?_)
      · rw [i32eq, l32_61] at z2
        have hp : PAIR c L b := ⟨y, z2, h3⟩
        unfold f_q_read_221
        rw [if_neg (by decide)]
        refine wl_ite (fun z3 => ?_) (fun z3 => wl_ite (fun z4 => ?_) (fun z4 => ?_))
        · rw [i32eq, l32_61] at z3
          exact u_read_258b hR a2 hL2 (sg hd hl) hp (Or.inl ⟨z3, l32_1000⟩)
        · rw [i32eq, l32_33] at z4
          exact u_read_258b hR a2 hL2 (sg hd hl) hp (Or.inr (Or.inl ⟨z4, l32_1001⟩))
        · rw [i32eq, l32_61] at z3
          rw [i32eq, l32_33] at z4
          exact u_read_258b hR a2 hL2 (sg hd hl) hp (Or.inr (Or.inr ⟨by omega, l32_1002⟩))
      · rw [i32eq, l32_61] at z2
        intro hp
        exact z2 hp.2.1
    · dsimp only
      rw [if_neg (by decide)]
      exact zero (fun hp => by have := hp.1; omega)
  refine wl_ite (fun z1 => h201 ?_) (fun z1 => wl_ite (fun z2 => h201 ?_) (fun z2 => wl_ite (fun z3 => h201 ?_) (fun z3 => zero ?_)))
  · rw [i32eq, l32_61] at z1; omega
  · rw [i32eq, l32_33] at z2; omega
  · rw [i32eq, l32_60] at z3; omega
  · rw [i32eq, l32_61] at z1
    rw [i32eq, l32_33] at z2
    rw [i32eq, l32_60] at z3
    intro hp
    have := hp.2.2
    omega
theorem u_read (hR : QR R) {I0 : IM} (ht0 : TXQ c L I0) {p : Nat} (hp : (I0 373 28).toInt = p) (hL2 : L ≤ 200) (hpL : p ≤ L) {Q : WW → Prop} (k : ∀ (I' : IM) (b q : Nat) (kk : Int), RDQ I0 I' → (I' 373 29).toInt = b → (I' 373 28).toInt = q → TK c L p b q kk → COR kk (I' 373 30).toInt (I' 373 31).toInt → VQ c b q (I' 373 30) (I' 373 31) → Q (mk I' J R)) : wl (f_q_read 373 (mk I0 J R)) Q := by
  have loop : ∀ (n : Nat) (I : IM) (a : Nat), (∀ x j, (x ≠ 373 ∨ j ≠ 28) → I x j = I0 x j) → (I 373 28).toInt = a → p ≤ a → a ≤ L → (∀ j, p ≤ j → j < a → j < L ∧ blk (c j)) → wl (f_q_read_0 n 373 (mk I J R)) Q := by
    intro n
    induction n with
    | zero => intro I a e ha h1 h2 h3; exact wl_none
    | succ n ih =>
      intro I a e ha h1 h2 h3
      have ht : TXQ c L I := RDQ.tx (fun x j hx => e x j (by omega)) ht0
      have tail : ¬ (a < L ∧ blk (c a)) → wl (f_q_read_52 373 (mk I J R)) Q := by
        intro z
        exact u_read_52 hR ht (p := p) (b := a) ha hL2 h2 ⟨h1, h3, z⟩ (fun I' q kk e' h29 hq hk hc hv => k I' a q kk (fun x j hx => by rw [e' x j hx, e x j (by omega)]) h29 hq hk hc hv)
      have go : a < L → blk (c a) → wl (f_q_read_39 (f_q_read_0 n) 373 (mk I J R)) Q := by
        intro z1 z2
        unfold f_q_read_39
        have x5 : (I 373 28 + 1).toInt = ((a + 1 : Nat) : Int) := by rw [i32addc (by rw [ha, l32_1]; omega), ha, l32_1]; omega
        refine wl_gI rfl rfl rfl (wl_pI rfl rfl (ih _ (a + 1) (fun x j hj => ?_) (by rw [up2_s]; exact x5) (by omega) (by omega) (fun j j1 j2 => ?_)))
        · rw [up2_ne _ _ (by omega)]; exact e x j hj
        · by_cases y : j = a
          · subst y; exact ⟨z1, z2⟩
          · exact h3 j j1 (by omega)
      rw [f_q_read_0]
      refine wl_gI rfl rfl rfl (wl_gI rfl rfl rfl (wl_ite (fun z => tail ?_) (fun z => ?_)))
      · rw [i32le, ht.1, ha] at z; omega
      · rw [i32le, ht.1, ha] at z
        refine wq_0 hR (wl_gI rfl rfl rfl (wl_rI (n := 200) rfl (fun hr => ?_)))
        rw [tnat ha, ht.2 a (by omega)]
        refine wl_ite (fun c2 => go (by omega) (Or.inl (by rw [c2]; exact l32_32))) (fun c2 => ?_)
        refine wq_0 hR (wl_gI rfl rfl rfl (wl_rI (n := 200) rfl (fun hr => ?_)))
        rw [tnat ha, ht.2 a (by omega)]
        refine wl_ite (fun c3 => go (by omega) (Or.inr (by rw [c3]; exact l32_10))) (fun c3 => tail ?_)
        rw [i32eq, l32_32] at c2
        rw [i32eq, l32_10] at c3
        intro y
        have := y.2
        unfold blk at this
        omega
  unfold f_q_read
  exact wl_kb (loop KK I0 p (fun _ _ _ => rfl) hp (Nat.le_refl _) hpL (fun j j1 j2 => by omega))
end QRD
