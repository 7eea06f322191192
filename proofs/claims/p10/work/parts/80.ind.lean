/-! The law by induction on the calls: what each call must keep. -/
def seq2 (Inv : WW → Prop) (r : Option (Int32 × WW)) (G : WW → Option (Int32 × WW)) : Prop := ∃ (k : Int32) (w1 : WW) (b : Int32) (w2 : WW), r = some (k, w1) ∧ G w1 = some (b, w2) ∧ Inv w2
def seqE (Inv : WW → Prop) (r : Option (Int32 × WW)) (G : WW → Option (Int32 × WW)) : Prop := ∃ (k : Int32) (w1 : WW) (w2 : WW), r = some (k, w1) ∧ G w1 = some (k, w2) ∧ Inv w2
def seq3 (Inv : WW → Prop) (r : Option (Int32 × WW)) (G : WW → Option (Int32 × WW)) : Prop := ∃ (k : Int32) (w1 : WW) (b : Int32) (w2 : WW) (w3 : WW), r = some (k, w1) ∧ G w1 = some (b, w2) ∧ f_q_thrown 373 w2 = some (k, w3) ∧ (k = 0 → rL w3 416 1 0 = some (Int32.toInt64 b)) ∧ Inv w3
theorem bd2_some {α β γ : Type} (a : α) (b : β) (f : α → β → Option γ) : bd2 (some (a, b)) f = f a b := rfl
theorem n_toInt {n : Nat} (h : n < 2000) : (Int32.ofNat n).toInt = n := by
  have h1 : ∀ n, n < 2000 → (Int32.ofNat n).toInt = n := by decide +kernel
  exact h1 n h
theorem n_cl {n : Nat} (h : n < 2000) : (Int32.ofNat n).toNatClampNeg = n := by
  have h1 : ∀ n, n < 2000 → (Int32.ofNat n).toNatClampNeg = n := by decide +kernel
  exact h1 n h
theorem n_add (n k : Nat) : Int32.ofNat n + Int32.ofNat k = Int32.ofNat (n + k) := (Int32.ofNat_add n k).symm
theorem sc_n {L : Nat} (hL : L ≤ 1536) (xs : Nat → Int32) {n : Nat} (h : n < L) : sc L xs (Int32.ofNat n) = some (xs n) := by
  unfold sc
  have h1 : ¬ (Int32.ofNat n < 0 ∨ L ≤ (Int32.ofNat n).toNatClampNeg) := by
    rw [n_cl (by omega), Int32.lt_iff_toInt_lt, n_toInt (by omega)]
    have : (0 : Int32).toInt = 0 := rfl
    omega
  rw [if_pos h1, n_cl (by omega)]
theorem end_n {L : Nat} (hL : L ≤ 1536) {n : Nat} (hn : n < 1999) : ((Int32.ofNat L) - (3 : Int32) < Int32.ofNat n) ↔ L < n + 3 := by
  have e : (Int32.ofNat L - 3).toInt = (L : Int) - 3 := by
    have h1 : ∀ L, L < 1537 → (Int32.ofNat L - 3).toInt = (L : Int) - 3 := by decide +kernel
    exact h1 L (by omega)
  rw [Int32.lt_iff_toInt_lt, e, n_toInt (by omega)]
  omega
def Steps (Inv : WW → Prop) : Prop := ∀ w : WW, Inv w → (∀ a : Int64, seq2 Inv (f_lw_text 0 a 416 w) (f_q_text 373 a)) ∧ seq2 Inv (f_a_clear 0 w) (f_q_clear 373) ∧ seq2 Inv (f_lw_parse 0 416 w) (f_q_parse 373) ∧ seq2 Inv (f_a_where 0 w) (f_q_where 373) ∧ (∀ a b : Int32, seq2 Inv (f_lw_choose 0 a b 416 w) (f_q_choose 373 a b)) ∧ (∀ a : Int32, seq2 Inv (f_lw_input 0 a 416 w) (f_q_input 373 a)) ∧ seq2 Inv (f_a_forget 0 w) (f_q_forget 373) ∧ (∀ a : Int32, seq2 Inv (f_lw_run 0 a 416 w) (f_q_run 373 a)) ∧ (∀ a : Int32, seq3 Inv (f_lw_ran 0 a 416 w) (f_q_ran 373 a)) ∧ seq2 Inv (f_lw_analyse 0 416 w) (f_q_analyse 373) ∧ (∀ a : Int32, seq2 Inv (f_lw_warning 0 a 416 w) (f_q_warning 373 a)) ∧ (∀ a b : Int32, seq2 Inv (f_lw_left 0 a b 416 w) (f_q_left_II 373 a b)) ∧ (∀ a : Int32, seq2 Inv (f_lw_count 0 a 416 w) (f_q_count 373 a))
theorem law_ind {Inv : WW → Prop} (H : Steps Inv) {L : Nat} (hL : L ≤ 1536) (xs : Nat → Int32) : ∀ (n i : Nat), i ≤ 512 → 513 ≤ i + n → ∀ w : WW, Inv w → ∃ w' : WW, f_lw_loop L xs n 0 373 416 (Int32.ofNat (3 * i)) w = some ((1 : Int32), w') := by
  intro n
  induction n with
  | zero => intro i h1 h2; omega
  | succ n ih =>
    intro i hi hn w hw
    obtain ⟨s0, s1, s2, s3, s4, s5, s6, s7, s8, s9, s10, s11, s12⟩ := H w hw
    rw [f_lw_loop]
    by_cases c : ((Int32.ofNat L) - (3 : Int32)) < Int32.ofNat (3 * i)
    · rw [if_pos c]; exact ⟨w, rfl⟩
    have c' := c
    rw [end_n hL (by omega)] at c'
    have e1 : Int32.ofNat (3 * i) + 1 = Int32.ofNat (3 * i + 1) := n_add (3 * i) 1
    have e2 : Int32.ofNat (3 * i) + 2 = Int32.ofNat (3 * i + 2) := n_add (3 * i) 2
    have e3 : Int32.ofNat (3 * i) + 3 = Int32.ofNat (3 * (i + 1)) := n_add (3 * i) 3
    have go : ∀ w2 : WW, Inv w2 → ∃ w' : WW, f_lw_loop L xs n 0 373 416 (Int32.ofNat (3 * (i + 1))) w2 = some ((1 : Int32), w') := fun w2 h2 => ih (i + 1) (by omega) (by omega) w2 h2
    rw [if_neg c, sc_n hL xs (by omega), Option.bind_some, e1, e2, e3]
    simp only [sc_n hL xs (show 3 * i + 1 < L by omega), sc_n hL xs (show 3 * i + 2 < L by omega), Option.bind_some]
    by_cases c0 : xs (3 * i) &&& 15 = 0
    · obtain ⟨k, w1, b, w2, h1, h2, h3⟩ := s0 (((Int32.toInt64 (xs (3 * i + 1))) <<< (Int32.toInt64 (32 : Int32) &&& 63)) ||| ((Int32.toInt64 (xs (3 * i + 2))) &&& (4294967295 : Int64)))
      rw [if_pos c0, h1, bd2_some, h2, bd2_some]; exact go w2 h3
    rw [if_neg c0]
    by_cases c1 : xs (3 * i) &&& 15 = 1
    · obtain ⟨k, w1, b, w2, h1, h2, h3⟩ := s1
      rw [if_pos c1, h1, bd2_some, h2, bd2_some]; exact go w2 h3
    rw [if_neg c1]
    by_cases c2 : xs (3 * i) &&& 15 = 2
    · obtain ⟨k, w1, b, w2, h1, h2, h3⟩ := s2
      rw [if_pos c2, h1, bd2_some, h2, bd2_some]; exact go w2 h3
    rw [if_neg c2]
    by_cases c3 : xs (3 * i) &&& 15 = 3
    · obtain ⟨k, w1, b, w2, h1, h2, h3⟩ := s3
      rw [if_pos c3, h1, bd2_some, h2, bd2_some]; exact go w2 h3
    rw [if_neg c3]
    by_cases c4 : xs (3 * i) &&& 15 = 4
    · obtain ⟨k, w1, b, w2, h1, h2, h3⟩ := s4 (xs (3 * i + 1)) (xs (3 * i + 2))
      rw [if_pos c4, h1, bd2_some, h2, bd2_some]; exact go w2 h3
    rw [if_neg c4]
    by_cases c5 : xs (3 * i) &&& 15 = 5
    · obtain ⟨k, w1, b, w2, h1, h2, h3⟩ := s5 (xs (3 * i + 1))
      rw [if_pos c5, h1, bd2_some, h2, bd2_some]; exact go w2 h3
    rw [if_neg c5]
    by_cases c6 : xs (3 * i) &&& 15 = 6
    · obtain ⟨k, w1, b, w2, h1, h2, h3⟩ := s6
      rw [if_pos c6, h1, bd2_some, h2, bd2_some]; exact go w2 h3
    rw [if_neg c6]
    by_cases c7 : xs (3 * i) &&& 15 = 7
    · obtain ⟨k, w1, b, w2, h1, h2, h3⟩ := s7 (xs (3 * i + 1))
      rw [if_pos c7, h1, bd2_some, h2, bd2_some]; exact go w2 h3
    rw [if_neg c7]
    by_cases c8 : xs (3 * i) &&& 15 = 8
    · obtain ⟨k, w1, b, w2, w3, h1, h2, h3, h4, h5⟩ := s8 (xs (3 * i + 1))
      rw [if_pos c8, h1, bd2_some, h2, bd2_some, h3, bd2_some, if_pos rfl]
      by_cases ck : k = 0
      · rw [if_pos ck, h4 ck, Option.bind_some, if_pos rfl]; exact go w3 h5
      · rw [if_neg ck]; exact go w3 h5
    rw [if_neg c8]
    by_cases c9 : xs (3 * i) &&& 15 = 9
    · obtain ⟨k, w1, b, w2, h1, h2, h3⟩ := s9
      rw [if_pos c9, h1, bd2_some, h2, bd2_some]; exact go w2 h3
    rw [if_neg c9]
    by_cases c10 : xs (3 * i) &&& 15 = 10
    · obtain ⟨k, w1, b, w2, h1, h2, h3⟩ := s10 (xs (3 * i + 1))
      rw [if_pos c10, h1, bd2_some, h2, bd2_some]; exact go w2 h3
    rw [if_neg c10]
    by_cases c11 : xs (3 * i) &&& 15 = 11
    · obtain ⟨k, w1, b, w2, h1, h2, h3⟩ := s11 (xs (3 * i + 1)) (xs (3 * i + 2))
      rw [if_pos c11, h1, bd2_some, h2, bd2_some]; exact go w2 h3
    rw [if_neg c11]
    by_cases c12 : xs (3 * i) &&& 15 = 12
    · obtain ⟨k, w1, b, w2, h1, h2, h3⟩ := s12 (xs (3 * i + 1))
      rw [if_pos c12, h1, bd2_some, h2, bd2_some]; exact go w2 h3
    rw [if_neg c12]
    exact go w hw
