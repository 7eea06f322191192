/-! The reference: STATEMENTS are parsed: what of a PROGRAM holds meanwhile. -/
section STS
variable {I I' : IM} {J : JM} {R : RM} {H : Nat} {d : Nat → Nat}
def EB (I : IM) (s l2 lim : Nat) : Prop := ((I 376 s).toInt ≠ 1 → (l2 : Int) ≤ (I 379 s).toInt ∧ (I 380 s).toInt ≤ lim) ∧ (2 ≤ (I 376 s).toInt → (l2 : Int) ≤ (I 381 s).toInt ∧ (I 382 s).toInt ≤ lim)
def ud (d : Nat → Nat) (hi v : Nat) : Nat → Nat := fun i => if i = hi then v else d i
theorem NX.up {hi top s t v : Nat} {x : Int32} (h : NX d top s x t) (ht : top ≤ hi) : NX (ud d hi v) (hi + 1) s x t := by
  rcases h with h | h
  · exact Or.inl h
  · refine Or.inr ⟨h.1, by omega, ?_⟩
    unfold ud; rw [if_neg (by omega)]; exact h.2.2
theorem NX.mono {top top' s t : Nat} {x : Int32} (h : NX d top s x t) (ht : top ≤ top') : NX d top' s x t := by
  rcases h with h | h
  · exact Or.inl h
  · exact Or.inr ⟨h.1, by omega, h.2.2⟩
theorem SE.st {s l2 lim : Nat} (h : ST I s) (hb : EB I s l2 lim) (e : ∀ x, 376 ≤ x → x ≤ 382 → I' x s = I x s) (f : ∀ x j, 391 ≤ x → x ≤ 393 → l2 ≤ j → j < lim → I' x j = I x j) : ST I' s ∧ EB I' s l2 lim := by
  have e6 := e 376 (by decide) (by decide)
  have e7 := e 377 (by decide) (by decide)
  have e8 := e 378 (by decide) (by decide)
  have e9 := e 379 (by decide) (by decide)
  have e0 := e 380 (by decide) (by decide)
  have e1 := e 381 (by decide) (by decide)
  have e2 := e 382 (by decide) (by decide)
  constructor
  · unfold ST
    rw [e6, e7, e8]
    refine ⟨h.1, h.2.1, h.2.2.1, h.2.2.2.1, fun z => ?_, fun z => ?_⟩
    · have q := h.2.2.2.2.1 z
      have b := hb.1 z
      unfold E1; rw [e9, e0]
      have q1 := q.a
      exact ⟨q.1, q.2.1, q.2.2.congr (fun x k x1 x2 k1 k2 => f x k x1 x2 (by omega) (by omega))⟩
    · have q := h.2.2.2.2.2 z
      have b := hb.2 z
      unfold E2; rw [e1, e2]
      have q1 := q.a
      exact ⟨q.1, q.2.1, q.2.2.congr (fun x k x1 x2 k1 k2 => f x k x1 x2 (by omega) (by omega))⟩
  · unfold EB; rw [e6, e9, e0, e1, e2]; exact hb
theorem EB.mono {s l2 lim lim' : Nat} (h : EB I s l2 lim) (hl : lim ≤ lim') : EB I s l2 lim' := ⟨fun z => by have := h.1 z; omega, fun z => by have := h.2 z; omega⟩
/-- one complete STATEMENT, while another is linked in behind or below it -/
theorem SE.link {hi s l2 lim v : Nat} (h : SL I d hi s) (hb : EB I s l2 lim) (hs : s < hi) (e : ∀ x, 376 ≤ x → x ≤ 382 → I' x s = I x s) (e7 : I' 387 s = I 387 s) (f : ∀ x j, 391 ≤ x → x ≤ 393 → l2 ≤ j → j < lim → I' x j = I x j) (n : I' 386 s = I 386 s ∨ ((I' 386 s).toInt = hi ∧ v = d s)) (b : I' 384 s = I 384 s ∨ ((I' 384 s).toInt = hi ∧ v = d s + 1)) (o : I' 385 s = I 385 s ∨ ((I' 385 s).toInt = hi ∧ v = d s + 1)) : SL I' (ud d hi v) (hi + 1) s ∧ EB I' s l2 lim := by
  obtain ⟨h1, h2, h3, h4, h5⟩ := h
  obtain ⟨s1, s2⟩ := SE.st h1 hb e f
  have es : ud d hi v s = d s := by unfold ud; rw [if_neg (by omega)]
  have eh : ∀ x : Int32, x.toInt = hi → ud d hi v x.toInt.toNat = v := fun x hx => by unfold ud; rw [if_pos (by omega)]
  refine ⟨⟨s1, by rw [es]; exact h2, ?_, ?_, ?_⟩, s2⟩
  · rw [es]
    rcases n with n | n
    · rw [n]; exact h3.up (Nat.le_refl _)
    · exact Or.inr ⟨by omega, by omega, by rw [eh _ n.1]; exact n.2⟩
  · rw [es, e 376 (by decide) (by decide)]
    intro z
    rcases b with b | b
    · rw [b]; exact (h4 z).up (Nat.le_refl _)
    · exact Or.inr ⟨by omega, by omega, by rw [eh _ b.1]; exact b.2⟩
  · rw [es, e7]
    intro z
    rcases o with o | o
    · rw [o]; exact (h5 z).up (Nat.le_refl _)
    · exact Or.inr ⟨by omega, by omega, by rw [eh _ o.1]; exact o.2⟩
def DN (I : IM) (d : Nat → Nat) (H hi top lim : Nat) : Prop := ∀ s, 80 * H ≤ s → s < hi → SL I d top s ∧ EB I s (220 * H) lim
theorem SL.keep {top s l2 lim : Nat} (h : SL I d top s) (hb : EB I s l2 lim) (e : ∀ x, 376 ≤ x → x ≤ 387 → I' x s = I x s) (f : ∀ x j, 391 ≤ x → x ≤ 393 → l2 ≤ j → j < lim → I' x j = I x j) : SL I' d top s ∧ EB I' s l2 lim := by
  obtain ⟨h1, h2, h3, h4, h5⟩ := h
  obtain ⟨s1, s2⟩ := SE.st h1 hb (fun x a b => e x a (by omega)) f
  refine ⟨⟨s1, h2, ?_, ?_, ?_⟩, s2⟩
  · rw [e 386 (by decide) (by decide)]; exact h3
  · rw [e 376 (by decide) (by decide), e 384 (by decide) (by decide)]; exact h4
  · rw [e 387 (by decide) (by decide), e 385 (by decide) (by decide)]; exact h5
/-- the PROGRAM of a half -/
def PRG (I : IM) (h : Nat) : Prop := h ≤ 1 ∧ 0 ≤ (I 389 h).toInt ∧ (I 389 h).toInt ≤ 79 ∧ ∃ d : Nat → Nat, DN I d h (80 * h + (I 389 h).toInt.toNat) (80 * h + (I 389 h).toInt.toNat) (220 * h + 220) ∧ ((I 388 h).toInt = -1 ∨ ((80 * h : Nat) ≤ (I 388 h).toInt ∧ (I 388 h).toInt < ((80 * h + (I 389 h).toInt.toNat : Nat) : Int) ∧ d (I 388 h).toInt.toNat = 0))
def HK (h : Nat) (I I' : IM) : Prop := ∀ x j, ((376 ≤ x ∧ x ≤ 387 ∧ 80 * h ≤ j ∧ j < 80 * h + 80) ∨ (388 ≤ x ∧ x ≤ 390 ∧ j = h) ∨ (391 ≤ x ∧ x ≤ 393 ∧ 220 * h ≤ j ∧ j < 220 * h + 220)) → I' x j = I x j
theorem PRG.keep {h : Nat} (hp : PRG I h) (hk : HK h I I') : PRG I' h := by
  obtain ⟨h1, h2, h3, d, h4, h5⟩ := hp
  have e8 : I' 388 h = I 388 h := hk _ _ (by omega)
  have e9 : I' 389 h = I 389 h := hk _ _ (by omega)
  unfold PRG
  rw [e8, e9]
  refine ⟨h1, h2, h3, d, fun s s1 s2 => ?_, h5⟩
  obtain ⟨q1, q2⟩ := h4 s s1 s2
  exact q1.keep q2 (fun x a b => hk _ _ (by omega)) (fun x j a b c e => hk _ _ (by omega))
theorem PZ.hk {h : Nat} (hz : PZ H I I') (hh : H + h = 1) : HK h I I' := fun x j hx => hz x j (by omega)
/-- the structure of what is parsed so far: hi STATEMENTS complete, links up to top -/
def STR (I : IM) (H : Nat) (d : Nat → Nat) (hi top : Nat) : Prop := H ≤ 1 ∧ (I 373 32).toInt = H ∧ 0 ≤ (I 373 33).toInt ∧ (I 373 33).toInt ≤ 3 ∧ 0 ≤ (I 390 H).toInt ∧ DN I d H hi top (220 * H + (I 390 H).toInt.toNat) ∧ ((I 388 H).toInt = -1 ∨ ((80 * H : Nat) ≤ (I 388 H).toInt ∧ (I 388 H).toInt < (top : Int) ∧ d (I 388 H).toInt.toNat = 0)) ∧ (∀ j : Nat, 1 ≤ j → (j : Int) ≤ (I 373 33).toInt → (80 * H : Nat) ≤ (I 394 j).toInt ∧ (I 394 j).toInt < (top : Int) ∧ d (I 394 j).toInt.toNat + 1 = j) ∧ (∀ j : Nat, (j : Int) ≤ (I 373 33).toInt → (I 396 j).toInt = -1 ∨ ((80 * H : Nat) ≤ (I 396 j).toInt ∧ (I 396 j).toInt < (top : Int) ∧ d (I 396 j).toInt.toNat = j))
theorem STR.keep {hi top : Nat} (h : STR I H d hi top) (e3 : ∀ j, (j = 32 ∨ j = 33) → I' 373 j = I 373 j) (e8 : I' 388 H = I 388 H) (e9 : ∀ x j, 394 ≤ x → x ≤ 396 → I' x j = I x j) (e0 : (I 390 H).toInt ≤ (I' 390 H).toInt) (e : ∀ x j, 376 ≤ x → x ≤ 387 → 80 * H ≤ j → j < hi → I' x j = I x j) (f : ∀ x j, 391 ≤ x → x ≤ 393 → 220 * H ≤ j → j < 220 * H + (I 390 H).toInt.toNat → I' x j = I x j) : STR I' H d hi top := by
  obtain ⟨h1, h2, h3, h4, h5, h6, h7, h8, h9⟩ := h
  unfold STR
  rw [e3 32 (Or.inl rfl), e3 33 (Or.inr rfl), e8]
  refine ⟨h1, h2, h3, h4, by omega, fun s s1 s2 => ?_, h7, fun j j1 j2 => ?_, fun j j1 => ?_⟩
  · obtain ⟨q1, q2⟩ := h6 s s1 s2
    obtain ⟨r1, r2⟩ := q1.keep q2 (fun x a b => e x s a b s1 s2) (fun x j a b c g => f x j a b c g)
    exact ⟨r1, r2.mono (by omega)⟩
  · rw [e9 394 j (by decide) (by decide)]; exact h8 j j1 j2
  · rw [e9 396 j (by decide) (by decide)]; exact h9 j j1
theorem STR.yf {hi top : Nat} (h : STR I H d hi top) (hy : YF I I') : STR I' H d hi top :=
  h.keep (fun j hj => hy _ _ (by omega)) (hy _ _ (by omega)) (fun x j _ _ => hy _ _ (by omega)) (by rw [hy _ _ (by omega)]; exact Int.le_refl _) (fun x j _ _ _ _ => hy _ _ (by omega)) (fun x j _ _ _ _ => hy _ _ (by omega))
/-- ahead of a STATEMENT, no fault so far -/
def PLG (I : IM) (H : Nat) (d : Nat → Nat) : Prop := STR I H d (80 * H + (I 389 H).toInt.toNat) (80 * H + (I 389 H).toInt.toNat) ∧ TOK I ∧ (I 390 H).toInt ≤ (I 373 29).toInt ∧ 0 ≤ (I 389 H).toInt ∧ 3 * (I 389 H).toInt ≤ (I 373 29).toInt
/-- within a STATEMENT, the number hi -/
def MID (I : IM) (H : Nat) (d : Nat → Nat) (hi : Nat) (k : Int) : Prop := STR I H d hi (hi + 1) ∧ (I 376 hi).toInt = k ∧ (0 ≤ (I 378 hi).toInt ∧ (I 378 hi).toInt ≤ 199) ∧ (k ≤ 1 → 0 ≤ (I 377 hi).toInt ∧ (I 377 hi).toInt ≤ 5) ∧ (k = 2 → 0 ≤ (I 377 hi).toInt ∧ (I 377 hi).toInt ≤ 1) ∧ (I 386 hi).toInt = -1 ∧ I 387 hi = 0 ∧ (d hi : Int) = (I 373 33).toInt ∧ (I 389 H).toInt = (hi : Int) + 1 - 80 * H ∧ 80 * H ≤ hi ∧ hi < 80 * H + 79
theorem MID.keep {hi : Nat} {k : Int} (h : MID I H d hi k) (e3 : ∀ j, (j = 32 ∨ j = 33) → I' 373 j = I 373 j) (e8 : ∀ x, 388 ≤ x → x ≤ 389 → I' x H = I x H) (e9 : ∀ x j, 394 ≤ x → x ≤ 396 → I' x j = I x j) (e0 : (I 390 H).toInt ≤ (I' 390 H).toInt) (e : ∀ x j, 376 ≤ x → x ≤ 387 → 80 * H ≤ j → j < hi → I' x j = I x j) (g : ∀ x, (x = 376 ∨ x = 377 ∨ x = 378 ∨ x = 386 ∨ x = 387) → I' x hi = I x hi) (f : ∀ x j, 391 ≤ x → x ≤ 393 → 220 * H ≤ j → j < 220 * H + (I 390 H).toInt.toNat → I' x j = I x j) : MID I' H d hi k := by
  obtain ⟨h1, h2, h3, h4, h5, h6, h7, h8, h9, h10⟩ := h
  unfold MID
  rw [g 376 (by decide), g 377 (by decide), g 378 (by decide), g 386 (by decide), g 387 (by decide), e3 33 (Or.inr rfl), e8 389 (by decide) (by decide)]
  exact ⟨h1.keep e3 (e8 388 (by decide) (by decide)) e9 e0 e f, h2, h3, h4, h5, h6, h7, h8, h9, h10⟩
theorem MID.yf {hi : Nat} {k : Int} (h : MID I H d hi k) (hy : YF I I') : MID I' H d hi k :=
  h.keep (fun j hj => hy _ _ (by omega)) (fun x _ _ => hy _ _ (by omega)) (fun x j _ _ => hy _ _ (by omega)) (by rw [hy _ _ (by omega)]; exact Int.le_refl _) (fun x j _ _ _ _ => hy _ _ (by omega)) (fun x hx => hy _ _ (by omega)) (fun x j _ _ _ _ => hy _ _ (by omega))
/-- a STATEMENT is complete -/
theorem MID.done {hi : Nat} {k : Int} (h : MID I H d hi k) (hs : ST I hi) (hb : EB I hi (220 * H) (220 * H + (I 390 H).toInt.toNat)) (hbd : (k = 3 ∨ k = 4) → (I 384 hi).toInt = -1) (ht : TOK I) (h1 : (I 390 H).toInt ≤ (I 373 29).toInt) (h2 : 3 * ((hi : Int) + 1 - 80 * H) ≤ (I 373 29).toInt) : PLG I H d := by
  obtain ⟨⟨g1, g2, g3, g4, g5, g6, g7, g8, g9⟩, m2, m3, m4, m5, m6, m7, m8, m9, m10, m11⟩ := h
  have e : 80 * H + (I 389 H).toInt.toNat = hi + 1 := by omega
  unfold PLG
  rw [e]
  refine ⟨⟨g1, g2, g3, g4, g5, fun s s1 s2 => ?_, g7, g8, g9⟩, ht, h1, by omega, by omega⟩
  by_cases c : s = hi
  · subst c
    exact ⟨⟨hs, by omega, Or.inl m6, fun z => Or.inl (hbd (by omega)), fun z => absurd m7 z⟩, hb⟩
  · exact g6 s s1 (by omega)
theorem q_expr_bad (hR : QR R) (h32 : (I 373 32).toInt = H) (hH : H ≤ 1) (hb : (I 373 34).toInt ≠ 0) {Q : (Int32 × WW) → Prop} (k : ∀ (r : Int32) (I' : IM), (∀ x j, (x ≠ 373 ∨ (j ≠ 42 ∧ j ≠ 43 ∧ j ≠ 44)) → I' x j = I x j) → Q (r, mk I' J R)) : wp (f_q_expression 373 (mk I J R)) Q := by
  have eH : (I 373 32).toInt.toNat = H := by omega
  unfold f_q_expression f_q_expression_39
  refine st_kb rfl (qn_23 hR (st_gI rfl rfl rfl (st_rI (n := 2) (x := I 390 H) rfl (by omega) (by rw [eH]) (st_pI rfl rfl (st_pI rfl rfl (st_pI rfl rfl ?_))))))
  have fK : ∀ x j, (x ≠ 373 ∨ (j ≠ 42 ∧ j ≠ 43 ∧ j ≠ 44)) → up2 (up2 (up2 I 373 42 0) 373 43 0) 373 44 0 x j = I x j := fun x j hx => by rw [up2_ne _ _ (by omega), up2_ne _ _ (by omega), up2_ne _ _ (by omega)]
  generalize up2 (up2 (up2 I 373 42 0) 373 43 0) 373 44 0 = K at *
  have nb : ¬ K 373 34 = 0 := by rw [fK _ _ (by omega)]; exact fun z => hb (by rw [z]; rfl)
  refine st_gI rfl rfl rfl (st_ite (fun c => absurd c nb) (fun c => ?_))
  have hk : KK = (KK - 1) + 1 := by unfold KK; omega
  rw [hk, f_q_expression_40, if_pos rfl]
  unfold f_q_expression_194 f_q_expression_206
  refine st_gI rfl rfl rfl (st_ite (fun c => absurd c nb) (fun c => st_gI rfl rfl rfl (st_some (k _ K fK))))
/-- an EXPR parsed, and its ends written at the STATEMENT s: A, B are 379 and 380, or 381 and 382 -/
def FX (H a s A B : Nat) (I I' : IM) : Prop := ∀ x j, ((x ≠ A ∧ x ≠ B) ∨ j ≠ s) → (x < 373 ∨ 400 < x ∨ (374 ≤ x ∧ x ≤ 389) ∨ (394 ≤ x ∧ x ≤ 396) ∨ (x = 373 ∧ j ≠ 4 ∧ (j < 28 ∨ (31 < j ∧ j ≠ 34 ∧ j ≠ 42 ∧ j ≠ 43 ∧ j ≠ 44))) ∨ (x = 390 ∧ j ≠ H) ∨ (391 ≤ x ∧ x ≤ 393 ∧ (j < a ∨ 220 * H + 220 ≤ j))) → I' x j = I x j
def exTail (A B : Nat) (s : Int32) (F : WW → Option WW) (r : Int32) (w : WW) : Option WW := (sI w A 0 s r).bind fun w9 => (gN w9 373 9 (B - 367)).bind fun x10 => (gI w9 373 9 32).bind fun x11 => (gN w9 373 9 23).bind fun x12 => (gI w9 373 9 32).bind fun x13 => (rI w9 x12 0 x13).bind fun x14 => (sI w9 x10 0 s (((220 : Int32) * x11) + x14)).bind F
theorem q_tail (hR : QR R) {A B : Nat} (hAB : (A = 379 ∧ B = 380) ∨ (A = 381 ∧ B = 382)) {s : Int32} (hs : 0 ≤ s.toInt ∧ s.toInt < 160) (h32 : (I 373 32).toInt = H) (hH : H ≤ 1) {r : Int32} {F : WW → Option WW} {Q : WW → Prop} (k : ∀ (v : Int32), (0 ≤ (I 390 H).toInt ∧ (I 390 H).toInt ≤ 220 → v.toInt = 220 * H + (I 390 H).toInt) → wp (F (mk (up2 (up2 I A s.toInt.toNat r) B s.toInt.toNat v) J R)) Q) : wp (exTail A B s F r (mk I J R)) Q := by
  have eH : (I 373 32).toInt.toNat = H := by omega
  unfold exTail
  rcases hAB with ⟨rfl, rfl⟩ | ⟨rfl, rfl⟩
  · refine st_sI (n := 160) rfl (by omega) (qn_13 hR (st_gI rfl rfl (up2_nea (by decide)) (qn_23 hR (st_gI rfl rfl (up2_nea (by decide)) (st_rI (n := 2) (x := I 390 H) rfl (by omega) (by rw [eH, up2_nea (by decide)]) (st_sI (n := 160) rfl (by omega) (k _ (fun z => ?_))))))))
    rw [i32addc (by rw [m32_220 (by omega)]; omega), m32_220 (by omega)]; omega
  · refine st_sI (n := 160) rfl (by omega) (qn_15 hR (st_gI rfl rfl (up2_nea (by decide)) (qn_23 hR (st_gI rfl rfl (up2_nea (by decide)) (st_rI (n := 2) (x := I 390 H) rfl (by omega) (by rw [eH, up2_nea (by decide)]) (st_sI (n := 160) rfl (by omega) (k _ (fun z => ?_))))))))
    rw [i32addc (by rw [m32_220 (by omega)]; omega), m32_220 (by omega)]; omega
theorem q_ex (hR : QR R) {A B : Nat} (hAB : (A = 379 ∧ B = 380) ∨ (A = 381 ∧ B = 382)) {s : Int32} (hs : 0 ≤ s.toInt ∧ s.toInt < 160) (h32 : (I 373 32).toInt = H) (hH : H ≤ 1) (hg : (I 373 34).toInt = 0 → TOK I ∧ 0 ≤ (I 390 H).toInt ∧ (I 390 H).toInt ≤ (I 373 29).toInt) {F : WW → Option WW} {Q : WW → Prop} (k : ∀ I', FX H (220 * H + (I 390 H).toInt.toNat) s.toInt.toNat A B I I' → ((I' 373 34).toInt = 0 → (I 373 34).toInt = 0 ∧ TOK I' ∧ (I 373 29).toInt ≤ (I' 373 29).toInt ∧ (I 390 H).toInt ≤ (I' 390 H).toInt ∧ (I' 390 H).toInt ≤ (I' 373 29).toInt ∧ (I' A s.toInt.toNat).toInt = 220 * H + (I 390 H).toInt ∧ (I' B s.toInt.toNat).toInt = 220 * H + (I' 390 H).toInt ∧ WFX I' (220 * H + (I 390 H).toInt.toNat) (220 * H + (I' 390 H).toInt.toNat)) → wp (F (mk I' J R)) Q) : wp (bd2 (f_q_expression 373 (mk I J R)) fun r w => exTail A B s F r w) Q := by
  have hA : A ≠ B ∧ 379 ≤ A ∧ A ≤ 381 ∧ 380 ≤ B ∧ B ≤ 382 := by omega
  by_cases cb : (I 373 34).toInt = 0
  · obtain ⟨t1, t2, t3⟩ := hg cb
    have te := t1.e
    refine st_bd2 (q_expression hR h32 hH (by omega) (fun _ => ⟨t1, t3⟩) (fun r I2 hr p2 g2 => ?_))
    refine q_tail hR hAB hs (by rw [p2 _ _ (by omega)]; exact h32) hH (fun v hv => k _ (fun x j hx1 hx2 => ?_) (fun z => ?_))
    · rw [up2_ne _ _ (by omega), up2_ne _ _ (by omega)]; exact p2 x j hx2
    · have fr : ∀ x j, (x < 379 ∨ 382 < x) → up2 (up2 I2 A s.toInt.toNat r) B s.toInt.toNat v x j = I2 x j := fun x j hx => by rw [up2_ne _ _ (by omega), up2_ne _ _ (by omega)]
      rw [fr _ _ (by omega)] at z
      obtain ⟨v1, v2, v3, v4, v5, v6⟩ := g2 z
      have ve := v2.e
      have vw := v6.1
      rw [fr 373 29 (by omega), fr 390 H (by omega), up2_s, up2_ne _ _ (Or.inl hA.1), up2_s]
      exact ⟨v1, v2.keep (fr _ _ (by omega)) (fun j _ _ => fr _ _ (by omega)), v3, by omega, v5, by rw [hr]; omega, hv (by omega), v6.congr (fun x j x1 x2 _ _ => fr _ _ (by omega))⟩
  · refine st_bd2 (q_expr_bad hR h32 hH cb (fun r I2 f2 => ?_))
    refine q_tail hR hAB hs (by rw [f2 _ _ (by omega)]; exact h32) hH (fun v hv => k _ (fun x j hx1 hx2 => ?_) (fun z => ?_))
    · rw [up2_ne _ _ (by omega), up2_ne _ _ (by omega)]; exact f2 x j (by omega)
    · rw [up2_ne _ _ (by omega), up2_ne _ _ (by omega), f2 _ _ (by omega)] at z; exact absurd z cb
theorem FX.pz {a s A B : Nat} (h : FX H a s A B I I') (ha : 220 * H ≤ a) (hs : 80 * H ≤ s ∧ s < 80 * H + 80) (hA : 379 ≤ A ∧ A ≤ 382) (hB : 379 ≤ B ∧ B ≤ 382) : PZ H I I' := fun x j hx => h x j (by omega) (by omega)
theorem FX.mid {hi : Nat} {k : Int} {A B : Nat} (h : FX H (220 * H + (I 390 H).toInt.toNat) hi A B I I') (hm : MID I H d hi k) (hA : 379 ≤ A ∧ A ≤ 382) (hB : 379 ≤ B ∧ B ≤ 382) (hst : (I 390 H).toInt ≤ (I' 390 H).toInt) : MID I' H d hi k :=
  hm.keep (fun j hj => h _ _ (by omega) (by omega)) (fun x _ _ => h _ _ (by omega) (by omega)) (fun x j _ _ => h _ _ (by omega) (by omega)) hst (fun x j _ _ _ _ => h _ _ (by omega) (by omega)) (fun x hx => h _ _ (by omega) (by omega)) (fun x j _ _ _ _ => h _ _ (by omega) (by omega))
end STS
