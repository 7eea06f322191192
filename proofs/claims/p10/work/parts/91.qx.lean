/-! The reference: EXPRS are parsed. -/
/-- how the parser of the half H may change cells -/
def PZ (H : Nat) (I I' : IM) : Prop := ∀ x j, (x < 373 ∨ 400 < x ∨ x = 374 ∨ x = 375 ∨ (x = 373 ∧ j ≠ 4 ∧ (j < 28 ∨ j = 32 ∨ 44 < j)) ∨ (376 ≤ x ∧ x ≤ 387 ∧ (j < 80 * H ∨ 80 * H + 80 ≤ j)) ∨ (388 ≤ x ∧ x ≤ 390 ∧ j ≠ H) ∨ (391 ≤ x ∧ x ≤ 393 ∧ (j < 220 * H ∨ 220 * H + 220 ≤ j))) → I' x j = I x j
theorem PZ.refl (H : Nat) (I : IM) : PZ H I I := fun _ _ _ => rfl
theorem PZ.trans {H : Nat} {I I' I'' : IM} (h : PZ H I I') (h2 : PZ H I' I'') : PZ H I I'' := fun x j hx => (h2 x j hx).trans (h x j hx)
/-- reading on, or a fault: the TOKEN's fields, where and bad alone -/
def YF (I I' : IM) : Prop := ∀ x j, (x ≠ 373 ∨ (j ≠ 4 ∧ j ≠ 34 ∧ (j < 28 ∨ 31 < j))) → I' x j = I x j
theorem YF.trans {I I' I'' : IM} (h : YF I I') (h2 : YF I' I'') : YF I I'' := fun x j hx => (h2 x j hx).trans (h x j hx)
theorem YF.pz {H : Nat} {I I' : IM} (h : YF I I') : PZ H I I' := fun x j hx => h x j (by omega)
theorem RD.yf {I I' : IM} (h : RD I I') : YF I I' := fun x j hx => h.1 x j (by omega)
section EXP
variable {I I' : IM} {J : JM} {R : RM} {H : Nat}
theorem s_q_is (hR : QR R) {a1 : Int32} {Q : (Int32 × WW) → Prop} (k : ∀ r, B01 r → (r.toInt ≠ 0 → (I 373 30).toInt = 5 ∧ I 373 31 = a1) → Q (r, mk I J R)) : wp (f_q_is 373 a1 (mk I J R)) Q := by
  unfold f_q_is f_q_is_21 f_q_is_20 f_q_is_21
  refine st_kb rfl (st_gI rfl rfl rfl (st_ite (fun c => ?_) (fun c => ?_)))
  · refine st_gI rfl rfl rfl (st_ite (fun c2 => st_req (Or.inr rfl) (st_some (k _ (Or.inr rfl) (fun _ => ⟨by rw [c]; rfl, c2⟩)))) (fun c2 => st_req (Or.inl rfl) (st_some (k _ (Or.inl rfl) (fun z => absurd rfl z)))))
  · exact st_req (Or.inl rfl) (st_some (k _ (Or.inl rfl) (fun z => absurd rfl z)))
theorem s_q_wrong {Q : WW → Prop} (k : ∀ I', YF I I' → (∀ j, 28 ≤ j → j ≤ 31 → I' 373 j = I 373 j) → (I' 373 34).toInt = 1 → Q (mk I' J R)) : wp (f_q_wrong 373 (mk I J R)) Q := by
  unfold f_q_wrong f_q_wrong_15
  refine st_kb rfl (st_gI rfl rfl rfl (st_ite (fun c => ?_) (fun c => ?_)))
  · refine st_gI rfl rfl rfl (st_pI rfl rfl (st_req (Or.inr rfl) (st_pI rfl rfl (st_some (k _ (fun x j hx => ?_) (fun j h1 h2 => ?_) ?_)))))
    · rw [up2_ne _ _ (by omega), up2_ne _ _ (by omega)]
    · rw [up2_nek (by omega), up2_nek (by omega)]
    · rw [up2_s]; rfl
  · refine st_req (Or.inr rfl) (st_pI rfl rfl (st_some (k _ (fun x j hx => ?_) (fun j h1 h2 => ?_) ?_)))
    · rw [up2_ne _ _ (by omega)]
    · rw [up2_nek (by omega)]
    · rw [up2_s]; rfl
theorem TOK.keep (h : TOK I) (h2 : I' 373 2 = I 373 2) (hj : ∀ j, 28 ≤ j → j ≤ 31 → I' 373 j = I 373 j) : TOK I' := by
  unfold TOK
  rw [h2, hj 28 (by decide) (by decide), hj 29 (by decide) (by decide), hj 30 (by decide) (by decide), hj 31 (by decide) (by decide)]
  exact h
theorem q_read (hR : QR R) (ht : TOK I) {Q : WW → Prop} (k : ∀ I', YF I I' → I' 373 34 = I 373 34 → TOK I' → (I 373 29).toInt ≤ (I' 373 29).toInt → ((I 373 30).toInt ≠ 0 → (I 373 29).toInt + 1 ≤ (I' 373 29).toInt) → Q (mk I' J R)) : wp (f_q_read 373 (mk I J R)) Q := by
  have h := ht.e
  refine s_q_read hR (by omega) (fun I' hd => k I' hd.yf (hd.1 373 34 (by omega)) hd.2.1 ?_ (fun z => ?_))
  · have := hd.2.2; omega
  · have := hd.2.2; have := h.2.2.2.2.1 z; omega
theorem q_expect (hR : QR R) (ht : (I 373 34).toInt = 0 → TOK I) {a1 : Int32} {Q : WW → Prop} (k : ∀ I', YF I I' → ((I' 373 34).toInt = 0 → (I 373 34).toInt = 0 ∧ TOK I' ∧ (I 373 29).toInt + 1 ≤ (I' 373 29).toInt) → Q (mk I' J R)) : wp (f_q_expect 373 a1 (mk I J R)) Q := by
  unfold f_q_expect f_q_expect_27
  refine st_kb rfl (st_gI rfl rfl rfl (st_ite (fun c => ?_) (fun c => st_some (k _ (fun _ _ _ => rfl) (fun z => absurd (i32eq.mpr z) c)))))
  have c' : (I 373 34).toInt = 0 := by rw [c]; rfl
  refine st_bd2 (s_q_is hR (fun r hb hr => ?_))
  dsimp only
  refine st_ite (fun c2 => ?_) (fun c2 => ?_)
  · exact st_bd (s_q_wrong (fun I' h1 _ h3 => st_some (k _ h1 (fun z => by omega))))
  · have h5 := hr (fun z => c2 (i32eq.mpr z))
    refine st_bd (q_read hR (ht c') (fun I' h1 h2 h3 h4 h5' => st_some (k _ h1 (fun _ => ⟨c', h3, h5' (by omega)⟩))))
/-! how many of the open ones are operators, and how high the stack of an EXPR may get -/
def N4 (f : Nat → Int32) : Nat → Int
  | 0 => 0
  | n + 1 => N4 f n + (if (f n).toInt = 4 then 1 else 0)
def rkp (f g : Nat → Int32) : Nat → Int
  | 0 => 0
  | n + 1 => if (f n).toInt = 4 then (rk (g n)).toInt else 0
theorem rk_b (x : Int32) : 1 ≤ (rk x).toInt ∧ (rk x).toInt ≤ 2 := by
  unfold rk
  split
  · decide
  · split <;> decide
theorem rkp_b (f g : Nat → Int32) (n : Nat) : 0 ≤ rkp f g n ∧ rkp f g n ≤ 2 := by
  cases n with
  | zero => exact ⟨Int.le_refl _, show (0 : Int) ≤ 2 by decide⟩
  | succ n =>
    have := rk_b (g n)
    show 0 ≤ (if (f n).toInt = 4 then (rk (g n)).toInt else 0) ∧ (if (f n).toInt = 4 then (rk (g n)).toInt else 0) ≤ 2
    split <;> omega
theorem N4_b (f : Nat → Int32) (n : Nat) : 0 ≤ N4 f n ∧ N4 f n ≤ n := by
  induction n with
  | zero => exact ⟨Int.le_refl _, Int.le_refl _⟩
  | succ n ih =>
    show 0 ≤ N4 f n + (if (f n).toInt = 4 then 1 else 0) ∧ N4 f n + (if (f n).toInt = 4 then 1 else 0) ≤ ((n + 1 : Nat) : Int)
    split <;> omega
theorem N4_s (f : Nat → Int32) (n : Nat) : N4 f (n + 1) = N4 f n + (if (f n).toInt = 4 then 1 else 0) := rfl
theorem rkp_s (f g : Nat → Int32) (n : Nat) : rkp f g (n + 1) = if (f n).toInt = 4 then (rk (g n)).toInt else 0 := rfl
theorem N4_c {f f' : Nat → Int32} {n : Nat} (h : ∀ j, j < n → f' j = f j) : N4 f' n = N4 f n := by
  induction n with
  | zero => rfl
  | succ n ih => rw [N4_s, N4_s, ih (fun j hj => h j (by omega)), h n (by omega)]
theorem rkp_c {f f' g g' : Nat → Int32} {n : Nat} (h : ∀ j, j < n → f' j = f j) (h2 : ∀ j, j < n → g' j = g j) : rkp f' g' n = rkp f g n := by
  cases n with
  | zero => rfl
  | succ n => rw [rkp_s, rkp_s, h n (by omega), h2 n (by omega)]
def OS (I : IM) (n : Nat) : Prop := (∀ j, j ≤ n → N4 (I 397) j ≤ 2 * (j - N4 (I 397) j) + rkp (I 397) (I 399) j) ∧ (∀ j, j < n → 0 ≤ (I 398 j).toInt ∧ (I 398 j).toInt ≤ 199 ∧ ((I 397 j).toInt = 2 → 0 ≤ (I 399 j).toInt ∧ (I 399 j).toInt ≤ 1))
theorem OS.pre {n m : Nat} (h : OS I n) (hm : m ≤ n) : OS I m := ⟨fun j hj => h.1 j (by omega), fun j hj => h.2 j (by omega)⟩
theorem OS.congr {n : Nat} (h : OS I n) (he : ∀ x j, 397 ≤ x → x ≤ 399 → j < n → I' x j = I x j) : OS I' n := by
  refine ⟨fun j hj => ?_, fun j hj => ?_⟩
  · rw [N4_c (f := I 397) (fun i hi => he 397 i (by decide) (by decide) (by omega)), rkp_c (f := I 397) (g := I 399) (fun i hi => he 397 i (by decide) (by decide) (by omega)) (fun i hi => he 399 i (by decide) (by decide) (by omega))]
    exact h.1 j hj
  · rw [he 397 j (by decide) (by decide) hj, he 398 j (by decide) (by decide) hj, he 399 j (by decide) (by decide) hj]
    exact h.2 j hj
theorem OS.nil : OS I 0 := by
  refine ⟨fun j hj => ?_, fun j hj => absurd hj (by omega)⟩
  have : j = 0 := by omega
  subst this
  show (0 : Int) ≤ 2 * (((0 : Nat) : Int) - 0) + 0
  decide
theorem OS.snoc {n : Nat} (h : OS I n) (h1 : 0 ≤ (I 398 n).toInt ∧ (I 398 n).toInt ≤ 199) (h2 : (I 397 n).toInt = 2 → 0 ≤ (I 399 n).toInt ∧ (I 399 n).toInt ≤ 1) (h4 : (I 397 n).toInt = 4 → rkp (I 397) (I 399) n < (rk (I 399 n)).toInt) : OS I (n + 1) := by
  refine ⟨fun j hj => ?_, fun j hj => ?_⟩
  · by_cases c : j = n + 1
    · subst c
      have q := h.1 n (Nat.le_refl n)
      have b := rkp_b (I 397) (I 399) n
      rw [N4_s, rkp_s]
      by_cases z : (I 397 n).toInt = 4
      · rw [if_pos z, if_pos z]
        have := h4 z
        omega
      · rw [if_neg z, if_neg z]
        omega
    · exact h.1 j (by omega)
  · by_cases c : j = n
    · subst c; exact ⟨h1.1, h1.2, h2⟩
    · exact h.2 j (by omega)
/-- an EXPR being parsed, in the half H, its steps from a on; th: 1 behind a part, 0 ahead of one -/
def EX (H a : Nat) (th : Int) (I : IM) : Prop := H ≤ 1 ∧ (I 373 32).toInt = H ∧ TOK I ∧ 0 ≤ (I 373 42).toInt ∧ OS I (I 373 42).toInt.toNat ∧ (I 373 43).toInt = (I 373 42).toInt - N4 (I 397) (I 373 42).toInt.toNat ∧ (I 373 43).toInt ≤ 11 ∧ (I 373 44).toInt = N4 (I 397) (I 373 42).toInt.toNat + th ∧ 0 ≤ (I 390 H).toInt ∧ (I 390 H).toInt + (I 373 42).toInt ≤ (I 373 29).toInt ∧ WFX I a (220 * H + (I 390 H).toInt.toNat) ∧ dq I a (220 * H + (I 390 H).toInt.toNat - a) = (I 373 44).toInt ∧ 220 * H ≤ a
/-- how an EXPR's parsing changes cells -/
def PX (H a : Nat) (I I' : IM) : Prop := ∀ x j, (x < 373 ∨ 400 < x ∨ (374 ≤ x ∧ x ≤ 389) ∨ (394 ≤ x ∧ x ≤ 396) ∨ (x = 373 ∧ j ≠ 4 ∧ (j < 28 ∨ (31 < j ∧ j ≠ 34 ∧ j ≠ 42 ∧ j ≠ 43 ∧ j ≠ 44))) ∨ (x = 390 ∧ j ≠ H) ∨ (391 ≤ x ∧ x ≤ 393 ∧ (j < a ∨ 220 * H + 220 ≤ j))) → I' x j = I x j
theorem PX.refl (H a : Nat) (I : IM) : PX H a I I := fun _ _ _ => rfl
theorem PX.trans {a : Nat} {I'' : IM} (h : PX H a I I') (h2 : PX H a I' I'') : PX H a I I'' := fun x j hx => (h2 x j hx).trans (h x j hx)
theorem PX.pz {a : Nat} (h : PX H a I I') (ha : 220 * H ≤ a) : PZ H I I' := fun x j hx => h x j (by omega)
theorem YF.px {a : Nat} (h : YF I I') : PX H a I I' := fun x j hx => h x j (by omega)
theorem EX.b {a : Nat} {th : Int} (h : EX H a th I) (ht : 0 ≤ th ∧ th ≤ 1) : 0 ≤ (I 373 44).toInt ∧ (I 373 44).toInt ≤ 24 + th ∧ 0 ≤ (I 373 29).toInt ∧ (I 373 29).toInt ≤ 200 ∧ (I 373 42).toInt ≤ 200 ∧ (I 390 H).toInt ≤ 200 ∧ a ≤ 220 * H + (I 390 H).toInt.toNat := by
  obtain ⟨h0, h1, h2, h3, h4, h5, h6, h7, h8, h9, h10, h11, h12⟩ := h
  have q := h4.1 (I 373 42).toInt.toNat (Nat.le_refl _)
  have b := rkp_b (I 397) (I 399) (I 373 42).toInt.toNat
  have c := N4_b (I 397) (I 373 42).toInt.toNat
  have t := h2.e
  have w := h10.1
  refine ⟨by omega, by omega, by omega, by omega, by omega, by omega, by omega⟩
/-- reading on keeps an EXPR's facts -/
theorem EX.rd {a : Nat} {th : Int} (h : EX H a th I) (hy : YF I I') (ht : TOK I') (hb : (I 373 29).toInt ≤ (I' 373 29).toInt) : EX H a th I' := by
  obtain ⟨h0, h1, h2, h3, h4, h5, h6, h7, h8, h9, h10, h11, h12⟩ := h
  have e32 : I' 373 32 = I 373 32 := hy _ _ (by omega)
  have e42 : I' 373 42 = I 373 42 := hy _ _ (by omega)
  have e43 : I' 373 43 = I 373 43 := hy _ _ (by omega)
  have e44 : I' 373 44 = I 373 44 := hy _ _ (by omega)
  have e390 : I' 390 H = I 390 H := hy _ _ (by omega)
  have e397 : I' 397 = I 397 := by funext j; exact hy _ _ (by omega)
  unfold EX
  rw [e32, e42, e43, e44, e390, e397]
  refine ⟨h0, h1, ht, h3, h4.congr (fun x j _ _ _ => hy _ _ (by omega)), h5, h6, h7, h8, by omega, h10.congr (fun x k _ _ _ _ => hy _ _ (by omega)), ?_, h12⟩
  rw [dq_congr (I := I) (I' := I') (fun j _ => hy _ _ (by omega))]
  exact h11
theorem q_emit (hR : QR R) (h0 : H ≤ 1) (h1 : (I 373 32).toInt = H) (h2 : 0 ≤ (I 390 H).toInt ∧ (I 390 H).toInt < 220) {a1 a2 a3 : Int32} {Q : WW → Prop} (k : ∀ I', (∀ x j, (x < 390 ∨ 393 < x ∨ (x = 390 ∧ j ≠ H) ∨ (391 ≤ x ∧ x ≤ 393 ∧ j ≠ 220 * H + (I 390 H).toInt.toNat)) → I' x j = I x j) → (I' 390 H).toInt = (I 390 H).toInt + 1 → I' 391 (220 * H + (I 390 H).toInt.toNat) = a1 → I' 392 (220 * H + (I 390 H).toInt.toNat) = a2 → I' 393 (220 * H + (I 390 H).toInt.toNat) = a3 → Q (mk I' J R)) : wp (f_q_emit 373 a1 a2 a3 (mk I J R)) Q := by
  have eH : (I 373 32).toInt.toNat = H := by omega
  have ek : ((220 : Int32) * I 373 32 + I 390 H).toInt = 220 * H + (I 390 H).toInt := by
    rw [i32addc (by rw [m32_220 (by omega)]; omega), m32_220 (by omega)]; omega
  have ekn : ((220 : Int32) * I 373 32 + I 390 H).toInt.toNat = 220 * H + (I 390 H).toInt.toNat := by omega
  unfold f_q_emit
  refine st_kb rfl (st_gI rfl rfl rfl (qn_23 hR (st_gI rfl rfl rfl (st_rI (n := 2) (x := I 390 H) rfl (by omega) (by rw [eH]) (qn_24 hR (st_sI (n := 440) rfl (by omega) (qn_25 hR (st_sI (n := 440) rfl (by omega) (qn_26 hR (st_sI (n := 440) rfl (by omega) ?_))))))))))
  rw [ekn]
  have z32 : up2 (up2 (up2 I 391 (220 * H + (I 390 H).toInt.toNat) a1) 392 (220 * H + (I 390 H).toInt.toNat) a2) 393 (220 * H + (I 390 H).toInt.toNat) a3 373 32 = I 373 32 := by rw [up2_nea (by decide), up2_nea (by decide), up2_nea (by decide)]
  have z390 : up2 (up2 (up2 I 391 (220 * H + (I 390 H).toInt.toNat) a1) 392 (220 * H + (I 390 H).toInt.toNat) a2) 393 (220 * H + (I 390 H).toInt.toNat) a3 390 H = I 390 H := by rw [up2_nea (by decide), up2_nea (by decide), up2_nea (by decide)]
  refine qn_23 hR (st_gI rfl rfl z32 (st_rI (n := 2) (x := I 390 H) rfl (by omega) (by rw [eH]; exact z390) (st_sI (n := 2) rfl (by omega) (st_some (k _ (fun x j hx => ?_) ?_ ?_ ?_ ?_)))))
  · rw [eH, up2_ne _ _ (by omega), up2_ne _ _ (by omega), up2_ne _ _ (by omega), up2_ne _ _ (by omega)]
  · rw [eH, up2_s, i32addc (by rw [l32_1]; omega), l32_1]
  · rw [eH, up2_nea (by decide), up2_nea (by decide), up2_nea (by decide), up2_s]
  · rw [eH, up2_nea (by decide), up2_nea (by decide), up2_s]
  · rw [eH, up2_nea (by decide), up2_s]
/-- an emitted step, at the level of an EXPR's steps -/
theorem wfx_emit {a : Nat} {o v p : Int32} (hw : WFX I a (220 * H + (I 390 H).toInt.toNat)) (h2 : 0 ≤ (I 390 H).toInt ∧ (I 390 H).toInt < 220) (h0 : H ≤ 1) (hs : SF o v p (dq I a (220 * H + (I 390 H).toInt.toNat - a))) (hf : ∀ x j, (x < 390 ∨ 393 < x ∨ (x = 390 ∧ j ≠ H) ∨ (391 ≤ x ∧ x ≤ 393 ∧ j ≠ 220 * H + (I 390 H).toInt.toNat)) → I' x j = I x j) (e : (I' 390 H).toInt = (I 390 H).toInt + 1) (e1 : I' 391 (220 * H + (I 390 H).toInt.toNat) = o) (e2 : I' 392 (220 * H + (I 390 H).toInt.toNat) = v) (e3 : I' 393 (220 * H + (I 390 H).toInt.toNat) = p) : WFX I' a (220 * H + (I' 390 H).toInt.toNat) ∧ dq I' a (220 * H + (I' 390 H).toInt.toNat - a) = dq I a (220 * H + (I 390 H).toInt.toNat - a) + dl o := by
  have hle := hw.1
  have en : 220 * H + (I' 390 H).toInt.toNat = 220 * H + (I 390 H).toInt.toNat + 1 := by omega
  have hd : dq I' a (220 * H + (I 390 H).toInt.toNat - a) = dq I a (220 * H + (I 390 H).toInt.toNat - a) := dq_congr (fun j hj => hf 391 _ (by omega))
  rw [en]
  refine ⟨(hw.congr (fun x j _ _ _ hj => hf x j (by omega))).snoc (by omega) (by rw [e1, e2, e3, hd]; exact hs), ?_⟩
  rw [dq_succ I' hle, hd, e1]
end EXP
