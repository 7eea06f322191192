/-! Both parsers: the class's parse by the rules; worlds that are one have the same cells. -/
theorem mk_row {I1 I2 : IM} {J1 J2 : JM} {R1 R2 : RM} {a t n : Nat} (hl : LT a = some (.inl (t, n, 0))) (e : mk I1 J1 R1 = mk I2 J2 R2) : I1 a = I2 a := by
  have h1 := (mk_rep I1 J1 R1).rga (a := a) (by rw [Lay_LT]; exact hl)
  have h2 := (mk_rep I2 J2 R2).rga (a := a) (by rw [Lay_LT]; exact hl)
  rw [e, h2] at h1
  simp only [if_true, Option.some.injEq, Prod.mk.injEq, Sum.inl.injEq, true_and] at h1
  exact h1.symm
theorem mk_fld {I1 I2 : IM} {J1 J2 : JM} {R1 R2 : RM} {a ci k : Nat} {ts : List Nat} (hl : LT a = some (.inr (ci, ts))) (hk : ts[k]? = some 0) (e : mk I1 J1 R1 = mk I2 J2 R2) : I1 a k = I2 a k := by
  have h1 := (mk_rep I1 J1 R1).rgI (a := a) (k := k) (by rw [Lay_LT]; exact hl) hk
  have h2 := (mk_rep I2 J2 R2).rgI (a := a) (k := k) (by rw [Lay_LT]; exact hl) hk
  rw [e, h2] at h1
  exact (Option.some.inj h1).symm
theorem mk_ref {I1 I2 : IM} {J1 J2 : JM} {R1 R2 : RM} {a ci k : Nat} {ts : List Nat} (hl : LT a = some (.inr (ci, ts))) (hk : ts[k]? = some 2) (e : mk I1 J1 R1 = mk I2 J2 R2) : R1 a k = R2 a k := by
  have h1 := (mk_rep I1 J1 R1).rgR (a := a) (k := k) (by rw [Lay_LT]; exact hl) hk
  have h2 := (mk_rep I2 J2 R2).rgR (a := a) (k := k) (by rw [Lay_LT]; exact hl) hk
  rw [e, h2] at h1
  exact (Option.some.inj h1).symm
/-- a program as it lies in the memory at p -/
def XM (I : IM) (R : RM) (p : Nat) : RX := ⟨I (p + 52), I (p + 53), I (p + 54), fun y k => if p + 2 ≤ y ∧ y < p + 52 then I y k else 0, fun y k => if p + 2 ≤ y ∧ y < p + 52 then R y k else none⟩
theorem XM.F {I : IM} {R : RM} {p y k : Nat} (h : p + 2 ≤ y ∧ y < p + 52) : (XM I R p).F y k = I y k := if_pos h
theorem XM.N {I : IM} {R : RM} {p y k : Nat} (h : p + 2 ≤ y ∧ y < p + 52) : (XM I R p).N y k = R y k := if_pos h
theorem XM.ag {I : IM} {R : RM} {p n c : Nat} (hc : c ≤ 50) : AG (XM I R p) p n 0 c 0 I R := ⟨fun k _ => ⟨rfl, rfl, rfl⟩, fun q _ hq => ⟨fun k => (XM.F (by omega)).symm, fun k _ => (XM.N (by omega)).symm⟩⟩
theorem XM.eq {I I' : IM} {R R' : RM} {p : Nat} (e : ∀ x j, p + 2 ≤ x → x ≤ p + 54 → I' x j = I x j) (r : ∀ y k, p + 2 ≤ y → y < p + 52 → R' y k = R y k) : XM I' R' p = XM I R p := by
  have e1 : I' (p + 52) = I (p + 52) := funext fun j => e _ _ (by omega) (by omega)
  have e2 : I' (p + 53) = I (p + 53) := funext fun j => e _ _ (by omega) (by omega)
  have e3 : I' (p + 54) = I (p + 54) := funext fun j => e _ _ (by omega) (by omega)
  have e4 : (fun y k => if p + 2 ≤ y ∧ y < p + 52 then I' y k else 0) = (fun y k => if p + 2 ≤ y ∧ y < p + 52 then I y k else 0) := by
    funext y k
    by_cases h : p + 2 ≤ y ∧ y < p + 52
    · rw [if_pos h, if_pos h]; exact e _ _ (by omega) (by omega)
    · rw [if_neg h, if_neg h]
  have e5 : (fun y k => if p + 2 ≤ y ∧ y < p + 52 then R' y k else none) = (fun y k => if p + 2 ≤ y ∧ y < p + 52 then R y k else none) := by
    funext y k
    by_cases h : p + 2 ≤ y ∧ y < p + 52
    · rw [if_pos h, if_pos h]; exact r _ _ (by omega) (by omega)
    · rw [if_neg h, if_neg h]
  unfold XM
  rw [e1, e2, e3, e4, e5]
/-- what the class's parse keeps, where it parses -/
def PFZ (p : Nat) (I I' : IM) (R R' : RM) : Prop := (∀ x j, (x < p ∨ p + 54 < x) → x ≠ 1 → x ≠ 2 → x ≠ 4 → x ≠ 5 → x ≠ 6 → (x ≠ 0 ∨ j ≠ 6) → I' x j = I x j) ∧ (∀ j, (j < 5 ∨ 8 < j) → I' 2 j = I 2 j) ∧ ∀ y k, (y < p ∨ p + 52 ≤ y) → (y ≠ 1 ∨ k ≠ 2) → (y ≠ 0 ∨ (k ≠ 4 ∧ k ≠ 5)) → R' y k = R y k
set_option maxRecDepth 100000 in
theorem v_parse {I : IM} {J : JM} {R : RM} {p q : Nat} (h : FXR R) (hp : isP p) (h05 : R 0 5 = some p) (h04 : R 0 4 = some q) {L : Nat} (hL : (I 2 4).toInt = L) (hL2 : L ≤ 200) {Q : ((Int32 ⊕ String) × WW) → Prop} (k : ∀ (K B M : Nat → Int32) (i' c' n' : Nat) (o : Option Nat) (I' : IM) (R' : RM) (v : Int32), TL (I 3) L K B M 0 0 → DS (XM I' R' p) K B M p 0 0 0 0 0 0 (.inl (i', c', n', o)) → PFZ p I I' R R' → I' 1 3 = -2 → v.toInt = c' → (c' ≤ 50 ∧ n' ≤ 200) → (I' 0 6 = 1 ∧ R' 0 4 = some p ∧ R' 0 5 = some q ∧ R' p 6 = o) → FXR R' → Q (.inl v, mk I' J R')) (kx : ∀ (E : String) (K B M : Nat → Int32) (j : Nat) (I' : IM) (R' : RM), TL (I 3) L K B M 0 0 → DS (XM I' R' p) K B M p 0 0 0 0 0 0 (.inr j) → PFR p I I' R R' → I' 1 3 = B j → FXR R' → Q (.inr E, mk I' J R')) : wl (f_a_parse 0 (mk I J R)) Q := by
  have hp' : p = 7 ∨ p = 62 := hp
  unfold f_a_parse
  refine wl_kb (wn_0_2 h (wl_gN rfl rfl h05 (wl_bdx (v_program h hp h05 hL hL2 (fun K B M i' c' n' o I' R' hT hD hf f3 cn hb g6 hF => ⟨fun v hv => ?_, fun E hE => (by cases hE)⟩) (fun E K B M j I' R' hT hD hf f3 => ⟨fun v hv => (by cases hv), fun E' hE => kx E' K B M j I' R' hT (hD _ (XM.ag (Nat.le_refl _))) hf f3.1 f3.2⟩)))))
  have g5 : R' 0 5 = some p := by rw [hf.2.2 0 5 (by omega) (by omega)]; exact h05
  have g4 : R' 0 4 = some q := by rw [hf.2.2 0 4 (by omega) (by omega)]; exact h04
  refine wl_gN rfl rfl g4 (wl_gN rfl rfl g5 (wl_pR (x := some p) rfl rfl (wl_pR (x := some q) rfl rfl (wl_req (fun _ => wl_pI rfl rfl (wl_gN rfl rfl ((up2_nek (by decide)).trans up2_s) (wl_gI (isP_lt hp).1 rfl rfl (wl_some ?_))))))))
  have eX : XM (up2 I' 0 6 1) (up2 (up2 R' 0 4 (some p)) 0 5 (some q)) p = XM I' R' p := XM.eq (fun x j a b => up2_nea (by omega)) (fun y k a b => by rw [up2_nea (by omega), up2_nea (by omega)])
  refine k K B M i' c' n' o _ _ _ hT (by rw [eX]; exact hD _ (XM.ag (by omega))) ⟨fun x j a b1 b2 b4 b5 b6 b0 => ?_, fun j hj => ?_, fun y k a b c => ?_⟩ ?_ ?_ hb ⟨up2_s, ?_, ?_, ?_⟩ ((hF.w (by decide +kernel)).w (by decide +kernel))
  · rw [up2_ne _ _ (by omega)]; exact hf.1 x j a b1 b2 b4 b5 b6
  · rw [up2_nea (by omega)]; exact hf.2.1 j hj
  · rw [up2_ne _ _ (by omega), up2_ne _ _ (by omega)]; exact hf.2.2 y k a b
  · rw [up2_nea (by decide)]; exact f3
  · rw [up2_nea (by omega)]; exact cn
  · rw [up2_nek (by decide), up2_s]
  · exact up2_s
  · rw [up2_nea (by omega), up2_nea (by omega)]; exact g6
