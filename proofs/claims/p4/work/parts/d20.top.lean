/-! Both parsers: the class's parse by the rules; worlds that are one have the same cells. -/
theorem mk_row {I1 I2 : IM} {J1 J2 : JM} {R1 R2 : RM} {a t n : Nat} (hl : LT a = some (.inl (t, n, 0))) (e : mk I1 J1 R1 = mk I2 J2 R2) : I1 a = I2 a := by
  have h1 := (mk_rep I1 J1 R1).rga (a := a) (by rw [Lay_LT]; exact hl)
  have h2 := (mk_rep I2 J2 R2).rga (a := a) (by rw [Lay_LT]; exact hl)
  rw [e, h2] at h1
  simp only [if_true, Option.some.injEq, Prod.mk.injEq, Sum.inl.injEq, true_and] at h1
  exact h1.symm
theorem mk_fld {I1 I2 : IM} {J1 J2 : JM} {R1 R2 : RM} {a ci k : Nat} {ts : List Nat} (hl : LT a = some (.inr (ci, ts))) (hk : ts[k]? = some 0) (e : mk I1 J1 R1 = mk I2 J2 R2) : I1 a k = I2 a k := by
  have h1 := (mk_rep I1 J1 R1).rgI (a := a) (k := k) (by rw [Lay_LT]; exact hl) hk
  have h2 := (mk_rep I2 J2 R2).rgI (a := a) (k := k) (by rw [Lay_LT]; exact hl) hk
  rw [e, h2] at h1
  exact (Option.some.inj h1).symm
set_option maxRecDepth 100000 in
theorem v_parse {I : IM} {J : JM} {R : RM} {p : Nat} (h : FXR R) (hp : isP p) (h05 : R 0 5 = some p) {L : Nat} (hL : (I 2 4).toInt = L) (hL2 : L ≤ 200) {Q : ((Int32 ⊕ String) × WW) → Prop} (k : ∀ (K B : Nat → Int32) (i' c' : Nat) (I' : IM) (R' : RM) (v : Int32), TL (I 3) L K B 0 0 → DS K 0 0 0 0 0 (.inl (i', c')) → I' 3 = I 3 → I' 1 3 = -2 → v.toInt = c' → Q (.inl v, mk I' J R')) (kx : ∀ (E : String) (K B : Nat → Int32) (j : Nat) (I' : IM) (R' : RM), TL (I 3) L K B 0 0 → DS K 0 0 0 0 0 (.inr j) → I' 3 = I 3 → I' 1 3 = B j → Q (.inr E, mk I' J R')) : wl (f_a_parse 0 (mk I J R)) Q := by
  have hp' : p = 7 ∨ p = 62 := hp
  unfold f_a_parse
  refine wl_kb (wn_0_2 h (wl_gN rfl rfl h05 (wl_bdx (v_program h hp h05 hL hL2 (fun K B i' c' I' R' hT hD r3 f3 cn g5 => ⟨fun v hv => ?_, fun E hE => (by cases hE)⟩) (fun E K B j I' R' hT hD r3 f3 => ⟨fun v hv => (by cases hv), fun E' hE => kx E' K B j I' R' hT hD r3 f3⟩)))))
  refine wl_bd (fun x5 _ => ?_)
  refine wl_gN rfl rfl g5 (wl_pR (x := some p) rfl rfl (wl_pR (x := some x5) rfl rfl (wl_req (fun _ => wl_pI rfl rfl (wl_gN rfl rfl ((up2_nek (by decide)).trans up2_s) (wl_gI (isP_lt hp).1 rfl rfl (wl_some (k K B i' c' _ _ _ hT hD ?_ ?_ ?_))))))))
  · funext j; rw [up2_nea (by decide)]; exact congrFun r3 j
  · rw [up2_nea (by decide)]; exact f3
  · rw [up2_nea (by omega)]; exact cn
