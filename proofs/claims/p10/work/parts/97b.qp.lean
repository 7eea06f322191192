/-! The reference: parse and analyse. -/
section QCM
variable {I I' : IM} {J J' : JM} {R : RM}
theorem PLG.prg {H : Nat} {d : Nat → Nat} (h : PLG I H d) : PRG I H := by
  have hb := h.b
  obtain ⟨⟨g1, g2, g3, g4, g5, g6, g7, g8, g9⟩, h2, h3, h4, h5⟩ := h
  exact ⟨g1, h4, by omega, d, fun s s1 s2 => ⟨(g6 s s1 s2).1, (g6 s s1 s2).2.mono (by omega)⟩, g7⟩
theorem c_parse (hR : QR R) (hq : QF I J) {Q : (Int32 × WW) → Prop} (k : ∀ (r : Int32) (I' : IM) (J' : JM), QF I' J' → QKp I J I' J' → HK (I 373 27).toInt.toNat I I' → (I' 373 5 = 1 → I' 373 8 = I 373 8 ∧ I' 373 27 = I 373 27) → Q (r, mk I' J' R)) : wp (f_q_parse 373 (mk I J R)) Q := by
  obtain ⟨h1, h2, h3, h4, h5, h6, h7⟩ := hq
  have xh : (1 - I 373 27).toInt = 1 - (I 373 27).toInt := by rw [i32subc (by rw [l32_1]; omega), l32_1]
  generalize hH : (1 - I 373 27).toInt.toNat = H at *
  have hHi : (1 - I 373 27).toInt = H := by omega
  unfold f_q_parse
  refine st_kb rfl (st_gI rfl rfl rfl (st_pI rfl rfl (qn_21 hR (st_gI rfl rfl up2_s (st_sI (n := 2) rfl (by omega) (qn_22 hR (st_gI rfl rfl ((up2_nea (by decide)).trans up2_s) (st_sI (n := 2) rfl (by omega) (qn_23 hR (st_gI rfl rfl ((up2_nea (by decide)).trans ((up2_nea (by decide)).trans up2_s)) (st_sI (n := 2) rfl (by omega) ?_)))))))))))
  rw [hH]
  refine st_pI rfl rfl (qn_37 hR (st_sI (n := 8) rfl (by decide) (st_pI rfl rfl (st_req (Or.inl rfl) (st_pI rfl rfl (st_pI rfl rfl ?_))))))
  generalize hK : up2 (up2 (up2 (up2 (up2 (up2 (up2 (up2 (up2 I 373 32 (1 - I 373 27)) 388 H (-1)) 389 H 0) 390 H 0) 373 33 0) 396 (0 : Int32).toInt.toNat (-1)) 373 28 0) 373 34 0) 373 4 (-2) = K
  have z0 : (0 : Int32).toInt.toNat = 0 := rfl
  rw [z0] at hK
  have fK : ∀ x j, (x ≠ 373 ∨ (j ≠ 4 ∧ j ≠ 28 ∧ j ≠ 32 ∧ j ≠ 33 ∧ j ≠ 34)) → ((x ≠ 388 ∧ x ≠ 389 ∧ x ≠ 390) ∨ j ≠ H) → (x ≠ 396 ∨ j ≠ 0) → K x j = I x j := fun x j u1 u2 u3 => by
    rw [← hK, up2_ne _ _ (by omega), up2_ne _ _ (by omega), up2_ne _ _ (by omega), up2_ne _ _ (by omega), up2_ne _ _ (by omega), up2_ne _ _ (by omega), up2_ne _ _ (by omega), up2_ne _ _ (by omega), up2_ne _ _ (by omega)]
  have k32 : K 373 32 = 1 - I 373 27 := by rw [← hK, up2_nek (by decide), up2_nek (by decide), up2_nek (by decide), up2_nea (by decide), up2_nek (by decide), up2_nea (by decide), up2_nea (by decide), up2_nea (by decide), up2_s]
  have k388 : K 388 H = -1 := by rw [← hK, up2_nea (by decide), up2_nea (by decide), up2_nea (by decide), up2_nea (by decide), up2_nea (by decide), up2_nea (by decide), up2_nea (by decide), up2_s]
  have k389 : K 389 H = 0 := by rw [← hK, up2_nea (by decide), up2_nea (by decide), up2_nea (by decide), up2_nea (by decide), up2_nea (by decide), up2_nea (by decide), up2_s]
  have k390 : K 390 H = 0 := by rw [← hK, up2_nea (by decide), up2_nea (by decide), up2_nea (by decide), up2_nea (by decide), up2_nea (by decide), up2_s]
  have k33 : K 373 33 = 0 := by rw [← hK, up2_nek (by decide), up2_nek (by decide), up2_nek (by decide), up2_nea (by decide), up2_s]
  have k396 : K 396 0 = -1 := by rw [← hK, up2_nea (by decide), up2_nea (by decide), up2_nea (by decide), up2_s]
  have k28 : K 373 28 = 0 := by rw [← hK, up2_nek (by decide), up2_nek (by decide), up2_s]
  have k34 : K 373 34 = 0 := by rw [← hK, up2_nek (by decide), up2_s]
  clear hK
  have k2 : K 373 2 = I 373 2 := fK _ _ (by omega) (by omega) (by omega)
  refine st_bd (s_q_read hR (by rw [k28, k2, l32_0]; omega) (fun I1 hd => ?_))
  have y1 : YF K I1 := hd.yf
  have t1 := hd.2.1
  have te := t1.e
  have e34 : I1 373 34 = 0 := (hd.1 _ _ (by omega)).trans k34
  have e389 : I1 389 H = 0 := (y1 _ _ (by omega)).trans k389
  have e390 : I1 390 H = 0 := (y1 _ _ (by omega)).trans k390
  have e33 : I1 373 33 = 0 := (y1 _ _ (by omega)).trans k33
  have g1 : PLG I1 H (fun _ => 0) := by
    unfold PLG
    rw [e389, e390, l32_0]
    refine ⟨⟨by omega, by rw [y1 _ _ (by omega), k32]; exact hHi, by rw [e33]; decide, by rw [e33]; decide, by rw [e390]; decide, fun s s1 s2 => ?_, Or.inl (by rw [y1 _ _ (by omega), k388]; rfl), fun j j1 j2 => ?_, fun j j1 => ?_⟩, t1, te.1, by decide, by omega⟩
    · simp at s2; omega
    · rw [e33, l32_0] at j2; omega
    · rw [e33, l32_0] at j1
      have : j = 0 := by omega
      subst this
      exact Or.inl (by rw [y1 _ _ (by omega), k396]; rfl)
  have hl27 : 0 ≤ (I 373 27).toInt ∧ (I 373 27).toInt ≤ 1 := h4
  refine l_q_parse_72 (H := H) (I0 := K) hR (by omega) (by rw [k32]; exact hHi) (fun I2 p2 g2 => ?_) KK I1 y1.pz (fun _ => ⟨⟨_, g1⟩, by unfold KK; omega⟩) (by unfold KK; omega)
  -- the end
  have fr : ∀ x j, (x < 373 ∨ x = 374 ∨ x = 375 ∨ 400 < x ∨ (x = 373 ∧ (j = 2 ∨ j = 3 ∨ j = 6 ∨ j = 7 ∨ j = 8 ∨ j = 27 ∨ 44 < j))) → I2 x j = I x j := fun x j hx => by rw [p2 x j (by omega), fK x j (by omega) (by omega) (by omega)]
  have i32 : I2 373 32 = 1 - I 373 27 := (p2 _ _ (by omega)).trans k32
  have hkk : HK (I 373 27).toInt.toNat I I2 := fun x j hx => by rw [p2 x j (by omega), fK x j (by omega) (by omega) (by omega)]
  have b2 : BI I2 := ⟨fun j hj => by rw [fr _ _ (by omega)]; exact h6.1 j hj, fun j hj => by rw [fr _ _ (by omega)]; exact h6.2 j hj⟩
  have q2 : QF I2 J := by
    unfold QF
    rw [fr 373 2 (by omega), fr 373 3 (by omega), fr 373 7 (by omega), fr 373 8 (by omega), fr 373 27 (by omega)]
    exact ⟨h1, h2, h3, h4, fun z => (h5 z).keep hkk, b2, h7⟩
  have qk2 : QKp I J I2 J := ⟨fun a k ha => fr _ _ (by omega), ⟨fr _ _ (by omega), fr _ _ (by omega)⟩, ⟨fr _ _ (by omega), fr _ _ (by omega)⟩, fun _ _ _ => rfl⟩
  unfold f_q_parse_177
  refine st_gI rfl rfl rfl (st_ite (fun c => ?_) (fun c => st_bd2 (s_q_fail hR (st_some (k _ _ J q2.u5 (qk2.trans QK.u5.p) (fun x j hx => by rw [up2_nea (by omega)]; exact hkk x j hx) (fun _ => ⟨by rw [up2_nek (by decide)]; exact fr _ _ (by omega), by rw [up2_nek (by decide)]; exact fr _ _ (by omega)⟩))))))
  have c' : (I2 373 34).toInt = 0 := by rw [c]; rfl
  obtain ⟨d, gd⟩ := g2 c'
  have gp := gd.prg
  refine st_pI rfl rfl (st_gI rfl rfl ((up2_nek (by decide)).trans i32) (st_pI rfl rfl (st_req (Or.inr rfl) (st_pI rfl rfl ?_))))
  have fL : ∀ x j, (x ≠ 373 ∨ (j ≠ 5 ∧ j ≠ 8 ∧ j ≠ 27)) → up2 (up2 (up2 I2 373 5 0) 373 27 (1 - I 373 27)) 373 8 1 x j = I2 x j := fun x j hx => by rw [up2_ne _ _ (by omega), up2_ne _ _ (by omega), up2_ne _ _ (by omega)]
  have l27 : up2 (up2 (up2 I2 373 5 0) 373 27 (1 - I 373 27)) 373 8 1 373 27 = 1 - I 373 27 := by rw [up2_nek (by decide), up2_s]
  have l5 : up2 (up2 (up2 I2 373 5 0) 373 27 (1 - I 373 27)) 373 8 1 373 5 = 0 := by rw [up2_nek (by decide), up2_nek (by decide), up2_s]
  generalize up2 (up2 (up2 I2 373 5 0) 373 27 (1 - I 373 27)) 373 8 1 = L at *
  refine qn_22 hR (st_gI rfl rfl l27 (st_rI (n := 2) rfl (by omega) rfl (st_some (k _ _ J ?_ ?_ (fun x j hx => by rw [fL x j (by omega)]; exact hkk x j hx) (fun z => absurd (l5.symm.trans z) (by decide))))))
  · unfold QF
    rw [fL 373 2 (by omega), fL 373 3 (by omega), fL 373 7 (by omega), l27, hH, fr 373 2 (by omega), fr 373 3 (by omega), fr 373 7 (by omega)]
    exact ⟨h1, h2, h3, by omega, fun _ => gp.keep (fun x j hx => fL x j (by omega)), ⟨fun j hj => by rw [fL _ _ (by omega)]; exact b2.1 j hj, fun j hj => by rw [fL _ _ (by omega)]; exact b2.2 j hj⟩, h7⟩
  · exact qk2.trans ⟨fun a k ha => fL _ _ (by omega), ⟨fL _ _ (by omega), fL _ _ (by omega)⟩, ⟨fL _ _ (by omega), fL _ _ (by omega)⟩, fun _ _ _ => rfl⟩
theorem c_analyse (hR : QR R) (hq : QF I J) {Q : (Int32 × WW) → Prop} (k : ∀ (r : Int32) (I' : IM) (J' : JM), QF I' J' → QK I J I' J' → Q (r, mk I' J' R)) : wp (f_q_analyse 373 (mk I J R)) Q := by
  have hq0 := hq
  obtain ⟨h1, h2, h3, h4, h5, h6, h7⟩ := hq
  unfold f_q_analyse
  refine st_kb rfl (st_gI rfl rfl rfl (st_ite (fun _ => st_bd2 (s_q_fail hR (st_some (k _ _ J hq0.u5 QK.u5)))) (fun c8 => ?_)))
  rw [i32eq, l32_0] at c8
  have hp := h5 c8
  refine st_pI rfl rfl (st_req (Or.inr rfl) (st_pI rfl rfl (st_pI rfl rfl (st_pI rfl rfl (st_pI rfl rfl ?_)))))
  have fK : ∀ x j, (x ≠ 373 ∨ (j ≠ 5 ∧ j < 64)) → up2 (up2 (up2 (up2 (up2 I 373 5 0) 373 67 1) 373 64 0) 373 65 0) 373 66 0 x j = I x j := fun x j hx => by
    rw [up2_ne _ _ (by omega), up2_ne _ _ (by omega), up2_ne _ _ (by omega), up2_ne _ _ (by omega), up2_ne _ _ (by omega)]
  have k64 : up2 (up2 (up2 (up2 (up2 I 373 5 0) 373 67 1) 373 64 0) 373 65 0) 373 66 0 373 64 = 0 := by rw [up2_nek (by decide), up2_nek (by decide), up2_s]
  generalize up2 (up2 (up2 (up2 (up2 I 373 5 0) 373 67 1) 373 64 0) 373 65 0) 373 66 0 = K at *
  have bK : BI K := ⟨fun j hj => by rw [fK _ _ (by omega)]; exact h6.1 j hj, fun j hj => by rw [fK _ _ (by omega)]; exact h6.2 j hj⟩
  have qK : QF K J := hq0.keep (fun j hj => fK _ _ (by omega)) (fun x j _ _ => fK _ _ (by omega)) bK h7
  have qkK : QK I J K J := ⟨fun a k ha => fK _ _ (by omega), ⟨fK _ _ (by omega), fK _ _ (by omega)⟩, ⟨fK _ _ (by omega), fK _ _ (by omega)⟩, fun _ _ _ => rfl⟩
  -- a world reached: L from K, M from J
  have end127 : ∀ (L : IM) (M : JM), KP 0 K L → BI L → JX (fun _ => True) J M → (L 373 64).toInt = 0 → ∀ s : Int32, s = I 388 (I 373 27).toInt.toNat → wp (f_q_analyse_127 KK 373 s (mk L M R)) Q := by
    intro L M kp bL jM tL s hs
    have paIL : PA I L := fun x j a b => (kp x j (by omega)).trans (fK x j (by omega))
    obtain ⟨d, hi, hg, hd3, hv⟩ := hp.pg
    have n7 : L 373 7 = I 373 7 := (kp _ _ (by omega)).trans (fK _ _ (by omega))
    have oL : OK (80 * (I 373 27).toInt.toNat) hi d 0 0 L M L M := ⟨hg.pa paIL, bL, KP.refl _ _, JX.refl jM.1, tL, by rw [n7]; exact h3.1, by rw [n7]; exact h3.2⟩
    refine an_all hR hd3 Q KK s L M L M oL (by rw [hs]; exact hv) (by unfold KK; omega) (fun N' I2 J2 hN o2 => ?_)
    obtain ⟨n, rfl⟩ : ∃ n, N' = n + 1 := ⟨N' - 1, by unfold KK at hN; omega⟩
    rw [f_q_analyse_127, if_neg (by decide)]
    have t2 := o2.top
    refine st_gI rfl rfl rfl (st_ite (fun _ => ?_) (fun c => ?_))
    · refine st_bd2 (s_q_warnings hR (fun r => st_some (k _ _ J2 ?_ ?_)))
      · exact qK.keep (fun j hj => by rw [o2.kp _ _ (by omega), kp _ _ (by omega)]) (fun x j a b => by rw [o2.kp _ _ (by omega), kp _ _ (by omega)]) o2.bi o2.vi
      · refine qkK.trans ⟨fun a k ha => by rw [o2.kp _ _ (by omega), kp _ _ (by omega)], ⟨by rw [o2.kp _ _ (by omega), kp _ _ (by omega)], by rw [o2.kp _ _ (by omega), kp _ _ (by omega)]⟩, ⟨by rw [o2.kp _ _ (by omega), kp _ _ (by omega)], by rw [o2.kp _ _ (by omega), kp _ _ (by omega)]⟩, fun a k ha => ?_⟩
        rw [o2.jx.2 a k (by omega), jM.2 a k (by omega)]
    · rw [i32le, l32_0] at c; omega
  have e388 : ∀ L : IM, KP 0 K L → L 388 (I 373 27).toInt.toNat = I 388 (I 373 27).toInt.toNat := fun L kp => (kp _ _ (by omega)).trans (fK _ _ (by omega))
  have g96 : ∀ (N j : Nat) (y : Int32) (L : IM) (M : JM), KP 0 K L → BI L → (L 373 64).toInt = 0 → JX (fun _ => True) J M → y.toInt = j → 6 ≤ j → j ≤ 14 → 14 - j < N → wp (f_q_analyse_96 N 373 y (mk L M R)) Q := by
    intro N
    induction N with
    | zero => intros; omega
    | succ N ih =>
      intro j y L M kp bL tL jM hj hj6 hj14 hN
      rw [f_q_analyse_96]
      refine st_ite (fun _ => ?_) (fun c => ?_)
      · have l27 : L 373 27 = I 373 27 := (kp _ _ (by omega)).trans (fK _ _ (by omega))
        exact qn_21 hR (st_gI rfl rfl l27 (st_rI (n := 2) rfl (by omega) rfl (end127 L M kp bL jM tL _ (e388 L kp))))
      · rw [i32le, l32_14] at c
        refine st_bd (s_q_put4 hR (by omega) (ih (j + 1) _ L _ kp bL tL (jM.p4 (VV_q 0) trivial) (by rw [i32add, l32_1]; omega) (by omega) (by omega) (by omega)))
  have g69 : ∀ (N j : Nat) (y : Int32) (L : IM) (M : JM), KP 0 K L → BI L → (L 373 64).toInt = 0 → JX (fun _ => True) J M → y.toInt = j → j ≤ 6 → 6 - j < N → wp (f_q_analyse_69 N 373 y (mk L M R)) Q := by
    intro N
    induction N with
    | zero => intros; omega
    | succ N ih =>
      intro j y L M kp bL tL jM hj hj6 hN
      rw [f_q_analyse_69]
      refine st_ite (fun _ => g96 KK 6 _ L M kp bL tL jM rfl (by decide) (by decide) (by unfold KK; decide)) (fun c => ?_)
      rw [i32le, l32_6] at c
      refine st_bd (s_q_none hR (by omega) (qn_58 hR (st_sI (n := 96) rfl (by omega) ?_)))
      refine ih (j + 1) _ _ _ (fun x i hx => ?_) (bL.up10 (nb01 _)) (by rw [up2_nea (by decide)]; exact tL) (jM.p4 VV_n trivial) (by rw [i32add, l32_1]; omega) (by omega) (by omega)
      rw [up2_ne _ _ (by omega)]; exact kp x i hx
  have g40 : ∀ (N j : Nat) (y : Int32) (L : IM), KP 0 K L → BI L → (L 373 64).toInt = 0 → y.toInt = j → j ≤ 1200 → 1200 - j < N → wp (f_q_analyse_40 N 373 y (mk L J R)) Q := by
    intro N
    induction N with
    | zero => intros; omega
    | succ N ih =>
      intro j y L kp bL tL hj hj6 hN
      rw [f_q_analyse_40]
      refine st_ite (fun _ => ?_) (fun c => ?_)
      · refine qn_59 hR (st_sI (n := 16) rfl (by decide) ?_)
        refine g69 KK 0 _ _ J (fun x i hx => ?_) (bL.up11 (nb01 _)) (by rw [up2_nea (by decide)]; exact tL) (JX.refl h7) rfl (by decide) (by unfold KK; decide)
        rw [up2_ne _ _ (by have : (0 : Int32).toInt.toNat = 0 := rfl; omega)]; exact kp x i hx
      · rw [i32le, l32_1200] at c
        refine qn_60 hR (st_sI (n := 1200) rfl (by omega) (ih (j + 1) _ _ (fun x i hx => ?_) (bL.oth (by decide) (by decide)) (by rw [up2_nea (by decide)]; exact tL) (by rw [i32add, l32_1]; omega) (by omega) (by omega)))
        rw [up2_ne _ _ (by omega)]; exact kp x i hx
  exact g40 KK 0 _ K (KP.refl _ _) bK (by rw [k64]; rfl) rfl (by decide) (by unfold KK; decide)
/-- choose, with its answers -/
theorem c_choose (hR : QR R) {a1 a2 : Int32} (hq : QF I J) {Q : (Int32 × WW) → Prop} (k1 : (a1.toInt < 0 ∨ 1 < a1.toInt ∨ a2.toInt < 0 ∨ 5 < a2.toInt) → Q (0, mk (up2 I 373 5 1) J R)) (k2 : (0 ≤ a2.toInt ∧ a2.toInt ≤ 5) → a1 = 0 → Q (I 373 6, mk (up2 (up2 I 373 5 0) 373 6 a2) J R)) (k3 : (0 ≤ a2.toInt ∧ a2.toInt ≤ 5) → a1 = 1 → Q (I 373 7, mk (up2 (up2 I 373 5 0) 373 7 a2) J R)) : wp (f_q_choose 373 a1 a2 (mk I J R)) Q := by
  unfold f_q_choose f_q_choose_22 f_q_choose_48 f_q_choose_66
  refine st_kb rfl (st_bd2 (s_q_in (fun r _ hr => ?_)))
  dsimp only
  rw [i3264, l64_0, l64_1] at hr
  refine st_ite (fun c => st_bd2 (s_q_fail hR (st_some (k1 ?_)))) (fun c => st_bd2 (s_q_in (fun r2 _ hr2 => ?_)))
  · rw [i32eq, l32_0] at c; omega
  dsimp only
  rw [i3264, l64_0, l64_5] at hr2
  rw [i32eq, l32_0] at c
  refine st_ite (fun c2 => st_bd2 (s_q_fail hR (st_some (k1 ?_)))) (fun c2 => ?_)
  · rw [i32eq, l32_0] at c2; omega
  rw [i32eq, l32_0] at c2
  refine st_pI rfl rfl (st_ite (fun z => ?_) (fun z => ?_))
  · refine st_gI rfl rfl (up2_nek (by decide)) (st_ite (fun _ => st_pI rfl rfl (st_some (k2 (by omega) z))) (fun z' => absurd z z'))
  · refine st_gI rfl rfl (up2_nek (by decide)) (st_ite (fun z' => absurd z' z) (fun _ => st_pI rfl rfl (st_some (k3 (by omega) (i32eq.mpr ?_)))))
    rw [i32eq, l32_0] at z
    rw [l32_1]; omega
end QCM
