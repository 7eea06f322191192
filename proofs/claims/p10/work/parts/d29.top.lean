/-! A run, and what it left: both sides' calls. -/
def SG0 (s : SGM) : Prop := (∀ j, j < 6 → s.V j = 0 ∧ s.U j = 1) ∧ (∀ j, j < 8 → s.C j = 0) ∧ s.bg = 0 ∧ s.tk = 0
/-- what a run of the class keeps -/
def RUF (I I' : IM) (R R' : RM) : Prop := (∀ x j, (x < 117 ∨ 122 ≤ x ∨ (x = 117 ∧ j < 7)) → I' x j = I x j) ∧ ∀ y k, (y ≠ 117 ∨ k ≠ 6) → R' y k = R y k
/-- what doProgram answers, and the error kept -/
def RES (r : RRs) (x : Int32 ⊕ String) (z : Int32) : Prop := match r with
  | .inl _ => x = .inl 1 ∧ z = 0
  | .inr (.inl _) => x = .inl 0 ∧ z = 0
  | .inr (.inr p) => z = p.2 ∧ ∃ E, x = .inr E ∧ EXR p.2 E
/-- what run answers -/
def RES2 (r : RRs) (x : Int32 ⊕ String) (z : Int32) : Prop := match r with
  | .inl _ => x = .inl 0 ∧ z = 0
  | .inr (.inl _) => x = .inl (-5) ∧ z = 0
  | .inr (.inr p) => z = p.2 ∧ ∃ E, x = .inr E ∧ EXR p.2 E
/-- how the reference tells an error -/
def cde (z : Int32) : Int32 := if z / (1024 : Int32) = 1 then 2 else if z / (1024 : Int32) = 2 then 3 else if z / (1024 : Int32) = 5 then 5 else 4
/-- what the reference's run answers, tells and keeps -/
def REQ (r : RRs) (v t z : Int32) : Prop := match r with
  | .inl _ => v = 0 ∧ t = 0 ∧ z = 0
  | .inr (.inl _) => v = -5 ∧ t = 0 ∧ z = 0
  | .inr (.inr p) => z = p.2 ∧ t = cde p.2
theorem cde_tab : (List.range 6).all (fun k => (List.range 200).all (fun l => decide (((1024 : Int32) * Int32.ofNat k + Int32.ofNat l) / (1024 : Int32) = Int32.ofNat k))) = true := by decide +kernel
theorem cde_k {k pl : Int32} (hk : 1 ≤ k.toInt ∧ k.toInt ≤ 5) (hp : 0 ≤ pl.toInt ∧ pl.toInt ≤ 199) : ((1024 : Int32) * k + pl) / (1024 : Int32) = k := by
  have e : k = Int32.ofNat k.toInt.toNat := i32eq.mpr (by rw [n_toInt (by omega)]; omega)
  have e2 : pl = Int32.ofNat pl.toInt.toNat := i32eq.mpr (by rw [n_toInt (by omega)]; omega)
  have q := of_decide_eq_true (allb (allb cde_tab (a := k.toInt.toNat) (by omega)) (a := pl.toInt.toNat) (by omega))
  rw [← e, ← e2] at q
  exact q
section RTOP
variable {I : IM} {J : JM} {R : RM}
theorem v_begin_30 (h : FXR R) {I0 : IM} {Q : WW → Prop} (k : ∀ I', (∀ x j, (x < 117 ∨ x = 118 ∨ x = 119 ∨ 120 < x ∨ (x = 117 ∧ (j < 8 ∨ 10 < j))) → I' x j = I0 x j) → (∀ j, j < 8 → I' 120 j = 0) → (I' 117 8 = 0 ∧ I' 117 9 = 0 ∧ I' 117 10 = 0) → Q (mk I' J R)) : ∀ (N m : Nat) (y : Int32) (I : IM), y.toInt = m → m ≤ 8 → (∀ x j, x ≠ 120 → I x j = I0 x j) → (∀ j, j < m → I 120 j = 0) → wl (f_ru_begin_30 N 117 y (mk I J R)) Q := by
  intro N
  induction N with
  | zero => intro m y I hy hm e e2; exact wl_none
  | succ N ih =>
    intro m y I hy hm e e2
    rw [f_ru_begin_30]
    refine wl_ite (fun c => ?_) (fun c => ?_)
    · rw [i32le, l32_8, hy] at c
      refine wl_pIa rfl rfl (fun I1 e1 f1 => wl_pIa rfl rfl (fun I2 e3 f2 => wl_pIa rfl rfl (fun I3 e4 f3 => wl_some (k I3 (fun x j hx => ?_) (fun j hj => ?_) ⟨?_, ?_, f3⟩))))
      · rw [e4 _ _ (by omega), e3 _ _ (by omega), e1 _ _ (by omega)]; exact e x j (by omega)
      · rw [e4 _ _ (by omega), e3 _ _ (by omega), e1 _ _ (by omega)]; exact e2 j (by omega)
      · rw [e4 _ _ (by omega), e3 _ _ (by omega)]; exact f1
      · rw [e4 _ _ (by omega)]; exact f2
    · rw [i32le, l32_8, hy] at c
      refine wn_117 h (Or.inr (Or.inr (Or.inl ⟨rfl, rfl⟩))) (wl_sIa (n := 8) rfl (fun I1 e1 f1 _ => ?_))
      rw [tnat hy] at e1 f1
      refine ih (m + 1) (y + 1) I1 (by rw [i32addc (by rw [hy, l32_1]; omega), hy, l32_1]; omega) (by omega) (fun x j hx => by rw [e1 _ _ (by omega)]; exact e x j hx) (fun j hj => ?_)
      by_cases z : j = m
      · rw [z]; exact f1
      · rw [e1 _ _ (by omega)]; exact e2 j (by omega)
theorem v_begin (h : FXR R) {Q : WW → Prop} (k : ∀ I', (∀ x j, (x < 117 ∨ 120 < x ∨ (x = 117 ∧ (j < 8 ∨ 10 < j))) → I' x j = I x j) → (∀ j, j < 6 → I' 118 j = 0 ∧ I' 119 j = 1) → (∀ j, j < 8 → I' 120 j = 0) → (I' 117 8 = 0 ∧ I' 117 9 = 0 ∧ I' 117 10 = 0) → Q (mk I' J R)) : wl (f_ru_begin 117 (mk I J R)) Q := by
  have loop : ∀ (N m : Nat) (y : Int32) (I1 : IM), y.toInt = m → m ≤ 6 → (∀ x j, x ≠ 118 → x ≠ 119 → I1 x j = I x j) → (∀ j, j < m → I1 118 j = 0 ∧ I1 119 j = 1) → wl (f_ru_begin_2 N 117 y (mk I1 J R)) Q := by
    intro N
    induction N with
    | zero => intro m y I1 hy hm e e2; exact wl_none
    | succ N ih =>
      intro m y I1 hy hm e e2
      rw [f_ru_begin_2]
      refine wl_ite (fun c => ?_) (fun c => ?_)
      · rw [i32le, l32_6, hy] at c
        refine v_begin_30 h (I0 := I1) (fun I2 e3 a1 a2 => k I2 (fun x j hx => ?_) (fun j hj => ?_) a1 a2) KK 0 0 I1 l32_0 (by omega) (fun _ _ _ => rfl) (fun j hj => by omega)
        · rw [e3 x j (by omega)]; exact e x j (by omega) (by omega)
        · rw [e3 118 j (by omega), e3 119 j (by omega)]; exact e2 j (by omega)
      · rw [i32le, l32_6, hy] at c
        refine wn_117 h (Or.inl ⟨rfl, rfl⟩) (wl_sIa (n := 6) rfl (fun I2 e3 f3 _ => wn_117 h (Or.inr (Or.inl ⟨rfl, rfl⟩)) (wl_sIa (n := 6) rfl (fun I3 e4 f4 _ => ?_))))
        rw [tnat hy] at e3 f3 e4 f4
        rw [nar1] at f4
        refine ih (m + 1) (y + 1) I3 (by rw [i32addc (by rw [hy, l32_1]; omega), hy, l32_1]; omega) (by omega) (fun x j a b => by rw [e4 _ _ (by omega), e3 _ _ (by omega)]; exact e x j a b) (fun j hj => ?_)
        by_cases z : j = m
        · rw [z]; exact ⟨by rw [e4 _ _ (by omega)]; exact f3, f4⟩
        · rw [e4 118 j (by omega), e3 118 j (by omega), e4 119 j (by omega), e3 119 j (by omega)]; exact e2 j (by omega)
  unfold f_ru_begin
  exact wl_kb (loop KK 0 0 I l32_0 (by omega) (fun _ _ _ _ => rfl) (fun j hj => by omega))
set_option maxRecDepth 100000 in
theorem v_doProgram {G : Nat → Nat → Prop} {p lim ic : Nat} {a2 : Int32} (h : FXR R) (hp : isP p) (hG : GDN (XM I R p) p G) (hpl : ∀ n y, G n y → 0 ≤ ((XM I R p).F y 1).toInt ∧ ((XM I R p).F y 1).toInt ≤ 199) (hsp : ∀ k, k < 200 → 0 ≤ (I (p + 54) k).toInt ∧ (I (p + 54) k).toInt ≤ 199) (h0 : ∀ y, R p 6 = some y → G 0 y) (ha : a2.toInt = lim) (hl : lim ≤ 500) (hic : (I 117 5).toInt = ic) {Q : ((Int32 ⊕ String) × WW) → Prop} (k : ∀ (s0 : SGM) (r : RRs) (x : Int32 ⊕ String) (I' : IM) (R' : RM), SG0 s0 → DR (XM I R p) lim ic (I 122) 0 (R p 6) s0 r → RUF I I' R R' → CRE (RRs.s r) I' → RES r x (I' 117 10) → Q (x, mk I' J R')) : wl (f_ru_doProgram 117 p a2 (mk I J R)) Q := by
  have hp' : p = 7 ∨ p = 62 := hp
  have hf : FXR (up2 R 117 6 (some p)) := h.w (by decide +kernel)
  unfold f_ru_doProgram
  refine wl_kb (wl_pR (x := some p) rfl rfl (wl_pIa rfl rfl (fun I1 e1 f1 => wl_bd (v_begin hf (fun I2 e2 a1 a3 a4 => ?_)))))
  refine wl_gR rfl rfl up2_s (wl_eq rfl (wl_gR (isP_lt hp).1 rfl (show up2 R 117 6 (some p) p 6 = R p 6 from up2_nea (by omega)) ?_))
  have s0 : SG0 ⟨I2 118, I2 119, I2 120, 0, 0⟩ := ⟨a1, a3, rfl, rfl⟩
  have hC : CRN (XM I R p) p lim ic (I 122) ⟨I2 118, I2 119, I2 120, 0, 0⟩ I2 (up2 R 117 6 (some p)) := by
    refine ⟨⟨hf, up2_s, hp, ?_, ?_, ?_, hsp⟩, ⟨rfl, rfl, rfl⟩, ?_, ?_, ?_, ⟨hl, Nat.zero_le _⟩, ?_, ?_, fun y k hb => ?_, fun y k hb => ?_⟩
    · show I2 (p + 52) = I (p + 52)
      funext j; rw [e2 _ _ (by omega), e1 _ _ (by omega)]
    · show I2 (p + 53) = I (p + 53)
      funext j; rw [e2 _ _ (by omega), e1 _ _ (by omega)]
    · show I2 (p + 54) = I (p + 54)
      funext j; rw [e2 _ _ (by omega), e1 _ _ (by omega)]
    · rw [a4.1]; exact l32_0
    · rw [a4.2.1]; exact l32_0
    · rw [e2 _ _ (by omega), f1]; exact ha
    · rw [e2 _ _ (by omega), e1 _ _ (by omega)]; exact hic
    · funext j; rw [e2 _ _ (by omega), e1 _ _ (by omega)]
    · rw [XM.F hb, e2 _ _ (by omega), e1 _ _ (by omega)]
    · rw [XM.N hb]; exact up2_nea (by omega)
  have fr : ∀ I3, RKP I2 I3 → RUF I I3 R (up2 R 117 6 (some p)) := fun I3 e3 => ⟨fun x j hx => by rw [e3 x j (by omega), e2 x j (by omega), e1 x j (by omega)], fun y k hy => up2_ne _ _ hy⟩
  unfold f_ru_doStatements
  refine wl_bdx ((v_ru3 (R := up2 R 117 6 (some p)) hG hpl 64).1 (n := 0) l32_0 (by omega) (fun y hy => ⟨h0 y hy, fun z => absurd z (by decide)⟩) (fun z => absurd rfl z) hC ⟨fun s' I3 hD h3 e3 t3 => ⟨fun v hv => ?_, fun E hE => (by cases hE)⟩, fun s' I3 hD h3 e3 t3 => ⟨fun v hv => ?_, fun E hE => (by cases hE)⟩, fun E s' z I3 hD h3 e3 t3 hx => ⟨fun v hv => (by cases hv), fun E' hE => ?_⟩⟩)
  · cases hv
    exact wl_req (fun _ => wl_some (k _ (.inl s') _ I3 _ s0 hD (fr I3 e3) h3.e ⟨rfl, t3.trans a4.2.2⟩))
  · cases hv
    exact wl_req (fun _ => wl_some (k _ (.inr (.inl s')) _ I3 _ s0 hD (fr I3 e3) h3.e ⟨rfl, t3.trans a4.2.2⟩))
  · cases hE
    exact k _ (.inr (.inr (s', z))) _ I3 _ s0 hD (fr I3 e3) h3 ⟨t3, _, rfl, hx⟩
set_option maxRecDepth 100000 in
theorem v_run {G : Nat → Nat → Prop} {p lim ic : Nat} {a1 : Int32} (h : FXR R) (hp : isP p) (h04 : R 0 4 = some p) (h06 : ¬ I 0 6 = 0) (hG : GDN (XM I R p) p G) (hpl : ∀ n y, G n y → 0 ≤ ((XM I R p).F y 1).toInt ∧ ((XM I R p).F y 1).toInt ≤ 199) (hsp : ∀ k, k < 200 → 0 ≤ (I (p + 54) k).toInt ∧ (I (p + 54) k).toInt ≤ 199) (h0 : ∀ y, R p 6 = some y → G 0 y) (ha : a1.toInt = lim) (hl : lim ≤ 500) (hic : (I 117 5).toInt = ic) {Q : ((Int32 ⊕ String) × WW) → Prop} (k : ∀ (s0 : SGM) (r : RRs) (x : Int32 ⊕ String) (I' : IM) (R' : RM), SG0 s0 → DR (XM I R p) lim ic (I 122) 0 (R p 6) s0 r → RUF I I' R R' → CRE (RRs.s r) I' → RES2 r x (I' 117 10) → Q (x, mk I' J R')) : wl (f_a_run 0 a1 (mk I J R)) Q := by
  have r07 : R 0 7 = some 117 := (h 0 7 (by decide) (by decide) (by decide +kernel)).trans (by decide +kernel)
  unfold f_a_run f_a_run_11 f_a_run_55
  refine wl_kb ?_
  rw [if_neg (by rw [i32lt, l32_0, ha]; omega), if_pos (by rw [i32le, l32_500, ha]; omega)]
  refine wl_gI rfl rfl rfl ?_
  rw [if_neg h06]
  refine wl_gN rfl rfl r07 (wl_gN rfl rfl h04 (wl_bdx (v_doProgram h hp hG hpl hsp h0 ha hl hic (fun s0 r x I' R' a b c d e => ?_))))
  cases r with
  | inl s' =>
    obtain ⟨rfl, hz⟩ := e
    refine ⟨fun v hv => ?_, fun E hE => (by cases hE)⟩
    cases hv
    rw [if_neg (by decide)]
    exact wl_some (k s0 (.inl s') _ I' R' a b c d ⟨rfl, hz⟩)
  | inr q =>
    cases q with
    | inl s' =>
      obtain ⟨rfl, hz⟩ := e
      refine ⟨fun v hv => ?_, fun E hE => (by cases hE)⟩
      cases hv
      rw [if_pos rfl]
      exact wl_some (k s0 (.inr (.inl s')) _ I' R' a b c d ⟨rfl, hz⟩)
    | inr q =>
      obtain ⟨hz, E, rfl, hx⟩ := e
      refine ⟨fun v hv => (by cases hv), fun E' hE => ?_⟩
      cases hE
      exact k s0 (.inr (.inr q)) _ I' R' a b c d ⟨hz, _, rfl, hx⟩
theorem z_go_30 (hR : QR R) {a1 : Int32} {I0 : IM} {H : Nat} (hH : (I0 373 27).toInt = H) {Q : (Int32 × WW) → Prop} (k : ∀ I', (∀ x j, (x < 402 ∨ 402 < x) → (x ≠ 373 ∨ j < 51 ∨ 53 < j) → I' x j = I0 x j) → (∀ j, j < 8 → I' 402 j = 0) → (I' 373 52 = 0 ∧ I' 373 53 = 0 ∧ I' 373 51 = 0) → wl (f_q_go_79 KK 373 a1 (I0 388 H) 0 1 (mk I' J R)) Q) : ∀ (N m : Nat) (y : Int32) (I : IM), y.toInt = m → m ≤ 8 → (∀ x j, x ≠ 402 → I x j = I0 x j) → (∀ j, j < m → I 402 j = 0) → wl (f_q_go_30 N 373 a1 y (mk I J R)) Q := by
  intro N
  induction N with
  | zero => intro m y I hy hm e e2; exact wl_none
  | succ N ih =>
    intro m y I hy hm e e2
    rw [f_q_go_30]
    refine wl_ite (fun c => ?_) (fun c => ?_)
    · rw [i32le, l32_8, hy] at c
      refine wl_pIa rfl rfl (fun I1 e1 f1 => wl_pIa rfl rfl (fun I2 e3 f2 => wl_pIa rfl rfl (fun I3 e4 f3 => wq_21 hR (wl_gI rfl rfl rfl (wl_rI (n := 2) rfl (fun _ => ?_))))))
      have h27 : (I3 373 27).toInt = H := by rw [e4 _ _ (by omega), e3 _ _ (by omega), e1 _ _ (by omega), e _ _ (by omega)]; exact hH
      have h388 : I3 388 H = I0 388 H := by rw [e4 _ _ (by omega), e3 _ _ (by omega), e1 _ _ (by omega), e _ _ (by omega)]
      rw [tnat h27, h388]
      refine k I3 (fun x j a b => ?_) (fun j hj => ?_) ⟨?_, ?_, f3⟩
      · rw [e4 _ _ (by omega), e3 _ _ (by omega), e1 _ _ (by omega)]; exact e x j (by omega)
      · rw [e4 _ _ (by omega), e3 _ _ (by omega), e1 _ _ (by omega)]; exact e2 j (by omega)
      · rw [e4 _ _ (by omega), e3 _ _ (by omega)]; exact f1
      · rw [e4 _ _ (by omega)]; exact f2
    · rw [i32le, l32_8, hy] at c
      refine wq_4x hR (Or.inr (Or.inl ⟨rfl, rfl⟩)) (wl_sIa (n := 8) rfl (fun I1 e1 f1 _ => ?_))
      rw [tnat hy] at e1 f1
      refine ih (m + 1) (y + 1) I1 (by rw [i32addc (by rw [hy, l32_1]; omega), hy, l32_1]; omega) (by omega) (fun x j hx => by rw [e1 _ _ (by omega)]; exact e x j hx) (fun j hj => ?_)
      by_cases z : j = m
      · rw [z]; exact f1
      · rw [e1 _ _ (by omega)]; exact e2 j (by omega)
theorem z_go (hR : QR R) {a1 : Int32} {H : Nat} (hH : (I 373 27).toInt = H) {Q : (Int32 × WW) → Prop} (k : ∀ I', GOF I I' → I' 373 5 = I 373 5 → (∀ j, j < 6 → I' 401 j = 0 ∧ I' 405 j = 0) → (∀ j, j < 8 → I' 402 j = 0) → (I' 373 52 = 0 ∧ I' 373 53 = 0 ∧ I' 373 51 = 0) → wl (f_q_go_79 KK 373 a1 (I 388 H) 0 1 (mk I' J R)) Q) : wl (f_q_go 373 a1 (mk I J R)) Q := by
  have loop : ∀ (N m : Nat) (y : Int32) (I1 : IM), y.toInt = m → m ≤ 6 → (∀ x j, x ≠ 401 → x ≠ 405 → I1 x j = I x j) → (∀ j, j < m → I1 401 j = 0 ∧ I1 405 j = 0) → wl (f_q_go_2 N 373 a1 y (mk I1 J R)) Q := by
    intro N
    induction N with
    | zero => intro m y I1 hy hm e e2; exact wl_none
    | succ N ih =>
      intro m y I1 hy hm e e2
      rw [f_q_go_2]
      refine wl_ite (fun c => ?_) (fun c => ?_)
      · rw [i32le, l32_6, hy] at c
        have h388 : I1 388 H = I 388 H := e _ _ (by omega) (by omega)
        refine z_go_30 hR (I0 := I1) (H := H) (by rw [e _ _ (by omega) (by omega)]; exact hH) (fun I2 e3 a1 a2 => ?_) KK 0 0 I1 l32_0 (by omega) (fun _ _ _ => rfl) (fun j hj => by omega)
        rw [h388]
        refine k I2 (fun x j a b => ?_) ?_ (fun j hj => ?_) a1 a2
        · rw [e3 x j (by omega) (by omega)]; exact e x j (by omega) (by omega)
        · rw [e3 _ _ (by omega) (by omega)]; exact e _ _ (by omega) (by omega)
        · rw [e3 401 j (by omega) (by omega), e3 405 j (by omega) (by omega)]; exact e2 j (by omega)
      · rw [i32le, l32_6, hy] at c
        refine wq_4x hR (Or.inr (Or.inr (Or.inr (Or.inr (Or.inl ⟨rfl, rfl⟩))))) (wl_sIa (n := 6) rfl (fun I2 e3 f3 _ => wq_4x hR (Or.inl ⟨rfl, rfl⟩) (wl_sIa (n := 6) rfl (fun I3 e4 f4 _ => ?_))))
        rw [tnat hy] at e3 f3 e4 f4
        rw [nar0] at f3
        refine ih (m + 1) (y + 1) I3 (by rw [i32addc (by rw [hy, l32_1]; omega), hy, l32_1]; omega) (by omega) (fun x j a b => by rw [e4 _ _ (by omega), e3 _ _ (by omega)]; exact e x j a b) (fun j hj => ?_)
        by_cases z : j = m
        · rw [z]; exact ⟨f4, by rw [e4 _ _ (by omega)]; exact f3⟩
        · rw [e4 401 j (by omega), e3 401 j (by omega), e4 405 j (by omega), e3 405 j (by omega)]; exact e2 j (by omega)
  unfold f_q_go
  exact wl_kb (loop KK 0 0 I l32_0 (by omega) (fun _ _ _ _ => rfl) (fun j hj => by omega))
theorem z_run {X : RX} {G : Nat → Nat → Prop} {H p n lim ic : Nat} {inp : Nat → Int32} {a1 : Int32} (hR : QR R) (hG : GDN X p G) (hE : SEN X G n) (hS : SRL X G H p I) (hL : RLS X H n I) (hn : n ≤ 200) (hH : H ≤ 1) (h27 : (I 373 27).toInt = H) {oy : Option Nat} (h0 : ∀ y, oy = some y → G 0 y) (hl : lnk H p oy (I 388 H)) (ha : a1.toInt = lim) (hlim : lim ≤ 500) (h8 : ¬ I 373 8 = 0) (h3 : (I 373 3).toInt = ic) (hi : ∀ j, j < ic → I 375 j = inp j) {s0 : SGM} (h00 : SG0 s0) {r : RRs} (hD : DR X lim ic inp 0 oy s0 r) {Q : (Int32 × WW) → Prop} (k : ∀ (v : Int32) (I' : IM), GOF I I' → VRL (RRs.s r).V (RRs.s r).U (RRs.s r).C I' → (I' 373 52).toInt = (RRs.s r).bg → (I' 373 53).toInt = (RRs.s r).tk → REQ r v (I' 373 5) (I' 373 51) → Q (v, mk I' J R)) : wl (f_q_run 373 a1 (mk I J R)) Q := by
  unfold f_q_run
  refine wl_kb (wl_bd2 (wp_wl (s_q_in (fun r1 _ hr => ?_))))
  dsimp only
  rw [i3264, l64_0, l64_500] at hr
  rw [if_neg (fun z => by rw [z, l32_0] at hr; omega)]
  refine wl_gI rfl rfl rfl ?_
  rw [if_neg h8]
  refine wl_pIa rfl rfl (fun I1 e1 f1 => wl_bd2 (z_go hR (H := H) (by rw [e1 _ _ (by omega)]; exact h27) (fun I2 e2 e5 a2 a3 a4 => ?_)))
  have g2 : GOF I I2 := fun x j a b => by rw [e2 x j a b, e1 x j (by omega)]
  have h388 : I1 388 H = I 388 H := e1 _ _ (by omega)
  rw [h388]
  let Z : ZC := ⟨X, G, H, p, n, lim, ic, inp, I, J, R, a1, fun y => wl (some (y.1, y.2)) Q⟩
  have hz : ZOK Z := ⟨hR, hG, hS, hL, hE, show 220 * H + n ≤ 440 by omega, ha, h3, hi⟩
  have hq : QGO Z s0 [] I2 := by
    refine ⟨g2, ⟨fun j hj => ?_, fun j hj => ?_, fun j hj => ?_⟩, ?_, ?_, ?_, trivial, fun y hy => (by cases hy), a4.2.2, e5.trans f1⟩
    · rw [(a2 j hj).1, (h00.1 j hj).1]
    · rw [(a2 j hj).2, (h00.1 j hj).2]; exact ⟨fun _ => by decide, fun _ => rfl⟩
    · rw [a3 j hj, h00.2.1 j hj]
    · rw [a4.1, h00.2.2.1]; exact l32_0
    · rw [a4.2.1, h00.2.2.2]; exact l32_0
    · rw [h00.2.2.1]; exact Nat.zero_le _
  have fin : ∀ {s' : SGM} {O : List Nat} {I3 : IM}, QGO Z s' O I3 → GOF I I3 ∧ VRL s'.V s'.U s'.C I3 ∧ (I3 373 52).toInt = s'.bg ∧ (I3 373 53).toInt = s'.tk ∧ I3 373 51 = 0 ∧ I3 373 5 = 0 := fun q => ⟨q.1, q.2.1, q.2.2.1, q.2.2.2.1, q.2.2.2.2.2.2.2⟩
  refine (ref_run hz hD).1 rfl [] I2 KK 0 (I 388 H) 0 h0 hl l32_0 hq ?_
  cases r with
  | inl s' =>
    intro I3 N ss oo hs ho h3'
    obtain ⟨g1, g3, g4, g5, g6⟩ := fin h3'
    show wl (f_q_go_79 N 373 a1 ss oo 1 (mk I3 J R)) Z.Q
    cases N with
    | zero => exact wl_none
    | succ N =>
      rw [f_q_go_79, if_neg (by decide), if_neg (by rw [i32le, l32_0]; omega), if_pos (i32eq.mpr (by rw [l32_0]; exact ho))]
      exact wl_some (wl_some (k 0 I3 g1 g3 g4 g5 ⟨rfl, g6.2, g6.1⟩))
  | inr q =>
    cases q with
    | inl s' =>
      intro I3 O h3'
      obtain ⟨g1, g3, g4, g5, g6⟩ := fin h3'
      exact wl_some (k (-5) I3 g1 g3 g4 g5 ⟨rfl, g6.2, g6.1⟩)
    | inr q =>
      obtain ⟨s', z⟩ := q
      intro I3 N ss oo h3' t3
      obtain ⟨g1, g3, g4, g5⟩ := h3'
      have g1 : GOF I I3 := g1
      have t3 : I3 373 51 = z := t3
      have fin2 : ∀ c : Int32, c = cde z → wl (f_q_go_318 373 c (mk I3 J R)) Z.Q := by
        intro c hc
        unfold f_q_go_318
        refine wl_pIa rfl rfl (fun I4 e4 f4 => wl_some (wl_some (k 0 I4 (fun x j a b => by rw [e4 _ _ (by omega)]; exact g1 x j a b) ⟨fun j hj => by rw [e4 _ _ (by omega)]; exact g3.1 j hj, fun j hj => by rw [e4 _ _ (by omega)]; exact g3.2.1 j hj, fun j hj => by rw [e4 _ _ (by omega)]; exact g3.2.2 j hj⟩ (by rw [e4 _ _ (by omega)]; exact g4) (by rw [e4 _ _ (by omega)]; exact g5) ⟨by rw [e4 _ _ (by omega)]; exact t3, f4.trans hc⟩)))
      show wl (f_q_go_79 N 373 a1 ss oo 0 (mk I3 J R)) Z.Q
      cases N with
      | zero => exact wl_none
      | succ N =>
        rw [f_q_go_79, if_pos rfl]
        refine wl_gI rfl rfl t3 ?_
        rw [if_pos (by decide)]
        unfold cde at fin2
        refine wl_ite (fun c1 => fin2 2 (by rw [if_pos c1])) (fun c1 => wl_ite (fun c2 => fin2 3 (by rw [if_neg c1, if_pos c2])) (fun c2 => wl_ite (fun c3 => fin2 5 (by rw [if_neg c1, if_neg c2, if_pos c3])) (fun c3 => fin2 4 (by rw [if_neg c1, if_neg c2, if_neg c3]))))
/-! what the last run left -/
def rnv (a e b t : Int32) (V C U : Nat → Int32) : Int32 := if a.toInt = 0 then e else if a.toInt = 1 then b else if a.toInt = 2 then t else if a.toInt ≤ 15 then V (a.toInt - 10).toNat else if a.toInt ≤ 27 then C (a.toInt - 20).toNat else U (a.toInt - 30).toNat
def RNV (a : Int32) : Prop := (0 ≤ a.toInt ∧ a.toInt ≤ 2) ∨ (10 ≤ a.toInt ∧ a.toInt ≤ 15) ∨ (20 ≤ a.toInt ∧ a.toInt ≤ 27) ∨ (30 ≤ a.toInt ∧ a.toInt ≤ 35)
theorem rnv_eq {a e b t e' b' t' : Int32} {V C U V' C' U' : Nat → Int32} (h : RNV a) (h1 : e = e') (h2 : b = b') (h3 : t = t') (h4 : ∀ j, j < 6 → V j = V' j) (h5 : ∀ j, j < 8 → C j = C' j) (h6 : ∀ j, j < 6 → U j = U' j) : rnv a e b t V C U = rnv a e' b' t' V' C' U' := by
  unfold RNV at h
  unfold rnv
  rw [h1, h2, h3]
  by_cases c0 : a.toInt = 0
  · rw [if_pos c0, if_pos c0]
  rw [if_neg c0, if_neg c0]
  by_cases c1 : a.toInt = 1
  · rw [if_pos c1, if_pos c1]
  rw [if_neg c1, if_neg c1]
  by_cases c2 : a.toInt = 2
  · rw [if_pos c2, if_pos c2]
  rw [if_neg c2, if_neg c2]
  by_cases c3 : a.toInt ≤ 15
  · rw [if_pos c3, if_pos c3]; exact h4 _ (by omega)
  rw [if_neg c3, if_neg c3]
  by_cases c4 : a.toInt ≤ 27
  · rw [if_pos c4, if_pos c4]; exact h5 _ (by omega)
  rw [if_neg c4, if_neg c4]; exact h6 _ (by omega)
set_option maxRecDepth 100000 in
theorem v_ran (h : FXR R) {a : Int32} {Q : ((Int32 ⊕ String) × WW) → Prop} (k : RNV a → Q (.inl (rnv a (I 117 10) (I 117 8) (I 117 9) (I 118) (I 120) (fun j => if I 119 j = 0 then 0 else 1)), mk I J R)) (kx : ¬ RNV a → Q (.inr "java/lang/IllegalArgumentException", mk I J R)) : wl (f_a_ran 0 a (mk I J R)) Q := by
  have r07 : R 0 7 = some 117 := (h 0 7 (by decide) (by decide) (by decide +kernel)).trans (by decide +kernel)
  have ab := i32b a
  unfold RNV at k kx
  unfold rnv at k
  unfold f_a_ran
  refine wl_kb (wl_ite (fun c0 => ?_) (fun c0 => wl_ite (fun c1 => ?_) (fun c1 => wl_ite (fun c2 => ?_) (fun c2 => ?_))))
  · rw [i32eq, l32_0] at c0
    rw [if_pos c0] at k
    exact wl_gN rfl rfl r07 (wl_gI rfl rfl rfl (wl_some (k (by omega))))
  · rw [i32eq, l32_0] at c0
    rw [i32eq, l32_1] at c1
    rw [if_neg c0, if_pos c1] at k
    exact wl_gN rfl rfl r07 (wl_gI rfl rfl rfl (wl_some (k (by omega))))
  · rw [i32eq, l32_0] at c0
    rw [i32eq, l32_1] at c1
    rw [i32eq, l32_2] at c2
    rw [if_neg c0, if_neg c1, if_pos c2] at k
    exact wl_gN rfl rfl r07 (wl_gI rfl rfl rfl (wl_some (k (by omega))))
  rw [i32eq, l32_0] at c0
  rw [i32eq, l32_1] at c1
  rw [i32eq, l32_2] at c2
  rw [if_neg c0, if_neg c1, if_neg c2] at k
  have s88 : ¬ (10 ≤ a.toInt ∧ a.toInt ≤ 15) → ¬ (20 ≤ a.toInt ∧ a.toInt ≤ 27) → wl (f_a_ran_88 0 a (mk I J R)) Q := by
    intro n1 n2
    unfold f_a_ran_88 f_a_ran_121 f_a_ran_120
    refine wl_ite (fun c => wl_some (kx ?_)) (fun c => wl_ite (fun c' => wl_some (kx ?_)) (fun c' => ?_))
    · rw [i32lt, l32_30] at c; omega
    · rw [i32le, l32_36] at c'; omega
    · rw [i32lt, l32_30] at c
      rw [i32le, l32_36] at c'
      have x1 : (a - 30).toInt = a.toInt - 30 := by rw [i32subc (by rw [l32_30]; omega), l32_30]
      rw [if_neg (by omega), if_neg (by omega)] at k
      have kk := k (by omega)
      refine wl_gN rfl rfl r07 (wn_117 h (Or.inr (Or.inl ⟨rfl, rfl⟩)) (wl_rI (n := 6) rfl (fun _ => ?_)))
      rw [x1]
      try dsimp only at kk
      refine wl_ite (fun c3 => wl_some ?_) (fun c3 => wl_some ?_)
      · rw [if_pos c3] at kk; exact kk
      · rw [if_neg c3] at kk; exact kk
  have s63 : ¬ (10 ≤ a.toInt ∧ a.toInt ≤ 15) → wl (f_a_ran_63 0 a (mk I J R)) Q := by
    intro n1
    unfold f_a_ran_63
    refine wl_ite (fun c => s88 n1 ?_) (fun c => wl_ite (fun c' => s88 n1 ?_) (fun c' => ?_))
    · rw [i32lt, l32_20] at c; omega
    · rw [i32le, l32_28] at c'; omega
    · rw [i32lt, l32_20] at c
      rw [i32le, l32_28] at c'
      have x1 : (a - 20).toInt = a.toInt - 20 := by rw [i32subc (by rw [l32_20]; omega), l32_20]
      rw [if_neg (by omega), if_pos (by omega)] at k
      refine wl_gN rfl rfl r07 (wn_117 h (Or.inr (Or.inr (Or.inl ⟨rfl, rfl⟩))) (wl_rI (n := 8) rfl (fun _ => wl_some ?_)))
      rw [x1]
      exact k (by omega)
  refine wl_ite (fun c => s63 ?_) (fun c => wl_ite (fun c' => s63 ?_) (fun c' => ?_))
  · rw [i32lt, l32_10] at c; omega
  · rw [i32le, l32_16] at c'; omega
  · rw [i32lt, l32_10] at c
    rw [i32le, l32_16] at c'
    have x1 : (a - 10).toInt = a.toInt - 10 := by rw [i32subc (by rw [l32_10]; omega), l32_10]
    rw [if_pos (by omega)] at k
    refine wl_gN rfl rfl r07 (wn_117 h (Or.inl ⟨rfl, rfl⟩) (wl_rI (n := 6) rfl (fun _ => wl_some ?_)))
    rw [x1]
    exact k (by omega)
theorem z_ran (hR : QR R) {a : Int32} {Q : (Int32 × WW) → Prop} (k : RNV a → Q (rnv a (I 373 51) (I 373 52) (I 373 53) (I 401) (I 402) (fun j => if I 405 j = 0 then 1 else 0), mk (up2 I 373 5 0) J R)) (kx : ¬ RNV a → Q (0, mk (up2 I 373 5 1) J R)) : wl (f_q_ran 373 a (mk I J R)) Q := by
  have ab := i32b a
  have go : RNV a → wl (f_q_ran_60 373 a (mk I J R)) Q := by
    intro hv
    have hv' := hv
    have kk := k hv
    unfold RNV at hv
    unfold rnv at kk
    have r5 : ∀ x j, (x ≠ 373 ∨ j ≠ 5) → up2 I 373 5 0 x j = I x j := fun x j h => up2_ne _ _ h
    have row : ∀ x, x ≠ 373 → up2 I 373 5 0 x = I x := fun x h => funext fun j => r5 x j (Or.inl h)
    unfold f_q_ran_60 f_q_ran_151 f_q_ran_97
    refine wl_pI rfl rfl (wl_ite (fun c => wl_ite (fun c' => wl_ite (fun c'' => ?_) (fun c'' => ?_)) (fun c' => ?_)) (fun c => wl_ite (fun c0 => ?_) (fun c0 => wl_ite (fun c1 => ?_) (fun c1 => ?_))))
    · rw [i32le, l32_3] at c
      rw [i32le, l32_16] at c'
      rw [i32le, l32_28] at c''
      have x1 : (a - 30).toInt = a.toInt - 30 := by rw [i32subc (by rw [l32_30]; omega), l32_30]
      rw [if_neg (by omega), if_neg (by omega), if_neg (by omega), if_neg (by omega), if_neg (by omega)] at kk
      refine wq_4x hR (Or.inr (Or.inr (Or.inr (Or.inr (Or.inl ⟨rfl, rfl⟩))))) (wl_rI (n := 6) rfl (fun _ => ?_))
      rw [x1, row 405 (by omega)]
      try dsimp only at kk
      refine wl_ite (fun c3 => wl_some ?_) (fun c3 => wl_some ?_)
      · rw [if_pos c3] at kk; exact kk
      · rw [if_neg c3] at kk; exact kk
    · rw [i32le, l32_3] at c
      rw [i32le, l32_16] at c'
      rw [i32le, l32_28] at c''
      have x1 : (a - 20).toInt = a.toInt - 20 := by rw [i32subc (by rw [l32_20]; omega), l32_20]
      rw [if_neg (by omega), if_neg (by omega), if_neg (by omega), if_neg (by omega), if_pos (by omega)] at kk
      refine wq_4x hR (Or.inr (Or.inl ⟨rfl, rfl⟩)) (wl_rI (n := 8) rfl (fun _ => wl_some ?_))
      rw [x1, row 402 (by omega)]
      exact kk
    · rw [i32le, l32_3] at c
      rw [i32le, l32_16] at c'
      have x1 : (a - 10).toInt = a.toInt - 10 := by rw [i32subc (by rw [l32_10]; omega), l32_10]
      rw [if_neg (by omega), if_neg (by omega), if_neg (by omega), if_pos (by omega)] at kk
      refine wq_4x hR (Or.inl ⟨rfl, rfl⟩) (wl_rI (n := 6) rfl (fun _ => wl_some ?_))
      rw [x1, row 401 (by omega)]
      exact kk
    · rw [i32eq, l32_0] at c0
      rw [if_pos c0] at kk
      exact wl_gI rfl rfl (r5 _ _ (by omega)) (wl_some kk)
    · rw [i32eq, l32_0] at c0
      rw [i32eq, l32_1] at c1
      rw [if_neg c0, if_pos c1] at kk
      exact wl_gI rfl rfl (r5 _ _ (by omega)) (wl_some kk)
    · rw [i32eq, l32_0] at c0
      rw [i32eq, l32_1] at c1
      rw [i32le, l32_3] at c
      rw [if_neg c0, if_neg c1, if_pos (by omega)] at kk
      exact wl_gI rfl rfl (r5 _ _ (by omega)) (wl_some kk)
  unfold f_q_ran
  have ys : ∀ {r : Int32}, r.toInt = 1 → ¬ r = 0 := fun h z => by rw [z, l32_0] at h; omega
  refine wl_kb (wl_bd2 (wp_wl (s_q_in (fun r1 _ h1 => ?_))))
  rw [i3264, l64_0, l64_2] at h1
  dsimp only
  refine wl_ite (fun c1 => wl_bd2 (wp_wl (s_q_in (fun r2 _ h2 => ?_)))) (fun c1 => go (Or.inl ?_))
  rotate_left
  · rcases h1 with z | z
    · exact z.2
    · exact absurd (i32eq.mpr (by rw [z.1, l32_0])) c1
  rw [i3264, l64_10, l64_15] at h2
  dsimp only
  refine wl_ite (fun c2 => wl_bd2 (wp_wl (s_q_in (fun r3 _ h3 => ?_)))) (fun c2 => go (Or.inr (Or.inl ?_)))
  rotate_left
  · rcases h2 with z | z
    · exact z.2
    · exact absurd (i32eq.mpr (by rw [z.1, l32_0])) c2
  rw [i3264, l64_20, l64_27] at h3
  dsimp only
  refine wl_ite (fun c3 => wl_bd2 (wp_wl (s_q_in (fun r4 _ h4 => ?_)))) (fun c3 => go (Or.inr (Or.inr (Or.inl ?_))))
  rotate_left
  · rcases h3 with z | z
    · exact z.2
    · exact absurd (i32eq.mpr (by rw [z.1, l32_0])) c3
  rw [i3264, l64_30, l64_35] at h4
  dsimp only
  refine wl_ite (fun c4 => wl_bd2 (wp_wl (s_q_fail hR (wl_some (kx (fun hv => ?_)))))) (fun c4 => go (Or.inr (Or.inr (Or.inr ?_))))
  rotate_left
  · rcases h4 with z | z
    · exact z.2
    · exact absurd (i32eq.mpr (by rw [z.1, l32_0])) c4
  unfold RNV at hv
  rw [i32eq, l32_0] at c1 c2 c3 c4
  omega
end RTOP
