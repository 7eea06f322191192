/-! EXPRS worked out: the rules, and the class follows them. -/
def grw (k : Int32) : Int := if k = 1 then 1 else if k = 2 then 1 else if k = 3 then 0 else if k = 259 then 0 else -1
def iof (z : Int64) (pl : Int32) : Int32 ⊕ Int32 := if z < (-2147483648 : Int64) then .inr ((1024 : Int32) * 3 + pl) else if z ≤ (2147483647 : Int64) then .inl (Int64.toInt32 z) else .inr ((1024 : Int32) * 3 + pl)
/-- what a step makes of x, or of x and y: a value, or an error -/
def sem (V U C : Nat → Int32) (k n pl x y : Int32) : Int32 ⊕ Int32 :=
  if k = 1 then .inl n
  else if k = 2 then (if U n.toInt.toNat = 0 then .inl (V n.toInt.toNat) else .inr ((1024 : Int32) * 1 + pl))
  else if k = 3 then (if x < 0 then .inr ((1024 : Int32) * 2 + pl) else if x < 4 then .inl (C (n + x).toInt.toNat) else .inr ((1024 : Int32) * 2 + pl))
  else if k = 37 then (if Int32.toInt64 y = (0 : Int64) then .inr ((1024 : Int32) * 4 + pl) else iof (Int32.toInt64 x - Int32.toInt64 x / Int32.toInt64 y * Int32.toInt64 y) pl)
  else if k = 47 then (if Int32.toInt64 y = (0 : Int64) then .inr ((1024 : Int32) * 4 + pl) else iof (Int32.toInt64 x / Int32.toInt64 y) pl)
  else if k = 259 then iof (-(Int32.toInt64 x)) pl
  else if k = 43 then iof (Int32.toInt64 x + Int32.toInt64 y) pl
  else if k = 45 then iof (Int32.toInt64 x - Int32.toInt64 y) pl
  else iof (Int32.toInt64 x * Int32.toInt64 y) pl
/-- steps from k up to e, with a stack of the height t: what is then on the stack, or an error -/
def EVC (X : RX) (V U C : Nat → Int32) (Pz : Nat → Nat → Nat → (Nat → Int32) → ((Nat → Int32) ⊕ Int32) → Prop) : Prop :=
  (∀ (k e t : Nat) (S : Nat → Int32), e ≤ k → Pz k e t S (.inl S)) ∧
  (∀ (k e t t' : Nat) (S : Nat → Int32) (z : Int32), k < e → ((t' + 1 : Nat) : Int) = t + grw (X.sk k) → sem V U C (X.sk k) (X.sn k) (X.sp k) (S t') (S (t' + 1)) = .inr z → Pz k e t S (.inr z)) ∧
  (∀ (k e t t' : Nat) (S : Nat → Int32) (v : Int32) (r : (Nat → Int32) ⊕ Int32), k < e → ((t' + 1 : Nat) : Int) = t + grw (X.sk k) → sem V U C (X.sk k) (X.sn k) (X.sp k) (S t') (S (t' + 1)) = .inl v → Pz (k + 1) e (t' + 1) (fun j => if j = t' then v else S j) r → Pz k e t S r)
def EV (X : RX) (V U C : Nat → Int32) (x1 : Nat) (x2 : Nat) (x3 : Nat) (x4 : (Nat → Int32)) (x5 : ((Nat → Int32) ⊕ Int32)) : Prop := ∀ Pz : Nat → Nat → Nat → (Nat → Int32) → ((Nat → Int32) ⊕ Int32) → Prop, EVC X V U C Pz → Pz x1 x2 x3 x4 x5
theorem EV.done {X : RX} {V U C : Nat → Int32} {k e t : Nat} {S : Nat → Int32} (a1 : e ≤ k) : EV X V U C k e t S (.inl S) := fun Pz cz => cz.1 _ _ _ _ a1
theorem EV.err {X : RX} {V U C : Nat → Int32} {k e t t' : Nat} {S : Nat → Int32} {z : Int32} (a1 : k < e) (a2 : ((t' + 1 : Nat) : Int) = t + grw (X.sk k)) (a3 : sem V U C (X.sk k) (X.sn k) (X.sp k) (S t') (S (t' + 1)) = .inr z) : EV X V U C k e t S (.inr z) := fun Pz cz => cz.2.1 _ _ _ _ _ _ a1 a2 a3
theorem EV.step {X : RX} {V U C : Nat → Int32} {k e t t' : Nat} {S : Nat → Int32} {v : Int32} {r : (Nat → Int32) ⊕ Int32} (a1 : k < e) (a2 : ((t' + 1 : Nat) : Int) = t + grw (X.sk k)) (a3 : sem V U C (X.sk k) (X.sn k) (X.sp k) (S t') (S (t' + 1)) = .inl v) (a4 : EV X V U C (k + 1) e (t' + 1) (fun j => if j = t' then v else S j) r) : EV X V U C k e t S r := fun Pz cz => cz.2.2 _ _ _ _ _ _ _ a1 a2 a3 (a4 Pz cz)
theorem EV.ind {X : RX} {V U C : Nat → Int32} {W : Nat → Nat → Nat → (Nat → Int32) → ((Nat → Int32) ⊕ Int32) → Prop} (done : ∀ (k e t : Nat) (S : Nat → Int32), e ≤ k → W k e t S (.inl S)) (err : ∀ (k e t t' : Nat) (S : Nat → Int32) (z : Int32), k < e → ((t' + 1 : Nat) : Int) = t + grw (X.sk k) → sem V U C (X.sk k) (X.sn k) (X.sp k) (S t') (S (t' + 1)) = .inr z → W k e t S (.inr z)) (step : ∀ (k e t t' : Nat) (S : Nat → Int32) (v : Int32) (r : (Nat → Int32) ⊕ Int32), k < e → ((t' + 1 : Nat) : Int) = t + grw (X.sk k) → sem V U C (X.sk k) (X.sn k) (X.sp k) (S t') (S (t' + 1)) = .inl v → EV X V U C (k + 1) e (t' + 1) (fun j => if j = t' then v else S j) r → W (k + 1) e (t' + 1) (fun j => if j = t' then v else S j) r → W k e t S r) {x1 : Nat} {x2 : Nat} {x3 : Nat} {x4 : (Nat → Int32)} {x5 : ((Nat → Int32) ⊕ Int32)} (t : EV X V U C x1 x2 x3 x4 x5) : W x1 x2 x3 x4 x5 := (t (fun x1 x2 x3 x4 x5 => EV X V U C x1 x2 x3 x4 x5 ∧ W x1 x2 x3 x4 x5) ⟨fun k e t S a1 => ⟨EV.done a1, done k e t S a1⟩,
  fun k e t t' S z a1 a2 a3 => ⟨EV.err a1 a2 a3, err k e t t' S z a1 a2 a3⟩,
  fun k e t t' S v r a1 a2 a3 a4 => ⟨EV.step a1 a2 a3 a4.1, step k e t t' S v r a1 a2 a3 a4.1 a4.2⟩⟩).2
/-- the stack's height stays from 1 to 24, and is f at the end -/
def WSC (X : RX) (Pz : Nat → Nat → Nat → Nat → Prop) : Prop :=
  (∀ (k e f : Nat), e ≤ k → Pz k e f f) ∧
  (∀ (k e t t' f : Nat), k < e → ((t' + 1 : Nat) : Int) = t + grw (X.sk k) → t' + 1 < 25 → Pz (k + 1) e (t' + 1) f → Pz k e t f)
def WS (X : RX) (x1 : Nat) (x2 : Nat) (x3 : Nat) (x4 : Nat) : Prop := ∀ Pz : Nat → Nat → Nat → Nat → Prop, WSC X Pz → Pz x1 x2 x3 x4
theorem WS.done {X : RX} {k e f : Nat} (a1 : e ≤ k) : WS X k e f f := fun Pz cz => cz.1 _ _ _ a1
theorem WS.step {X : RX} {k e t t' f : Nat} (a1 : k < e) (a2 : ((t' + 1 : Nat) : Int) = t + grw (X.sk k)) (a3 : t' + 1 < 25) (a4 : WS X (k + 1) e (t' + 1) f) : WS X k e t f := fun Pz cz => cz.2 _ _ _ _ _ a1 a2 a3 (a4 Pz cz)
theorem WS.ind {X : RX} {W : Nat → Nat → Nat → Nat → Prop} (done : ∀ (k e f : Nat), e ≤ k → W k e f f) (step : ∀ (k e t t' f : Nat), k < e → ((t' + 1 : Nat) : Int) = t + grw (X.sk k) → t' + 1 < 25 → WS X (k + 1) e (t' + 1) f → W (k + 1) e (t' + 1) f → W k e t f) {x1 : Nat} {x2 : Nat} {x3 : Nat} {x4 : Nat} (t : WS X x1 x2 x3 x4) : W x1 x2 x3 x4 := (t (fun x1 x2 x3 x4 => WS X x1 x2 x3 x4 ∧ W x1 x2 x3 x4) ⟨fun k e f a1 => ⟨WS.done a1, done k e f a1⟩,
  fun k e t t' f a1 a2 a3 a4 => ⟨WS.step a1 a2 a3 a4.1, step k e t t' f a1 a2 a3 a4.1 a4.2⟩⟩).2
theorem WS.inv {X : RX} {k e t f : Nat} (h : WS X k e t f) : (e ≤ k ∧ t = f) ∨ (k < e ∧ ∃ t' : Nat, ((t' + 1 : Nat) : Int) = t + grw (X.sk k) ∧ t' + 1 < 25 ∧ WS X (k + 1) e (t' + 1) f) := by
  refine WS.ind (W := fun k e t f => (e ≤ k ∧ t = f) ∨ (k < e ∧ ∃ t' : Nat, ((t' + 1 : Nat) : Int) = t + grw (X.sk k) ∧ t' + 1 < 25 ∧ WS X (k + 1) e (t' + 1) f)) ?_ ?_ h
  · intro k e f h1; exact Or.inl ⟨h1, rfl⟩
  · intro k e t t' f h1 h2 h3 h4 _; exact Or.inr ⟨h1, t', h2, h3, h4⟩
/-- steps one after another -/
theorem WS.cat {X : RX} {a b c t u v : Nat} (h : WS X a b t u) (hb : a ≤ b) (hc : b ≤ c) (h2 : WS X b c u v) : WS X a c t v := by
  refine WS.ind (W := fun k e t f => k ≤ e → ∀ c v, e ≤ c → WS X e c f v → WS X k c t v) ?_ ?_ h hb c v hc h2
  · intro k e f h1 hk c v hc h2
    have : k = e := by omega
    subst this
    exact h2
  · intro k e t t' f h1 h2 h3 h4 ih hk c v hc h5
    exact .step (by omega) h2 h3 (ih (by omega) c v hc h5)
/-- one step -/
theorem WS.one {X : RX} {k t t' : Nat} (h : ((t' + 1 : Nat) : Int) = t + grw (X.sk k)) (h2 : t' + 1 < 25) : WS X k (k + 1) t (t' + 1) := .step (by omega) h h2 (.done (Nat.le_refl _))
/-- the exception that tells an error of the kind k -/
def exnr (k : Int32) : String := if k = 1 then "java/lang/IllegalStateException" else if k = 2 then "java/lang/IndexOutOfBoundsException" else if k = 5 then "java/lang/UnsupportedOperationException" else "java/lang/ArithmeticException"
/-- an error z and the exception that tells it -/
def EXR (z : Int32) (E : String) : Prop := ∃ k pl : Int32, (1 ≤ k.toInt ∧ k.toInt ≤ 5) ∧ (0 ≤ pl.toInt ∧ pl.toInt ≤ 199) ∧ z = (1024 : Int32) * k + pl ∧ E = exnr k
/-- the runner's world: what the class has of a program in it -/
def RW (X : RX) (p : Nat) (I : IM) (R : RM) : Prop := FXR R ∧ R 117 6 = some p ∧ isP p ∧ I (p + 52) = X.sk ∧ I (p + 53) = X.sn ∧ I (p + 54) = X.sp ∧ ∀ k, k < 200 → 0 ≤ (X.sp k).toInt ∧ (X.sp k).toInt ≤ 199
section CEV
variable {X : RX} {p : Nat} {I : IM} {J : JM} {R : RM}
set_option maxRecDepth 100000 in
theorem wn_117 {β : Type} {Q : β → Prop} (h : FXR R) {k v : Nat} (hk : (k = 0 ∧ v = 118) ∨ (k = 1 ∧ v = 119) ∨ (k = 2 ∧ v = 120) ∨ (k = 3 ∧ v = 121) ∨ (k = 4 ∧ v = 122)) {f : Nat → Option β} (K : wl (f v) Q) : wl ((gN (mk I J R) 117 5 k).bind f) Q := by
  rcases hk with ⟨rfl, rfl⟩ | ⟨rfl, rfl⟩ | ⟨rfl, rfl⟩ | ⟨rfl, rfl⟩ | ⟨rfl, rfl⟩
  · exact wl_gN rfl rfl ((h 117 0 (by omega) (by omega) (by decide +kernel)).trans (by decide +kernel)) K
  · exact wl_gN rfl rfl ((h 117 1 (by omega) (by omega) (by decide +kernel)).trans (by decide +kernel)) K
  · exact wl_gN rfl rfl ((h 117 2 (by omega) (by omega) (by decide +kernel)).trans (by decide +kernel)) K
  · exact wl_gN rfl rfl ((h 117 3 (by omega) (by omega) (by decide +kernel)).trans (by decide +kernel)) K
  · exact wl_gN rfl rfl ((h 117 4 (by omega) (by omega) (by decide +kernel)).trans (by decide +kernel)) K
theorem RW.up (h : RW X p I R) {a k : Nat} {x : Int32} (ha : 117 ≤ a) : RW X p (up2 I a k x) R := by
  obtain ⟨h1, h2, h3, h4, h5, h6, h7⟩ := h
  have hp : p = 7 ∨ p = 62 := h3
  exact ⟨h1, h2, h3, by rw [up2_at _ _ (by omega)]; exact h4, by rw [up2_at _ _ (by omega)]; exact h5, by rw [up2_at _ _ (by omega)]; exact h6, h7⟩
theorem v_fail {k pl : Int32} (hk : 1 ≤ k.toInt ∧ k.toInt ≤ 5) (hp : 0 ≤ pl.toInt ∧ pl.toInt ≤ 199) {Q : ((Unit ⊕ String) × WW) → Prop} (kx : ∀ E, EXR ((1024 : Int32) * k + pl) E → Q (.inr E, mk (up2 I 117 10 ((1024 : Int32) * k + pl)) J R)) : wl (f_ru_fail 117 k pl (mk I J R)) Q := by
  have ex : ∀ E, E = exnr k → EXR ((1024 : Int32) * k + pl) E := fun E hE => ⟨k, pl, hk, hp, rfl, hE⟩
  unfold f_ru_fail
  refine wl_kb (wl_pI rfl rfl (wl_ite (fun z => wl_some (kx _ (ex _ (by rw [z]; rfl)))) (fun z1 => wl_ite (fun z => wl_some (kx _ (ex _ (by rw [z]; rfl)))) (fun z2 => wl_ite (fun z => wl_some (kx _ (ex _ (by rw [z]; rfl)))) (fun z3 => wl_ite (fun z => wl_some (kx _ (ex _ (by rw [z]; rfl)))) (fun z4 => wl_ite (fun z => wl_some (kx _ (ex _ (by rw [z]; rfl)))) (fun z5 => ?_)))))))
  exfalso
  rw [i32eq, l32_1] at z1
  rw [i32eq, l32_2] at z2
  rw [i32eq, l32_3] at z3
  rw [i32eq, l32_4] at z4
  rw [i32eq, l32_5] at z5
  omega
theorem v_intOf {z : Int64} {pl : Int32} (hp : 0 ≤ pl.toInt ∧ pl.toInt ≤ 199) {Q : ((Int32 ⊕ String) × WW) → Prop} (k : ∀ v, iof z pl = .inl v → Q (.inl v, mk I J R)) (kx : ∀ E e, iof z pl = .inr e → EXR e E → Q (.inr E, mk (up2 I 117 10 e) J R)) : wl (f_ru_intOf 117 z pl (mk I J R)) Q := by
  unfold iof at k kx
  unfold f_ru_intOf f_ru_intOf_16 f_ru_intOf_22
  refine wl_kb (wl_ite (fun z1 => ?_) (fun z1 => wl_ite (fun z2 => ?_) (fun z2 => ?_)))
  · rw [if_pos z1] at kx
    exact wl_bdx (v_fail (by decide) hp (fun E hx => ⟨fun v hv => (by cases hv), fun E' hE => (by cases hE; exact kx _ _ rfl hx)⟩))
  · rw [if_neg z1, if_pos z2] at k
    exact wl_some (k _ rfl)
  · rw [if_neg z1, if_neg z2] at kx
    exact wl_bdx (v_fail (by decide) hp (fun E hx => ⟨fun v hv => (by cases hv), fun E' hE => (by cases hE; exact kx _ _ rfl hx)⟩))
theorem v_cellOf {a x pl : Int32} (hp : 0 ≤ pl.toInt ∧ pl.toInt ≤ 199) {Q : ((Int32 ⊕ String) × WW) → Prop} (k : 0 ≤ x.toInt → x.toInt < 4 → Q (.inl (a + x), mk I J R)) (kx : ¬ (0 ≤ x.toInt ∧ x.toInt < 4) → ∀ E, EXR ((1024 : Int32) * 2 + pl) E → Q (.inr E, mk (up2 I 117 10 ((1024 : Int32) * 2 + pl)) J R)) : wl (f_ru_cellOf 117 a x pl (mk I J R)) Q := by
  unfold f_ru_cellOf f_ru_cellOf_9 f_ru_cellOf_15
  refine wl_kb (wl_ite (fun z1 => ?_) (fun z1 => wl_ite (fun z2 => ?_) (fun z2 => ?_)))
  · rw [i32lt, l32_0] at z1
    exact wl_bdx (v_fail (by decide) hp (fun E hx => ⟨fun v hv => (by cases hv), fun E' hE => (by cases hE; exact kx (by omega) _ hx)⟩))
  · rw [i32lt, l32_0] at z1
    rw [i32lt, l32_4] at z2
    exact wl_some (k (by omega) (by omega))
  · rw [i32lt, l32_4] at z2
    exact wl_bdx (v_fail (by decide) hp (fun E hx => ⟨fun v hv => (by cases hv), fun E' hE => (by cases hE; exact kx (by omega) _ hx)⟩))
theorem v_divide {k pl : Int32} (hp : 0 ≤ pl.toInt ∧ pl.toInt ≤ 199) {x y : Int64} {Q : ((Int64 ⊕ String) × WW) → Prop} (k1 : ¬ y = 0 → Q (.inl (if k = 47 then x / y else x - x / y * y), mk I J R)) (kx : y = 0 → ∀ E, EXR ((1024 : Int32) * 4 + pl) E → Q (.inr E, mk (up2 I 117 10 ((1024 : Int32) * 4 + pl)) J R)) : wl (f_ru_divide 117 k x y pl (mk I J R)) Q := by
  unfold f_ru_divide f_ru_divide_33
  refine wl_kb (wl_ite (fun z => wl_bdx (v_fail (by decide) hp (fun E hx => ⟨fun v hv => (by cases hv), fun E' hE => (by cases hE; exact kx z _ hx)⟩))) (fun z => wl_ite (fun z1 => wl_req (fun _ => wl_some ?_)) (fun z1 => wl_req (fun _ => wl_some ?_))))
  · have q := k1 z
    rw [if_pos z1] at q
    exact q
  · have q := k1 z
    rw [if_neg z1] at q
    exact q
theorem v_doStep (h : RW X p I R) {i x y : Int32} {k : Nat} (hi : i.toInt = k) {Q : ((Int32 ⊕ String) × WW) → Prop} (k1 : ∀ v, sem (I 118) (I 119) (I 120) (X.sk k) (X.sn k) (X.sp k) x y = .inl v → Q (.inl v, mk I J R)) (kx : ∀ E e, sem (I 118) (I 119) (I 120) (X.sk k) (X.sn k) (X.sp k) x y = .inr e → EXR e E → Q (.inr E, mk (up2 I 117 10 e) J R)) : wl (f_ru_doStep 117 i x y (mk I J R)) Q := by
  obtain ⟨h1, h2, h3, h4, h5, h6, h7⟩ := h
  have lp := isP_lt h3
  unfold sem at k1 kx
  unfold f_ru_doStep f_ru_doStep_112
  refine wl_kb (wl_gR rfl rfl h2 (wl_eq rfl (wn_P3 h1 h3 (wl_rI lp.2.2.2.1 (fun _ => wl_gR rfl rfl h2 (wl_eq rfl (wn_P4 h1 h3 (wl_rI lp.2.2.2.2 (fun _ => wl_gR rfl rfl h2 (wl_eq rfl (wn_P2 h1 h3 (wl_rI lp.2.2.1 (fun hb => ?_)))))))))))))
  have hp := h7 k (by omega)
  rw [tnat hi, h4, h5, h6]
  refine wl_ite (fun c1 => ?_) (fun c1 => ?_)
  · rw [if_pos c1] at k1
    exact wl_some (k1 _ rfl)
  rw [if_neg c1] at k1 kx
  refine wl_ite (fun c2 => ?_) (fun c2 => ?_)
  · rw [if_pos c2] at k1 kx
    refine wn_117 h1 (Or.inr (Or.inl ⟨rfl, rfl⟩)) (wl_rI (n := 6) rfl (fun _ => wl_ite (fun c => ?_) (fun c => ?_)))
    · rw [if_pos c] at k1
      exact wn_117 h1 (Or.inl ⟨rfl, rfl⟩) (wl_rI (n := 6) rfl (fun _ => wl_some (k1 _ rfl)))
    · rw [if_neg c] at kx
      exact wl_bdx (v_fail (by decide) hp (fun E hx => ⟨fun v hv => (by cases hv), fun E' hE => (by cases hE; exact kx _ _ rfl hx)⟩))
  rw [if_neg c2] at k1 kx
  refine wl_ite (fun c3 => ?_) (fun c3 => ?_)
  · rw [if_pos c3] at k1 kx
    refine wn_117 h1 (Or.inr (Or.inr (Or.inl ⟨rfl, rfl⟩))) (wl_bdx (v_cellOf hp (fun z1 z2 => ⟨fun v hv => ?_, fun E hE => (by cases hE)⟩) (fun z E hx => ⟨fun v hv => (by cases hv), fun E' hE => ?_⟩)))
    · cases hv
      rw [if_neg (by rw [i32lt, l32_0]; omega), if_pos (by rw [i32lt, l32_4]; omega)] at k1
      exact wl_rI (n := 8) rfl (fun _ => wl_some (k1 _ rfl))
    · by_cases y1 : x < 0
      · rw [if_pos y1] at kx
        cases hE; exact kx _ _ rfl hx
      · rw [if_neg y1, if_neg (by rw [i32lt, l32_4]; rw [i32lt, l32_0] at y1; omega)] at kx
        cases hE; exact kx _ _ rfl hx
  rw [if_neg c3] at k1 kx
  refine wl_ite (fun c4 => ?_) (fun c4 => ?_)
  · rw [if_pos c4] at k1 kx
    refine wl_bdx (v_divide hp (fun z => ⟨fun v hv => ?_, fun E hE => (by cases hE)⟩) (fun z E hx => ⟨fun v hv => (by cases hv), fun E' hE => ?_⟩))
    · cases hv
      rw [if_neg z] at k1 kx
      rw [if_neg (by rw [c4]; decide)]
      exact wl_bdx (v_intOf hp (fun v hv => ⟨fun v' hv' => (by cases hv'; exact wl_some (k1 _ hv)), fun E hE => (by cases hE)⟩) (fun E e he hx => ⟨fun v' hv' => (by cases hv'), fun E' hE => (by cases hE; exact kx _ e he hx)⟩))
    · rw [if_pos z] at kx
      cases hE; exact kx _ _ rfl hx
  rw [if_neg c4] at k1 kx
  refine wl_ite (fun c5 => ?_) (fun c5 => ?_)
  · rw [if_pos c5] at k1 kx
    refine wl_bdx (v_divide hp (fun z => ⟨fun v hv => ?_, fun E hE => (by cases hE)⟩) (fun z E hx => ⟨fun v hv => (by cases hv), fun E' hE => ?_⟩))
    · cases hv
      rw [if_neg z] at k1 kx
      rw [if_pos c5]
      exact wl_bdx (v_intOf hp (fun v hv => ⟨fun v' hv' => (by cases hv'; exact wl_some (k1 _ hv)), fun E hE => (by cases hE)⟩) (fun E e he hx => ⟨fun v' hv' => (by cases hv'), fun E' hE => (by cases hE; exact kx _ e he hx)⟩))
    · rw [if_pos z] at kx
      cases hE; exact kx _ _ rfl hx
  rw [if_neg c5] at k1 kx
  refine wl_ite (fun c6 => ?_) (fun c6 => ?_)
  · rw [if_pos c6] at k1 kx
    exact wl_bdx (v_intOf hp (fun v hv => ⟨fun v' hv' => (by cases hv'; exact wl_some (k1 _ hv)), fun E hE => (by cases hE)⟩) (fun E e he hx => ⟨fun v' hv' => (by cases hv'), fun E' hE => (by cases hE; exact kx _ e he hx)⟩))
  rw [if_neg c6] at k1 kx
  unfold f_ru_combine f_ru_combine_28
  refine wl_bd2 (wl_kb (wl_ite (fun c7 => wl_some ?_) (fun c7 => wl_ite (fun c8 => wl_some ?_) (fun c8 => wl_some ?_))))
  · rw [if_pos c7] at k1 kx
    exact wl_bdx (v_intOf hp (fun v hv => ⟨fun v' hv' => (by cases hv'; exact wl_some (k1 _ hv)), fun E hE => (by cases hE)⟩) (fun E e he hx => ⟨fun v' hv' => (by cases hv'), fun E' hE => (by cases hE; exact kx _ e he hx)⟩))
  · rw [if_neg c7, if_pos c8] at k1 kx
    exact wl_bdx (v_intOf hp (fun v hv => ⟨fun v' hv' => (by cases hv'; exact wl_some (k1 _ hv)), fun E hE => (by cases hE)⟩) (fun E e he hx => ⟨fun v' hv' => (by cases hv'), fun E' hE => (by cases hE; exact kx _ e he hx)⟩))
  · rw [if_neg c7, if_neg c8] at k1 kx
    exact wl_bdx (v_intOf hp (fun v hv => ⟨fun v' hv' => (by cases hv'; exact wl_some (k1 _ hv)), fun E hE => (by cases hE)⟩) (fun E e he hx => ⟨fun v' hv' => (by cases hv'), fun E' hE => (by cases hE; exact kx _ e he hx)⟩))
theorem v_growth (h1 : FXR R) (hp : isP p) {i : Int32} {k : Nat} (hi : i.toInt = k) {Q : (Int32 × WW) → Prop} (k1 : ∀ g : Int32, g.toInt = grw (I (p + 52) k) → Q (g, mk I J R)) : wl (f_pg_growthOf p i (mk I J R)) Q := by
  unfold grw at k1
  unfold f_pg_growthOf f_pg_growthOf_17 f_pg_growthOf_31 f_pg_growthOf_36
  refine wl_kb (wn_P2 h1 hp (wl_rI (isP_lt hp).2.2.1 (fun _ => ?_)))
  rw [tnat hi]
  refine wl_ite (fun c1 => wl_some (k1 _ ?_)) (fun c1 => wl_ite (fun c2 => wl_some (k1 _ ?_)) (fun c2 => wl_ite (fun c3 => wl_some (k1 _ ?_)) (fun c3 => wl_ite (fun c4 => wl_some (k1 _ ?_)) (fun c4 => wl_some (k1 _ ?_)))))
  · rw [if_pos c1]; exact l32_1
  · rw [if_neg c1, if_pos c2]; exact l32_1
  · rw [if_neg c1, if_neg c2, if_pos c3]; exact l32_0
  · rw [if_neg c1, if_neg c2, if_neg c3, if_pos c4]; exact l32_0
  · rw [if_neg c1, if_neg c2, if_neg c3, if_neg c4]; exact l32_m1
/-- what working out keeps -/
def WKR (I I' : IM) : Prop := ∀ x j, x ≠ 121 → (x ≠ 117 ∨ j ≠ 10) → I' x j = I x j
theorem WKR.trans {I' I'' : IM} (h : WKR I I') (h2 : WKR I' I'') : WKR I I'' := fun x j a b => (h2 x j a b).trans (h x j a b)
theorem v_work_6 {e f b : Nat} {ee bb : Int32} (hee : ee.toInt = e) (hbb : bb.toInt = b) {I0 : IM} {Q : ((Int32 ⊕ String) × WW) → Prop} : ∀ (N : Nat) (I : IM) (k t : Nat) (kk tt : Int32), RW X p I R → WKR I0 I → I 117 10 = I0 117 10 → WS X k e t f → kk.toInt = k → tt.toInt = t → (∀ (I' : IM) (S : Nat → Int32), EV X (I0 118) (I0 119) (I0 120) k e t (I 121) (.inl S) → WKR I0 I' → I' 117 10 = I0 117 10 → RW X p I' R → Q (.inl (S b), mk I' J R)) → (∀ (E : String) (I' : IM) (z : Int32), EV X (I0 118) (I0 119) (I0 120) k e t (I 121) (.inr z) → WKR I0 I' → I' 117 10 = z → EXR z E → Q (.inr E, mk I' J R)) → wl (f_ru_workOut_6 N 117 ee bb tt kk (mk I J R)) Q := by
  intro N
  induction N with
  | zero => intro I k t kk tt h w e10 hW hkk htt k1 kx; exact wl_none
  | succ N ih =>
    intro I k t kk tt h w e10 hW hkk htt k1 kx
    have e118 : I 118 = I0 118 := by funext j; exact w _ _ (by omega) (by omega)
    have e119 : I 119 = I0 119 := by funext j; exact w _ _ (by omega) (by omega)
    have e120 : I 120 = I0 120 := by funext j; exact w _ _ (by omega) (by omega)
    rw [f_ru_workOut_6]
    unfold f_ru_workOut_39
    refine wl_ite (fun c => ?_) (fun c => ?_)
    · rw [i32le, hee, hkk] at c
      refine wn_117 h.1 (Or.inr (Or.inr (Or.inr (Or.inl ⟨rfl, rfl⟩)))) (wl_rI (n := 25) rfl (fun _ => wl_some ?_))
      rw [tnat hbb]
      exact k1 I (I 121) (.done (by omega)) w e10 h
    rw [i32le, hee, hkk] at c
    rcases hW.inv with ⟨hd, _⟩ | ⟨hd, t', ht, h25, hn⟩
    · omega
    refine wl_gR rfl rfl h.2.1 (wl_eq rfl (wl_bd2 (v_growth h.1 h.2.2.1 hkk (fun g hg => ?_))))
    dsimp only
    rw [h.2.2.2.1] at hg
    have tg : (tt + g).toInt = ((t' + 1 : Nat) : Int) := by
      have bt := i32b tt
      rw [i32addc (by rw [htt, hg]; omega), htt, hg]; omega
    have tg1 : (tt + g - 1).toInt = ((t' : Nat) : Int) := by rw [i32subc (by rw [tg, l32_1]; omega), tg, l32_1]; omega
    rw [if_neg (by rw [i32lt, l32_1, tg]; omega), if_pos (by rw [i32lt, l32_25, tg]; omega)]
    have p3 := fun {β : Type} {Q : β → Prop} {f : Nat → Option β} (K : wl (f 121) Q) => wn_117 (I := I) (J := J) h.1 (Or.inr (Or.inr (Or.inr (Or.inl ⟨rfl, rfl⟩)))) K
    refine p3 (p3 (wl_rI (n := 25) rfl (fun _ => p3 (wl_rI (n := 25) rfl (fun _ => ?_)))))
    rw [tnat tg1, tnat tg]
    refine wl_bdx (v_doStep h hkk (fun v hv => ⟨fun v' hv' => ?_, fun E hE => (by cases hE)⟩) (fun E z hz hx => ⟨fun v' hv' => (by cases hv'), fun E' hE => ?_⟩))
    · cases hv'
      rw [e118, e119, e120] at hv
      refine wl_sI (n := 25) rfl (fun _ => ?_)
      rw [tnat tg1]
      have r121 : up2 I 121 t' v 121 = fun j => if j = t' then v else I 121 j := by
        funext j
        by_cases z : j = t'
        · rw [if_pos z, z, up2_s]
        · rw [if_neg z, up2_nek z]
      have kk1 : (kk + 1).toInt = ((k + 1 : Nat) : Int) := by
        have be := i32b ee
        rw [i32addc (by rw [hkk, l32_1]; omega), hkk, l32_1]; omega
      refine ih _ (k + 1) (t' + 1) (kk + 1) (tt + g) (h.up (by decide)) (fun x j a b => by rw [up2_nea a]; exact w x j a b) (by rw [up2_nea (by decide)]; exact e10) hn kk1 tg (fun I' S hE => ?_) (fun E I' z hE => ?_)
      · rw [r121] at hE
        exact k1 I' S (.step hd ht hv hE)
      · rw [r121] at hE
        exact kx E I' z (.step hd ht hv hE)
    · rw [e118, e119, e120] at hz
      cases hE
      exact kx _ _ z (.err hd ht hz) (fun x j a b => by rw [up2_ne _ _ (by omega)]; exact w x j a (by omega)) up2_s hx
theorem v_workOut {k e b f : Nat} {kk ee bb : Int32} (h : RW X p I R) (hkk : kk.toInt = k) (hee : ee.toInt = e) (hbb : bb.toInt = b) (hW : WS X k e b f) {Q : ((Int32 ⊕ String) × WW) → Prop} (k1 : ∀ (I' : IM) (S : Nat → Int32), EV X (I 118) (I 119) (I 120) k e b (I 121) (.inl S) → WKR I I' → I' 117 10 = I 117 10 → RW X p I' R → Q (.inl (S b), mk I' J R)) (kx : ∀ (E : String) (I' : IM) (z : Int32), EV X (I 118) (I 119) (I 120) k e b (I 121) (.inr z) → WKR I I' → I' 117 10 = z → EXR z E → Q (.inr E, mk I' J R)) : wl (f_ru_workOut 117 kk ee bb (mk I J R)) Q := by
  unfold f_ru_workOut
  exact wl_kb (v_work_6 hee hbb KK I k b kk bb h (fun _ _ _ _ => rfl) rfl hW hkk hbb k1 kx)
end CEV
