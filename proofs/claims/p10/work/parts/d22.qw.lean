/-! EXPRS worked out: the reference follows the same rules. -/
/-- the reference's VARIABLES and CELLS are these -/
def VRL (V U C : Nat → Int32) (I : IM) : Prop := (∀ j, j < 6 → I 401 j = V j) ∧ (∀ j, j < 6 → (I 405 j = 0 ↔ ¬ U j = 0)) ∧ ∀ j, j < 8 → I 402 j = C j
def WQ (I I' : IM) : Prop := ∀ x j, x ≠ 403 → (x ≠ 373 ∨ (j ≠ 50 ∧ j ≠ 51)) → I' x j = I x j
theorem WQ.trans {I I' I'' : IM} (h : WQ I I') (h2 : WQ I' I'') : WQ I I'' := fun x j a b => (h2 x j a b).trans (h x j a b)
section QWO
variable {X : RX} {H n : Nat} {V U C : Nat → Int32} {I : IM} {J : JM} {R : RM}
set_option maxRecDepth 100000 in
theorem wq_4x {β : Type} {Q : β → Prop} (hR : QR R) {k v : Nat} (hk : (k = 45 ∧ v = 401) ∨ (k = 46 ∧ v = 402) ∨ (k = 47 ∧ v = 403) ∨ (k = 48 ∧ v = 404) ∨ (k = 49 ∧ v = 405) ∨ (k = 1 ∧ v = 375)) {f : Nat → Option β} (K : wl (f v) Q) : wl ((gN (mk I J R) 373 9 k).bind f) Q := by
  rcases hk with ⟨rfl, rfl⟩ | ⟨rfl, rfl⟩ | ⟨rfl, rfl⟩ | ⟨rfl, rfl⟩ | ⟨rfl, rfl⟩ | ⟨rfl, rfl⟩
  · exact wl_gN rfl rfl ((hR 45 (by decide)).trans (by decide +kernel)) K
  · exact wl_gN rfl rfl ((hR 46 (by decide)).trans (by decide +kernel)) K
  · exact wl_gN rfl rfl ((hR 47 (by decide)).trans (by decide +kernel)) K
  · exact wl_gN rfl rfl ((hR 48 (by decide)).trans (by decide +kernel)) K
  · exact wl_gN rfl rfl ((hR 49 (by decide)).trans (by decide +kernel)) K
  · exact wl_gN rfl rfl ((hR 1 (by decide)).trans (by decide +kernel)) K
theorem w47 {β : Type} {Q : β → Prop} (hR : QR R) {f : Nat → Option β} (K : wl (f 403) Q) : wl ((gN (mk I J R) 373 9 47).bind f) Q := wq_4x hR (Or.inr (Or.inr (Or.inl ⟨rfl, rfl⟩))) K
theorem RLS.keep {I' : IM} (h : RLS X H n I) (e : WQ I I') : RLS X H n I' := fun k hk => by
  have q := h k hk
  rw [e 391 _ (by omega) (by omega), e 392 _ (by omega) (by omega), e 393 _ (by omega) (by omega)]
  exact q
theorem VRL.keep {I' : IM} (h : VRL V U C I) (e : WQ I I') : VRL V U C I' := ⟨fun j hj => by rw [e 401 _ (by omega) (by omega)]; exact h.1 j hj, fun j hj => by rw [e 405 _ (by omega) (by omega)]; exact h.2.1 j hj, fun j hj => by rw [e 402 _ (by omega) (by omega)]; exact h.2.2 j hj⟩
theorem z_stop {k pl : Int32} {Q : (Int32 × WW) → Prop} (kx : Q (0, mk (up2 I 373 51 ((1024 : Int32) * k + pl)) J R)) : wl (f_q_stop 373 k pl (mk I J R)) Q := by
  unfold f_q_stop
  exact wl_kb (wl_pI rfl rfl (wl_req (fun _ => wl_some kx)))
/-- an error, kept with the step's place -/
theorem z_stopk (hR : QR R) {kk k z : Int32} {m : Nat} (hkk : kk.toInt = m) {pl : Int32} (hp : I 393 m = pl) (hz : (1024 : Int32) * k + pl = z) {Q : (Int32 × WW) → Prop} (kx : Q (0, mk (up2 I 373 51 z) J R)) : wl ((gN (mk I J R) 373 9 26).bind fun x27 => (rI (mk I J R) x27 0 kk).bind fun x28 => bd2 (f_q_stop 373 k x28 (mk I J R)) fun x30 w29 => if x30 = 0 ∨ x30 = 1 then some (x30, w29) else none) Q := by
  refine wq_26 hR (wl_rI (n := 440) rfl (fun _ => wl_bd2 ?_))
  rw [tnat hkk, hp]
  refine z_stop (wl_req (fun _ => wl_some ?_))
  rw [hz]
  exact kx
theorem z_296 (hR : QR R) {k5 : Nat → Int32 → Int32 → Int32 → WW → Option (Int32 × WW)} {ee nn kk op pl : Int32} {z : Int64} {m : Nat} (hkk : kk.toInt = m) (hp : I 393 m = pl) {Q : (Int32 × WW) → Prop} (k1 : ∀ (v nn' : Int32), iof z pl = .inl v → nn' = (if op = 4 then nn else nn + (-1)) → wl ((sI (mk I J R) 403 0 (nn' - 1) v).bind fun w26 => k5 373 ee nn' (kk + 1) w26) Q) (kx : ∀ e, iof z pl = .inr e → Q (0, mk (up2 I 373 51 e) J R)) : wl (f_q_work_296 k5 373 ee nn kk op z (mk I J R)) Q := by
  unfold iof at k1 kx
  unfold f_q_work_296
  refine wl_bd2 (wp_wl (s_q_in (fun r hb hr => ?_)))
  rw [l64_m2147483648, l64_2147483647] at hr
  dsimp only
  rcases hr with ⟨h1, h2⟩ | ⟨h1, h2⟩
  · rw [if_neg (by rw [i64lt, l64_m2147483648]; omega), if_pos (by rw [i64le, l64_2147483647]; omega)] at k1
    rw [if_neg (fun y => by rw [y, l32_0] at h1; omega)]
    unfold f_q_work_334 f_q_work_345
    refine wl_ite (fun c => w47 hR (k1 _ _ rfl ?_)) (fun c => w47 hR (k1 _ _ rfl ?_))
    · rw [if_pos c]
    · rw [if_neg c]
  · have e0 : r = 0 := i32eq.mpr (by rw [h1, l32_0])
    rw [if_pos e0]
    refine z_stopk hR hkk hp rfl ?_
    by_cases y : z < (-2147483648 : Int64)
    · rw [if_pos y] at kx
      exact kx _ rfl
    · rw [if_neg y, if_neg (by rw [i64le, l64_2147483647]; rw [i64lt, l64_m2147483648] at y; omega)] at kx
      exact kx _ rfl
end QWO
theorem grw_le (k : Int32) : grw k ≤ 1 := by
  unfold grw
  (repeat' split) <;> omega
section SEM
variable {V U C : Nat → Int32} {n pl x y : Int32}
theorem sem_1 : sem V U C 1 n pl x y = .inl n := by unfold sem; rw [if_pos rfl]
theorem sem_2 : sem V U C 2 n pl x y = if U n.toInt.toNat = 0 then .inl (V n.toInt.toNat) else .inr ((1024 : Int32) * 1 + pl) := by unfold sem; rw [if_neg (by decide), if_pos rfl]
theorem sem_3 : sem V U C 3 n pl x y = if x < 0 then .inr ((1024 : Int32) * 2 + pl) else if x < 4 then .inl (C (n + x).toInt.toNat) else .inr ((1024 : Int32) * 2 + pl) := by unfold sem; rw [if_neg (by decide), if_neg (by decide), if_pos rfl]
theorem sem_37 : sem V U C 37 n pl x y = if Int32.toInt64 y = (0 : Int64) then .inr ((1024 : Int32) * 4 + pl) else iof (Int32.toInt64 x - Int32.toInt64 x / Int32.toInt64 y * Int32.toInt64 y) pl := by unfold sem; rw [if_neg (by decide), if_neg (by decide), if_neg (by decide), if_pos rfl]
theorem sem_47 : sem V U C 47 n pl x y = if Int32.toInt64 y = (0 : Int64) then .inr ((1024 : Int32) * 4 + pl) else iof (Int32.toInt64 x / Int32.toInt64 y) pl := by unfold sem; rw [if_neg (by decide), if_neg (by decide), if_neg (by decide), if_neg (by decide), if_pos rfl]
theorem sem_259 : sem V U C 259 n pl x y = iof (-(Int32.toInt64 x)) pl := by unfold sem; rw [if_neg (by decide), if_neg (by decide), if_neg (by decide), if_neg (by decide), if_neg (by decide), if_pos rfl]
theorem sem_43 : sem V U C 43 n pl x y = iof (Int32.toInt64 x + Int32.toInt64 y) pl := by unfold sem; rw [if_neg (by decide), if_neg (by decide), if_neg (by decide), if_neg (by decide), if_neg (by decide), if_neg (by decide), if_pos rfl]
theorem sem_45 : sem V U C 45 n pl x y = iof (Int32.toInt64 x - Int32.toInt64 y) pl := by unfold sem; rw [if_neg (by decide), if_neg (by decide), if_neg (by decide), if_neg (by decide), if_neg (by decide), if_neg (by decide), if_neg (by decide), if_pos rfl]
theorem sem_42 : sem V U C 42 n pl x y = iof (Int32.toInt64 x * Int32.toInt64 y) pl := by unfold sem; rw [if_neg (by decide), if_neg (by decide), if_neg (by decide), if_neg (by decide), if_neg (by decide), if_neg (by decide), if_neg (by decide), if_neg (by decide)]
end SEM
section QW2
variable {X : RX} {H n : Nat} {V U C : Nat → Int32} {I : IM} {J : JM} {R : RM}
/-- one step -/
theorem z_step (hR : QR R) {N b m t t' k : Nat} {ee kk nn : Int32} {S : Nat → Int32} (hL : RL1 X k (I 391 (220 * H + k)) (I 392 (220 * H + k)) (I 393 (220 * H + k))) (hV : VRL V U C I) (h2 : ((t' + 1 : Nat) : Int) = t + grw (X.sk k)) (ht : t = b + m) (hkk : kk.toInt = ((220 * H + k : Nat) : Int)) (hnn : nn.toInt = m) (hk : ¬ ee ≤ kk) (hS : ∀ j, j < m → I 403 j = S (b + j)) {Q : (Int32 × WW) → Prop} (kerr : ∀ z, sem V U C (X.sk k) (X.sn k) (X.sp k) (S t') (S (t' + 1)) = .inr z → Q (0, mk (up2 I 373 51 z) J R)) (kgo : ∀ (v nn' : Int32) (m' : Nat), sem V U C (X.sk k) (X.sn k) (X.sp k) (S t') (S (t' + 1)) = .inl v → nn'.toInt = ((m' + 1 : Nat) : Int) → b + m' = t' → wl (f_q_work_5 N 373 ee nn' (kk + 1) (mk (up2 I 403 m' v) J R)) Q) : wl (f_q_work_5 (N + 1) 373 ee nn kk (mk I J R)) Q := by
  obtain ⟨ok, r1, r2, r3, r4⟩ := hL
  have bn := i32b nn
  rw [f_q_work_5, if_neg hk]
  refine wq_24 hR (wl_rI (n := 440) rfl (fun _ => wq_25 hR (wl_rI (n := 440) rfl (fun _ => ?_))))
  rw [tnat hkk, r1]
  unfold f_q_work_345
  have un : ∀ {z : Int64} {op : Int32}, op = 4 → 1 ≤ m → (∀ v, iof z (X.sp k) = .inl v → wl (f_q_work_5 N 373 ee nn (kk + 1) (mk (up2 I 403 (m - 1) v) J R)) Q) → (∀ e, iof z (X.sp k) = .inr e → Q (0, mk (up2 I 373 51 e) J R)) → wl (f_q_work_296 (f_q_work_5 N) 373 ee nn kk op z (mk I J R)) Q := by
    intro z op ho hm k1 k2
    refine z_296 hR hkk r2 (fun v nn' hv hn' => ?_) k2
    rw [if_pos ho] at hn'
    replace hn' := hn'.symm
    subst hn'
    have x1 : (nn - 1).toInt = ((m - 1 : Nat) : Int) := by rw [i32subc (by rw [hnn, l32_1]; omega), hnn, l32_1]; omega
    refine wl_sI (n := 120) rfl (fun _ => ?_)
    rw [tnat x1]
    exact k1 v hv
  have bi : ∀ {z : Int64} {op : Int32}, ¬ op = 4 → 2 ≤ m → (∀ v, iof z (X.sp k) = .inl v → wl (f_q_work_5 N 373 ee (nn + (-1)) (kk + 1) (mk (up2 I 403 (m - 2) v) J R)) Q) → (∀ e, iof z (X.sp k) = .inr e → Q (0, mk (up2 I 373 51 e) J R)) → wl (f_q_work_296 (f_q_work_5 N) 373 ee nn kk op z (mk I J R)) Q := by
    intro z op ho hm k1 k2
    refine z_296 hR hkk r2 (fun v nn' hv hn' => ?_) k2
    rw [if_neg ho] at hn'
    subst hn'
    have x1 : (nn + (-1)).toInt = (m : Int) - 1 := by rw [i32addc (by rw [hnn, l32_m1]; omega), hnn, l32_m1]; omega
    have x2 : (nn + (-1) - 1).toInt = ((m - 2 : Nat) : Int) := by rw [i32subc (by rw [x1, l32_1]; omega), x1, l32_1]; omega
    refine wl_sI (n := 120) rfl (fun _ => ?_)
    rw [tnat x2]
    exact k1 v hv
  have nb1 : 2 ≤ m → (nn + (-1)).toInt = ((m - 2 + 1 : Nat) : Int) := fun hm => by rw [i32addc (by rw [hnn, l32_m1]; omega), hnn, l32_m1]; omega
  -- both parts of an operator
  have two : ∀ {op : Int32}, ¬ op = 4 → (t' + 1 + 1 = t) → (2 ≤ m → t' = b + (m - 2) → wl (f_q_work_194 (f_q_work_5 N) 373 ee nn kk op (Int32.toInt64 (S (t' + 1))) (Int32.toInt64 (S t')) (mk I J R)) Q) → wl ((gN (mk I J R) 373 9 47).bind fun x13 => (rI (mk I J R) x13 0 (nn - (1 : Int32))).bind fun x14 => if op = (4 : Int32) then f_q_work_194 (f_q_work_5 N) 373 ee nn kk op (Int32.toInt64 x14) (0 : Int64) (mk I J R) else (gN (mk I J R) 373 9 47).bind fun x16 => (rI (mk I J R) x16 0 (nn - (2 : Int32))).bind fun x17 => f_q_work_194 (f_q_work_5 N) 373 ee nn kk op (Int32.toInt64 x14) (Int32.toInt64 x17) (mk I J R)) Q := by
    intro op ho h3 k3
    refine w47 hR (wl_rI (n := 120) rfl (fun hb => ?_))
    rw [if_neg ho]
    refine w47 hR (wl_rI (n := 120) rfl (fun hb2 => ?_))
    have x1' : (nn - 1).toInt = (m : Int) - 1 := by rw [i32subc (by rw [hnn, l32_1]; omega), hnn, l32_1]
    have x2' : (nn - 2).toInt = (m : Int) - 2 := by rw [i32subc (by rw [hnn, l32_2]; omega), hnn, l32_2]
    have m2 : 2 ≤ m := by omega
    have x1 : (nn - 1).toInt = ((m - 1 : Nat) : Int) := by omega
    have x2 : (nn - 2).toInt = ((m - 2 : Nat) : Int) := by omega
    have et : t' = b + (m - 2) := by omega
    have sy : I 403 (m - 1) = S (t' + 1) := by
      have e : t' + 1 = b + (m - 1) := by omega
      rw [e]; exact hS _ (by omega)
    have sx : I 403 (m - 2) = S t' := by rw [et]; exact hS _ (by omega)
    rw [tnat x1, tnat x2, sx, sy]
    exact k3 m2 et
  rcases ok with c | c | c | c | c | c | c | c | c
  · replace r3 := r3 (Or.inl c)
    rw [c, show grw 1 = 1 from by decide] at h2
    rw [c, sem_1] at kgo
    rw [c, show cop 1 = 1 from by decide, if_pos rfl]
    refine w47 hR (wl_sI (n := 120) rfl (fun hb => ?_))
    rw [tnat hnn, ← r3]
    exact kgo _ _ m rfl (by rw [i32addc (by rw [hnn, l32_1]; omega), hnn, l32_1]; omega) (by omega)
  · replace r3 := r3 (Or.inr c)
    rw [c, show grw 2 = 1 from by decide] at h2
    rw [c, sem_2, r3] at kgo kerr
    rw [c, show cop 2 = 2 from by decide, if_neg (by decide), if_pos rfl]
    refine wq_4x hR (Or.inr (Or.inr (Or.inr (Or.inr (Or.inl ⟨rfl, rfl⟩))))) (wl_rI (n := 6) rfl (fun hb => ?_))
    have q := hV.2.1 (I 392 (220 * H + k)).toInt.toNat (by omega)
    refine wl_ite (fun y => ?_) (fun y => ?_)
    · rw [if_neg (q.mp y)] at kerr
      exact z_stopk hR hkk r2 rfl (kerr _ rfl)
    · have u0 : U (I 392 (220 * H + k)).toInt.toNat = 0 := by
        by_cases w : U (I 392 (220 * H + k)).toInt.toNat = 0
        · exact w
        · exact absurd (q.mpr w) y
      rw [if_pos u0] at kgo
      refine w47 hR (wq_4x hR (Or.inl ⟨rfl, rfl⟩) (wl_rI (n := 6) rfl (fun _ => wl_sI (n := 120) rfl (fun hb2 => ?_))))
      rw [tnat hnn, hV.1 _ (by omega)]
      exact kgo _ _ m rfl (by rw [i32addc (by rw [hnn, l32_1]; omega), hnn, l32_1]; omega) (by omega)
  · replace r3 := r4 c
    rw [c, show grw 3 = 0 from by decide] at h2
    rw [c, sem_3] at kgo kerr
    rw [c, show cop 3 = 3 from by decide, if_neg (by decide), if_neg (by decide), if_pos rfl]
    refine w47 hR (wl_rI (n := 120) rfl (fun hb => ?_))
    have x1' : (nn - 1).toInt = (m : Int) - 1 := by rw [i32subc (by rw [hnn, l32_1]; omega), hnn, l32_1]
    have m1 : 1 ≤ m := by omega
    have x1 : (nn - 1).toInt = ((m - 1 : Nat) : Int) := by omega
    have et : t' = b + (m - 1) := by omega
    have sx : I 403 (m - 1) = S t' := by rw [et]; exact hS _ (by omega)
    rw [tnat x1, sx]
    refine wl_bd2 (wp_wl (s_q_in (fun r hb01 hr => ?_)))
    rw [i3264, l64_0, l64_3] at hr
    dsimp only
    rcases hr with ⟨g1, g2⟩ | ⟨g1, g2⟩
    · rw [if_neg (by rw [i32lt, l32_0]; omega), if_pos (by rw [i32lt, l32_4]; omega)] at kgo
      rw [if_neg (fun y => by rw [y, l32_0] at g1; omega)]
      refine w47 hR (wq_4x hR (Or.inr (Or.inl ⟨rfl, rfl⟩)) (w47 hR (wl_rI (n := 120) rfl (fun _ => ?_))))
      rw [tnat x1, sx, ← r3]
      refine wl_rI (n := 8) rfl (fun hb8 => wl_sI (n := 120) rfl (fun _ => ?_))
      rw [tnat x1, hV.2.2 _ (by omega)]
      exact kgo _ _ (m - 1) rfl (by rw [hnn]; omega) (by omega)
    · have e0 : r = 0 := i32eq.mpr (by rw [g1, l32_0])
      rw [if_pos e0]
      refine z_stopk hR hkk r2 rfl ?_
      by_cases y : S t' < 0
      · rw [if_pos y] at kerr
        exact kerr _ rfl
      · rw [if_neg y, if_neg (by rw [i32lt, l32_4]; rw [i32lt, l32_0] at y; omega)] at kerr
        exact kerr _ rfl
  · rw [c, show grw 259 = 0 from by decide] at h2
    rw [c, sem_259] at kgo kerr
    rw [c, show cop 259 = 4 from by decide, if_neg (by decide), if_neg (by decide), if_neg (by decide)]
    refine w47 hR (wl_rI (n := 120) rfl (fun hb => ?_))
    have x1' : (nn - 1).toInt = (m : Int) - 1 := by rw [i32subc (by rw [hnn, l32_1]; omega), hnn, l32_1]
    have m1 : 1 ≤ m := by omega
    have x1 : (nn - 1).toInt = ((m - 1 : Nat) : Int) := by omega
    have et : t' = b + (m - 1) := by omega
    have sx : I 403 (m - 1) = S t' := by rw [et]; exact hS _ (by omega)
    rw [tnat x1, sx, if_pos rfl]
    unfold f_q_work_194 f_q_work_226 f_q_work_253
    rw [if_pos (by decide), if_neg (by decide), if_neg (by decide), if_pos rfl, Int64.zero_sub]
    exact un rfl m1 (fun v hv => kgo v nn (m - 1) hv (by rw [hnn]; omega) (by omega)) kerr
  · rw [c, show grw 43 = -1 from by decide] at h2
    rw [c, sem_43] at kgo kerr
    rw [c, show cop 43 = 5 from by decide, if_neg (by decide), if_neg (by decide), if_neg (by decide)]
    refine two (by decide) (by omega) (fun m2 et => ?_)
    unfold f_q_work_194 f_q_work_226
    rw [if_pos (by decide), if_pos rfl]
    exact bi (by decide) m2 (fun v hv => kgo v _ (m - 2) hv (nb1 m2) (by omega)) kerr
  · rw [c, show grw 45 = -1 from by decide] at h2
    rw [c, sem_45] at kgo kerr
    rw [c, show cop 45 = 6 from by decide, if_neg (by decide), if_neg (by decide), if_neg (by decide)]
    refine two (by decide) (by omega) (fun m2 et => ?_)
    unfold f_q_work_194 f_q_work_226 f_q_work_253
    rw [if_pos (by decide), if_neg (by decide), if_pos rfl]
    exact bi (by decide) m2 (fun v hv => kgo v _ (m - 2) hv (nb1 m2) (by omega)) kerr
  · rw [c, show grw 42 = -1 from by decide] at h2
    rw [c, sem_42] at kgo kerr
    rw [c, show cop 42 = 7 from by decide, if_neg (by decide), if_neg (by decide), if_neg (by decide)]
    refine two (by decide) (by omega) (fun m2 et => ?_)
    unfold f_q_work_194 f_q_work_226
    rw [if_pos (by decide), if_neg (by decide), if_neg (by decide), if_neg (by decide), if_pos rfl]
    exact bi (by decide) m2 (fun v hv => kgo v _ (m - 2) hv (nb1 m2) (by omega)) kerr
  · rw [c, show grw 47 = -1 from by decide] at h2
    rw [c, sem_47] at kgo kerr
    rw [c, show cop 47 = 8 from by decide, if_neg (by decide), if_neg (by decide), if_neg (by decide)]
    refine two (by decide) (by omega) (fun m2 et => ?_)
    unfold f_q_work_194
    rw [if_neg (by decide)]
    refine wl_ite (fun y => ?_) (fun y => ?_)
    · rw [if_pos y] at kerr
      exact z_stopk hR hkk r2 rfl (kerr _ rfl)
    · rw [if_neg y] at kerr kgo
      unfold f_q_work_226
      rw [if_neg (by decide), if_neg (by decide), if_neg (by decide), if_neg (by decide), if_pos rfl]
      exact wl_req (fun _ => bi (by decide) m2 (fun v hv => kgo v _ (m - 2) hv (nb1 m2) (by omega)) kerr)
  · rw [c, show grw 37 = -1 from by decide] at h2
    rw [c, sem_37] at kgo kerr
    rw [c, show cop 37 = 9 from by decide, if_neg (by decide), if_neg (by decide), if_neg (by decide)]
    refine two (by decide) (by omega) (fun m2 et => ?_)
    unfold f_q_work_194
    rw [if_neg (by decide)]
    refine wl_ite (fun y => ?_) (fun y => ?_)
    · rw [if_pos y] at kerr
      exact z_stopk hR hkk r2 rfl (kerr _ rfl)
    · rw [if_neg y] at kerr kgo
      unfold f_q_work_226
      rw [if_neg (by decide), if_neg (by decide), if_neg (by decide), if_neg (by decide), if_neg (by decide)]
      exact wl_req (fun _ => bi (by decide) m2 (fun v hv => kgo v _ (m - 2) hv (nb1 m2) (by omega)) kerr)
theorem z_work_5 (hR : QR R) {b : Nat} {I0 : IM} (hL : RLS X H n I0) (hV : VRL V U C I0) (hn : 220 * H + n ≤ 440) {Q : (Int32 × WW) → Prop} {k e t : Nat} {S : Nat → Int32} {r : (Nat → Int32) ⊕ Int32} (hE : EV X V U C k e t S r) : e ≤ n → ∀ (ee : Int32), ee.toInt = ((220 * H + e : Nat) : Int) → (∀ (S' : Nat → Int32), r = .inl S' → ∀ I', WQ I0 I' → I' 373 50 = S' b → I' 373 51 = I0 373 51 → Q (1, mk I' J R)) → (∀ z, r = .inr z → ∀ I', WQ I0 I' → I' 373 51 = z → Q (0, mk I' J R)) → ∀ (N m : Nat) (I : IM) (kk nn : Int32), WS X k e t (b + 1) → t = b + m → kk.toInt = ((220 * H + k : Nat) : Int) → nn.toInt = m → WQ I0 I → I 373 51 = I0 373 51 → (∀ j, j < m → I 403 j = S (b + j)) → wl (f_q_work_5 N 373 ee nn kk (mk I J R)) Q := by
  refine EV.ind (W := fun k e t S r => e ≤ n → ∀ (ee : Int32), ee.toInt = ((220 * H + e : Nat) : Int) → (∀ (S' : Nat → Int32), r = .inl S' → ∀ I', WQ I0 I' → I' 373 50 = S' b → I' 373 51 = I0 373 51 → Q (1, mk I' J R)) → (∀ z, r = .inr z → ∀ I', WQ I0 I' → I' 373 51 = z → Q (0, mk I' J R)) → ∀ (N m : Nat) (I : IM) (kk nn : Int32), WS X k e t (b + 1) → t = b + m → kk.toInt = ((220 * H + k : Nat) : Int) → nn.toInt = m → WQ I0 I → I 373 51 = I0 373 51 → (∀ j, j < m → I 403 j = S (b + j)) → wl (f_q_work_5 N 373 ee nn kk (mk I J R)) Q) ?_ ?_ ?_ hE
  · intro k e t S h1 hen ee hee hk1 hkx N m I kk nn hW ht hkk hnn w e51 hS
    cases N with
    | zero => exact wl_none
    | succ N =>
      have m1 : m = 1 := by
        rcases hW.inv with ⟨_, z⟩ | ⟨z, _⟩
        · omega
        · omega
      rw [f_q_work_5, if_pos (by rw [i32le, hee, hkk]; omega)]
      refine w47 hR (wl_rI (n := 120) rfl (fun _ => wl_pI rfl rfl (wl_req (fun _ => wl_some (hk1 S rfl _ (fun x j a c => by rw [up2_ne _ _ (by omega)]; exact w x j a c) ?_ (by rw [up2_nek (by decide)]; exact e51))))))
      rw [up2_s]
      exact hS 0 (by omega)
  · intro k e t t' S z h1 h2 h3 hen ee hee hk1 hkx N m I kk nn hW ht hkk hnn w e51 hS
    cases N with
    | zero => exact wl_none
    | succ N =>
      refine z_step hR ((hL.keep w) k (by omega)) (hV.keep w) h2 ht hkk hnn (by rw [i32le, hee, hkk]; omega) hS (fun z' hz => ?_) (fun v nn' m' hv => ?_)
      · rw [h3] at hz
        exact hkx z rfl _ (fun x j a c => by rw [up2_ne _ _ (by omega)]; exact w x j a c) (by rw [up2_s]; exact (Sum.inr.inj hz).symm)
      · rw [h3] at hv; cases hv
  · intro k e t t' S v r h1 h2 h3 h4 ih hen ee hee hk1 hkx N m I kk nn hW ht hkk hnn w e51 hS
    have hW' : WS X (k + 1) e (t' + 1) (b + 1) := by
      rcases hW.inv with ⟨h, _⟩ | ⟨_, t2, g2, _, g4⟩
      · omega
      · have e2 : t2 = t' := by omega
        rw [← e2]; exact g4
    cases N with
    | zero => exact wl_none
    | succ N =>
      refine z_step hR ((hL.keep w) k (by omega)) (hV.keep w) h2 ht hkk hnn (by rw [i32le, hee, hkk]; omega) hS (fun z' hz => ?_) (fun v' nn' m' hv hn' hm' => ?_)
      · rw [h3] at hz; cases hz
      · rw [h3] at hv
        have ev : v = v' := Sum.inl.inj hv
        subst ev
        have be := i32b ee
        refine ih hen ee hee hk1 hkx N (m' + 1) _ (kk + 1) nn' hW' (by omega) (by rw [i32addc (by rw [hkk, l32_1]; omega), hkk, l32_1]; omega) hn' (fun x j a c => by rw [up2_nea a]; exact w x j a c) (by rw [up2_nea (by decide)]; exact e51) (fun j hj => ?_)
        by_cases y : j = m'
        · rw [y, up2_s]
          show v = if b + m' = t' then v else S (b + m')
          rw [if_pos (by omega)]
        · rw [up2_nek y]
          show I 403 j = if b + j = t' then v else S (b + j)
          rw [if_neg (by omega)]
          have g := grw_le (X.sk k)
          exact hS j (by omega)
end QW2
