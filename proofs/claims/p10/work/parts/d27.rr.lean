/-! The reference runs a program by the same rules: by the rules themselves. -/
section QRR
variable {Z : ZC} {s : SGM} {O : List Nat} {I I' : IM} {d y : Nat}
theorem q_head (hz : ZOK Z) {ss oo : Int32} (hss : ss.toInt = (sid Z.H Z.p y : Nat)) (h : QGO Z s O I) {N : Nat} (ks : ¬ s.bg < Z.lim → Z.Q (-5, mk I Z.J Z.R)) (kg : s.bg < Z.lim → ∀ I', QGO Z s.b1 O I' → wl (goM Z N ss oo (mk I' Z.J Z.R)) Z.Q) : Z.lp (N + 1) ss oo 1 I := by
  have h52 := h.2.2.1
  have hl := h.2.2.2.2.1
  show wl (f_q_go_79 (N + 1) 373 Z.y1 ss oo 1 (mk I Z.J Z.R)) Z.Q
  rw [f_q_go_79, if_neg (by decide), if_pos (by rw [i32le, l32_0]; omega)]
  refine wl_gI rfl rfl rfl (wl_ite (fun c => wl_some (ks ?_)) (fun c => wl_gI rfl rfl rfl (wl_pIa rfl rfl (fun I2 e2 f2 => ?_))))
  · rw [i32eq, h52, hz.hl] at c; omega
  · rw [i32eq, h52, hz.hl] at c
    have b1 : s.bg < Z.lim := by omega
    have bl := i32b Z.y1
    have hl2 := hz.hl
    refine kg b1 I2 (h.set (fun x j a1 a2 a3 => e2 x j (by omega)) ⟨fun j hj => by rw [e2 _ _ (by omega)]; exact h.2.1.1 j hj, fun j hj => by rw [e2 _ _ (by omega)]; exact h.2.1.2.1 j hj, fun j hj => by rw [e2 _ _ (by omega)]; exact h.2.1.2.2 j hj⟩ ?_ (by rw [e2 _ _ (by omega)]; exact h.2.2.2.1) (show s.bg + 1 ≤ Z.lim by omega))
    rw [f2, i32addc (by rw [h52, l32_1]; omega), h52, l32_1]
    show (s.bg : Int) + 1 = ((s.bg + 1 : Nat) : Int)
    omega
theorem QGO.push (h : QGO Z s O I) (hy : Z.G d y) {v : Int32} (hv : v.toInt = (sid Z.H Z.p y : Nat)) (e : ∀ x j, (x ≠ 404 ∨ j ≠ O.length) → I' x j = I x j) (f : I' 404 O.length = v) : QGO Z s (y :: O) I' := by
  obtain ⟨h1, h2, h3, h4, h5, h6, h7, h8⟩ := h
  refine ⟨fun x j a b => by rw [e x j (by omega)]; exact h1 x j a b, ⟨fun j hj => by rw [e _ _ (by omega)]; exact h2.1 j hj, fun j hj => by rw [e _ _ (by omega)]; exact h2.2.1 j hj, fun j hj => by rw [e _ _ (by omega)]; exact h2.2.2 j hj⟩, by rw [e _ _ (by omega)]; exact h3, by rw [e _ _ (by omega)]; exact h4, h5, ⟨by rw [f]; exact hv, h6.keep O (fun j hj => e _ _ (by omega))⟩, fun z hz => ?_, by rw [e _ _ (by omega)]; exact h8.1, by rw [e _ _ (by omega)]; exact h8.2⟩
  rcases List.mem_cons.mp hz with q | q
  · exact ⟨d, by rw [q]; exact hy⟩
  · exact h7 z q
theorem QGO.pop (h : QGO Z s (y :: O) I) : QGO Z s O I := by
  obtain ⟨h1, h2, h3, h4, h5, h6, h7, h8⟩ := h
  exact ⟨h1, h2, h3, h4, h5, h6.2, fun z hz => h7 z (List.mem_cons_of_mem _ hz), h8⟩
/-- the COND of an IF or a WHILE, and where it leads -/
theorem q_177 (hz : ZOK Z) (hy : Z.G d y) (hk : Z.X.F y 0 = 4 ∨ Z.X.F y 0 = 6) {ss oo : Int32} (hss : ss.toInt = (sid Z.H Z.p y : Nat)) (hoo : oo.toInt = O.length) (h : QGO Z s O I) {r : Bool ⊕ Int32} (hH : HLD Z.X s.V s.U s.C y r) {N : Nat} (kt : r = .inl true → ∀ (I' : IM) (s1 o1 : Int32), QGO Z s (y :: O) I' → lnk Z.H Z.p (Z.X.N y 7) s1 → o1.toInt = ((y :: O).length : Nat) → Z.lp N s1 o1 1 I') (kf : r = .inl false → ∀ (I' : IM) (s1 o1 : Int32), QGO Z s (y :: O) I' → Z.X.F y 0 = 4 → lnk Z.H Z.p (Z.X.N y 8) s1 → o1.toInt = ((y :: O).length : Nat) → Z.lp N s1 o1 1 I') (kn : r = .inl false → (Z.X.F y 0 = 4 → Z.X.N y 8 = none) → ∀ (I' : IM) (s1 : Int32), QGO Z s O I' → lnk Z.H Z.p (Z.X.N y 9) s1 → Z.lp N s1 oo 1 I') (ke : ∀ z, r = .inr z → ∀ (I' : IM) (s1 : Int32), QGE Z s I' → I' 373 51 = z → Z.lp N s1 oo 0 I') : wl (f_q_go_177 (f_q_go_79 N) 373 Z.y1 ss oo (mk I Z.J Z.R)) Z.Q := by
  have hk3 : Z.X.F y 0 = 4 ∨ Z.X.F y 0 = 6 ∨ Z.X.F y 0 = 7 := by
    rcases hk with c | c
    · exact Or.inl c
    · exact Or.inr (Or.inl c)
  have w48 : ∀ {β : Type} {Q : β → Prop} {f : Nat → Option β} {I : IM}, wl (f 404) Q → wl ((gN (mk I Z.J Z.R) 373 9 48).bind f) Q := fun K => wq_4x hz.hR (Or.inr (Or.inr (Or.inr (Or.inl ⟨rfl, rfl⟩)))) K
  have nxt : ∀ (I1 : IM) (z0 : Int32), GOF Z.I0 I1 → (∀ s1, lnk Z.H Z.p (Z.X.N y 9) s1 → Z.lp N s1 oo z0 I1) → wl (f_q_go_249 (f_q_go_79 N) 373 Z.y1 ss oo z0 (mk I1 Z.J Z.R)) Z.Q := by
    intro I1 z0 h1 q
    unfold f_q_go_249 f_q_go_256
    refine wq_19 hz.hR (wl_rI (n := 160) rfl (fun _ => ?_))
    rw [tnat hss, h1 386 _ (by omega) (by omega)]
    exact q _ (hz.st.nx d y hy)
  have bo := i32b oo
  unfold f_q_go_177
  cases r with
  | inr z =>
    refine wl_bd2 (z_ask hz hy hk3 hss h hH (fun b hr => by cases hr) (fun z' hr I1 h1 t1 => ?_))
    cases hr
    dsimp only
    rw [if_pos (by decide)]
    unfold f_q_go_194
    rw [if_neg (by decide), if_neg (by decide)]
    exact nxt I1 0 h1.1 (fun s1 _ => ke _ rfl I1 s1 h1 t1)
  | inl b =>
    refine wl_bd2 (z_ask hz hy hk3 hss h hH (fun b' hr I1 h1 t1 => ?_) (fun z' hr => by cases hr))
    cases hr
    cases b with
    | true =>
      dsimp only
      rw [if_pos rfl, if_neg (by decide)]
      unfold f_q_go_194
      rw [if_pos (by decide)]
      unfold f_q_go_215 f_q_go_245 f_q_go_256
      refine w48 (wl_sIa (n := 8) rfl (fun I2 e2 f2 hb => ?_))
      rw [tnat hoo] at e2 f2
      rw [if_neg (by decide)]
      have h2 := h1.push hy hss e2 f2
      refine wq_17 hz.hR (wl_rI (n := 160) rfl (fun _ => ?_))
      rw [tnat hss, h2.fr (by omega)]
      exact kt rfl I2 _ _ h2 (hz.st.bd d y hy hk) (by rw [i32addc (by rw [hoo, l32_1]; omega), hoo, l32_1]; show (O.length : Int) + 1 = ((O.length + 1 : Nat) : Int); omega)
    | false =>
      dsimp only
      rw [if_neg (by decide), if_neg (by decide)]
      unfold f_q_go_194
      rw [if_neg (by decide), if_pos rfl]
      refine wq_20 hz.hR (wl_rI (n := 160) rfl (fun _ => ?_))
      rw [tnat hss, h1.fr (by omega)]
      refine wl_ite (fun c => ?_) (fun c => ?_)
      · refine nxt I1 1 h1.1 (fun s1 hl => kn rfl (fun c4 => ?_) I1 s1 h1 hl)
        rcases hz.st.ot d y hy c4 with q | q
        · exact q.2
        · exact absurd c q.1
      · have c4 : Z.X.F y 0 = 4 := by
          rcases hk with c4 | c6
          · exact c4
          · exact absurd (hz.st.wh d y hy c6) c
        have hl : lnk Z.H Z.p (Z.X.N y 8) (Z.I0 385 (sid Z.H Z.p y)) := by
          rcases hz.st.ot d y hy c4 with q | q
          · exact absurd q.1 c
          · exact q.2
        unfold f_q_go_215 f_q_go_245 f_q_go_256
        refine w48 (wl_sIa (n := 8) rfl (fun I2 e2 f2 hb => ?_))
        rw [tnat hoo] at e2 f2
        rw [if_pos (by decide)]
        have h2 := h1.push hy hss e2 f2
        refine wq_18 hz.hR (wl_rI (n := 160) rfl (fun _ => ?_))
        rw [tnat hss, h2.fr (by omega)]
        exact kf rfl I2 _ _ h2 c4 hl (by rw [i32addc (by rw [hoo, l32_1]; omega), hoo, l32_1]; show (O.length : Int) + 1 = ((O.length + 1 : Nat) : Int); omega)
/-- the STATEMENTS of a BLOCK are done: its owner is at hand -/
theorem q_pop (hz : ZOK Z) (hy : Z.G d y) (hk : Z.X.F y 0 = 4 ∨ Z.X.F y 0 = 6) {ss oo : Int32} (hss : ss.toInt < 0) (hoo : oo.toInt = ((y :: O).length : Nat)) (h : QGO Z s (y :: O) I) {N : Nat} (ki : Z.X.F y 0 = 4 → ∀ (s1 o1 : Int32), lnk Z.H Z.p (Z.X.N y 9) s1 → o1.toInt = O.length → Z.lp N s1 o1 1 I) (kw : Z.X.F y 0 = 6 → ∀ (s1 o1 : Int32), s1.toInt = (sid Z.H Z.p y : Nat) → o1.toInt = O.length → Z.lp N s1 o1 1 I) : Z.lp (N + 1) ss oo 1 I := by
  have w48 : ∀ {β : Type} {Q : β → Prop} {f : Nat → Option β} {I : IM}, wl (f 404) Q → wl ((gN (mk I Z.J Z.R) 373 9 48).bind f) Q := fun K => wq_4x hz.hR (Or.inr (Or.inr (Or.inr (Or.inl ⟨rfl, rfl⟩)))) K
  have hoo' : oo.toInt = (O.length : Int) + 1 := by
    have e : oo.toInt = ((O.length + 1 : Nat) : Int) := hoo
    omega
  have bo := i32b oo
  have x1 : (oo + (-1)).toInt = ((O.length : Nat) : Int) := by rw [i32addc (by rw [hoo', l32_m1]; omega), hoo', l32_m1]; omega
  have ow := h.2.2.2.2.2.1.1
  show wl (f_q_go_79 (N + 1) 373 Z.y1 ss oo 1 (mk I Z.J Z.R)) Z.Q
  rw [f_q_go_79, if_neg (by decide), if_neg (by rw [i32le, l32_0]; omega), if_neg (fun z => by rw [i32eq, l32_0, hoo'] at z; omega)]
  refine wq_9 hz.hR (w48 (wl_rI (n := 8) rfl (fun _ => ?_)))
  rw [tnat x1]
  refine wl_rI (n := 160) rfl (fun _ => ?_)
  rw [tnat ow, h.fr (by omega), hz.st.kd d y hy]
  unfold f_q_go_132
  rcases hk with c | c
  · rw [c, show ckd 4 = 3 from by decide, if_neg (by decide)]
    refine wq_19 hz.hR (w48 (wl_rI (n := 8) rfl (fun _ => ?_)))
    rw [tnat x1]
    refine wl_rI (n := 160) rfl (fun _ => ?_)
    rw [tnat ow, h.fr (by omega)]
    exact ki c _ _ (hz.st.nx d y hy) x1
  · rw [c, show ckd 6 = 4 from by decide, if_pos rfl]
    refine w48 (wl_rI (n := 8) rfl (fun _ => ?_))
    rw [tnat x1]
    exact kw c _ _ ow x1
/-- a STATEMENT without BLOCKS, and on -/
theorem q_simp (hz : ZOK Z) (hy : Z.G d y) (hk : Z.X.F y 0 = 2 ∨ Z.X.F y 0 = 8 ∨ Z.X.F y 0 = 3 ∨ Z.X.F y 0 = 7) {ss oo : Int32} (hss : ss.toInt = (sid Z.H Z.p y : Nat)) (hoo : oo.toInt = O.length) (h : QGO Z s O I) {r : RRs} (hS : SIM Z.X Z.ic Z.inp y s r) {N : Nat} (k : ZKR (ZN Z O y) Z r) : wl (goM Z N ss oo (mk I Z.J Z.R)) Z.Q := by
  have kd := hz.st.kd d y hy
  have n34 : ¬ ckd (Z.X.F y 0) = 3 ∧ ¬ ckd (Z.X.F y 0) = 4 := by
    rcases hk with c | c | c | c <;> rw [c] <;> decide
  unfold goM
  refine wq_9 hz.hR (wl_rI (n := 160) rfl (fun _ => ?_))
  rw [tnat hss, h.fr (by omega), kd, if_neg n34.1]
  refine wq_9 hz.hR (wl_rI (n := 160) rfl (fun _ => ?_))
  rw [tnat hss, h.fr (by omega), kd, if_neg n34.2]
  refine wl_bd2 (z_simple hz hy hk hss h hS (fun s' hr I1 h1 => ?_) (fun s' z hr I1 h1 t1 => ?_))
  · subst hr
    dsimp only
    refine wq_19 hz.hR (wl_rI (n := 160) rfl (fun _ => ?_))
    rw [tnat hss, h1.fr (by omega)]
    exact k I1 N _ oo (hz.st.nx d y hy) hoo h1
  · subst hr
    dsimp only
    refine wq_19 hz.hR (wl_rI (n := 160) rfl (fun _ => ?_))
    exact k I1 N _ oo h1 t1
/-- IF and WHILE, from the loop -/
theorem q_goM (hz : ZOK Z) (hy : Z.G d y) (hk : Z.X.F y 0 = 4 ∨ Z.X.F y 0 = 6) {ss oo : Int32} (hss : ss.toInt = (sid Z.H Z.p y : Nat)) (h : QGO Z s O I) {N : Nat} (k : wl (f_q_go_177 (f_q_go_79 N) 373 Z.y1 ss oo (mk I Z.J Z.R)) Z.Q) : wl (goM Z N ss oo (mk I Z.J Z.R)) Z.Q := by
  have kd := hz.st.kd d y hy
  unfold goM
  refine wq_9 hz.hR (wl_rI (n := 160) rfl (fun _ => ?_))
  rw [tnat hss, h.fr (by omega), kd]
  refine wl_ite (fun _ => k) (fun c => ?_)
  refine wq_9 hz.hR (wl_rI (n := 160) rfl (fun _ => ?_))
  rw [tnat hss, h.fr (by omega), kd]
  refine wl_ite (fun _ => k) (fun c2 => ?_)
  exfalso
  rcases hk with q | q
  · rw [q] at c; exact c (by decide)
  · rw [q] at c2; exact c2 (by decide)
theorem ref_run (hz : ZOK Z) {tag : Nat} {oy : Option Nat} {s : SGM} {r : RRs} (hD : DR Z.X Z.lim Z.ic Z.inp tag oy s r) : GRA Z tag oy s r := by
  have no : ∀ {a b : Nat} {P : Prop}, a ≠ b → a = b → P := fun h e => absurd e h
  have simp1 : ∀ {y : Nat} {s : SGM} {r : RRs}, SIM Z.X Z.ic Z.inp y s r → (Z.X.F y 0 = 2 ∨ Z.X.F y 0 = 8 ∨ Z.X.F y 0 = 3 ∨ Z.X.F y 0 = 7) → GRA Z 1 (some y) s r := by
    intro y s r hS hk
    refine ⟨no (by decide), fun _ => ?_, no (by decide)⟩
    intro y' e O I N d ss oo hy hss hoo h k
    cases e
    exact q_simp hz hy hk hss hoo h hS k
  refine DR.ind (W := fun tag oy s r => GRA Z tag oy s r) ?_ ?_ ?_ ?_ ?_ ?_ ?_ ?_ ?_ ?_ ?_ ?_ ?_ ?_ ?_ ?_ ?_ ?_ ?_ ?_ ?_ ?_ ?_ ?_ hD
  · intro s
    refine ⟨fun _ => ?_, no (by decide), no (by decide)⟩
    intro O I N d ss oo hy hl hoo h k
    exact k I N ss oo hl hoo h
  · intro y s c
    refine ⟨fun _ => ?_, no (by decide), no (by decide)⟩
    intro O I N d ss oo hy hl hoo h k
    cases N with
    | zero => exact wl_none
    | succ N => exact q_head (y := y) hz hl h (fun _ => k I O h) (fun c' => absurd c' c)
  · intro y s s' r c h1 h2 ih1 ih2
    refine ⟨fun _ => ?_, no (by decide), no (by decide)⟩
    intro O I N d ss oo hy hl hoo h k
    cases N with
    | zero => exact wl_none
    | succ N => exact q_head (y := y) hz hl h (fun c' => absurd c c') (fun _ I1 h1' => ih1.2.1 rfl y rfl O I1 N d ss oo (hy y rfl) hl hoo h1' (fun I2 N2 s2 o2 hl2 ho2 h2' => ih2.1 rfl O I2 N2 d s2 o2 (fun z hz' => hz.hG.nx d y z (hy y rfl) hz') hl2 ho2 h2' k))
  · intro y s r c h1 hn ih
    refine ⟨fun _ => ?_, no (by decide), no (by decide)⟩
    intro O I N d ss oo hy hl hoo h k
    cases N with
    | zero => exact wl_none
    | succ N =>
      refine q_head (y := y) hz hl h (fun c' => absurd c c') (fun _ I1 h1' => ih.2.1 rfl y rfl O I1 N d ss oo (hy y rfl) hl hoo h1' ?_)
      cases r with
      | inl s' => exact absurd trivial hn
      | inr q =>
        cases q with
        | inl s' => exact k
        | inr q => exact k
  · intro y s S S1 c hE
    exact simp1 (Or.inr (Or.inr (Or.inl ⟨_, _, c, hE, rfl⟩))) (Or.inl c)
  · intro y s S z c hE
    exact simp1 (Or.inr (Or.inr (Or.inr (Or.inl ⟨_, _, c, hE, rfl⟩)))) (Or.inl c)
  · intro y s c c1
    exact simp1 (Or.inl ⟨c, c1, rfl⟩) (Or.inr (Or.inl c))
  · intro y s c c1
    exact simp1 (Or.inr (Or.inl ⟨c, c1, rfl⟩)) (Or.inr (Or.inl c))
  · intro y s S z c hE
    exact simp1 (Or.inr (Or.inr (Or.inr (Or.inr (Or.inl ⟨_, _, c, hE, rfl⟩))))) (Or.inr (Or.inr (Or.inl c)))
  · intro y s S S1 c hE hb
    exact simp1 (Or.inr (Or.inr (Or.inr (Or.inr (Or.inr (Or.inl ⟨_, _, c, hE, hb, rfl⟩)))))) (Or.inr (Or.inr (Or.inl c)))
  · intro y s S S1 S' z c hE hb hE2
    exact simp1 (Or.inr (Or.inr (Or.inr (Or.inr (Or.inr (Or.inr (Or.inl ⟨_, _, _, _, c, hE, hb, hE2, rfl⟩))))))) (Or.inr (Or.inr (Or.inl c)))
  · intro y s S S1 S' S2 c hE hb hE2
    exact simp1 (Or.inr (Or.inr (Or.inr (Or.inr (Or.inr (Or.inr (Or.inr (Or.inl ⟨_, _, _, _, c, hE, hb, hE2, rfl⟩)))))))) (Or.inr (Or.inr (Or.inl c)))
  · intro y s z c hH
    refine ⟨no (by decide), fun _ => ?_, no (by decide)⟩
    intro y' e O I N d ss oo hy hss hoo h k
    cases e
    exact q_goM hz hy (Or.inl c) hss h (q_177 hz hy (Or.inl c) hss hoo h hH (fun hr => by cases hr) (fun hr => by cases hr) (fun hr => by cases hr) (fun z hr I1 s1 h1 t1 => by cases hr; exact k I1 N s1 oo h1 t1))
  · intro y s r c hH h3 ih
    refine ⟨no (by decide), fun _ => ?_, no (by decide)⟩
    intro y' e O I N d ss oo hy hss hoo h k
    cases e
    refine q_goM hz hy (Or.inl c) hss h (q_177 hz hy (Or.inl c) hss hoo h hH (fun _ I1 s1 o1 h1 hl ho1 => ih.1 rfl (y :: O) I1 N (d + 1) s1 o1 (fun z hz' => hz.hG.bd d y z hy (Or.inl c) (Or.inl hz')) hl ho1 h1 ?_) (fun hr => by cases hr) (fun hr => by cases hr) (fun z hr => by cases hr))
    cases r with
    | inl s' =>
      intro I2 N2 s2 o2 hs2 ho2 h2
      cases N2 with
      | zero => exact wl_none
      | succ N2 => exact q_pop hz hy (Or.inl c) hs2 ho2 h2 (fun _ s3 o3 hl3 ho3 => k I2 N2 s3 o3 hl3 ho3 h2.pop) (fun c6 => by rw [c] at c6; exact absurd c6 (by decide))
    | inr q =>
      cases q with
      | inl s' => exact k
      | inr q => exact k
  · intro y s r c hH h3 ih
    refine ⟨no (by decide), fun _ => ?_, no (by decide)⟩
    intro y' e O I N d ss oo hy hss hoo h k
    cases e
    refine q_goM hz hy (Or.inl c) hss h (q_177 hz hy (Or.inl c) hss hoo h hH (fun hr => by cases hr) (fun _ I1 s1 o1 h1 _ hl ho1 => ih.1 rfl (y :: O) I1 N (d + 1) s1 o1 (fun z hz' => hz.hG.bd d y z hy (Or.inl c) (Or.inr ⟨c, hz'⟩)) hl ho1 h1 ?_) (fun _ hno I1 s1 h1 hl => ?_) (fun z hr => by cases hr))
    · cases r with
      | inl s' =>
        intro I2 N2 s2 o2 hs2 ho2 h2
        cases N2 with
        | zero => exact wl_none
        | succ N2 => exact q_pop hz hy (Or.inl c) hs2 ho2 h2 (fun _ s3 o3 hl3 ho3 => k I2 N2 s3 o3 hl3 ho3 h2.pop) (fun c6 => by rw [c] at c6; exact absurd c6 (by decide))
      | inr q =>
        cases q with
        | inl s' => exact k
        | inr q => exact k
    · have n8 := hno c
      rw [n8] at h3
      have e3 := h3.nil_inv
      subst e3
      exact k I1 N s1 oo hl hoo h1
  · intro y s r c h3 ih
    refine ⟨no (by decide), fun _ => ?_, no (by decide)⟩
    intro y' e O I N d ss oo hy hss hoo h k
    cases e
    exact q_goM hz hy (Or.inr c) hss h (ih.2.2 rfl y rfl O I N d ss oo hy c hss hoo h k)
  · intro y s z c hH
    exact simp1 (Or.inr (Or.inr (Or.inr (Or.inr (Or.inr (Or.inr (Or.inr (Or.inr (Or.inl ⟨_, c, hH, rfl⟩))))))))) (Or.inr (Or.inr (Or.inr c)))
  · intro y s c hH
    exact simp1 (Or.inr (Or.inr (Or.inr (Or.inr (Or.inr (Or.inr (Or.inr (Or.inr (Or.inr (Or.inl ⟨c, hH, rfl⟩)))))))))) (Or.inr (Or.inr (Or.inr c)))
  · intro y s c hH
    exact simp1 (Or.inr (Or.inr (Or.inr (Or.inr (Or.inr (Or.inr (Or.inr (Or.inr (Or.inr (Or.inr (⟨c, hH, rfl⟩))))))))))) (Or.inr (Or.inr (Or.inr c)))
  · intro y s z hH
    refine ⟨no (by decide), no (by decide), fun _ => ?_⟩
    intro y' e O I N d ss oo hy c hss hoo h k
    cases e
    exact q_177 hz hy (Or.inr c) hss hoo h hH (fun hr => by cases hr) (fun hr => by cases hr) (fun hr => by cases hr) (fun z hr I1 s1 h1 t1 => by cases hr; exact k I1 N s1 oo h1 t1)
  · intro y s hH
    refine ⟨no (by decide), no (by decide), fun _ => ?_⟩
    intro y' e O I N d ss oo hy c hss hoo h k
    cases e
    exact q_177 hz hy (Or.inr c) hss hoo h hH (fun hr => by cases hr) (fun _ I1 s1 o1 h1 c4 => by rw [c] at c4; exact absurd c4 (by decide)) (fun _ _ I1 s1 h1 hl => k I1 N s1 oo hl hoo h1) (fun z hr => by cases hr)
  · intro y s r hH h3 hn ih
    refine ⟨no (by decide), no (by decide), fun _ => ?_⟩
    intro y' e O I N d ss oo hy c hss hoo h k
    cases e
    refine q_177 hz hy (Or.inr c) hss hoo h hH (fun _ I1 s1 o1 h1 hl ho1 => ih.1 rfl (y :: O) I1 N (d + 1) s1 o1 (fun z hz' => hz.hG.bd d y z hy (Or.inr c) (Or.inl hz')) hl ho1 h1 ?_) (fun hr => by cases hr) (fun hr => by cases hr) (fun z hr => by cases hr)
    cases r with
    | inl s' => exact absurd trivial hn
    | inr q =>
      cases q with
      | inl s' => exact k
      | inr q => exact k
  · intro y s s' hH h3 c3 ih
    refine ⟨no (by decide), no (by decide), fun _ => ?_⟩
    intro y' e O I N d ss oo hy c hss hoo h k
    cases e
    refine q_177 hz hy (Or.inr c) hss hoo h hH (fun _ I1 s1 o1 h1 hl ho1 => ih.1 rfl (y :: O) I1 N (d + 1) s1 o1 (fun z hz' => hz.hG.bd d y z hy (Or.inr c) (Or.inl hz')) hl ho1 h1 ?_) (fun hr => by cases hr) (fun hr => by cases hr) (fun z hr => by cases hr)
    intro I2 N2 s2 o2 hs2 ho2 h2
    cases N2 with
    | zero => exact wl_none
    | succ N2 =>
      refine q_pop hz hy (Or.inr c) hs2 ho2 h2 (fun c4 => by rw [c] at c4; exact absurd c4 (by decide)) (fun _ s3 o3 hl3 ho3 => ?_)
      cases N2 with
      | zero => exact wl_none
      | succ N2 => exact q_head (y := y) hz hl3 h2.pop (fun _ => k I2 O h2.pop) (fun c' => absurd c' c3)
  · intro y s s' r hH h3 c3 h4 ih3 ih4
    refine ⟨no (by decide), no (by decide), fun _ => ?_⟩
    intro y' e O I N d ss oo hy c hss hoo h k
    cases e
    refine q_177 hz hy (Or.inr c) hss hoo h hH (fun _ I1 s1 o1 h1 hl ho1 => ih3.1 rfl (y :: O) I1 N (d + 1) s1 o1 (fun z hz' => hz.hG.bd d y z hy (Or.inr c) (Or.inl hz')) hl ho1 h1 ?_) (fun hr => by cases hr) (fun hr => by cases hr) (fun z hr => by cases hr)
    intro I2 N2 s2 o2 hs2 ho2 h2
    cases N2 with
    | zero => exact wl_none
    | succ N2 =>
      refine q_pop hz hy (Or.inr c) hs2 ho2 h2 (fun c4 => by rw [c] at c4; exact absurd c4 (by decide)) (fun _ s3 o3 hl3 ho3 => ?_)
      cases N2 with
      | zero => exact wl_none
      | succ N2 => exact q_head (y := y) hz hl3 h2.pop (fun c' => absurd c3 c') (fun _ I3 h3' => q_goM hz hy (Or.inr c) hl3 h3' (ih4.2.2 rfl y rfl O I3 N2 d s3 o3 hy c hl3 ho3 h3' k))
end QRR
