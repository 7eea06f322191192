/-! The reference: the whole going through. -/
section RUNS
variable {lo hi : Nat} {d : Nat → Nat} {t : Nat} {I0 I I' : IM} {J0 J J' : JM} {R : RM}
theorem OK.comp {tp tq : Nat} (h : OK lo hi d t tp I0 J0 I J) (h2 : OK lo hi d (t + 1) tq I J I' J') : OK lo hi d t tq I0 J0 I' J' :=
  ⟨h2.pg, h2.bi, h.kp.trans (h2.kp.mono (by omega)), h.jx.trans (h2.jx.mono (fun i hi => by unfold SP at *; omega)), h2.2.2.2.2⟩
def VS (lo hi : Nat) (d : Nat → Nat) (t : Nat) (s : Int32) : Prop := s.toInt = -1 ∨ (0 ≤ s.toInt ∧ lo ≤ s.toInt.toNat ∧ s.toInt.toNat < hi ∧ d s.toInt.toNat = t)
theorem NX.vs {s : Nat} {x : Int32} {u : Nat} (h : NX d hi s x u) (hs : lo ≤ s) : VS lo hi d u x := by
  rcases h with h | h
  · exact Or.inl h
  · exact Or.inr ⟨by omega, by omega, by omega, h.2.2⟩
def RC (R : RM) (lo hi : Nat) (d : Nat → Nat) (t C : Nat) : Prop := ∀ (Q : (Int32 × WW) → Prop) (N : Nat) (s : Int32) (I0 : IM) (J0 : JM) (I : IM) (J : JM), OK lo hi d t t I0 J0 I J → VS lo hi d t s → C ≤ N → (∀ N' I' J', N ≤ N' + C → OK lo hi d t t I0 J0 I' J' → wp (f_q_analyse_127 N' 373 (-1) (mk I' J' R)) Q) → wp (f_q_analyse_127 N 373 s (mk I J R)) Q
theorem an_end (hR : QR R) (ho : OK lo hi d t (t + 1) I0 J0 I J) (ht : t ≤ 3) {s : Int32} (hf : I 413 t = s) (hs : 0 ≤ s.toInt) (s2 : s.toInt.toNat < hi) {n : Nat} {Q : (Int32 × WW) → Prop} (kE : (I 376 s.toInt.toNat).toInt = 3 → ∀ f : Int32, f.toInt = 3 + 3 * t → wp (f_q_endIf 373 s f (mk I J R)) (fun p => wp (f_q_analyse_127 n 373 p.1 p.2) Q)) (kW : (I 376 s.toInt.toNat).toInt ≠ 3 → ∀ f : Int32, f.toInt = 3 + 3 * t → wp (f_q_endWhile 373 s f (mk I J R)) (fun p => wp (f_q_analyse_127 n 373 p.1 p.2) Q)) : wp (f_q_analyse_127 (n + 1) 373 (-1) (mk I J R)) Q := by
  have hi1 := ho.pg.1
  have htp := ho.top
  have x1 : (I 373 64 - 1).toInt = t := by rw [i32subc (by rw [htp, l32_1]; omega), htp, l32_1]; omega
  have ex : (I 373 64 - 1).toInt.toNat = t := by omega
  have y3 : ((3 : Int32) * I 373 64).toInt = 3 + 3 * t := by rw [m32_3 (by omega)]; omega
  rw [f_q_analyse_127, if_neg (by decide)]
  refine st_gI rfl rfl rfl (st_ite (fun c => ?_) (fun c => ?_))
  · rw [i32le, l32_0] at c; omega
  unfold f_q_analyse_138 f_q_analyse_171 f_q_analyse_252
  rw [if_pos (by decide), if_pos (by decide)]
  refine st_gI rfl rfl rfl (qn_9 hR (qn_61 hR (st_gI rfl rfl rfl (st_rI (n := 8) (x := s) rfl (by omega) (by rw [ex]; exact hf) (st_rI (n := 160) rfl (by omega) rfl (st_ite (fun c2 => ?_) (fun c2 => ?_)))))))
  · refine qn_61 hR (st_gI rfl rfl rfl (st_rI (n := 8) (x := s) rfl (by omega) (by rw [ex]; exact hf) (st_bd2 (kE (by rw [c2]; rfl) _ y3))))
  · refine qn_61 hR (st_gI rfl rfl rfl (st_rI (n := 8) (x := s) rfl (by omega) (by rw [ex]; exact hf) (st_bd2 (kW (fun z => c2 (i32eq.mpr z)) _ y3))))
theorem an_while (hR : QR R) {C : Nat} (H : RC R lo hi d (t + 1) C) (ht : t ≤ 3) {s : Int32} (hs : 0 ≤ s.toInt) (s1 : lo ≤ s.toInt.toNat) (s2 : s.toInt.toNat < hi) (hd : d s.toInt.toNat = t) {Q : (Int32 × WW) → Prop} : ∀ (M m N : Nat) (I : IM) (J : JM), m ≤ M → OK lo hi d t (t + 1) I0 J0 I J → WP t s m I J → (I 376 s.toInt.toNat).toInt = 4 → M * (C + 1) + (C + 1) ≤ N → (∀ N' I' J', N ≤ N' + (M * (C + 1) + (C + 1)) → OK lo hi d t t I0 J0 I' J' → wp (f_q_analyse_127 N' 373 (I' 386 s.toInt.toNat) (mk I' J' R)) Q) → wp (f_q_analyse_127 N 373 (I 384 s.toInt.toNat) (mk I J R)) Q := by
  intro M
  induction M with
  | zero =>
    intro m N I J hm ho hw
    exfalso
    have hc := CT_b ho.bi (s := 4 + 3 * t) (by omega)
    have hn := ho.nr
    rcases hw.2 with ⟨_, _, z | z⟩ | z | z <;> omega
  | succ M ih =>
    intro m N I J hm ho hw hk hN k
    have hmul : (M + 1) * (C + 1) = M * (C + 1) + (C + 1) := Nat.succ_mul M (C + 1)
    rw [hmul] at hN k
    generalize M * (C + 1) = W at *
    have hb : VS lo hi d (t + 1) (I 384 s.toInt.toNat) := by
      have := ((ho.st s1 s2).2.2.2.1 (Or.inr hk)).vs s1
      rw [hd] at this; exact this
    refine H Q N _ I J I J (ho.start (t + 1)) hb (by omega) (fun N1 I1 J1 hN1 o1 => ?_)
    have o1' := ho.comp o1
    have w1 := hw.kp ht o1.kp o1.jx
    have hk1 : (I1 376 s.toInt.toNat).toInt = 4 := by rw [o1.kp.pa 376 _ (by decide) (by decide)]; exact hk
    obtain ⟨n, rfl⟩ : ∃ n, N1 = n + 1 := ⟨N1 - 1, by omega⟩
    refine an_end hR o1' ht w1.1 hs s2 (fun z => by omega) (fun _ f hf => ?_)
    refine q_endWhile hR o1' ht hf hs s1 s2 hk1 w1 (fun I2 J2 o2 => k n I2 J2 (by omega) o2) (fun I2 J2 m2 hm2 o2 w2 => ?_)
    refine ih m2 n I2 J2 (by omega) o2 w2 ?_ (by omega) (fun N' I' J' hN' o' => k N' I' J' (by omega) o')
    rw [o2.kp.pa 376 _ (by decide) (by decide), ← o1'.kp.pa 376 _ (by decide) (by decide)]; exact hk1
theorem an_stmt (hR : QR R) {C : Nat} (H : RC R lo hi d (t + 1) C) (ht : t ≤ 3) {s : Int32} (hs : 0 ≤ s.toInt) (s1 : lo ≤ s.toInt.toNat) (s2 : s.toInt.toNat < hi) (hd : d s.toInt.toNat = t) {Q : (Int32 × WW) → Prop} {N : Nat} (ho : OK lo hi d t t I0 J0 I J) (hN : 110 * (C + 1) ≤ N) (k : ∀ N' I' J', N ≤ N' + 110 * (C + 1) → OK lo hi d t t I0 J0 I' J' → wp (f_q_analyse_127 N' 373 (I' 386 s.toInt.toNat) (mk I' J' R)) Q) : wp (f_q_analyse_127 N 373 s (mk I J R)) Q := by
  have hi1 := ho.pg.1
  have hS := ho.st s1 s2
  have hkd := hS.1.1
  have l0 := l32_0
  obtain ⟨n, rfl⟩ : ∃ n, N = n + 1 := ⟨N - 1, by omega⟩
  rw [f_q_analyse_127, if_pos (by rw [i32le, l32_0]; exact hs)]
  unfold f_q_analyse_138 f_q_analyse_171 f_q_analyse_162
  have n0 : ¬ s < 0 := by rw [i32lt, l32_0]; omega
  rw [if_neg n0, if_neg n0]
  have ent : ((I 376 s.toInt.toNat).toInt = 3 ∨ (I 376 s.toInt.toNat).toInt = 4) → wp (bd2 (f_q_enter 373 s (mk I J R)) fun x44 w43 => f_q_analyse_127 n 373 x44 w43) Q := by
    intro hk
    refine st_bd2 (q_enter hR ho ht hs s1 s2 hk ?_ (fun I1 J1 o1 f1 f2 f3 => ?_))
    · exact k n I J (by omega) ho
    · have pa1 : I1 376 s.toInt.toNat = I 376 s.toInt.toNat := by rw [o1.kp.pa 376 _ (by decide) (by decide), ← ho.kp.pa 376 _ (by decide) (by decide)]
      dsimp only
      rcases f3 with ⟨k3, p0⟩ | ⟨k4, p2, d0⟩
      · have hb : VS lo hi d (t + 1) (I1 384 s.toInt.toNat) := by
          have := ((o1.st s1 s2).2.2.2.1 (Or.inl (by rw [pa1]; exact k3))).vs s1
          rw [hd] at this; exact this
        refine H Q n _ I1 J1 I1 J1 (o1.start (t + 1)) hb (by omega) (fun N1 I2 J2 hN1 o2 => ?_)
        have o2' := o1.comp o2
        have g1 : I2 413 t = s := by rw [o2.kp 413 t (by omega)]; exact f1
        have g3 : (I2 376 s.toInt.toNat).toInt = 3 := by rw [o2.kp.pa 376 _ (by decide) (by decide), pa1]; exact k3
        obtain ⟨n1, rfl⟩ : ∃ n, N1 = n + 1 := ⟨N1 - 1, by omega⟩
        refine an_end hR o2' ht g1 hs s2 (fun _ f hf => ?_) (fun z => absurd g3 z)
        refine q_endIf hR o2' ht hf hs s1 s2 g3 g1 (fun I3 J3 o3 => k n1 I3 J3 (by omega) o3) (fun I3 J3 _ o3 h1 h2 h3 => ?_)
        have hb2 : VS lo hi d (t + 1) (I3 385 s.toInt.toNat) := by
          have := ((o3.st s1 s2).2.2.2.2 h3).vs s1
          rw [hd] at this; exact this
        refine H Q n1 _ I3 J3 I3 J3 (o3.start (t + 1)) hb2 (by omega) (fun N2 I4 J4 hN2 o4 => ?_)
        have o4' := o3.comp o4
        have q1 : I4 413 t = s := by rw [o4.kp 413 t (by omega)]; exact h1
        have q2 : I4 414 t = 1 := by rw [o4.kp 414 t (by omega)]; exact h2
        have q3 : (I4 376 s.toInt.toNat).toInt = 3 := by rw [o4'.kp.pa 376 _ (by decide) (by decide), ← o2'.kp.pa 376 _ (by decide) (by decide)]; exact g3
        obtain ⟨n2, rfl⟩ : ∃ n, N2 = n + 1 := ⟨N2 - 1, by omega⟩
        refine an_end hR o4' ht q1 hs s2 (fun _ f hf => ?_) (fun z => absurd q3 z)
        exact q_endIf hR o4' ht hf hs s1 s2 q3 q1 (fun I5 J5 o5 => k n2 I5 J5 (by omega) o5) (fun _ _ z => absurd (q2.symm.trans z) (by decide))
      · have w1 : WP t s 99 I1 J1 := ⟨f1, Or.inl ⟨p2, d0, Or.inl (by rw [f2, l32_1]; decide)⟩⟩
        exact an_while hR H ht hs s1 s2 hd 99 99 n I1 J1 (Nat.le_refl _) o1 w1 (by rw [pa1]; exact k4) (by omega) (fun N' I' J' hN' o' => k N' I' J' (by omega) o')
  refine qn_9 hR (st_rI (n := 160) rfl (by omega) rfl (st_ite (fun c => ent (Or.inl (by rw [c]; rfl))) (fun c => ?_)))
  refine qn_9 hR (st_rI (n := 160) rfl (by omega) rfl (st_ite (fun c2 => ent (Or.inr (by rw [c2]; rfl))) (fun c2 => ?_)))
  refine st_bd (s_q_pass (J0 := J) hR ⟨hs, by omega⟩ hS.1 ho.bi (JX.refl ho.vi) (fun I1 J1 h1 h2 h3 => ?_))
  exact qn_19 hR (st_rI (n := 160) rfl (by omega) rfl (k n I1 J1 (by omega) (ho.ki h2 h1 h3 (by omega))))
theorem an_chain (hR : QR R) {C : Nat} (H : RC R lo hi d (t + 1) C) (ht : t ≤ 3) : RC R lo hi d t (160 * (110 * (C + 1))) := by
  generalize hM : 110 * (C + 1) = M
  have main : ∀ (m : Nat) (Q : (Int32 × WW) → Prop) (N : Nat) (s : Int32) (I0 : IM) (J0 : JM) (I : IM) (J : JM), OK lo hi d t t I0 J0 I J → VS lo hi d t s → (0 ≤ s.toInt → hi - s.toInt.toNat ≤ m) → m * M ≤ N → (∀ N' I' J', N ≤ N' + m * M → OK lo hi d t t I0 J0 I' J' → wp (f_q_analyse_127 N' 373 (-1) (mk I' J' R)) Q) → wp (f_q_analyse_127 N 373 s (mk I J R)) Q := by
    intro m
    induction m with
    | zero =>
      intro Q N s I0 J0 I J ho hv hm hN k
      rcases hv with z | z
      · have e : s = -1 := i32eq.mpr (by rw [z]; rfl)
        rw [e]; exact k N I J (by omega) ho
      · have := hm z.1; omega
    | succ m ih =>
      intro Q N s I0 J0 I J ho hv hm hN k
      rcases hv with z | z
      · have e : s = -1 := i32eq.mpr (by rw [z]; rfl)
        rw [e]; exact k N I J (by omega) ho
      · have hmul : (m + 1) * M = m * M + M := Nat.succ_mul m M
        rw [hmul] at hN k
        have hmm := hm z.1
        refine an_stmt hR H ht z.1 z.2.1 z.2.2.1 z.2.2.2 ho (by omega) (fun N1 I1 J1 hN1 o1 => ?_)
        rw [hM] at hN1
        have hS := o1.st z.2.1 z.2.2.1
        have hn := hS.2.2.1
        rw [z.2.2.2] at hn
        refine ih Q N1 _ I0 J0 I1 J1 o1 (hn.vs z.2.1) (fun h0 => ?_) (by omega) (fun N' I' J' hN' o' => k N' I' J' (by omega) o')
        rcases hn with y | y
        · omega
        · omega
  intro Q N s I0 J0 I J ho hv hN k
  exact main 160 Q N s I0 J0 I J ho hv (fun _ => by have := ho.pg.1; omega) hN k
theorem an_all (hR : QR R) (hd : ∀ s, lo ≤ s → s < hi → d s ≤ 3) : RC R lo hi d 0 100000000000000000000 := by
  have r4 : RC R lo hi d 4 0 := by
    intro Q N s I0 J0 I J ho hv hN k
    rcases hv with z | z
    · have e : s = -1 := i32eq.mpr (by rw [z]; rfl)
      rw [e]; exact k N I J (by omega) ho
    · have := hd _ z.2.1 z.2.2.1; omega
  have r0 := an_chain hR (an_chain hR (an_chain hR (an_chain hR r4 (by decide)) (by decide)) (by decide)) (by decide)
  intro Q N s I0 J0 I J ho hv hN k
  exact r0 Q N s I0 J0 I J ho hv (by omega) (fun N' I' J' hN' o' => k N' I' J' (by omega) o')
end RUNS
