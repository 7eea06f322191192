/-! The world as three functions of (address, place): ints, longs, references; the layout is that behind the constructors. -/
set_option maxRecDepth 100000 in
theorem pre_ok : f_lw_pre.isSome = true := by decide +kernel
def W5 : WW := f_lw_pre.get pre_ok
theorem pre_eq : f_lw_pre = some W5 := (Option.some_get pre_ok).symm
abbrev SH : Type := (Nat × Nat × Nat) ⊕ (Nat × List Nat)
def tg (v : Value) : Nat := match v with
  | .int _ => 0
  | .long _ => 1
  | .ref _ => 2
  | .null => 2
  | _ => 9
def shp (e : WE) : SH := match e with
  | .inl (t, n, .inl _) => .inl (t, n, 0)
  | .inl (t, n, .inr (.inl _)) => .inl (t, n, 1)
  | .inl (t, n, .inr (.inr (.inr (.inr _)))) => .inl (t, n, 2)
  | .inl (t, n, _) => .inl (t, n, 9)
  | .inr (ci, fs) => .inr (ci, fs.map tg)
def Lay (a : Nat) : Option SH := if a < 417 then (W5 a).map shp else none
abbrev IM : Type := Nat → Nat → Int32
abbrev JM : Type := Nat → Nat → Int64
abbrev RM : Type := Nat → Nat → Option Nat
def mkv (I : IM) (J : JM) (R : RM) (a k t : Nat) : Value := if t = 0 then .int (I a k) else if t = 1 then .long (J a k) else va_rf (R a k)
def NFc (I : IM) (J : JM) (R : RM) (a : Nat) (s : SH) : WE := match s with
  | .inl (t, n, k) => .inl (t, n, if k = 0 then .inl (I a) else if k = 1 then .inr (.inl (J a)) else .inr (.inr (.inr (.inr (R a)))))
  | .inr (ci, ts) => .inr (ci, (List.range ts.length).map fun k => mkv I J R a k (ts.getD k 0))
def Rep (w : WW) (I : IM) (J : JM) (R : RM) : Prop := ∀ (a : Nat) (s : SH), Lay a = some s → w a = some (NFc I J R a s)
def up2 {α : Type} (f : Nat → Nat → α) (a k : Nat) (x : α) : Nat → Nat → α := fun b j => if b = a ∧ j = k then x else f b j
theorem up2_self {α : Type} (f : Nat → Nat → α) (a k : Nat) (x : α) : up2 f a k x a k = x := by simp [up2]
theorem up2_ne {α : Type} (f : Nat → Nat → α) {a k b j : Nat} (x : α) (h : b ≠ a ∨ j ≠ k) : up2 f a k x b j = f b j := by
  unfold up2
  rw [if_neg]
  intro z
  rcases h with h | h
  · exact h z.1
  · exact h z.2
theorem up2_at {α : Type} (f : Nat → Nat → α) {a k b : Nat} (x : α) (h : b ≠ a) : up2 f a k x b = f b := by
  funext j
  exact up2_ne f x (Or.inl h)
theorem NFc_other {I I2 : IM} {J J2 : JM} {R R2 : RM} {a : Nat} (h1 : I2 a = I a) (h2 : J2 a = J a) (h3 : R2 a = R a) (s : SH) : NFc I2 J2 R2 a s = NFc I J R a s := by
  unfold NFc mkv
  split
  · rw [h1, h2, h3]
  · rw [h1, h2, h3]
section REP
variable {w : WW} {I : IM} {J : JM} {R : RM} {a ci k t n : Nat} {ts : List Nat}
theorem Rep.rgv (h : Rep w I J R) (hl : Lay a = some (.inr (ci, ts))) (hk : k < ts.length) : gv w a ci k = some (mkv I J R a k (ts.getD k 0)) := by
  have h1 := h a _ hl
  unfold gv
  rw [h1]
  simp [NFc, hk]
theorem Rep.rkb (h : Rep w I J R) (hl : Lay a = some (.inr (ci, ts))) : kb w a ci = true := by
  have h1 := h a _ hl
  unfold kb
  rw [h1]
  simp [NFc]
theorem Rep.rgI (h : Rep w I J R) (hl : Lay a = some (.inr (ci, ts))) (hk : ts[k]? = some 0) : gI w a ci k = some (I a k) := by
  have h1 : k < ts.length := (List.getElem?_eq_some_iff.mp hk).1
  unfold gI
  rw [h.rgv hl h1]
  simp [mkv, List.getD_eq_getElem?_getD, hk]
theorem Rep.rgL (h : Rep w I J R) (hl : Lay a = some (.inr (ci, ts))) (hk : ts[k]? = some 1) : gL w a ci k = some (J a k) := by
  have h1 : k < ts.length := (List.getElem?_eq_some_iff.mp hk).1
  unfold gL
  rw [h.rgv hl h1]
  simp [mkv, List.getD_eq_getElem?_getD, hk]
theorem Rep.rgR (h : Rep w I J R) (hl : Lay a = some (.inr (ci, ts))) (hk : ts[k]? = some 2) : gR w a ci k = some (R a k) := by
  have h1 : k < ts.length := (List.getElem?_eq_some_iff.mp hk).1
  unfold gR
  rw [h.rgv hl h1]
  simp only [mkv, List.getD_eq_getElem?_getD, hk]
  cases R a k <;> simp [va_rf]
theorem Rep.rgN (h : Rep w I J R) (hl : Lay a = some (.inr (ci, ts))) (hk : ts[k]? = some 2) {x : Nat} (hx : R a k = some x) : gN w a ci k = some x := by
  have h1 : k < ts.length := (List.getElem?_eq_some_iff.mp hk).1
  unfold gN
  rw [h.rgv hl h1]
  simp [mkv, List.getD_eq_getElem?_getD, hk, hx, va_rf]
theorem Rep.wpv (h : Rep w I J R) (hl : Lay a = some (.inr (ci, ts))) (hk : k < ts.length) {v : Value} {I2 : IM} {J2 : JM} {R2 : RM} (hv : mkv I2 J2 R2 a k (ts.getD k 0) = v) (ho : ∀ j, j ≠ k → ∀ t, mkv I2 J2 R2 a j t = mkv I J R a j t) (hb : ∀ b, b ≠ a → I2 b = I b ∧ J2 b = J b ∧ R2 b = R b) : ∃ w', pv w a ci k v = some w' ∧ Rep w' I2 J2 R2 := by
  have h1 := h a _ hl
  refine ⟨wo_up w a (.inr (ci, ((List.range ts.length).map fun k => mkv I J R a k (ts.getD k 0)).set k v)), ?_, ?_⟩
  · unfold pv
    rw [h1]
    simp [NFc, hk]
  · intro b s hs
    by_cases hba : b = a
    · subst hba
      rw [hl] at hs
      cases hs
      rw [wo_up_self]
      have : ((List.range ts.length).map fun k => mkv I J R b k (ts.getD k 0)).set k v = (List.range ts.length).map fun k => mkv I2 J2 R2 b k (ts.getD k 0) := by
        apply List.ext_getElem?
        intro j
        rw [List.getElem?_set]
        by_cases hj : k = j
        · subst hj
          rw [← hv]
          simp [hk]
        · rw [if_neg hj, List.getElem?_map, List.getElem?_map]
          cases hr : (List.range ts.length)[j]? with
          | none => rfl
          | some q =>
            have hq : q = j := by
              have := List.getElem?_eq_some_iff.mp hr
              obtain ⟨q1, q2⟩ := this
              rw [List.getElem_range] at q2
              exact q2.symm
            subst hq
            simp only [Option.map_some]
            rw [ho q (Ne.symm hj)]
      simp only [NFc, this]
    · rw [wo_up_ne w _ hba, h b s hs]
      obtain ⟨g1, g2, g3⟩ := hb b hba
      rw [NFc_other g1 g2 g3]
theorem Rep.wI (h : Rep w I J R) (hl : Lay a = some (.inr (ci, ts))) (hk : ts[k]? = some 0) (x : Int32) : ∃ w', pv w a ci k (.int x) = some w' ∧ Rep w' (up2 I a k x) J R := by
  have h1 : k < ts.length := (List.getElem?_eq_some_iff.mp hk).1
  refine h.wpv hl h1 ?_ ?_ ?_
  · simp [mkv, List.getD_eq_getElem?_getD, hk, up2]
  · intro j hj t
    simp [mkv, up2, hj]
  · intro b hb
    exact ⟨up2_at I x hb, rfl, rfl⟩
theorem Rep.wJ (h : Rep w I J R) (hl : Lay a = some (.inr (ci, ts))) (hk : ts[k]? = some 1) (x : Int64) : ∃ w', pv w a ci k (.long x) = some w' ∧ Rep w' I (up2 J a k x) R := by
  have h1 : k < ts.length := (List.getElem?_eq_some_iff.mp hk).1
  refine h.wpv hl h1 ?_ ?_ ?_
  · simp [mkv, List.getD_eq_getElem?_getD, hk, up2]
  · intro j hj t
    simp [mkv, up2, hj]
  · intro b hb
    exact ⟨rfl, up2_at J x hb, rfl⟩
theorem Rep.wR (h : Rep w I J R) (hl : Lay a = some (.inr (ci, ts))) (hk : ts[k]? = some 2) (x : Option Nat) : ∃ w', pv w a ci k (va_rf x) = some w' ∧ Rep w' I J (up2 R a k x) := by
  have h1 : k < ts.length := (List.getElem?_eq_some_iff.mp hk).1
  refine h.wpv hl h1 ?_ ?_ ?_
  · simp [mkv, List.getD_eq_getElem?_getD, hk, up2]
  · intro j hj t
    simp [mkv, up2, hj]
  · intro b hb
    exact ⟨rfl, rfl, up2_at R x hb⟩
theorem Rep.rga (h : Rep w I J R) (hl : Lay a = some (.inl (t, n, k))) : ga w a t = some (n, if k = 0 then .inl (I a) else if k = 1 then .inr (.inl (J a)) else .inr (.inr (.inr (.inr (R a))))) := by
  have h1 := h a _ hl
  unfold ga
  rw [h1]
  simp [NFc]
theorem Rep.rrI (h : Rep w I J R) (hl : Lay a = some (.inl (t, n, 0))) {i : Int32} (hi : ¬ (i < 0 ∨ n ≤ i.toNatClampNeg)) : rI w a t i = some (I a i.toNatClampNeg) := by
  unfold rI
  rw [h.rga hl]
  simp only [if_true]
  rw [if_pos hi]
theorem Rep.rrL (h : Rep w I J R) (hl : Lay a = some (.inl (t, n, 1))) {i : Int32} (hi : ¬ (i < 0 ∨ n ≤ i.toNatClampNeg)) : rL w a t i = some (J a i.toNatClampNeg) := by
  unfold rL
  rw [h.rga hl]
  simp
  simpa using hi
theorem Rep.rrN (h : Rep w I J R) (hl : Lay a = some (.inl (t, n, 2))) {i : Int32} (hi : ¬ (i < 0 ∨ n ≤ i.toNatClampNeg)) {x : Nat} (hx : R a i.toNatClampNeg = some x) : rN w a t i = some x := by
  have h1 : rR w a t i = some (R a i.toNatClampNeg) := by
    unfold rR
    rw [h.rga hl]
    simp
    simpa using hi
  unfold rN
  rw [h1, hx]
theorem Rep.ral (h : Rep w I J R) (hl : Lay a = some (.inl (t, n, k))) : al w a t = some (Int32.ofNat n) := by
  unfold al
  rw [h.rga hl]
theorem Rep.wsI (h : Rep w I J R) (hl : Lay a = some (.inl (t, n, 0))) {i : Int32} (hi : ¬ (i < 0 ∨ n ≤ i.toNatClampNeg)) (x : Int32) : ∃ w', sI w a t i x = some w' ∧ Rep w' (up2 I a i.toNatClampNeg x) J R := by
  refine ⟨wo_up w a (.inl (t, n, .inl (upd (I a) i.toNatClampNeg x))), ?_, ?_⟩
  · unfold sI
    rw [h.rga hl]
    simp only [if_true]
    rw [if_pos hi]
  · intro b s hs
    by_cases hba : b = a
    · subst hba
      rw [hl] at hs
      cases hs
      rw [wo_up_self]
      have : up2 I b i.toNatClampNeg x b = upd (I b) i.toNatClampNeg x := by
        funext j
        by_cases hj : j = i.toNatClampNeg
        · simp [up2, upd, hj]
        · simp [up2, upd, hj]
      simp [NFc, this]
    · rw [wo_up_ne w _ hba, h b s hs, NFc_other (up2_at I x hba) rfl rfl]
theorem Rep.wsL (h : Rep w I J R) (hl : Lay a = some (.inl (t, n, 1))) {i : Int32} (hi : ¬ (i < 0 ∨ n ≤ i.toNatClampNeg)) (x : Int64) : ∃ w', sL w a t i x = some w' ∧ Rep w' I (up2 J a i.toNatClampNeg x) R := by
  refine ⟨wo_up w a (.inl (t, n, .inr (.inl (vp_updL (J a) i.toNatClampNeg x)))), ?_, ?_⟩
  · unfold sL
    rw [h.rga hl]
    simp
    simpa using hi
  · intro b s hs
    by_cases hba : b = a
    · subst hba
      rw [hl] at hs
      cases hs
      rw [wo_up_self]
      have : up2 J b i.toNatClampNeg x b = vp_updL (J b) i.toNatClampNeg x := by
        funext j
        by_cases hj : j = i.toNatClampNeg
        · simp [up2, vp_updL, hj]
        · simp [up2, vp_updL, hj]
      simp [NFc, this]
    · rw [wo_up_ne w _ hba, h b s hs, NFc_other rfl (up2_at J x hba) rfl]
end REP
/-- the world behind the constructors, so seen -/
def Iw (w : WW) : IM := fun a k => match w a with
  | some (.inl (_, _, .inl f)) => f k
  | some (.inr (_, fs)) => (match fs[k]? with
    | some (.int x) => x
    | _ => 0)
  | _ => 0
def Jw (w : WW) : JM := fun a k => match w a with
  | some (.inl (_, _, .inr (.inl f))) => f k
  | some (.inr (_, fs)) => (match fs[k]? with
    | some (.long x) => x
    | _ => 0)
  | _ => 0
def Rw (w : WW) : RM := fun a k => match w a with
  | some (.inl (_, _, .inr (.inr (.inr (.inr f))))) => f k
  | some (.inr (_, fs)) => (match fs[k]? with
    | some (.ref x) => some x
    | _ => none)
  | _ => none
def okS (s : SH) : Bool := match s with
  | .inl (_, _, k) => k < 3
  | .inr (_, ts) => ts.all (fun t => t < 3)
theorem rep_of (w : WW) (a : Nat) (s : SH) (hs : (w a).map shp = some s) (h1 : okS s = true) : w a = some (NFc (Iw w) (Jw w) (Rw w) a s) := by
  cases hw : w a with
  | none => rw [hw] at hs; cases hs
  | some e =>
    rw [hw] at hs
    have hs : shp e = s := Option.some.inj hs
    subst hs
    refine congrArg some ?_
    rcases e with ⟨t, n, f | f | f | f | f⟩ | ⟨ci, fs⟩
    · have : Iw w a = f := by funext k; simp [Iw, hw]
      simp [NFc, shp, this]
    · have : Jw w a = f := by funext k; simp [Jw, hw]
      simp [NFc, shp, this]
    · simp [shp, okS] at h1
    · simp [shp, okS] at h1
    · have : Rw w a = f := by funext k; simp [Rw, hw]
      simp [NFc, shp, this]
    · show Sum.inr (ci, fs) = NFc (Iw w) (Jw w) (Rw w) a (.inr (ci, fs.map tg))
      simp only [NFc]
      refine congrArg (fun z => Sum.inr (ci, z)) ?_
      apply List.ext_getElem?
      intro j
      rw [List.getElem?_map]
      by_cases hj : j < fs.length
      · have hr : (List.range (fs.map tg).length)[j]? = some j := by simp [hj]
        rw [hr, List.getElem?_eq_getElem hj]
        simp only [Option.map_some]
        have hg : (fs.map tg).getD j 0 = tg fs[j] := by simp [List.getD_eq_getElem?_getD, hj]
        rw [hg]
        have ho : tg fs[j] < 3 := by
          simp only [shp, okS, List.all_map, List.all_eq_true] at h1
          have := h1 fs[j] (List.getElem_mem hj)
          simpa using this
        cases hv : fs[j] with
        | int x => simp [tg, mkv, Iw, hw, hj, hv]
        | long x => simp [tg, mkv, Jw, hw, hj, hv]
        | ref x => simp [tg, mkv, Rw, hw, hj, hv, va_rf]
        | null => simp [tg, mkv, Rw, hw, hj, hv, va_rf]
        | float x => rw [hv] at ho; simp [tg] at ho
        | double x => rw [hv] at ho; simp [tg] at ho
        | retAddr x => rw [hv] at ho; simp [tg] at ho
      · have hr : (List.range (fs.map tg).length)[j]? = none := by simp; omega
        rw [hr, List.getElem?_eq_none (by omega)]
        rfl
theorem lay_ok : ∀ a, a < 417 → (match Lay a with
    | some s => okS s
    | none => true) = true := by decide +kernel
theorem rep_start : Rep W5 (Iw W5) (Jw W5) (Rw W5) := by
  intro a s hs
  by_cases ha : a < 417
  · have h1 := lay_ok a ha
    rw [hs] at h1
    unfold Lay at hs
    rw [if_pos ha] at hs
    exact rep_of W5 a s hs h1
  · unfold Lay at hs
    rw [if_neg ha] at hs
    cases hs
