/-! The world as ONE term of three functions; what a function of the program needs, said as wp. -/
abbrev oV : SH := .inr (8, [0, 1, 1, 1, 1])
abbrev oT : SH := .inr (4, [0, 0, 0, 0, 0, 0, 0, 2, 2, 2])
abbrev oS : SH := .inr (7, [0, 2, 2])
abbrev oP : SH := .inr (3, [2, 0, 2, 2, 2, 0, 2])
def lt0 : List SH := [.inr (0, [0, 0, 2, 2, 2, 2, 0, 2, 2]), .inr (2, [2, 0, 2, 0]), .inr (1, [2, 2, 2, 2, 0, 0, 0, 0, 0]), .inl (3, 200, 0), .inl (0, 201, 0), .inl (0, 201, 0), .inl (0, 201, 0), oP, .inl (6, 50, 2)]
def lt1 : List SH := [.inl (0, 200, 0), .inl (0, 200, 0), .inl (0, 200, 0), oP, .inl (6, 50, 2)]
def lt2 : List SH := [.inl (0, 200, 0), .inl (0, 200, 0), .inl (0, 200, 0), .inr (5, [2, 2, 2, 2, 2, 0, 2, 0, 0, 0, 0]), .inl (0, 6, 0), .inl (2, 6, 0), .inl (0, 8, 0), .inl (0, 25, 0), .inl (0, 8, 0), .inr (6, [2, 2, 2, 2, 2, 0, 0, 0, 0, 0, 0])]
def lt3 : List SH := [.inl (0, 200, 0), .inr (9, [2, 2, 0, 0, 0, 0, 0, 0, 0, 2, 2, 2, 2, 2, 2, 2, 2, 2, 2, 2, 2, 2, 2, 2, 2, 2, 2, 0, 0, 0, 0, 0, 0, 0, 0, 2, 2, 2, 2, 2, 2, 2, 0, 0, 0, 2, 2, 2, 2, 2, 0, 0, 0, 0, 2, 2, 2, 2, 2, 2, 2, 2, 2, 2, 0, 0, 0, 0]), .inl (0, 200, 0), .inl (0, 8, 0), .inl (0, 160, 0), .inl (0, 160, 0), .inl (0, 160, 0), .inl (0, 160, 0), .inl (0, 160, 0), .inl (0, 160, 0), .inl (0, 160, 0), .inl (0, 160, 0), .inl (0, 160, 0), .inl (0, 160, 0), .inl (0, 160, 0), .inl (2, 160, 0), .inl (0, 2, 0), .inl (0, 2, 0), .inl (0, 2, 0), .inl (0, 440, 0), .inl (0, 440, 0), .inl (0, 440, 0), .inl (0, 8, 0), .inl (0, 8, 0), .inl (0, 8, 0), .inl (0, 300, 0), .inl (0, 300, 0), .inl (0, 300, 0), .inl (0, 300, 0), .inl (0, 6, 0), .inl (0, 8, 0), .inl (0, 120, 0), .inl (0, 8, 0), .inl (2, 6, 0), .inl (1, 360, 1), .inl (1, 360, 1), .inl (1, 360, 1), .inl (1, 360, 1), .inl (2, 96, 0), .inl (2, 16, 0), .inl (2, 1200, 0), .inl (0, 8, 0), .inl (0, 8, 0), .inl (0, 8, 0), .inl (1, 1, 1)]
def ltS (j : Nat) : SH := if j = 0 then oS else if j = 1 then .inl (4, 14, 2) else if j < 16 then oV else .inl (2, 6, 0)
def LT (a : Nat) : Option SH := if a < 9 then lt0[a]? else if a < 59 then some oT else if a < 64 then lt1[a - 59]? else if a < 114 then some oT else if a < 124 then lt2[a - 114]? else if a < 141 then some (ltS (a - 124)) else if a = 141 then some (.inl (5, 12, 2)) else if a < 346 then some (ltS ((a - 142) % 17)) else if a = 346 then some (.inl (4, 25, 2)) else if a < 372 then some oV else lt3[a - 372]?
theorem LT_lt : ∀ a, a < 417 → (W5 a).map shp = LT a := by decide +kernel
theorem LT_ge {a : Nat} (h : 417 ≤ a) : LT a = none := by
  unfold LT
  rw [if_neg (by omega), if_neg (by omega), if_neg (by omega), if_neg (by omega), if_neg (by omega), if_neg (by omega), if_neg (by omega), if_neg (by omega), if_neg (by omega), if_neg (by omega)]
  exact List.getElem?_eq_none (by show 45 ≤ a - 372; omega)
theorem LT_bound {a : Nat} {s : SH} (h : LT a = some s) : a < 417 := by
  by_cases c : a < 417
  · exact c
  · rw [LT_ge (by omega)] at h; cases h
theorem Lay_LT (a : Nat) : Lay a = LT a := by
  unfold Lay
  by_cases c : a < 417
  · rw [if_pos c, LT_lt a c]
  · rw [if_neg c, LT_ge (by omega)]
def mk (I : IM) (J : JM) (R : RM) : WW := fun a => match LT a with
  | some s => some (NFc I J R a s)
  | none => W5 a
theorem mk_rep (I : IM) (J : JM) (R : RM) : Rep (mk I J R) I J R := by
  intro a s h
  rw [Lay_LT] at h
  unfold mk
  rw [h]
theorem mk_eq {w : WW} {I : IM} {J : JM} {R : RM} (h : Rep w I J R) (hn : ∀ a, LT a = none → w a = W5 a) : w = mk I J R := by
  funext a
  unfold mk
  cases hs : LT a with
  | none => exact hn a hs
  | some s => exact h a s (by rw [Lay_LT]; exact hs)
theorem mk_start : W5 = mk (Iw W5) (Jw W5) (Rw W5) := mk_eq rep_start (fun _ _ => rfl)
theorem pv_off {w w' : WW} {a ci k : Nat} {v : Value} (h : pv w a ci k v = some w') : ∀ b, b ≠ a → w' b = w b := by
  intro b hb
  unfold pv at h
  split at h
  · split at h
    · cases h; exact wo_up_ne w _ hb
    · cases h
  · cases h
theorem sI_off {w w' : WW} {a t : Nat} {i x : Int32} (h : sI w a t i x = some w') : ∀ b, b ≠ a → w' b = w b := by
  intro b hb
  unfold sI at h
  split at h
  · split at h
    · cases h; exact wo_up_ne w _ hb
    · cases h
  · cases h
theorem sL_off {w w' : WW} {a t : Nat} {i : Int32} {x : Int64} (h : sL w a t i x = some w') : ∀ b, b ≠ a → w' b = w b := by
  intro b hb
  unfold sL at h
  split at h
  · split at h
    · cases h; exact wo_up_ne w _ hb
    · cases h
  · cases h
theorem mk_none {I : IM} {J : JM} {R : RM} {a : Nat} (h : LT a = none) : mk I J R a = W5 a := by
  unfold mk; rw [h]
section MK
variable {I : IM} {J : JM} {R : RM} {a ci k t n : Nat} {ts : List Nat} {s : SH}
theorem mk_off {w : WW} (hl : LT a = some s) (ho : ∀ b, b ≠ a → w b = mk I J R b) : ∀ b, LT b = none → w b = W5 b := by
  intro b hb
  have : b ≠ a := by intro z; rw [z, hl] at hb; cases hb
  rw [ho b this, mk_none hb]
theorem mk_pI (hl : LT a = some (.inr (ci, ts))) (hk : ts[k]? = some 0) (x : Int32) : pv (mk I J R) a ci k (.int x) = some (mk (up2 I a k x) J R) := by
  obtain ⟨w', h1, h2⟩ := (mk_rep I J R).wI (by rw [Lay_LT]; exact hl) hk x
  rw [h1, mk_eq h2 (mk_off hl (pv_off h1))]
theorem mk_pJ (hl : LT a = some (.inr (ci, ts))) (hk : ts[k]? = some 1) (x : Int64) : pv (mk I J R) a ci k (.long x) = some (mk I (up2 J a k x) R) := by
  obtain ⟨w', h1, h2⟩ := (mk_rep I J R).wJ (by rw [Lay_LT]; exact hl) hk x
  rw [h1, mk_eq h2 (mk_off hl (pv_off h1))]
theorem mk_pR (hl : LT a = some (.inr (ci, ts))) (hk : ts[k]? = some 2) (x : Option Nat) : pv (mk I J R) a ci k (va_rf x) = some (mk I J (up2 R a k x)) := by
  obtain ⟨w', h1, h2⟩ := (mk_rep I J R).wR (by rw [Lay_LT]; exact hl) hk x
  rw [h1, mk_eq h2 (mk_off hl (pv_off h1))]
theorem ix_iff {i : Int32} {n : Nat} (h : 0 ≤ i.toInt ∧ i.toInt < n) : ¬ (i < 0 ∨ n ≤ i.toNatClampNeg) := by
  have e : i.toNatClampNeg = i.toInt.toNat := rfl
  have z : (0 : Int32).toInt = 0 := rfl
  rw [Int32.lt_iff_toInt_lt, e, z]
  omega
theorem mk_sI (hl : LT a = some (.inl (t, n, 0))) {i : Int32} (hi : 0 ≤ i.toInt ∧ i.toInt < n) (x : Int32) : sI (mk I J R) a t i x = some (mk (up2 I a i.toInt.toNat x) J R) := by
  obtain ⟨w', h1, h2⟩ := (mk_rep I J R).wsI (by rw [Lay_LT]; exact hl) (ix_iff hi) x
  rw [h1, mk_eq h2 (mk_off hl (sI_off h1))]
  rfl
theorem mk_sL (hl : LT a = some (.inl (t, n, 1))) {i : Int32} (hi : 0 ≤ i.toInt ∧ i.toInt < n) (x : Int64) : sL (mk I J R) a t i x = some (mk I (up2 J a i.toInt.toNat x) R) := by
  obtain ⟨w', h1, h2⟩ := (mk_rep I J R).wsL (by rw [Lay_LT]; exact hl) (ix_iff hi) x
  rw [h1, mk_eq h2 (mk_off hl (sL_off h1))]
  rfl
end MK
theorem up2_nek {α : Type} {f : Nat → Nat → α} {a k j : Nat} {x : α} (h : j ≠ k) : up2 f a k x a j = f a j := up2_ne f x (Or.inr h)
theorem up2_nea {α : Type} {f : Nat → Nat → α} {a b k j : Nat} {x : α} (h : b ≠ a) : up2 f a k x b j = f b j := up2_ne f x (Or.inl h)
theorem up2_s {α : Type} {f : Nat → Nat → α} {a k : Nat} {x : α} : up2 f a k x a k = x := up2_self f a k x
def wp {α : Type} (c : Option α) (Q : α → Prop) : Prop := ∃ x, c = some x ∧ Q x
section WP
variable {I : IM} {J : JM} {R : RM} {a ci k t n : Nat} {ts : List Nat} {α β γ : Type} {Q : β → Prop}
theorem wp_mono {c : Option β} {Q' : β → Prop} (h : wp c Q) (f : ∀ x, Q x → Q' x) : wp c Q' := by
  obtain ⟨x, h1, h2⟩ := h
  exact ⟨x, h1, f x h2⟩
theorem st_kb {T : Option β} (hl : LT a = some (.inr (ci, ts))) (K : wp T Q) : wp (if kb (mk I J R) a ci = true then T else none) Q := by
  rw [if_pos ((mk_rep I J R).rkb (by rw [Lay_LT]; exact hl))]; exact K
theorem st_gI {f : Int32 → Option β} {x : Int32} (hl : LT a = some (.inr (ci, ts))) (hk : ts[k]? = some 0) (hv : I a k = x) (K : wp (f x) Q) : wp ((gI (mk I J R) a ci k).bind f) Q := by
  rw [(mk_rep I J R).rgI (by rw [Lay_LT]; exact hl) hk, hv]; exact K
theorem st_gL {f : Int64 → Option β} {x : Int64} (hl : LT a = some (.inr (ci, ts))) (hk : ts[k]? = some 1) (hv : J a k = x) (K : wp (f x) Q) : wp ((gL (mk I J R) a ci k).bind f) Q := by
  rw [(mk_rep I J R).rgL (by rw [Lay_LT]; exact hl) hk, hv]; exact K
theorem st_gR {f : Option Nat → Option β} {x : Option Nat} (hl : LT a = some (.inr (ci, ts))) (hk : ts[k]? = some 2) (hv : R a k = x) (K : wp (f x) Q) : wp ((gR (mk I J R) a ci k).bind f) Q := by
  rw [(mk_rep I J R).rgR (by rw [Lay_LT]; exact hl) hk, hv]; exact K
theorem st_gN {f : Nat → Option β} {x : Nat} (hl : LT a = some (.inr (ci, ts))) (hk : ts[k]? = some 2) (hx : R a k = some x) (K : wp (f x) Q) : wp ((gN (mk I J R) a ci k).bind f) Q := by
  rw [(mk_rep I J R).rgN (by rw [Lay_LT]; exact hl) hk hx]; exact K
theorem st_rI {f : Int32 → Option β} {i x : Int32} (hl : LT a = some (.inl (t, n, 0))) (hi : 0 ≤ i.toInt ∧ i.toInt < n) (hv : I a i.toInt.toNat = x) (K : wp (f x) Q) : wp ((rI (mk I J R) a t i).bind f) Q := by
  rw [(mk_rep I J R).rrI (by rw [Lay_LT]; exact hl) (ix_iff hi)]; subst hv; exact K
theorem st_rL {f : Int64 → Option β} {i : Int32} {x : Int64} (hl : LT a = some (.inl (t, n, 1))) (hi : 0 ≤ i.toInt ∧ i.toInt < n) (hv : J a i.toInt.toNat = x) (K : wp (f x) Q) : wp ((rL (mk I J R) a t i).bind f) Q := by
  rw [(mk_rep I J R).rrL (by rw [Lay_LT]; exact hl) (ix_iff hi)]; subst hv; exact K
theorem st_rN {f : Nat → Option β} {i : Int32} {x : Nat} (hl : LT a = some (.inl (t, n, 2))) (hi : 0 ≤ i.toInt ∧ i.toInt < n) (hx : R a i.toInt.toNat = some x) (K : wp (f x) Q) : wp ((rN (mk I J R) a t i).bind f) Q := by
  rw [(mk_rep I J R).rrN (by rw [Lay_LT]; exact hl) (ix_iff hi) hx]; exact K
theorem st_al {f : Int32 → Option β} {m : Nat} (hl : LT a = some (.inl (t, n, m))) (K : wp (f (Int32.ofNat n)) Q) : wp ((al (mk I J R) a t).bind f) Q := by
  rw [(mk_rep I J R).ral (by rw [Lay_LT]; exact hl)]; exact K
theorem st_pI {f : WW → Option β} {x : Int32} (hl : LT a = some (.inr (ci, ts))) (hk : ts[k]? = some 0) (K : wp (f (mk (up2 I a k x) J R)) Q) : wp ((pv (mk I J R) a ci k (.int x)).bind f) Q := by
  rw [mk_pI hl hk]; exact K
theorem st_pJ {f : WW → Option β} {x : Int64} (hl : LT a = some (.inr (ci, ts))) (hk : ts[k]? = some 1) (K : wp (f (mk I (up2 J a k x) R)) Q) : wp ((pv (mk I J R) a ci k (.long x)).bind f) Q := by
  rw [mk_pJ hl hk]; exact K
theorem st_pR {f : WW → Option β} {x : Option Nat} (hl : LT a = some (.inr (ci, ts))) (hk : ts[k]? = some 2) (K : wp (f (mk I J (up2 R a k x))) Q) : wp ((pv (mk I J R) a ci k (va_rf x)).bind f) Q := by
  rw [mk_pR hl hk]; exact K
theorem st_sI {f : WW → Option β} {i x : Int32} (hl : LT a = some (.inl (t, n, 0))) (hi : 0 ≤ i.toInt ∧ i.toInt < n) (K : wp (f (mk (up2 I a i.toInt.toNat x) J R)) Q) : wp ((sI (mk I J R) a t i x).bind f) Q := by
  rw [mk_sI hl hi]; exact K
theorem st_sL {f : WW → Option β} {i : Int32} {x : Int64} (hl : LT a = some (.inl (t, n, 1))) (hi : 0 ≤ i.toInt ∧ i.toInt < n) (K : wp (f (mk I (up2 J a i.toInt.toNat x) R)) Q) : wp ((sL (mk I J R) a t i x).bind f) Q := by
  rw [mk_sL hl hi]; exact K
theorem st_ite {c : Prop} {d : Decidable c} {A B : Option β} (h1 : c → wp A Q) (h2 : ¬ c → wp B Q) : wp (@ite _ c d A B) Q := by
  by_cases h : c
  · rw [if_pos h]; exact h1 h
  · rw [if_neg h]; exact h2 h
theorem st_req {c : Prop} {d : Decidable c} {A : Option β} (h : c) (K : wp A Q) : wp (@ite _ c d A none) Q := by
  rw [if_pos h]; exact K
theorem st_some {x : β} (h : Q x) : wp (some x) Q := ⟨x, rfl, h⟩
theorem st_bd2 {c : Option (α × γ)} {f : α → γ → Option β} (h : wp c (fun p => wp (f p.1 p.2) Q)) : wp (bd2 c f) Q := by
  obtain ⟨x, h1, h2⟩ := h
  rw [h1]
  exact h2
theorem st_bd {c : Option α} {f : α → Option β} (h : wp c (fun p => wp (f p) Q)) : wp (c.bind f) Q := by
  obtain ⟨x, h1, h2⟩ := h
  rw [h1]
  exact h2
theorem st_og {x : Nat} {c : Option Nat} {f : Nat → Option β} (hx : c = some x) (h : wp (f x) Q) : wp (c.bind f) Q := by
  rw [hx]
  exact h
end WP
theorem i32lt {x y : Int32} : x < y ↔ x.toInt < y.toInt := Int32.lt_iff_toInt_lt
theorem i32le {x y : Int32} : x ≤ y ↔ x.toInt ≤ y.toInt := Int32.le_iff_toInt_le
theorem i32eq {x y : Int32} : x = y ↔ x.toInt = y.toInt := Int32.toInt_inj.symm
theorem bm32 (x : Int) : x.bmod (2 ^ 32) = (x + 2147483648) % 4294967296 - 2147483648 := by
  rw [Int.bmod_def]
  split <;> omega
theorem i32add (a b : Int32) : (a + b).toInt = (a.toInt + b.toInt + 2147483648) % 4294967296 - 2147483648 := by rw [Int32.toInt_add, bm32]
theorem i32sub (a b : Int32) : (a - b).toInt = (a.toInt - b.toInt + 2147483648) % 4294967296 - 2147483648 := by rw [Int32.toInt_sub, bm32]
theorem i32mul (a b : Int32) : (a * b).toInt = (a.toInt * b.toInt + 2147483648) % 4294967296 - 2147483648 := by rw [Int32.toInt_mul, bm32]
theorem i32b (x : Int32) : -2147483648 ≤ x.toInt ∧ x.toInt ≤ 2147483647 := ⟨Int32.le_toInt x, by have := Int32.toInt_lt x; omega⟩
