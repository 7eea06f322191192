/-! What holds of an answer, if there is one. -/
def wl {α : Type} (c : Option α) (Q : α → Prop) : Prop := ∀ x, c = some x → Q x
theorem ix_of {i : Int32} {n : Nat} (z : ¬ (i < 0 ∨ n ≤ i.toNatClampNeg)) : 0 ≤ i.toInt ∧ i.toInt < n := by
  have e : i.toNatClampNeg = i.toInt.toNat := rfl
  have z0 : (0 : Int32).toInt = 0 := rfl
  rw [Int32.lt_iff_toInt_lt, e, z0] at z
  omega
section WL
variable {I : IM} {J : JM} {R : RM} {a ci k t n : Nat} {ts : List Nat} {α β γ : Type} {Q : β → Prop}
theorem wl_mono {c : Option β} {Q' : β → Prop} (h : wl c Q) (f : ∀ x, Q x → Q' x) : wl c Q' := fun x e => f x (h x e)
theorem wl_none : wl (none : Option β) Q := fun x e => by cases e
theorem wl_some {x : β} (h : Q x) : wl (some x) Q := fun y e => by cases e; exact h
theorem wl_bd {c : Option α} {f : α → Option β} (h : wl c (fun p => wl (f p) Q)) : wl (c.bind f) Q := by
  intro y e
  cases hc : c with
  | none =>
    rw [hc] at e
    have e' : (none : Option β) = some y := e
    cases e'
  | some x => rw [hc] at e; exact h x hc y e
theorem wl_bd2 {c : Option (α × γ)} {f : α → γ → Option β} (h : wl c (fun p => wl (f p.1 p.2) Q)) : wl (bd2 c f) Q := by
  intro y e
  cases hc : c with
  | none =>
    rw [hc] at e
    have e' : (none : Option β) = some y := e
    cases e'
  | some x => rw [hc] at e; exact h x hc y e
theorem wl_bdx {c : Option ((α ⊕ String) × WW)} {f : α → WW → Option ((γ ⊕ String) × WW)} {Q : ((γ ⊕ String) × WW) → Prop} (h : wl c (fun p => (∀ v, p.1 = .inl v → wl (f v p.2) Q) ∧ (∀ E, p.1 = .inr E → Q (.inr E, p.2)))) : wl (bdx c f) Q := by
  intro y e
  cases hc : c with
  | none =>
    rw [hc] at e
    have e' : (none : Option ((γ ⊕ String) × WW)) = some y := e
    cases e'
  | some x =>
    obtain ⟨v, w⟩ := x
    rw [hc] at e
    cases v with
    | inl v => exact (h _ hc).1 v rfl y e
    | inr E =>
      have e' : some ((Sum.inr E, w) : (γ ⊕ String) × WW) = some y := e
      cases e'
      exact (h _ hc).2 E rfl
theorem wl_ite {c : Prop} {d : Decidable c} {A B : Option β} (h1 : c → wl A Q) (h2 : ¬ c → wl B Q) : wl (@ite _ c d A B) Q := by
  by_cases h : c
  · rw [if_pos h]; exact h1 h
  · rw [if_neg h]; exact h2 h
theorem wl_req {c : Prop} {d : Decidable c} {A : Option β} (K : c → wl A Q) : wl (@ite _ c d A none) Q := wl_ite K (fun _ => wl_none)
theorem wl_kb {T : Option β} {w : WW} (K : wl T Q) : wl (if kb w a ci = true then T else none) Q := wl_req (fun _ => K)
theorem wl_eq {c : Option α} {x : α} {f : α → Option β} (e : c = some x) (K : wl (f x) Q) : wl (c.bind f) Q := by rw [e]; exact K
theorem wl_gI {f : Int32 → Option β} {x : Int32} (hl : LT a = some (.inr (ci, ts))) (hk : ts[k]? = some 0) (hv : I a k = x) (K : wl (f x) Q) : wl ((gI (mk I J R) a ci k).bind f) Q := by
  rw [(mk_rep I J R).rgI (by rw [Lay_LT]; exact hl) hk, hv]; exact K
theorem wl_gR {f : Option Nat → Option β} {x : Option Nat} (hl : LT a = some (.inr (ci, ts))) (hk : ts[k]? = some 2) (hv : R a k = x) (K : wl (f x) Q) : wl ((gR (mk I J R) a ci k).bind f) Q := by
  rw [(mk_rep I J R).rgR (by rw [Lay_LT]; exact hl) hk, hv]; exact K
theorem wl_gN {f : Nat → Option β} {x : Nat} (hl : LT a = some (.inr (ci, ts))) (hk : ts[k]? = some 2) (hx : R a k = some x) (K : wl (f x) Q) : wl ((gN (mk I J R) a ci k).bind f) Q := by
  rw [(mk_rep I J R).rgN (by rw [Lay_LT]; exact hl) hk hx]; exact K
theorem wl_pI {f : WW → Option β} {x : Int32} (hl : LT a = some (.inr (ci, ts))) (hk : ts[k]? = some 0) (K : wl (f (mk (up2 I a k x) J R)) Q) : wl ((pv (mk I J R) a ci k (.int x)).bind f) Q := by
  rw [mk_pI hl hk]; exact K
theorem wl_pR {f : WW → Option β} {x : Option Nat} (hl : LT a = some (.inr (ci, ts))) (hk : ts[k]? = some 2) (K : wl (f (mk I J (up2 R a k x))) Q) : wl ((pv (mk I J R) a ci k (va_rf x)).bind f) Q := by
  rw [mk_pR hl hk]; exact K
theorem wl_rI {f : Int32 → Option β} {i : Int32} (hl : LT a = some (.inl (t, n, 0))) (K : 0 ≤ i.toInt ∧ i.toInt < n → wl (f (I a i.toInt.toNat)) Q) : wl ((rI (mk I J R) a t i).bind f) Q := by
  by_cases hi : 0 ≤ i.toInt ∧ i.toInt < n
  · rw [(mk_rep I J R).rrI (by rw [Lay_LT]; exact hl) (ix_iff hi)]; exact K hi
  · have e : rI (mk I J R) a t i = none := by
      unfold rI
      rw [(mk_rep I J R).rga (by rw [Lay_LT]; exact hl)]
      simp only [if_true]
      rw [if_neg (fun z => hi (ix_of z))]
    rw [e]; exact wl_none
theorem wl_sI {f : WW → Option β} {i x : Int32} (hl : LT a = some (.inl (t, n, 0))) (K : 0 ≤ i.toInt ∧ i.toInt < n → wl (f (mk (up2 I a i.toInt.toNat x) J R)) Q) : wl ((sI (mk I J R) a t i x).bind f) Q := by
  by_cases hi : 0 ≤ i.toInt ∧ i.toInt < n
  · rw [mk_sI hl hi]; exact K hi
  · have e : sI (mk I J R) a t i x = none := by
      unfold sI
      rw [(mk_rep I J R).rga (by rw [Lay_LT]; exact hl)]
      simp only [if_true]
      rw [if_neg (fun z => hi (ix_of z))]
    rw [e]; exact wl_none
theorem wl_rN {f : Nat → Option β} {i : Int32} (hl : LT a = some (.inl (t, n, 2))) (K : ∀ x, 0 ≤ i.toInt ∧ i.toInt < n → R a i.toInt.toNat = some x → wl (f x) Q) : wl ((rN (mk I J R) a t i).bind f) Q := by
  intro y hy
  cases hc : rN (mk I J R) a t i with
  | none =>
    rw [hc] at hy
    have e' : (none : Option β) = some y := hy
    cases e'
  | some x =>
    rw [hc] at hy
    have h1 := rN_s hc
    unfold rR at h1
    rw [(mk_rep I J R).rga (by rw [Lay_LT]; exact hl)] at h1
    have h2 : (if ¬ (i < 0 ∨ n ≤ i.toNatClampNeg) then some (R a i.toNatClampNeg) else none) = some (some x) := h1
    obtain ⟨h3, h4⟩ := its h2
    exact K x (ix_of h3) (Option.some.inj h4) y hy
theorem wp_wl {c : Option β} (h : wp c Q) : wl c Q := by
  obtain ⟨x, h1, h2⟩ := h
  intro y e
  rw [h1] at e
  cases e
  exact h2
theorem wl_wp {c : Option β} {Q' : β → Prop} (h : wp c Q) (h' : wl c Q') : wp c (fun x => Q x ∧ Q' x) := by
  obtain ⟨x, h1, h2⟩ := h
  exact ⟨x, h1, h2, h' x h1⟩
end WL
theorem tnat {x : Int32} {i : Nat} (h : x.toInt = i) : x.toInt.toNat = i := by omega
section WLR
variable {I : IM} {J : JM} {R : RM} {β : Type} {Q : β → Prop}
set_option maxRecDepth 100000 in
theorem wn_1_0 (h : FXR R) {f : Nat → Option β} (K : wl (f 2) Q) : wl ((gN (mk I J R) 1 2 0).bind f) Q := wl_gN rfl rfl ((h 1 0 (by decide) (by decide) (by decide +kernel)).trans (by decide +kernel)) K
set_option maxRecDepth 100000 in
theorem wn_2_0 (h : FXR R) {f : Nat → Option β} (K : wl (f 3) Q) : wl ((gN (mk I J R) 2 1 0).bind f) Q := wl_gN rfl rfl ((h 2 0 (by decide) (by decide) (by decide +kernel)).trans (by decide +kernel)) K
set_option maxRecDepth 100000 in
theorem wn_2_1 (h : FXR R) {f : Nat → Option β} (K : wl (f 4) Q) : wl ((gN (mk I J R) 2 1 1).bind f) Q := wl_gN rfl rfl ((h 2 1 (by decide) (by decide) (by decide +kernel)).trans (by decide +kernel)) K
set_option maxRecDepth 100000 in
theorem wn_2_2 (h : FXR R) {f : Nat → Option β} (K : wl (f 5) Q) : wl ((gN (mk I J R) 2 1 2).bind f) Q := wl_gN rfl rfl ((h 2 2 (by decide) (by decide) (by decide +kernel)).trans (by decide +kernel)) K
set_option maxRecDepth 100000 in
theorem wn_2_3 (h : FXR R) {f : Nat → Option β} (K : wl (f 6) Q) : wl ((gN (mk I J R) 2 1 3).bind f) Q := wl_gN rfl rfl ((h 2 3 (by decide) (by decide) (by decide +kernel)).trans (by decide +kernel)) K
set_option maxRecDepth 100000 in
theorem wn_0_2 (h : FXR R) {f : Nat → Option β} (K : wl (f 1) Q) : wl ((gN (mk I J R) 0 0 2).bind f) Q := wl_gN rfl rfl ((h 0 2 (by decide) (by decide) (by decide +kernel)).trans (by decide +kernel)) K
set_option maxRecDepth 100000 in
theorem wn_0_3 (h : FXR R) {f : Nat → Option β} (K : wl (f 2) Q) : wl ((gN (mk I J R) 0 0 3).bind f) Q := wl_gN rfl rfl ((h 0 3 (by decide) (by decide) (by decide +kernel)).trans (by decide +kernel)) K
set_option maxRecDepth 100000 in
theorem wn_P0 (h : FXR R) {p : Nat} {f : Nat → Option β} (hp : isP p) (K : wl (f (p + 1)) Q) : wl ((gN (mk I J R) p 3 0).bind f) Q := by
  have e : R p 0 = some (p + 1) := by
    rcases hp with rfl | rfl <;> exact (h _ 0 (by decide) (by decide) (by decide +kernel)).trans (by decide +kernel)
  exact wl_gN (isP_lt hp).1 rfl e K
set_option maxRecDepth 100000 in
theorem wn_P2 (h : FXR R) {p : Nat} {f : Nat → Option β} (hp : isP p) (K : wl (f (p + 52)) Q) : wl ((gN (mk I J R) p 3 2).bind f) Q := by
  have e : R p 2 = some (p + 52) := by
    rcases hp with rfl | rfl <;> exact (h _ 2 (by decide) (by decide) (by decide +kernel)).trans (by decide +kernel)
  exact wl_gN (isP_lt hp).1 rfl e K
set_option maxRecDepth 100000 in
theorem wn_P3 (h : FXR R) {p : Nat} {f : Nat → Option β} (hp : isP p) (K : wl (f (p + 53)) Q) : wl ((gN (mk I J R) p 3 3).bind f) Q := by
  have e : R p 3 = some (p + 53) := by
    rcases hp with rfl | rfl <;> exact (h _ 3 (by decide) (by decide) (by decide +kernel)).trans (by decide +kernel)
  exact wl_gN (isP_lt hp).1 rfl e K
set_option maxRecDepth 100000 in
theorem wn_P4 (h : FXR R) {p : Nat} {f : Nat → Option β} (hp : isP p) (K : wl (f (p + 54)) Q) : wl ((gN (mk I J R) p 3 4).bind f) Q := by
  have e : R p 4 = some (p + 54) := by
    rcases hp with rfl | rfl <;> exact (h _ 4 (by decide) (by decide) (by decide +kernel)).trans (by decide +kernel)
  exact wl_gN (isP_lt hp).1 rfl e K
set_option maxRecDepth 100000 in
theorem wq_0 (hR : QR R) {f : Nat → Option β} (K : wl (f 374) Q) : wl ((gN (mk I J R) 373 9 0).bind f) Q := wl_gN rfl rfl ((hR 0 (by decide)).trans (by decide +kernel)) K
set_option maxRecDepth 100000 in
theorem wq_9 (hR : QR R) {f : Nat → Option β} (K : wl (f 376) Q) : wl ((gN (mk I J R) 373 9 9).bind f) Q := wl_gN rfl rfl ((hR 9 (by decide)).trans (by decide +kernel)) K
set_option maxRecDepth 100000 in
theorem wq_10 (hR : QR R) {f : Nat → Option β} (K : wl (f 377) Q) : wl ((gN (mk I J R) 373 9 10).bind f) Q := wl_gN rfl rfl ((hR 10 (by decide)).trans (by decide +kernel)) K
set_option maxRecDepth 100000 in
theorem wq_11 (hR : QR R) {f : Nat → Option β} (K : wl (f 378) Q) : wl ((gN (mk I J R) 373 9 11).bind f) Q := wl_gN rfl rfl ((hR 11 (by decide)).trans (by decide +kernel)) K
set_option maxRecDepth 100000 in
theorem wq_12 (hR : QR R) {f : Nat → Option β} (K : wl (f 379) Q) : wl ((gN (mk I J R) 373 9 12).bind f) Q := wl_gN rfl rfl ((hR 12 (by decide)).trans (by decide +kernel)) K
set_option maxRecDepth 100000 in
theorem wq_13 (hR : QR R) {f : Nat → Option β} (K : wl (f 380) Q) : wl ((gN (mk I J R) 373 9 13).bind f) Q := wl_gN rfl rfl ((hR 13 (by decide)).trans (by decide +kernel)) K
set_option maxRecDepth 100000 in
theorem wq_14 (hR : QR R) {f : Nat → Option β} (K : wl (f 381) Q) : wl ((gN (mk I J R) 373 9 14).bind f) Q := wl_gN rfl rfl ((hR 14 (by decide)).trans (by decide +kernel)) K
set_option maxRecDepth 100000 in
theorem wq_15 (hR : QR R) {f : Nat → Option β} (K : wl (f 382) Q) : wl ((gN (mk I J R) 373 9 15).bind f) Q := wl_gN rfl rfl ((hR 15 (by decide)).trans (by decide +kernel)) K
set_option maxRecDepth 100000 in
theorem wq_16 (hR : QR R) {f : Nat → Option β} (K : wl (f 383) Q) : wl ((gN (mk I J R) 373 9 16).bind f) Q := wl_gN rfl rfl ((hR 16 (by decide)).trans (by decide +kernel)) K
set_option maxRecDepth 100000 in
theorem wq_17 (hR : QR R) {f : Nat → Option β} (K : wl (f 384) Q) : wl ((gN (mk I J R) 373 9 17).bind f) Q := wl_gN rfl rfl ((hR 17 (by decide)).trans (by decide +kernel)) K
set_option maxRecDepth 100000 in
theorem wq_18 (hR : QR R) {f : Nat → Option β} (K : wl (f 385) Q) : wl ((gN (mk I J R) 373 9 18).bind f) Q := wl_gN rfl rfl ((hR 18 (by decide)).trans (by decide +kernel)) K
set_option maxRecDepth 100000 in
theorem wq_19 (hR : QR R) {f : Nat → Option β} (K : wl (f 386) Q) : wl ((gN (mk I J R) 373 9 19).bind f) Q := wl_gN rfl rfl ((hR 19 (by decide)).trans (by decide +kernel)) K
set_option maxRecDepth 100000 in
theorem wq_20 (hR : QR R) {f : Nat → Option β} (K : wl (f 387) Q) : wl ((gN (mk I J R) 373 9 20).bind f) Q := wl_gN rfl rfl ((hR 20 (by decide)).trans (by decide +kernel)) K
set_option maxRecDepth 100000 in
theorem wq_21 (hR : QR R) {f : Nat → Option β} (K : wl (f 388) Q) : wl ((gN (mk I J R) 373 9 21).bind f) Q := wl_gN rfl rfl ((hR 21 (by decide)).trans (by decide +kernel)) K
set_option maxRecDepth 100000 in
theorem wq_22 (hR : QR R) {f : Nat → Option β} (K : wl (f 389) Q) : wl ((gN (mk I J R) 373 9 22).bind f) Q := wl_gN rfl rfl ((hR 22 (by decide)).trans (by decide +kernel)) K
set_option maxRecDepth 100000 in
theorem wq_23 (hR : QR R) {f : Nat → Option β} (K : wl (f 390) Q) : wl ((gN (mk I J R) 373 9 23).bind f) Q := wl_gN rfl rfl ((hR 23 (by decide)).trans (by decide +kernel)) K
set_option maxRecDepth 100000 in
theorem wq_24 (hR : QR R) {f : Nat → Option β} (K : wl (f 391) Q) : wl ((gN (mk I J R) 373 9 24).bind f) Q := wl_gN rfl rfl ((hR 24 (by decide)).trans (by decide +kernel)) K
set_option maxRecDepth 100000 in
theorem wq_25 (hR : QR R) {f : Nat → Option β} (K : wl (f 392) Q) : wl ((gN (mk I J R) 373 9 25).bind f) Q := wl_gN rfl rfl ((hR 25 (by decide)).trans (by decide +kernel)) K
set_option maxRecDepth 100000 in
theorem wq_26 (hR : QR R) {f : Nat → Option β} (K : wl (f 393) Q) : wl ((gN (mk I J R) 373 9 26).bind f) Q := wl_gN rfl rfl ((hR 26 (by decide)).trans (by decide +kernel)) K
set_option maxRecDepth 100000 in
theorem wq_35 (hR : QR R) {f : Nat → Option β} (K : wl (f 394) Q) : wl ((gN (mk I J R) 373 9 35).bind f) Q := wl_gN rfl rfl ((hR 35 (by decide)).trans (by decide +kernel)) K
set_option maxRecDepth 100000 in
theorem wq_36 (hR : QR R) {f : Nat → Option β} (K : wl (f 395) Q) : wl ((gN (mk I J R) 373 9 36).bind f) Q := wl_gN rfl rfl ((hR 36 (by decide)).trans (by decide +kernel)) K
set_option maxRecDepth 100000 in
theorem wq_37 (hR : QR R) {f : Nat → Option β} (K : wl (f 396) Q) : wl ((gN (mk I J R) 373 9 37).bind f) Q := wl_gN rfl rfl ((hR 37 (by decide)).trans (by decide +kernel)) K
set_option maxRecDepth 100000 in
theorem wq_38 (hR : QR R) {f : Nat → Option β} (K : wl (f 397) Q) : wl ((gN (mk I J R) 373 9 38).bind f) Q := wl_gN rfl rfl ((hR 38 (by decide)).trans (by decide +kernel)) K
set_option maxRecDepth 100000 in
theorem wq_39 (hR : QR R) {f : Nat → Option β} (K : wl (f 398) Q) : wl ((gN (mk I J R) 373 9 39).bind f) Q := wl_gN rfl rfl ((hR 39 (by decide)).trans (by decide +kernel)) K
set_option maxRecDepth 100000 in
theorem wq_40 (hR : QR R) {f : Nat → Option β} (K : wl (f 399) Q) : wl ((gN (mk I J R) 373 9 40).bind f) Q := wl_gN rfl rfl ((hR 40 (by decide)).trans (by decide +kernel)) K
set_option maxRecDepth 100000 in
theorem wq_41 (hR : QR R) {f : Nat → Option β} (K : wl (f 400) Q) : wl ((gN (mk I J R) 373 9 41).bind f) Q := wl_gN rfl rfl ((hR 41 (by decide)).trans (by decide +kernel)) K
end WLR
