/-! The reference: rows for its fields; longs; its VALUES. -/
def QR (R : RM) : Prop := ∀ k, k < 68 → R 373 k = Rw W5 373 k
set_option maxRecDepth 100000 in
theorem qr_of {R : RM} (h : FXR R) : QR R := fun k hk => h 373 k (by decide) (by omega) (mutN (by intro z; cases z) (by decide))
theorem i64lt {x y : Int64} : x < y ↔ x.toInt < y.toInt := Int64.lt_iff_toInt_lt
theorem i64le {x y : Int64} : x ≤ y ↔ x.toInt ≤ y.toInt := Int64.le_iff_toInt_le
theorem i64eq {x y : Int64} : x = y ↔ x.toInt = y.toInt := Int64.toInt_inj.symm
theorem i3264 (x : Int32) : (Int32.toInt64 x).toInt = x.toInt := Int32.toInt_toInt64 x
theorem l64_m9223372036854775808 : (-9223372036854775808 : Int64).toInt = -9223372036854775808 := rfl
theorem l64_m2147483648 : (-2147483648 : Int64).toInt = -2147483648 := rfl
theorem l64_m100 : (-100 : Int64).toInt = -100 := rfl
theorem l64_m10 : (-10 : Int64).toInt = -10 := rfl
theorem l64_m1 : (-1 : Int64).toInt = -1 := rfl
theorem l64_0 : (0 : Int64).toInt = 0 := rfl
theorem l64_1 : (1 : Int64).toInt = 1 := rfl
theorem l64_2 : (2 : Int64).toInt = 2 := rfl
theorem l64_3 : (3 : Int64).toInt = 3 := rfl
theorem l64_4 : (4 : Int64).toInt = 4 := rfl
theorem l64_5 : (5 : Int64).toInt = 5 := rfl
theorem l64_6 : (6 : Int64).toInt = 6 := rfl
theorem l64_10 : (10 : Int64).toInt = 10 := rfl
theorem l64_15 : (15 : Int64).toInt = 15 := rfl
theorem l64_17 : (17 : Int64).toInt = 17 := rfl
theorem l64_20 : (20 : Int64).toInt = 20 := rfl
theorem l64_27 : (27 : Int64).toInt = 27 := rfl
theorem l64_30 : (30 : Int64).toInt = 30 := rfl
theorem l64_32 : (32 : Int64).toInt = 32 := rfl
theorem l64_35 : (35 : Int64).toInt = 35 := rfl
theorem l64_40 : (40 : Int64).toInt = 40 := rfl
theorem l64_41 : (41 : Int64).toInt = 41 := rfl
theorem l64_48 : (48 : Int64).toInt = 48 := rfl
theorem l64_57 : (57 : Int64).toInt = 57 := rfl
theorem l64_65 : (65 : Int64).toInt = 65 := rfl
theorem l64_66 : (66 : Int64).toInt = 66 := rfl
theorem l64_90 : (90 : Int64).toInt = 90 := rfl
theorem l64_97 : (97 : Int64).toInt = 97 := rfl
theorem l64_100 : (100 : Int64).toInt = 100 := rfl
theorem l64_102 : (102 : Int64).toInt = 102 := rfl
theorem l64_116 : (116 : Int64).toInt = 116 := rfl
theorem l64_122 : (122 : Int64).toInt = 122 := rfl
theorem l64_126 : (126 : Int64).toInt = 126 := rfl
theorem l64_128 : (128 : Int64).toInt = 128 := rfl
theorem l64_500 : (500 : Int64).toInt = 500 := rfl
theorem l64_14592 : (14592 : Int64).toInt = 14592 := rfl
theorem l64_16384 : (16384 : Int64).toInt = 16384 := rfl
theorem l64_65536 : (65536 : Int64).toInt = 65536 := rfl
theorem l64_2147483647 : (2147483647 : Int64).toInt = 2147483647 := rfl
theorem l64_4294967295 : (4294967295 : Int64).toInt = 4294967295 := rfl
theorem l64_9223372036854775807 : (9223372036854775807 : Int64).toInt = 9223372036854775807 := rfl
set_option maxRecDepth 100000 in
theorem qn_0 {I : IM} {J : JM} {R : RM} {β : Type} {Q : β → Prop} (hR : QR R) {f : Nat → Option β} (K : wp (f 374) Q) : wp ((gN (mk I J R) 373 9 0).bind f) Q := st_gN rfl rfl ((hR 0 (by decide)).trans (by decide +kernel)) K
set_option maxRecDepth 100000 in
theorem qn_1 {I : IM} {J : JM} {R : RM} {β : Type} {Q : β → Prop} (hR : QR R) {f : Nat → Option β} (K : wp (f 375) Q) : wp ((gN (mk I J R) 373 9 1).bind f) Q := st_gN rfl rfl ((hR 1 (by decide)).trans (by decide +kernel)) K
set_option maxRecDepth 100000 in
theorem qn_9 {I : IM} {J : JM} {R : RM} {β : Type} {Q : β → Prop} (hR : QR R) {f : Nat → Option β} (K : wp (f 376) Q) : wp ((gN (mk I J R) 373 9 9).bind f) Q := st_gN rfl rfl ((hR 9 (by decide)).trans (by decide +kernel)) K
set_option maxRecDepth 100000 in
theorem qn_10 {I : IM} {J : JM} {R : RM} {β : Type} {Q : β → Prop} (hR : QR R) {f : Nat → Option β} (K : wp (f 377) Q) : wp ((gN (mk I J R) 373 9 10).bind f) Q := st_gN rfl rfl ((hR 10 (by decide)).trans (by decide +kernel)) K
set_option maxRecDepth 100000 in
theorem qn_11 {I : IM} {J : JM} {R : RM} {β : Type} {Q : β → Prop} (hR : QR R) {f : Nat → Option β} (K : wp (f 378) Q) : wp ((gN (mk I J R) 373 9 11).bind f) Q := st_gN rfl rfl ((hR 11 (by decide)).trans (by decide +kernel)) K
set_option maxRecDepth 100000 in
theorem qn_12 {I : IM} {J : JM} {R : RM} {β : Type} {Q : β → Prop} (hR : QR R) {f : Nat → Option β} (K : wp (f 379) Q) : wp ((gN (mk I J R) 373 9 12).bind f) Q := st_gN rfl rfl ((hR 12 (by decide)).trans (by decide +kernel)) K
set_option maxRecDepth 100000 in
theorem qn_13 {I : IM} {J : JM} {R : RM} {β : Type} {Q : β → Prop} (hR : QR R) {f : Nat → Option β} (K : wp (f 380) Q) : wp ((gN (mk I J R) 373 9 13).bind f) Q := st_gN rfl rfl ((hR 13 (by decide)).trans (by decide +kernel)) K
set_option maxRecDepth 100000 in
theorem qn_14 {I : IM} {J : JM} {R : RM} {β : Type} {Q : β → Prop} (hR : QR R) {f : Nat → Option β} (K : wp (f 381) Q) : wp ((gN (mk I J R) 373 9 14).bind f) Q := st_gN rfl rfl ((hR 14 (by decide)).trans (by decide +kernel)) K
set_option maxRecDepth 100000 in
theorem qn_15 {I : IM} {J : JM} {R : RM} {β : Type} {Q : β → Prop} (hR : QR R) {f : Nat → Option β} (K : wp (f 382) Q) : wp ((gN (mk I J R) 373 9 15).bind f) Q := st_gN rfl rfl ((hR 15 (by decide)).trans (by decide +kernel)) K
set_option maxRecDepth 100000 in
theorem qn_16 {I : IM} {J : JM} {R : RM} {β : Type} {Q : β → Prop} (hR : QR R) {f : Nat → Option β} (K : wp (f 383) Q) : wp ((gN (mk I J R) 373 9 16).bind f) Q := st_gN rfl rfl ((hR 16 (by decide)).trans (by decide +kernel)) K
set_option maxRecDepth 100000 in
theorem qn_17 {I : IM} {J : JM} {R : RM} {β : Type} {Q : β → Prop} (hR : QR R) {f : Nat → Option β} (K : wp (f 384) Q) : wp ((gN (mk I J R) 373 9 17).bind f) Q := st_gN rfl rfl ((hR 17 (by decide)).trans (by decide +kernel)) K
set_option maxRecDepth 100000 in
theorem qn_18 {I : IM} {J : JM} {R : RM} {β : Type} {Q : β → Prop} (hR : QR R) {f : Nat → Option β} (K : wp (f 385) Q) : wp ((gN (mk I J R) 373 9 18).bind f) Q := st_gN rfl rfl ((hR 18 (by decide)).trans (by decide +kernel)) K
set_option maxRecDepth 100000 in
theorem qn_19 {I : IM} {J : JM} {R : RM} {β : Type} {Q : β → Prop} (hR : QR R) {f : Nat → Option β} (K : wp (f 386) Q) : wp ((gN (mk I J R) 373 9 19).bind f) Q := st_gN rfl rfl ((hR 19 (by decide)).trans (by decide +kernel)) K
set_option maxRecDepth 100000 in
theorem qn_20 {I : IM} {J : JM} {R : RM} {β : Type} {Q : β → Prop} (hR : QR R) {f : Nat → Option β} (K : wp (f 387) Q) : wp ((gN (mk I J R) 373 9 20).bind f) Q := st_gN rfl rfl ((hR 20 (by decide)).trans (by decide +kernel)) K
set_option maxRecDepth 100000 in
theorem qn_21 {I : IM} {J : JM} {R : RM} {β : Type} {Q : β → Prop} (hR : QR R) {f : Nat → Option β} (K : wp (f 388) Q) : wp ((gN (mk I J R) 373 9 21).bind f) Q := st_gN rfl rfl ((hR 21 (by decide)).trans (by decide +kernel)) K
set_option maxRecDepth 100000 in
theorem qn_22 {I : IM} {J : JM} {R : RM} {β : Type} {Q : β → Prop} (hR : QR R) {f : Nat → Option β} (K : wp (f 389) Q) : wp ((gN (mk I J R) 373 9 22).bind f) Q := st_gN rfl rfl ((hR 22 (by decide)).trans (by decide +kernel)) K
set_option maxRecDepth 100000 in
theorem qn_23 {I : IM} {J : JM} {R : RM} {β : Type} {Q : β → Prop} (hR : QR R) {f : Nat → Option β} (K : wp (f 390) Q) : wp ((gN (mk I J R) 373 9 23).bind f) Q := st_gN rfl rfl ((hR 23 (by decide)).trans (by decide +kernel)) K
set_option maxRecDepth 100000 in
theorem qn_24 {I : IM} {J : JM} {R : RM} {β : Type} {Q : β → Prop} (hR : QR R) {f : Nat → Option β} (K : wp (f 391) Q) : wp ((gN (mk I J R) 373 9 24).bind f) Q := st_gN rfl rfl ((hR 24 (by decide)).trans (by decide +kernel)) K
set_option maxRecDepth 100000 in
theorem qn_25 {I : IM} {J : JM} {R : RM} {β : Type} {Q : β → Prop} (hR : QR R) {f : Nat → Option β} (K : wp (f 392) Q) : wp ((gN (mk I J R) 373 9 25).bind f) Q := st_gN rfl rfl ((hR 25 (by decide)).trans (by decide +kernel)) K
set_option maxRecDepth 100000 in
theorem qn_26 {I : IM} {J : JM} {R : RM} {β : Type} {Q : β → Prop} (hR : QR R) {f : Nat → Option β} (K : wp (f 393) Q) : wp ((gN (mk I J R) 373 9 26).bind f) Q := st_gN rfl rfl ((hR 26 (by decide)).trans (by decide +kernel)) K
set_option maxRecDepth 100000 in
theorem qn_35 {I : IM} {J : JM} {R : RM} {β : Type} {Q : β → Prop} (hR : QR R) {f : Nat → Option β} (K : wp (f 394) Q) : wp ((gN (mk I J R) 373 9 35).bind f) Q := st_gN rfl rfl ((hR 35 (by decide)).trans (by decide +kernel)) K
set_option maxRecDepth 100000 in
theorem qn_36 {I : IM} {J : JM} {R : RM} {β : Type} {Q : β → Prop} (hR : QR R) {f : Nat → Option β} (K : wp (f 395) Q) : wp ((gN (mk I J R) 373 9 36).bind f) Q := st_gN rfl rfl ((hR 36 (by decide)).trans (by decide +kernel)) K
set_option maxRecDepth 100000 in
theorem qn_37 {I : IM} {J : JM} {R : RM} {β : Type} {Q : β → Prop} (hR : QR R) {f : Nat → Option β} (K : wp (f 396) Q) : wp ((gN (mk I J R) 373 9 37).bind f) Q := st_gN rfl rfl ((hR 37 (by decide)).trans (by decide +kernel)) K
set_option maxRecDepth 100000 in
theorem qn_38 {I : IM} {J : JM} {R : RM} {β : Type} {Q : β → Prop} (hR : QR R) {f : Nat → Option β} (K : wp (f 397) Q) : wp ((gN (mk I J R) 373 9 38).bind f) Q := st_gN rfl rfl ((hR 38 (by decide)).trans (by decide +kernel)) K
set_option maxRecDepth 100000 in
theorem qn_39 {I : IM} {J : JM} {R : RM} {β : Type} {Q : β → Prop} (hR : QR R) {f : Nat → Option β} (K : wp (f 398) Q) : wp ((gN (mk I J R) 373 9 39).bind f) Q := st_gN rfl rfl ((hR 39 (by decide)).trans (by decide +kernel)) K
set_option maxRecDepth 100000 in
theorem qn_40 {I : IM} {J : JM} {R : RM} {β : Type} {Q : β → Prop} (hR : QR R) {f : Nat → Option β} (K : wp (f 399) Q) : wp ((gN (mk I J R) 373 9 40).bind f) Q := st_gN rfl rfl ((hR 40 (by decide)).trans (by decide +kernel)) K
set_option maxRecDepth 100000 in
theorem qn_41 {I : IM} {J : JM} {R : RM} {β : Type} {Q : β → Prop} (hR : QR R) {f : Nat → Option β} (K : wp (f 400) Q) : wp ((gN (mk I J R) 373 9 41).bind f) Q := st_gN rfl rfl ((hR 41 (by decide)).trans (by decide +kernel)) K
set_option maxRecDepth 100000 in
theorem qn_45 {I : IM} {J : JM} {R : RM} {β : Type} {Q : β → Prop} (hR : QR R) {f : Nat → Option β} (K : wp (f 401) Q) : wp ((gN (mk I J R) 373 9 45).bind f) Q := st_gN rfl rfl ((hR 45 (by decide)).trans (by decide +kernel)) K
set_option maxRecDepth 100000 in
theorem qn_46 {I : IM} {J : JM} {R : RM} {β : Type} {Q : β → Prop} (hR : QR R) {f : Nat → Option β} (K : wp (f 402) Q) : wp ((gN (mk I J R) 373 9 46).bind f) Q := st_gN rfl rfl ((hR 46 (by decide)).trans (by decide +kernel)) K
set_option maxRecDepth 100000 in
theorem qn_47 {I : IM} {J : JM} {R : RM} {β : Type} {Q : β → Prop} (hR : QR R) {f : Nat → Option β} (K : wp (f 403) Q) : wp ((gN (mk I J R) 373 9 47).bind f) Q := st_gN rfl rfl ((hR 47 (by decide)).trans (by decide +kernel)) K
set_option maxRecDepth 100000 in
theorem qn_48 {I : IM} {J : JM} {R : RM} {β : Type} {Q : β → Prop} (hR : QR R) {f : Nat → Option β} (K : wp (f 404) Q) : wp ((gN (mk I J R) 373 9 48).bind f) Q := st_gN rfl rfl ((hR 48 (by decide)).trans (by decide +kernel)) K
set_option maxRecDepth 100000 in
theorem qn_49 {I : IM} {J : JM} {R : RM} {β : Type} {Q : β → Prop} (hR : QR R) {f : Nat → Option β} (K : wp (f 405) Q) : wp ((gN (mk I J R) 373 9 49).bind f) Q := st_gN rfl rfl ((hR 49 (by decide)).trans (by decide +kernel)) K
set_option maxRecDepth 100000 in
theorem qn_54 {I : IM} {J : JM} {R : RM} {β : Type} {Q : β → Prop} (hR : QR R) {f : Nat → Option β} (K : wp (f 406) Q) : wp ((gN (mk I J R) 373 9 54).bind f) Q := st_gN rfl rfl ((hR 54 (by decide)).trans (by decide +kernel)) K
set_option maxRecDepth 100000 in
theorem qn_55 {I : IM} {J : JM} {R : RM} {β : Type} {Q : β → Prop} (hR : QR R) {f : Nat → Option β} (K : wp (f 407) Q) : wp ((gN (mk I J R) 373 9 55).bind f) Q := st_gN rfl rfl ((hR 55 (by decide)).trans (by decide +kernel)) K
set_option maxRecDepth 100000 in
theorem qn_56 {I : IM} {J : JM} {R : RM} {β : Type} {Q : β → Prop} (hR : QR R) {f : Nat → Option β} (K : wp (f 408) Q) : wp ((gN (mk I J R) 373 9 56).bind f) Q := st_gN rfl rfl ((hR 56 (by decide)).trans (by decide +kernel)) K
set_option maxRecDepth 100000 in
theorem qn_57 {I : IM} {J : JM} {R : RM} {β : Type} {Q : β → Prop} (hR : QR R) {f : Nat → Option β} (K : wp (f 409) Q) : wp ((gN (mk I J R) 373 9 57).bind f) Q := st_gN rfl rfl ((hR 57 (by decide)).trans (by decide +kernel)) K
set_option maxRecDepth 100000 in
theorem qn_58 {I : IM} {J : JM} {R : RM} {β : Type} {Q : β → Prop} (hR : QR R) {f : Nat → Option β} (K : wp (f 410) Q) : wp ((gN (mk I J R) 373 9 58).bind f) Q := st_gN rfl rfl ((hR 58 (by decide)).trans (by decide +kernel)) K
set_option maxRecDepth 100000 in
theorem qn_59 {I : IM} {J : JM} {R : RM} {β : Type} {Q : β → Prop} (hR : QR R) {f : Nat → Option β} (K : wp (f 411) Q) : wp ((gN (mk I J R) 373 9 59).bind f) Q := st_gN rfl rfl ((hR 59 (by decide)).trans (by decide +kernel)) K
set_option maxRecDepth 100000 in
theorem qn_60 {I : IM} {J : JM} {R : RM} {β : Type} {Q : β → Prop} (hR : QR R) {f : Nat → Option β} (K : wp (f 412) Q) : wp ((gN (mk I J R) 373 9 60).bind f) Q := st_gN rfl rfl ((hR 60 (by decide)).trans (by decide +kernel)) K
set_option maxRecDepth 100000 in
theorem qn_61 {I : IM} {J : JM} {R : RM} {β : Type} {Q : β → Prop} (hR : QR R) {f : Nat → Option β} (K : wp (f 413) Q) : wp ((gN (mk I J R) 373 9 61).bind f) Q := st_gN rfl rfl ((hR 61 (by decide)).trans (by decide +kernel)) K
set_option maxRecDepth 100000 in
theorem qn_62 {I : IM} {J : JM} {R : RM} {β : Type} {Q : β → Prop} (hR : QR R) {f : Nat → Option β} (K : wp (f 414) Q) : wp ((gN (mk I J R) 373 9 62).bind f) Q := st_gN rfl rfl ((hR 62 (by decide)).trans (by decide +kernel)) K
set_option maxRecDepth 100000 in
theorem qn_63 {I : IM} {J : JM} {R : RM} {β : Type} {Q : β → Prop} (hR : QR R) {f : Nat → Option β} (K : wp (f 415) Q) : wp ((gN (mk I J R) 373 9 63).bind f) Q := st_gN rfl rfl ((hR 63 (by decide)).trans (by decide +kernel)) K
def P4 (J : JM) (d : Nat) (a b m r : Int64) : JM := up2 (up2 (up2 (up2 J 406 d a) 407 d b) 408 d m) 409 d r
def VV (a b m r : Int64) : Prop := m = 0 → a = r ∧ b = r
def VI (J : JM) : Prop := ∀ i, i < 360 → VV (J 406 i) (J 407 i) (J 408 i) (J 409 i)
theorem P4_ne {J : JM} {d : Nat} {a b m r : Int64} {x i : Nat} (h : x < 406 ∨ 409 < x ∨ i ≠ d) : P4 J d a b m r x i = J x i := by
  unfold P4
  rw [up2_ne _ _ (by omega), up2_ne _ _ (by omega), up2_ne _ _ (by omega), up2_ne _ _ (by omega)]
theorem P4_a {J : JM} {d : Nat} {a b m r : Int64} : P4 J d a b m r 406 d = a := by
  unfold P4; rw [up2_nea (by decide), up2_nea (by decide), up2_nea (by decide), up2_s]
theorem P4_b {J : JM} {d : Nat} {a b m r : Int64} : P4 J d a b m r 407 d = b := by
  unfold P4; rw [up2_nea (by decide), up2_nea (by decide), up2_s]
theorem P4_m {J : JM} {d : Nat} {a b m r : Int64} : P4 J d a b m r 408 d = m := by
  unfold P4; rw [up2_nea (by decide), up2_s]
theorem P4_r {J : JM} {d : Nat} {a b m r : Int64} : P4 J d a b m r 409 d = r := by
  unfold P4; rw [up2_s]
theorem VI.p4 {J : JM} {d : Nat} {a b m r : Int64} (h : VI J) (hv : VV a b m r) : VI (P4 J d a b m r) := by
  intro i hi
  by_cases e : i = d
  · subst e; rw [P4_a, P4_b, P4_m, P4_r]; exact hv
  · rw [P4_ne (by omega), P4_ne (by omega), P4_ne (by omega), P4_ne (by omega)]; exact h i hi
/-- what of the VALUES changes: those of numbers in S -/
def JX (S : Nat → Prop) (J J' : JM) : Prop := VI J' ∧ ∀ a k, (a < 406 ∨ 409 < a ∨ ¬ S k) → J' a k = J a k
theorem JX.refl {S : Nat → Prop} {J : JM} (h : VI J) : JX S J J := ⟨h, fun _ _ _ => rfl⟩
theorem JX.p4 {S : Nat → Prop} {J J' : JM} {d : Nat} {a b m r : Int64} (h : JX S J J') (hv : VV a b m r) (hd : S d) : JX S J (P4 J' d a b m r) :=
  ⟨h.1.p4 hv, fun x k hk => by rw [P4_ne (by rcases hk with z | z | z; exact Or.inl z; exact Or.inr (Or.inl z); exact Or.inr (Or.inr (fun e => z (e ▸ hd))))]; exact h.2 x k hk⟩
theorem JX.trans {S : Nat → Prop} {J J' J'' : JM} (h : JX S J J') (h2 : JX S J' J'') : JX S J J'' := ⟨h2.1, fun a k hk => (h2.2 a k hk).trans (h.2 a k hk)⟩
theorem JX.mono {S T : Nat → Prop} {J J' : JM} (h : JX S J J') (hs : ∀ k, S k → T k) : JX T J J' := ⟨h.1, fun a k hk => h.2 a k (by rcases hk with z | z | z; exact Or.inl z; exact Or.inr (Or.inl z); exact Or.inr (Or.inr (fun e => z (hs k e))))⟩
theorem VI.at {J : JM} {i : Nat} (h : VI J) (hi : i < 360) : VV (J 406 i) (J 407 i) (J 408 i) (J 409 i) := h i hi
theorem VV_n : VV 0 0 (-1) 0 := fun z => absurd z (by decide)
theorem VV_q (q : Int64) : VV q q 0 q := fun _ => ⟨rfl, rfl⟩
theorem VV_m {a b m r : Int64} (h : ¬ m = 0) : VV a b m r := fun z => absurd z h
theorem rem64 {x y : Int64} (hy : ¬ y = 0) : (x - x / y * y).toInt = x.toInt.tmod y.toInt := by
  have hy' : y.toInt ≠ 0 := fun z => hy (i64eq.mpr z)
  rw [Int64.toInt_sub, Int64.toInt_mul, Int64.toInt_div, Int.bmod_mul_bmod, Int.sub_bmod_bmod]
  have e : x.toInt - x.toInt.tdiv y.toInt * y.toInt = x.toInt.tmod y.toInt := by
    have := Int.tmod_add_mul_tdiv x.toInt y.toInt
    rw [Int.mul_comm (x.toInt.tdiv y.toInt)]; omega
  rw [e]
  have b1 := Int64.le_toInt y
  have b2 := Int64.toInt_lt y
  have l1 : (x.toInt.tmod y.toInt).natAbs < y.toInt.natAbs := by
    rw [Int.natAbs_tmod]; exact Nat.mod_lt _ (by omega)
  exact Int.bmod_eq_of_le_mul_two (by omega) (by omega)
theorem rem64_lt {x y : Int64} (hy : ¬ y = 0) : (x - x / y * y).toInt.natAbs < y.toInt.natAbs := by
  have hy' : y.toInt ≠ 0 := fun z => hy (i64eq.mpr z)
  rw [rem64 hy, Int.natAbs_tmod]
  exact Nat.mod_lt _ (by omega)
theorem l_q_gcd_28 {w : WW} {Q : (Int64 × WW) → Prop} (k : ∀ r, Q (r, w)) : ∀ (n : Nat) (x y : Int64), y.toInt.natAbs < n → wp (f_q_gcd_28 n x y w) Q := by
  intro n
  induction n with
  | zero => intros; omega
  | succ n ih =>
    intro x y hn
    rw [f_q_gcd_28]
    refine st_ite (fun c => st_some (k _)) (fun c => ?_)
    refine st_req c ?_
    have := rem64_lt (x := x) c
    exact ih _ _ (by omega)
theorem s_q_gcd {a0 a2 : Int64} {w : WW} {Q : (Int64 × WW) → Prop} (k : ∀ r, Q (r, w)) : wp (f_q_gcd a0 a2 w) Q := by
  have h : ∀ x y, wp (f_q_gcd_28 KK x y w) Q := fun x y => l_q_gcd_28 k KK x y (by
    have b1 := Int64.le_toInt y
    have b2 := Int64.toInt_lt y
    unfold KK; omega)
  unfold f_q_gcd f_q_gcd_12 f_q_gcd_26
  refine st_ite (fun c => st_ite (fun c => h _ _) (fun c => h _ _)) (fun c => st_ite (fun c => h _ _) (fun c => h _ _))
theorem s_q_in {a0 a2 a4 : Int64} {w : WW} {Q : (Int32 × WW) → Prop} (k : ∀ r, B01 r → ((r.toInt = 1 ∧ a2.toInt ≤ a0.toInt ∧ a0.toInt ≤ a4.toInt) ∨ (r.toInt = 0 ∧ (a0.toInt < a2.toInt ∨ a4.toInt < a0.toInt))) → Q (r, w)) : wp (f_q_in a0 a2 a4 w) Q := by
  have e0 : (0 : Int32).toInt = 0 := rfl
  have e1 : (1 : Int32).toInt = 1 := rfl
  unfold f_q_in f_q_in_17 f_q_in_18
  refine st_ite (fun c => st_req (Or.inl rfl) (st_some (k _ (Or.inl rfl) (Or.inr ⟨rfl, ?_⟩)))) (fun c => st_ite (fun c2 => st_req (Or.inl rfl) (st_some (k _ (Or.inl rfl) (Or.inr ⟨rfl, ?_⟩)))) (fun c2 => st_req (Or.inr rfl) (st_some (k _ (Or.inr rfl) (Or.inl ⟨rfl, ?_, ?_⟩)))))
  · rw [i64lt] at c; omega
  · rw [i64lt] at c2; omega
  · rw [i64lt] at c; omega
  · rw [i64lt] at c2; omega
theorem s_q_isDigit {w : WW}  {a0 : Int32}  {Q : (Int32 × WW) → Prop} (k : ∀ r, B01 r → ((r.toInt = 1 ∧ 48 ≤ a0.toInt ∧ a0.toInt ≤ 57) ∨ (r.toInt = 0 ∧ (a0.toInt < 48 ∨ 57 < a0.toInt))) → Q (r, w)) : wp (f_q_isDigit a0 w) Q := by
  unfold f_q_isDigit
  repeat' (first
    | ((with_reducible apply st_bd2); (with_reducible apply s_q_in); intro r hb hr; try simp only [i3264, l64_m9223372036854775808, l64_m2147483648, l64_m100, l64_m10, l64_m1, l64_0, l64_1, l64_2, l64_3, l64_4, l64_5, l64_6, l64_10, l64_15, l64_17, l64_20, l64_27, l64_30, l64_32, l64_35, l64_40, l64_41, l64_48, l64_57, l64_65, l64_66, l64_90, l64_97, l64_100, l64_102, l64_116, l64_122, l64_126, l64_128, l64_500, l64_14592, l64_16384, l64_65536, l64_2147483647, l64_4294967295, l64_9223372036854775807] at hr; try dsimp only)
    | ((with_reducible apply s_q_in); intro r hb hr; try simp only [i3264, l64_m9223372036854775808, l64_m2147483648, l64_m100, l64_m10, l64_m1, l64_0, l64_1, l64_2, l64_3, l64_4, l64_5, l64_6, l64_10, l64_15, l64_17, l64_20, l64_27, l64_30, l64_32, l64_35, l64_40, l64_41, l64_48, l64_57, l64_65, l64_66, l64_90, l64_97, l64_100, l64_102, l64_116, l64_122, l64_126, l64_128, l64_500, l64_14592, l64_16384, l64_65536, l64_2147483647, l64_4294967295, l64_9223372036854775807] at hr)
    | ((with_reducible apply st_req); (case h => first | assumption | exact Or.inl rfl | exact Or.inr rfl | decide))
    | ((with_reducible refine st_ite (fun c => ?_) (fun c => ?_)) <;> (have c0 := c; try simp only [i32lt, i32le, i32eq, i32add, i32sub, i32mul, l32_m8, l32_m5, l32_m2, l32_m1, l32_0, l32_1, l32_2, l32_3, l32_4, l32_5, l32_6, l32_7, l32_8, l32_9, l32_10, l32_11, l32_12, l32_14, l32_15, l32_16, l32_18, l32_20, l32_25, l32_28, l32_30, l32_32, l32_33, l32_36, l32_37, l32_40, l32_41, l32_42, l32_43, l32_45, l32_47, l32_48, l32_50, l32_56, l32_57, l32_59, l32_60, l32_61, l32_65, l32_66, l32_80, l32_90, l32_91, l32_93, l32_97, l32_100, l32_101, l32_102, l32_104, l32_105, l32_108, l32_110, l32_115, l32_119, l32_122, l32_123, l32_125, l32_126, l32_200, l32_220, l32_224, l32_225, l32_226, l32_255, l32_256, l32_257, l32_258, l32_259, l32_290, l32_359, l32_500, l32_1000, l32_1001, l32_1002, l32_1024, l32_1200, i64lt, i64le, i64eq, i3264, l64_m9223372036854775808, l64_m2147483648, l64_m100, l64_m10, l64_m1, l64_0, l64_1, l64_2, l64_3, l64_4, l64_5, l64_6, l64_10, l64_15, l64_17, l64_20, l64_27, l64_30, l64_32, l64_35, l64_40, l64_41, l64_48, l64_57, l64_65, l64_66, l64_90, l64_97, l64_100, l64_102, l64_116, l64_122, l64_126, l64_128, l64_500, l64_14592, l64_16384, l64_65536, l64_2147483647, l64_4294967295, l64_9223372036854775807] at c))
    | (with_reducible refine st_some ?_)
    | (exact k _ (by assumption) (by omega))
    | (exact absurd rfl c0)
    | (exact absurd c0 (by decide)))
theorem s_q_isLetter {w : WW}  {a0 : Int32}  {Q : (Int32 × WW) → Prop} (k : ∀ r, B01 r → ((r.toInt = 1 ∧ (65 ≤ a0.toInt ∧ a0.toInt ≤ 90 ∨ 97 ≤ a0.toInt ∧ a0.toInt ≤ 122)) ∨ (r.toInt = 0 ∧ ¬ (65 ≤ a0.toInt ∧ a0.toInt ≤ 90 ∨ 97 ≤ a0.toInt ∧ a0.toInt ≤ 122))) → Q (r, w)) : wp (f_q_isLetter a0 w) Q := by
  unfold f_q_isLetter
  repeat' (first
    | ((with_reducible apply st_bd2); (with_reducible apply s_q_in); intro r hb hr; try simp only [i3264, l64_m9223372036854775808, l64_m2147483648, l64_m100, l64_m10, l64_m1, l64_0, l64_1, l64_2, l64_3, l64_4, l64_5, l64_6, l64_10, l64_15, l64_17, l64_20, l64_27, l64_30, l64_32, l64_35, l64_40, l64_41, l64_48, l64_57, l64_65, l64_66, l64_90, l64_97, l64_100, l64_102, l64_116, l64_122, l64_126, l64_128, l64_500, l64_14592, l64_16384, l64_65536, l64_2147483647, l64_4294967295, l64_9223372036854775807] at hr; try dsimp only)
    | ((with_reducible apply s_q_in); intro r hb hr; try simp only [i3264, l64_m9223372036854775808, l64_m2147483648, l64_m100, l64_m10, l64_m1, l64_0, l64_1, l64_2, l64_3, l64_4, l64_5, l64_6, l64_10, l64_15, l64_17, l64_20, l64_27, l64_30, l64_32, l64_35, l64_40, l64_41, l64_48, l64_57, l64_65, l64_66, l64_90, l64_97, l64_100, l64_102, l64_116, l64_122, l64_126, l64_128, l64_500, l64_14592, l64_16384, l64_65536, l64_2147483647, l64_4294967295, l64_9223372036854775807] at hr)
    | ((with_reducible apply st_req); (case h => first | assumption | exact Or.inl rfl | exact Or.inr rfl | decide))
    | ((with_reducible refine st_ite (fun c => ?_) (fun c => ?_)) <;> (have c0 := c; try simp only [i32lt, i32le, i32eq, i32add, i32sub, i32mul, l32_m8, l32_m5, l32_m2, l32_m1, l32_0, l32_1, l32_2, l32_3, l32_4, l32_5, l32_6, l32_7, l32_8, l32_9, l32_10, l32_11, l32_12, l32_14, l32_15, l32_16, l32_18, l32_20, l32_25, l32_28, l32_30, l32_32, l32_33, l32_36, l32_37, l32_40, l32_41, l32_42, l32_43, l32_45, l32_47, l32_48, l32_50, l32_56, l32_57, l32_59, l32_60, l32_61, l32_65, l32_66, l32_80, l32_90, l32_91, l32_93, l32_97, l32_100, l32_101, l32_102, l32_104, l32_105, l32_108, l32_110, l32_115, l32_119, l32_122, l32_123, l32_125, l32_126, l32_200, l32_220, l32_224, l32_225, l32_226, l32_255, l32_256, l32_257, l32_258, l32_259, l32_290, l32_359, l32_500, l32_1000, l32_1001, l32_1002, l32_1024, l32_1200, i64lt, i64le, i64eq, i3264, l64_m9223372036854775808, l64_m2147483648, l64_m100, l64_m10, l64_m1, l64_0, l64_1, l64_2, l64_3, l64_4, l64_5, l64_6, l64_10, l64_15, l64_17, l64_20, l64_27, l64_30, l64_32, l64_35, l64_40, l64_41, l64_48, l64_57, l64_65, l64_66, l64_90, l64_97, l64_100, l64_102, l64_116, l64_122, l64_126, l64_128, l64_500, l64_14592, l64_16384, l64_65536, l64_2147483647, l64_4294967295, l64_9223372036854775807] at c))
    | (with_reducible refine st_some ?_)
    | (unfold f_q_isLetter_33)
    | (unfold f_q_isLetter_28)
    | (exact k _ (by first | exact Or.inl rfl | exact Or.inr rfl) (by have e0 := l32_0; have e1 := l32_1; omega))
    | (exact absurd rfl c0)
    | (exact absurd c0 (by decide)))
theorem s_q_isOperator {w : WW}  {a0 : Int32}  {Q : (Int32 × WW) → Prop} (k : ∀ r, B01 r → Q (r, w)) : wp (f_q_isOperator a0 w) Q := by
  unfold f_q_isOperator
  repeat' (first
    | ((with_reducible apply st_req); (case h => first | assumption | exact Or.inl rfl | exact Or.inr rfl | decide))
    | ((with_reducible refine st_ite (fun c => ?_) (fun c => ?_)) <;> (have c0 := c; try simp only [i32lt, i32le, i32eq, i32add, i32sub, i32mul, l32_m8, l32_m5, l32_m2, l32_m1, l32_0, l32_1, l32_2, l32_3, l32_4, l32_5, l32_6, l32_7, l32_8, l32_9, l32_10, l32_11, l32_12, l32_14, l32_15, l32_16, l32_18, l32_20, l32_25, l32_28, l32_30, l32_32, l32_33, l32_36, l32_37, l32_40, l32_41, l32_42, l32_43, l32_45, l32_47, l32_48, l32_50, l32_56, l32_57, l32_59, l32_60, l32_61, l32_65, l32_66, l32_80, l32_90, l32_91, l32_93, l32_97, l32_100, l32_101, l32_102, l32_104, l32_105, l32_108, l32_110, l32_115, l32_119, l32_122, l32_123, l32_125, l32_126, l32_200, l32_220, l32_224, l32_225, l32_226, l32_255, l32_256, l32_257, l32_258, l32_259, l32_290, l32_359, l32_500, l32_1000, l32_1001, l32_1002, l32_1024, l32_1200, i64lt, i64le, i64eq, i3264, l64_m9223372036854775808, l64_m2147483648, l64_m100, l64_m10, l64_m1, l64_0, l64_1, l64_2, l64_3, l64_4, l64_5, l64_6, l64_10, l64_15, l64_17, l64_20, l64_27, l64_30, l64_32, l64_35, l64_40, l64_41, l64_48, l64_57, l64_65, l64_66, l64_90, l64_97, l64_100, l64_102, l64_116, l64_122, l64_126, l64_128, l64_500, l64_14592, l64_16384, l64_65536, l64_2147483647, l64_4294967295, l64_9223372036854775807] at c))
    | (with_reducible refine st_some ?_)
    | (unfold f_q_isOperator_35)
    | (unfold f_q_isOperator_30)
    | (with_reducible exact k _ (by first | assumption | exact Or.inl rfl | exact Or.inr rfl))
    | (exact absurd rfl c0)
    | (exact absurd c0 (by decide)))
theorem s_q_five {w : WW}  {a0 : Int32} {a1 : Int32} {a2 : Int32} {a3 : Int32} {a4 : Int32}  {Q : (Int64 × WW) → Prop} (k : ∀ r, Q (r, w)) : wp (f_q_five a0 a1 a2 a3 a4 w) Q := by
  unfold f_q_five
  repeat' (first
    | ((with_reducible apply st_req); (case h => first | assumption | exact Or.inl rfl | exact Or.inr rfl | decide))
    | ((with_reducible refine st_ite (fun c => ?_) (fun c => ?_)) <;> (have c0 := c; try simp only [i32lt, i32le, i32eq, i32add, i32sub, i32mul, l32_m8, l32_m5, l32_m2, l32_m1, l32_0, l32_1, l32_2, l32_3, l32_4, l32_5, l32_6, l32_7, l32_8, l32_9, l32_10, l32_11, l32_12, l32_14, l32_15, l32_16, l32_18, l32_20, l32_25, l32_28, l32_30, l32_32, l32_33, l32_36, l32_37, l32_40, l32_41, l32_42, l32_43, l32_45, l32_47, l32_48, l32_50, l32_56, l32_57, l32_59, l32_60, l32_61, l32_65, l32_66, l32_80, l32_90, l32_91, l32_93, l32_97, l32_100, l32_101, l32_102, l32_104, l32_105, l32_108, l32_110, l32_115, l32_119, l32_122, l32_123, l32_125, l32_126, l32_200, l32_220, l32_224, l32_225, l32_226, l32_255, l32_256, l32_257, l32_258, l32_259, l32_290, l32_359, l32_500, l32_1000, l32_1001, l32_1002, l32_1024, l32_1200, i64lt, i64le, i64eq, i3264, l64_m9223372036854775808, l64_m2147483648, l64_m100, l64_m10, l64_m1, l64_0, l64_1, l64_2, l64_3, l64_4, l64_5, l64_6, l64_10, l64_15, l64_17, l64_20, l64_27, l64_30, l64_32, l64_35, l64_40, l64_41, l64_48, l64_57, l64_65, l64_66, l64_90, l64_97, l64_100, l64_102, l64_116, l64_122, l64_126, l64_128, l64_500, l64_14592, l64_16384, l64_65536, l64_2147483647, l64_4294967295, l64_9223372036854775807] at c))
    | (with_reducible refine st_some ?_)
    | (exact k _)
    | (exact absurd rfl c0)
    | (exact absurd c0 (by decide)))
def rk (x : Int32) : Int32 := if x = 43 then 1 else if x = 45 then 1 else 2
theorem s_q_rank {w : WW}  {a0 : Int32}  {Q : (Int32 × WW) → Prop} (k : ∀ r, ((r.toInt = 1 ∨ r.toInt = 2) ∧ r = rk a0) → Q (r, w)) : wp (f_q_rank a0 w) Q := by
  unfold f_q_rank
  repeat' (first
    | ((with_reducible apply st_req); (case h => first | assumption | exact Or.inl rfl | exact Or.inr rfl | decide))
    | ((with_reducible refine st_ite (fun c => ?_) (fun c => ?_)) <;> (have c0 := c; try simp only [i32lt, i32le, i32eq, i32add, i32sub, i32mul, l32_m8, l32_m5, l32_m2, l32_m1, l32_0, l32_1, l32_2, l32_3, l32_4, l32_5, l32_6, l32_7, l32_8, l32_9, l32_10, l32_11, l32_12, l32_14, l32_15, l32_16, l32_18, l32_20, l32_25, l32_28, l32_30, l32_32, l32_33, l32_36, l32_37, l32_40, l32_41, l32_42, l32_43, l32_45, l32_47, l32_48, l32_50, l32_56, l32_57, l32_59, l32_60, l32_61, l32_65, l32_66, l32_80, l32_90, l32_91, l32_93, l32_97, l32_100, l32_101, l32_102, l32_104, l32_105, l32_108, l32_110, l32_115, l32_119, l32_122, l32_123, l32_125, l32_126, l32_200, l32_220, l32_224, l32_225, l32_226, l32_255, l32_256, l32_257, l32_258, l32_259, l32_290, l32_359, l32_500, l32_1000, l32_1001, l32_1002, l32_1024, l32_1200, i64lt, i64le, i64eq, i3264, l64_m9223372036854775808, l64_m2147483648, l64_m100, l64_m10, l64_m1, l64_0, l64_1, l64_2, l64_3, l64_4, l64_5, l64_6, l64_10, l64_15, l64_17, l64_20, l64_27, l64_30, l64_32, l64_35, l64_40, l64_41, l64_48, l64_57, l64_65, l64_66, l64_90, l64_97, l64_100, l64_102, l64_116, l64_122, l64_126, l64_128, l64_500, l64_14592, l64_16384, l64_65536, l64_2147483647, l64_4294967295, l64_9223372036854775807] at c))
    | (with_reducible refine st_some ?_)
    | (unfold f_q_rank_17)
    | (unfold f_q_rank_12)
    | (exact k _ ⟨by decide, by unfold rk; simp_all⟩)
    | (exact absurd rfl c0)
    | (exact absurd c0 (by decide)))
theorem s_q_stepOf {w : WW}  {a0 : Int32}  {Q : (Int32 × WW) → Prop} (k : ∀ r, (5 ≤ r.toInt ∧ r.toInt ≤ 9) → Q (r, w)) : wp (f_q_stepOf a0 w) Q := by
  unfold f_q_stepOf
  repeat' (first
    | ((with_reducible apply st_req); (case h => first | assumption | exact Or.inl rfl | exact Or.inr rfl | decide))
    | ((with_reducible refine st_ite (fun c => ?_) (fun c => ?_)) <;> (have c0 := c; try simp only [i32lt, i32le, i32eq, i32add, i32sub, i32mul, l32_m8, l32_m5, l32_m2, l32_m1, l32_0, l32_1, l32_2, l32_3, l32_4, l32_5, l32_6, l32_7, l32_8, l32_9, l32_10, l32_11, l32_12, l32_14, l32_15, l32_16, l32_18, l32_20, l32_25, l32_28, l32_30, l32_32, l32_33, l32_36, l32_37, l32_40, l32_41, l32_42, l32_43, l32_45, l32_47, l32_48, l32_50, l32_56, l32_57, l32_59, l32_60, l32_61, l32_65, l32_66, l32_80, l32_90, l32_91, l32_93, l32_97, l32_100, l32_101, l32_102, l32_104, l32_105, l32_108, l32_110, l32_115, l32_119, l32_122, l32_123, l32_125, l32_126, l32_200, l32_220, l32_224, l32_225, l32_226, l32_255, l32_256, l32_257, l32_258, l32_259, l32_290, l32_359, l32_500, l32_1000, l32_1001, l32_1002, l32_1024, l32_1200, i64lt, i64le, i64eq, i3264, l64_m9223372036854775808, l64_m2147483648, l64_m100, l64_m10, l64_m1, l64_0, l64_1, l64_2, l64_3, l64_4, l64_5, l64_6, l64_10, l64_15, l64_17, l64_20, l64_27, l64_30, l64_32, l64_35, l64_40, l64_41, l64_48, l64_57, l64_65, l64_66, l64_90, l64_97, l64_100, l64_102, l64_116, l64_122, l64_126, l64_128, l64_500, l64_14592, l64_16384, l64_65536, l64_2147483647, l64_4294967295, l64_9223372036854775807] at c))
    | (with_reducible refine st_some ?_)
    | (unfold f_q_stepOf_45)
    | (exact k _ (by decide))
    | (exact absurd rfl c0)
    | (exact absurd c0 (by decide)))
theorem s_q_holds {w : WW}  {a0 : Int32} {a1 : Int32} {a2 : Int32}  {Q : (Int32 × WW) → Prop} (k : ∀ r, B01 r → Q (r, w)) : wp (f_q_holds a0 a1 a2 w) Q := by
  unfold f_q_holds
  repeat' (first
    | ((with_reducible apply st_req); (case h => first | assumption | exact Or.inl rfl | exact Or.inr rfl | decide))
    | ((with_reducible refine st_ite (fun c => ?_) (fun c => ?_)) <;> (have c0 := c; try simp only [i32lt, i32le, i32eq, i32add, i32sub, i32mul, l32_m8, l32_m5, l32_m2, l32_m1, l32_0, l32_1, l32_2, l32_3, l32_4, l32_5, l32_6, l32_7, l32_8, l32_9, l32_10, l32_11, l32_12, l32_14, l32_15, l32_16, l32_18, l32_20, l32_25, l32_28, l32_30, l32_32, l32_33, l32_36, l32_37, l32_40, l32_41, l32_42, l32_43, l32_45, l32_47, l32_48, l32_50, l32_56, l32_57, l32_59, l32_60, l32_61, l32_65, l32_66, l32_80, l32_90, l32_91, l32_93, l32_97, l32_100, l32_101, l32_102, l32_104, l32_105, l32_108, l32_110, l32_115, l32_119, l32_122, l32_123, l32_125, l32_126, l32_200, l32_220, l32_224, l32_225, l32_226, l32_255, l32_256, l32_257, l32_258, l32_259, l32_290, l32_359, l32_500, l32_1000, l32_1001, l32_1002, l32_1024, l32_1200, i64lt, i64le, i64eq, i3264, l64_m9223372036854775808, l64_m2147483648, l64_m100, l64_m10, l64_m1, l64_0, l64_1, l64_2, l64_3, l64_4, l64_5, l64_6, l64_10, l64_15, l64_17, l64_20, l64_27, l64_30, l64_32, l64_35, l64_40, l64_41, l64_48, l64_57, l64_65, l64_66, l64_90, l64_97, l64_100, l64_102, l64_116, l64_122, l64_126, l64_128, l64_500, l64_14592, l64_16384, l64_65536, l64_2147483647, l64_4294967295, l64_9223372036854775807] at c))
    | (with_reducible refine st_some ?_)
    | (unfold f_q_holds_63)
    | (with_reducible exact k _ (by first | assumption | exact Or.inl rfl | exact Or.inr rfl))
    | (exact absurd rfl c0)
    | (exact absurd c0 (by decide)))
theorem s_q_min {w : WW}  {a0 : Int64} {a2 : Int64}  {Q : (Int64 × WW) → Prop} (k : ∀ r, (r.toInt ≤ a0.toInt ∧ r.toInt ≤ a2.toInt) → Q (r, w)) : wp (f_q_min a0 a2 w) Q := by
  unfold f_q_min
  repeat' (first
    | ((with_reducible apply st_req); (case h => first | assumption | exact Or.inl rfl | exact Or.inr rfl | decide))
    | ((with_reducible refine st_ite (fun c => ?_) (fun c => ?_)) <;> (have c0 := c; try simp only [i32lt, i32le, i32eq, i32add, i32sub, i32mul, l32_m8, l32_m5, l32_m2, l32_m1, l32_0, l32_1, l32_2, l32_3, l32_4, l32_5, l32_6, l32_7, l32_8, l32_9, l32_10, l32_11, l32_12, l32_14, l32_15, l32_16, l32_18, l32_20, l32_25, l32_28, l32_30, l32_32, l32_33, l32_36, l32_37, l32_40, l32_41, l32_42, l32_43, l32_45, l32_47, l32_48, l32_50, l32_56, l32_57, l32_59, l32_60, l32_61, l32_65, l32_66, l32_80, l32_90, l32_91, l32_93, l32_97, l32_100, l32_101, l32_102, l32_104, l32_105, l32_108, l32_110, l32_115, l32_119, l32_122, l32_123, l32_125, l32_126, l32_200, l32_220, l32_224, l32_225, l32_226, l32_255, l32_256, l32_257, l32_258, l32_259, l32_290, l32_359, l32_500, l32_1000, l32_1001, l32_1002, l32_1024, l32_1200, i64lt, i64le, i64eq, i3264, l64_m9223372036854775808, l64_m2147483648, l64_m100, l64_m10, l64_m1, l64_0, l64_1, l64_2, l64_3, l64_4, l64_5, l64_6, l64_10, l64_15, l64_17, l64_20, l64_27, l64_30, l64_32, l64_35, l64_40, l64_41, l64_48, l64_57, l64_65, l64_66, l64_90, l64_97, l64_100, l64_102, l64_116, l64_122, l64_126, l64_128, l64_500, l64_14592, l64_16384, l64_65536, l64_2147483647, l64_4294967295, l64_9223372036854775807] at c))
    | (with_reducible refine st_some ?_)
    | (unfold f_q_min_11)
    | (exact k _ (by omega))
    | (exact absurd rfl c0)
    | (exact absurd c0 (by decide)))
theorem s_q_max {w : WW}  {a0 : Int64} {a2 : Int64}  {Q : (Int64 × WW) → Prop} (k : ∀ r, (a0.toInt ≤ r.toInt ∧ a2.toInt ≤ r.toInt) → Q (r, w)) : wp (f_q_max a0 a2 w) Q := by
  unfold f_q_max
  repeat' (first
    | ((with_reducible apply st_req); (case h => first | assumption | exact Or.inl rfl | exact Or.inr rfl | decide))
    | ((with_reducible refine st_ite (fun c => ?_) (fun c => ?_)) <;> (have c0 := c; try simp only [i32lt, i32le, i32eq, i32add, i32sub, i32mul, l32_m8, l32_m5, l32_m2, l32_m1, l32_0, l32_1, l32_2, l32_3, l32_4, l32_5, l32_6, l32_7, l32_8, l32_9, l32_10, l32_11, l32_12, l32_14, l32_15, l32_16, l32_18, l32_20, l32_25, l32_28, l32_30, l32_32, l32_33, l32_36, l32_37, l32_40, l32_41, l32_42, l32_43, l32_45, l32_47, l32_48, l32_50, l32_56, l32_57, l32_59, l32_60, l32_61, l32_65, l32_66, l32_80, l32_90, l32_91, l32_93, l32_97, l32_100, l32_101, l32_102, l32_104, l32_105, l32_108, l32_110, l32_115, l32_119, l32_122, l32_123, l32_125, l32_126, l32_200, l32_220, l32_224, l32_225, l32_226, l32_255, l32_256, l32_257, l32_258, l32_259, l32_290, l32_359, l32_500, l32_1000, l32_1001, l32_1002, l32_1024, l32_1200, i64lt, i64le, i64eq, i3264, l64_m9223372036854775808, l64_m2147483648, l64_m100, l64_m10, l64_m1, l64_0, l64_1, l64_2, l64_3, l64_4, l64_5, l64_6, l64_10, l64_15, l64_17, l64_20, l64_27, l64_30, l64_32, l64_35, l64_40, l64_41, l64_48, l64_57, l64_65, l64_66, l64_90, l64_97, l64_100, l64_102, l64_116, l64_122, l64_126, l64_128, l64_500, l64_14592, l64_16384, l64_65536, l64_2147483647, l64_4294967295, l64_9223372036854775807] at c))
    | (with_reducible refine st_some ?_)
    | (unfold f_q_max_11)
    | (exact k _ (by omega))
    | (exact absurd rfl c0)
    | (exact absurd c0 (by decide)))
theorem s_q_below {w : WW}  {a0 : Int64}  {Q : (Int64 × WW) → Prop} (k : ∀ r, Q (r, w)) : wp (f_q_below a0 w) Q := by
  unfold f_q_below
  repeat' (first
    | ((with_reducible apply st_req); (case h => first | assumption | exact Or.inl rfl | exact Or.inr rfl | decide))
    | ((with_reducible refine st_ite (fun c => ?_) (fun c => ?_)) <;> (have c0 := c; try simp only [i32lt, i32le, i32eq, i32add, i32sub, i32mul, l32_m8, l32_m5, l32_m2, l32_m1, l32_0, l32_1, l32_2, l32_3, l32_4, l32_5, l32_6, l32_7, l32_8, l32_9, l32_10, l32_11, l32_12, l32_14, l32_15, l32_16, l32_18, l32_20, l32_25, l32_28, l32_30, l32_32, l32_33, l32_36, l32_37, l32_40, l32_41, l32_42, l32_43, l32_45, l32_47, l32_48, l32_50, l32_56, l32_57, l32_59, l32_60, l32_61, l32_65, l32_66, l32_80, l32_90, l32_91, l32_93, l32_97, l32_100, l32_101, l32_102, l32_104, l32_105, l32_108, l32_110, l32_115, l32_119, l32_122, l32_123, l32_125, l32_126, l32_200, l32_220, l32_224, l32_225, l32_226, l32_255, l32_256, l32_257, l32_258, l32_259, l32_290, l32_359, l32_500, l32_1000, l32_1001, l32_1002, l32_1024, l32_1200, i64lt, i64le, i64eq, i3264, l64_m9223372036854775808, l64_m2147483648, l64_m100, l64_m10, l64_m1, l64_0, l64_1, l64_2, l64_3, l64_4, l64_5, l64_6, l64_10, l64_15, l64_17, l64_20, l64_27, l64_30, l64_32, l64_35, l64_40, l64_41, l64_48, l64_57, l64_65, l64_66, l64_90, l64_97, l64_100, l64_102, l64_116, l64_122, l64_126, l64_128, l64_500, l64_14592, l64_16384, l64_65536, l64_2147483647, l64_4294967295, l64_9223372036854775807] at c))
    | (with_reducible refine st_some ?_)
    | (unfold f_q_below_93)
    | (exact k _)
    | (exact absurd rfl c0)
    | (exact absurd c0 (by decide)))
theorem s_q_above {w : WW}  {a0 : Int64}  {Q : (Int64 × WW) → Prop} (k : ∀ r, Q (r, w)) : wp (f_q_above a0 w) Q := by
  unfold f_q_above
  repeat' (first
    | ((with_reducible apply st_req); (case h => first | assumption | exact Or.inl rfl | exact Or.inr rfl | decide))
    | ((with_reducible refine st_ite (fun c => ?_) (fun c => ?_)) <;> (have c0 := c; try simp only [i32lt, i32le, i32eq, i32add, i32sub, i32mul, l32_m8, l32_m5, l32_m2, l32_m1, l32_0, l32_1, l32_2, l32_3, l32_4, l32_5, l32_6, l32_7, l32_8, l32_9, l32_10, l32_11, l32_12, l32_14, l32_15, l32_16, l32_18, l32_20, l32_25, l32_28, l32_30, l32_32, l32_33, l32_36, l32_37, l32_40, l32_41, l32_42, l32_43, l32_45, l32_47, l32_48, l32_50, l32_56, l32_57, l32_59, l32_60, l32_61, l32_65, l32_66, l32_80, l32_90, l32_91, l32_93, l32_97, l32_100, l32_101, l32_102, l32_104, l32_105, l32_108, l32_110, l32_115, l32_119, l32_122, l32_123, l32_125, l32_126, l32_200, l32_220, l32_224, l32_225, l32_226, l32_255, l32_256, l32_257, l32_258, l32_259, l32_290, l32_359, l32_500, l32_1000, l32_1001, l32_1002, l32_1024, l32_1200, i64lt, i64le, i64eq, i3264, l64_m9223372036854775808, l64_m2147483648, l64_m100, l64_m10, l64_m1, l64_0, l64_1, l64_2, l64_3, l64_4, l64_5, l64_6, l64_10, l64_15, l64_17, l64_20, l64_27, l64_30, l64_32, l64_35, l64_40, l64_41, l64_48, l64_57, l64_65, l64_66, l64_90, l64_97, l64_100, l64_102, l64_116, l64_122, l64_126, l64_128, l64_500, l64_14592, l64_16384, l64_65536, l64_2147483647, l64_4294967295, l64_9223372036854775807] at c))
    | (with_reducible refine st_some ?_)
    | (unfold f_q_above_93)
    | (exact k _)
    | (exact absurd rfl c0)
    | (exact absurd c0 (by decide)))
theorem s_q_left_JJ {w : WW}  {a0 : Int64} {a2 : Int64}  {Q : (Int64 × WW) → Prop} (k : ∀ r, Q (r, w)) : wp (f_q_left_JJ a0 a2 w) Q := by
  unfold f_q_left_JJ
  repeat' (first
    | ((with_reducible apply st_req); (case h => first | assumption | exact Or.inl rfl | exact Or.inr rfl | decide))
    | ((with_reducible refine st_ite (fun c => ?_) (fun c => ?_)) <;> (have c0 := c; try simp only [i32lt, i32le, i32eq, i32add, i32sub, i32mul, l32_m8, l32_m5, l32_m2, l32_m1, l32_0, l32_1, l32_2, l32_3, l32_4, l32_5, l32_6, l32_7, l32_8, l32_9, l32_10, l32_11, l32_12, l32_14, l32_15, l32_16, l32_18, l32_20, l32_25, l32_28, l32_30, l32_32, l32_33, l32_36, l32_37, l32_40, l32_41, l32_42, l32_43, l32_45, l32_47, l32_48, l32_50, l32_56, l32_57, l32_59, l32_60, l32_61, l32_65, l32_66, l32_80, l32_90, l32_91, l32_93, l32_97, l32_100, l32_101, l32_102, l32_104, l32_105, l32_108, l32_110, l32_115, l32_119, l32_122, l32_123, l32_125, l32_126, l32_200, l32_220, l32_224, l32_225, l32_226, l32_255, l32_256, l32_257, l32_258, l32_259, l32_290, l32_359, l32_500, l32_1000, l32_1001, l32_1002, l32_1024, l32_1200, i64lt, i64le, i64eq, i3264, l64_m9223372036854775808, l64_m2147483648, l64_m100, l64_m10, l64_m1, l64_0, l64_1, l64_2, l64_3, l64_4, l64_5, l64_6, l64_10, l64_15, l64_17, l64_20, l64_27, l64_30, l64_32, l64_35, l64_40, l64_41, l64_48, l64_57, l64_65, l64_66, l64_90, l64_97, l64_100, l64_102, l64_116, l64_122, l64_126, l64_128, l64_500, l64_14592, l64_16384, l64_65536, l64_2147483647, l64_4294967295, l64_9223372036854775807] at c))
    | (with_reducible refine st_some ?_)
    | (unfold f_q_left_JJ_29)
    | (exact k _)
    | (exact absurd rfl c0)
    | (exact absurd c0 (by decide)))
set_option maxHeartbeats 4000000 in
theorem s_q_isWide {I : IM} {J : JM} {R : RM} (hR : QR R)  {a1 : Int64} {a3 : Int64}  {Q : (Int32 × WW) → Prop} (k : ∀ r, B01 r → Q (r, mk I J R)) : wp (f_q_isWide 373 a1 a3 (mk I J R)) Q := by
  unfold f_q_isWide
  repeat' (first
    | ((with_reducible apply st_kb); (case hl => exact rfl))
    | ((with_reducible apply st_req); (case h => first | assumption | exact Or.inl rfl | exact Or.inr rfl | decide))
    | ((with_reducible refine st_ite (fun c => ?_) (fun c => ?_)) <;> (have c0 := c; try simp only [i32lt, i32le, i32eq, i32add, i32sub, i32mul, l32_m8, l32_m5, l32_m2, l32_m1, l32_0, l32_1, l32_2, l32_3, l32_4, l32_5, l32_6, l32_7, l32_8, l32_9, l32_10, l32_11, l32_12, l32_14, l32_15, l32_16, l32_18, l32_20, l32_25, l32_28, l32_30, l32_32, l32_33, l32_36, l32_37, l32_40, l32_41, l32_42, l32_43, l32_45, l32_47, l32_48, l32_50, l32_56, l32_57, l32_59, l32_60, l32_61, l32_65, l32_66, l32_80, l32_90, l32_91, l32_93, l32_97, l32_100, l32_101, l32_102, l32_104, l32_105, l32_108, l32_110, l32_115, l32_119, l32_122, l32_123, l32_125, l32_126, l32_200, l32_220, l32_224, l32_225, l32_226, l32_255, l32_256, l32_257, l32_258, l32_259, l32_290, l32_359, l32_500, l32_1000, l32_1001, l32_1002, l32_1024, l32_1200, i64lt, i64le, i64eq, i3264, l64_m9223372036854775808, l64_m2147483648, l64_m100, l64_m10, l64_m1, l64_0, l64_1, l64_2, l64_3, l64_4, l64_5, l64_6, l64_10, l64_15, l64_17, l64_20, l64_27, l64_30, l64_32, l64_35, l64_40, l64_41, l64_48, l64_57, l64_65, l64_66, l64_90, l64_97, l64_100, l64_102, l64_116, l64_122, l64_126, l64_128, l64_500, l64_14592, l64_16384, l64_65536, l64_2147483647, l64_4294967295, l64_9223372036854775807] at c))
    | (with_reducible refine st_some ?_)
    | (unfold f_q_isWide_21)
    | (unfold f_q_isWide_16)
    | (with_reducible exact k _ (by first | assumption | exact Or.inl rfl | exact Or.inr rfl))
    | (exact absurd rfl c0)
    | (exact absurd c0 (by decide)))
set_option maxHeartbeats 4000000 in
theorem s_q_fail {I : IM} {J : JM} {R : RM} (hR : QR R)  {a1 : Int32}  {Q : (Int32 × WW) → Prop} (k : Q (0, mk (up2 I 373 5 a1) J R)) : wp (f_q_fail 373 a1 (mk I J R)) Q := by
  unfold f_q_fail
  repeat' (first
    | ((with_reducible apply st_kb); (case hl => exact rfl))
    | ((with_reducible apply st_pI); (case hl => exact rfl); (case hk => exact rfl))
    | ((with_reducible apply st_req); (case h => first | assumption | exact Or.inl rfl | exact Or.inr rfl | decide))
    | ((with_reducible refine st_ite (fun c => ?_) (fun c => ?_)) <;> (have c0 := c; try simp only [i32lt, i32le, i32eq, i32add, i32sub, i32mul, l32_m8, l32_m5, l32_m2, l32_m1, l32_0, l32_1, l32_2, l32_3, l32_4, l32_5, l32_6, l32_7, l32_8, l32_9, l32_10, l32_11, l32_12, l32_14, l32_15, l32_16, l32_18, l32_20, l32_25, l32_28, l32_30, l32_32, l32_33, l32_36, l32_37, l32_40, l32_41, l32_42, l32_43, l32_45, l32_47, l32_48, l32_50, l32_56, l32_57, l32_59, l32_60, l32_61, l32_65, l32_66, l32_80, l32_90, l32_91, l32_93, l32_97, l32_100, l32_101, l32_102, l32_104, l32_105, l32_108, l32_110, l32_115, l32_119, l32_122, l32_123, l32_125, l32_126, l32_200, l32_220, l32_224, l32_225, l32_226, l32_255, l32_256, l32_257, l32_258, l32_259, l32_290, l32_359, l32_500, l32_1000, l32_1001, l32_1002, l32_1024, l32_1200, i64lt, i64le, i64eq, i3264, l64_m9223372036854775808, l64_m2147483648, l64_m100, l64_m10, l64_m1, l64_0, l64_1, l64_2, l64_3, l64_4, l64_5, l64_6, l64_10, l64_15, l64_17, l64_20, l64_27, l64_30, l64_32, l64_35, l64_40, l64_41, l64_48, l64_57, l64_65, l64_66, l64_90, l64_97, l64_100, l64_102, l64_116, l64_122, l64_126, l64_128, l64_500, l64_14592, l64_16384, l64_65536, l64_2147483647, l64_4294967295, l64_9223372036854775807] at c))
    | (with_reducible refine st_some ?_)
    | (exact k)
    | (exact absurd rfl c0)
    | (exact absurd c0 (by decide)))
