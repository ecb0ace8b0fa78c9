/-! what is laid, in the reference's own order; the simple calls -/
theorem bl {x y : Int32} {A B : Prop} (a b : Int) (hx : x.toInt = a) (hy : y.toInt = b) (f : a < b → A) (g : b ≤ a → B) : (x < y → A) ∧ (¬ x < y → B) := by
  subst hx hy
  exact ⟨fun q => f (i32_lt.mp q), fun q => g (Int.not_lt.mp fun z => q (i32_lt.mpr z))⟩
theorem b_le {x y : Int32} {A B : Prop} (a b : Int) (hx : x.toInt = a) (hy : y.toInt = b) (f : a ≤ b → A) (g : b < a → B) : (x ≤ y → A) ∧ (¬ x ≤ y → B) := by
  subst hx hy
  exact ⟨fun q => f (i32_le.mp q), fun q => g (Int.not_le.mp fun z => q (i32_le.mpr z))⟩
theorem bq {x y : Int32} {A B : Prop} (a b : Int) (hx : x.toInt = a) (hy : y.toInt = b) (f : a = b → A) (g : a ≠ b → B) : (x = y → A) ∧ (¬ x = y → B) := by
  subst hx hy
  exact ⟨fun q => f (i32_eq.mp q), fun q => g fun z => q (i32_eq.mpr z)⟩
theorem t1 {A B : Prop} (b : B) : (nI 1 = (0 : Int32) → A) ∧ (¬ nI 1 = (0 : Int32) → B) := ⟨fun h => absurd h (by first | decide | exact vd (by decide)), fun _ => b⟩
theorem t0 {A B : Prop} (a : A) : (nI 0 = (0 : Int32) → A) ∧ (¬ nI 0 = (0 : Int32) → B) := ⟨fun _ => a, fun h => absurd rfl h⟩
theorem nI_of3 {x : Int32} {n : Nat} (hn : n < 2 ^ 31) (h0 : 0 ≤ x.toInt) (h1 : x.toInt < n) : ∃ k : Nat, k < n ∧ x = nI k ∧ x.toInt = k := by
  obtain ⟨k, hk, e⟩ := vp_in_of (x := x) (n := n) (vp_in_iff.mpr ⟨h0, h1⟩) hn
  exact ⟨k, hk, e, by rw [e, nI_toInt (by omega)]⟩
def OKL (A : Nat → Nat) : Prop := (A 0 ≤ 8 ∧ 1 ≤ A 1 ∧ A 1 ≤ 6) ∧ (A 2 ≤ 99 ∧ A 3 ≤ 99 ∧ A 4 ≤ 10) ∧ (∀ k, 1 ≤ k → k ≤ A 0 → 1 ≤ A (2 + 3 * k) ∧ A (2 + 3 * k) ≤ 60 ∧ A (3 + 3 * k) ≤ 10 ∧ A (4 + 3 * k) ≤ 10) ∧ (∀ k, k < 4 → A (29 + 2 * k) ≤ 5 ∧ A (30 + 2 * k) ≤ 60) ∧ (∀ i j, i < 6 → j < 6 → A (37 + 6 * i + j) ≤ 9 ∧ A (37 + 6 * j + i) = A (37 + 6 * i + j))
def CL (A : Nat → Nat) (st cO cB fB fd : Int32) (mi lo ba sl ta : Nat → Int32) (ti : Nat → Nat → Int32) : Prop := (st = nI (A 0) ∧ fd = nI (A 1) ∧ cO = nI (A 2) ∧ cB = nI (A 3) ∧ fB = nI (A 4)) ∧ (∀ k, 1 ≤ k → k ≤ A 0 → mi k = nI (A (2 + 3 * k)) ∧ lo k = nI (A (3 + 3 * k)) ∧ ba k = nI (A (4 + 3 * k))) ∧ (∀ k, k < 4 → sl k = nI (A (29 + 2 * k)) ∧ ta k = nI (A (30 + 2 * k))) ∧ (∀ i j, i < 6 → j < 6 → ti i j = nI (A (37 + 6 * i + j)))
def RLd (A : Nat → Nat) (la : Nat → Int32) : Prop := ∀ k, k < 73 → la k = nI (A k)
/-! write, wipe -/
def ok_w (x : Int32) : Prop := 32 ≤ x.toInt ∧ x.toInt ≤ 126
theorem C_write {x : Int32} {n : Nat} {ys : Nat → Int32} {Post : Int32 → Int32 → (Nat → Int32) → Prop} (hn : n ≤ 200) (f : ok_w x → n < 200 → Post (nI (n + 1)) (nI (n + 1)) (upd ys n x)) (g : ok_w x → n = 200 → Post (-3) (nI n) ys) (b : ¬ ok_w x → Post (-1) (nI n) ys) : qv_X7_write x (nI n) ys Post := by
  have tn : (nI n).toInt = n := nI_toInt (by omega)
  refine bl x.toInt 32 rfl rfl (fun q => b (by unfold ok_w; omega)) (fun q => b_le x.toInt 126 rfl rfl (fun q2 => ?_) (fun q2 => b (by unfold ok_w; omega)))
  obtain ⟨k, hk, rfl, ek⟩ := nI_of3 (x := x) (n := 127) (by first | decide | exact vd (by decide)) (by omega) (by omega)
  have hok : ok_w (nI k) := ⟨q, q2⟩
  refine bl n 200 tn rfl (fun q3 => ?_) (fun q3 => g hok (by omega))
  refine b_le 200 n rfl tn (fun q4 => absurd q4 (by omega)) (fun q4 => ⟨vp_in_nI (by omega) (by first | decide | exact vd (by decide)), ?_⟩)
  have e1 : ((nI k).toUInt32 % 65536).toInt32 = nI k := (sb_byte k (by omega)).2.1
  have e2 : vp_nar .char (nI k) = nI k := by
    unfold vp_nar
    rw [(pk_charN (q := k) (by omega)).1]
  rw [e1, e2, nI_clamp (by omega), nI_1]
  exact f hok (by omega)
theorem R_write {x : Int32} {n : Nat} {ys : Nat → Int32} {Post : Int32 → Int32 → (Nat → Int32) → Prop} (hn : n ≤ 200) (f : ok_w x → n < 200 → Post (nI (n + 1)) (nI (n + 1)) (upd ys n x)) (g : ok_w x → n = 200 → Post (-3) (nI n) ys) (b : ¬ ok_w x → Post (-1) (nI n) ys) : qv_X8_write x (nI n) ys Post := by
  have tn : (nI n).toInt = n := nI_toInt (by omega)
  refine R_inI 32 126 rfl rfl (fun q q2 => t1 ?_) (fun q => t0 (b (by unfold ok_w; omega)))
  refine bq n 200 tn rfl (fun q3 => g ⟨q, q2⟩ (by omega)) (fun q3 => ⟨vp_in_nI (by omega) (by first | decide | exact vd (by decide)), ?_⟩)
  rw [nI_clamp (by omega), nI_1]
  exact f ⟨q, q2⟩ (by omega)
section SM
variable {A : Nat → Nat} {st cO cB fB fd : Int32} {mi lo ba sl ta : Nat → Int32} {ti : Nat → Nat → Int32} {la : Nat → Int32}
/-! stretch, sort, cost, tie -/
def a_stretch (A : Nat → Nat) (x1 x2 : Int32) : Int32 := if 1 ≤ x1.toInt ∧ x1.toInt ≤ A 0 ∧ 0 ≤ x2.toInt ∧ x2.toInt ≤ 2 then nI (A (2 + 3 * x1.toInt.toNat + x2.toInt.toNat)) else -1
theorem C_stretch (hA : OKL A) (hC : CL A st cO cB fB fd mi lo ba sl ta ti) {x1 x2 : Int32} {Post : Int32 → Prop} (h : Post (a_stretch A x1 x2)) : qv_X7_stretch x1 x2 st mi lo ba Post := by
  obtain ⟨⟨e0, e1, e2, e3, e4⟩, em, es, et⟩ := hC
  have hA0 := hA.1.1
  have tst : st.toInt = A 0 := by rw [e0, nI_toInt (by omega)]
  have bad : ¬ (1 ≤ x1.toInt ∧ x1.toInt ≤ A 0 ∧ 0 ≤ x2.toInt ∧ x2.toInt ≤ 2) → Post (-1) := fun q => by rw [a_stretch, if_neg q] at h; exact h
  refine bl x1.toInt 1 rfl rfl (fun q => bad (by omega)) (fun q => b_le x1.toInt (A 0) rfl tst (fun q2 => ?_) (fun q2 => bad (by omega)))
  obtain ⟨k, hk, rfl, ek⟩ := nI_of3 (x := x1) (n := 9) (by first | decide | exact vd (by decide)) (by omega) (by omega)
  obtain ⟨m1, m2, m3⟩ := em k (by omega) (by omega)
  have hin : vp_in (nI k) 9 := vp_in_nI hk (by first | decide | exact vd (by decide))
  rw [nI_clamp (by omega), m1, m2, m3]
  have good : ∀ w : Nat, w ≤ 2 → x2 = nI w → Post (nI (A (2 + 3 * k + w))) := fun w hw e => by
    subst e
    have ew : (nI w).toInt = w := nI_toInt (by omega)
    rw [a_stretch, if_pos (by omega), ek, ew] at h
    exact h
  exact ⟨fun e => ⟨hin, good 0 (by omega) e⟩, fun e => ⟨hin, by have := good 1 (by omega) e; rwa [show 2 + 3 * k + 1 = 3 + 3 * k by omega] at this⟩, fun e => ⟨hin, by have := good 2 (by omega) e; rwa [show 2 + 3 * k + 2 = 4 + 3 * k by omega] at this⟩, fun e => bad (by omega)⟩
theorem R_stretch (hA : OKL A) (hR : RLd A la) {x1 x2 : Int32} {Post : Int32 → Prop} (h : Post (a_stretch A x1 x2)) : qv_X8_stretch x1 x2 la Post := by
  have hA0 := hA.1.1
  have e0 : la ((0 : Int32).toNatClampNeg) = nI (A 0) := hR 0 (by first | decide | exact vd (by decide))
  have bad : ¬ (1 ≤ x1.toInt ∧ x1.toInt ≤ A 0 ∧ 0 ≤ x2.toInt ∧ x2.toInt ≤ 2) → Post (-1) := fun q => by rw [a_stretch, if_neg q] at h; exact h
  refine ⟨by first | decide | exact vd (by decide), R_inI 1 (A 0) rfl (by rw [e0, Int32.toInt_toInt64, nI_toInt (by omega)]) (fun q q2 => t1 (R_inI 0 2 rfl rfl (fun q3 q4 => t1 ?_) (fun q3 => t0 (bad (by omega))))) (fun q => t0 (bad (by omega)))⟩
  obtain ⟨k, hk, rfl, ek⟩ := nI_of3 (x := x1) (n := 9) (by first | decide | exact vd (by decide)) (by omega) (by omega)
  obtain ⟨w, hw, rfl, ew⟩ := nI_of3 (x := x2) (n := 3) (by first | decide | exact vd (by decide)) (by omega) (by omega)
  rw [a_stretch, if_pos (by omega), ek, ew] at h
  have e : (2 : Int32) + (3 : Int32) * nI k + nI w = nI (2 + 3 * k + w) := by rw [li_2, li_3, pk_mul, nI_add, nI_add]
  rw [e, nI_clamp (by omega), hR _ (by omega)]
  exact ⟨vp_in_nI (by omega) (by first | decide | exact vd (by decide)), h⟩
def a_sort (A : Nat → Nat) (x1 x2 : Int32) : Int32 := if 0 ≤ x1.toInt ∧ x1.toInt ≤ 3 ∧ 0 ≤ x2.toInt ∧ x2.toInt ≤ 1 then nI (A (29 + 2 * x1.toInt.toNat + x2.toInt.toNat)) else -1
theorem C_isSort {x : Int32} {Post : Int32 → Prop} (f : 0 ≤ x.toInt → x.toInt ≤ 3 → Post (nI 1)) (g : x.toInt < 0 ∨ 3 < x.toInt → Post (nI 0)) : qv_X7_isSort x Post :=
  bl x.toInt 0 rfl rfl (fun q => g (by omega)) (fun q => b_le 4 x.toInt rfl rfl (fun q2 => g (by omega)) (fun q2 => f (by omega) (by omega)))
theorem C_sort (hC : CL A st cO cB fB fd mi lo ba sl ta ti) {x1 x2 : Int32} {Post : Int32 → Prop} (h : Post (a_sort A x1 x2)) : qv_X7_sort x1 x2 sl ta Post := by
  obtain ⟨⟨e0, e1, e2, e3, e4⟩, em, es, et⟩ := hC
  have bad : ¬ (0 ≤ x1.toInt ∧ x1.toInt ≤ 3 ∧ 0 ≤ x2.toInt ∧ x2.toInt ≤ 1) → Post (-1) := fun q => by rw [a_sort, if_neg q] at h; exact h
  refine C_isSort (fun q q2 => t1 ?_) (fun q => t0 (bad (by omega)))
  obtain ⟨k, hk, rfl, ek⟩ := nI_of3 (x := x1) (n := 4) (by first | decide | exact vd (by decide)) (by omega) (by omega)
  obtain ⟨m1, m2⟩ := es k (by omega)
  have hin : vp_in (nI k) 4 := vp_in_nI hk (by first | decide | exact vd (by decide))
  rw [nI_clamp (by omega), m1, m2]
  have good : ∀ w : Nat, w ≤ 1 → x2.toInt = w → Post (nI (A (29 + 2 * k + w))) := fun w hw e => by
    rw [a_sort, if_pos (by omega), ek, e] at h
    exact h
  exact bq x2.toInt 0 rfl rfl (fun e => ⟨hin, good 0 (by omega) e⟩) (fun e => bq x2.toInt 1 rfl rfl (fun e => ⟨hin, by have := good 1 (by omega) e; rwa [show 29 + 2 * k + 1 = 30 + 2 * k by omega] at this⟩) (fun e => bad (by omega)))
theorem R_sort (hR : RLd A la) {x1 x2 : Int32} {Post : Int32 → Prop} (h : Post (a_sort A x1 x2)) : qv_X8_sort x1 x2 la Post := by
  have bad : ¬ (0 ≤ x1.toInt ∧ x1.toInt ≤ 3 ∧ 0 ≤ x2.toInt ∧ x2.toInt ≤ 1) → Post (-1) := fun q => by rw [a_sort, if_neg q] at h; exact h
  refine R_inI 0 3 rfl rfl (fun q q2 => t1 (R_inI 0 1 rfl rfl (fun q3 q4 => t1 ?_) (fun q3 => t0 (bad (by omega))))) (fun q => t0 (bad (by omega)))
  obtain ⟨k, hk, rfl, ek⟩ := nI_of3 (x := x1) (n := 4) (by first | decide | exact vd (by decide)) (by omega) (by omega)
  obtain ⟨w, hw, rfl, ew⟩ := nI_of3 (x := x2) (n := 2) (by first | decide | exact vd (by decide)) (by omega) (by omega)
  rw [a_sort, if_pos (by omega), ek, ew] at h
  have e : (29 : Int32) + (2 : Int32) * nI k + nI w = nI (29 + 2 * k + w) := by rw [li_2, li_29, pk_mul, nI_add, nI_add]
  rw [e, nI_clamp (by omega), hR _ (by omega)]
  exact ⟨vp_in_nI (by omega) (by first | decide | exact vd (by decide)), h⟩
def a_cost (A : Nat → Nat) (x : Int32) : Int32 := if 0 ≤ x.toInt ∧ x.toInt ≤ 2 then nI (A (2 + x.toInt.toNat)) else -1
theorem C_cost (hC : CL A st cO cB fB fd mi lo ba sl ta ti) {x : Int32} {Post : Int32 → Prop} (h : Post (a_cost A x)) : qv_X7_cost x cO cB fB Post := by
  obtain ⟨⟨e0, e1, rfl, rfl, rfl⟩, em, es, et⟩ := hC
  refine ⟨fun e => ?_, fun e => ?_, fun e => ?_, fun e => ?_⟩
  · subst e; exact h
  · subst e; exact h
  · subst e; exact h
  · rw [a_cost, if_neg (by omega)] at h; exact h
theorem R_cost (hR : RLd A la) {x : Int32} {Post : Int32 → Prop} (h : Post (a_cost A x)) : qv_X8_cost x la Post := by
  refine R_inI 0 2 rfl rfl (fun q q2 => t1 ?_) (fun q => t0 (by rw [a_cost, if_neg (by omega)] at h; exact h))
  obtain ⟨k, hk, rfl, ek⟩ := nI_of3 (x := x) (n := 3) (by first | decide | exact vd (by decide)) (by omega) (by omega)
  rw [a_cost, if_pos (by omega), ek] at h
  have e : (2 : Int32) + nI k = nI (2 + k) := by rw [li_2, nI_add]
  rw [e, nI_clamp (by omega), hR _ (by omega)]
  exact ⟨vp_in_nI (by omega) (by first | decide | exact vd (by decide)), h⟩
theorem C_isFriend (hA : OKL A) (hf : fd = nI (A 1)) {x : Int32} {Post : Int32 → Prop} (f : ∀ k : Nat, k < A 1 → x = nI k → x.toInt = k → Post (nI 1)) (g : x.toInt < 0 ∨ A 1 ≤ x.toInt → Post (nI 0)) : qv_X7_isFriend x fd Post := by
  have hA1 := hA.1.2.2
  have tf : fd.toInt = A 1 := by rw [hf, nI_toInt (by omega)]
  refine bl x.toInt 0 rfl rfl (fun q => g (by omega)) (fun q => b_le (A 1) x.toInt tf rfl (fun q2 => g (by omega)) (fun q2 => ?_))
  obtain ⟨k, hk, e, ek⟩ := nI_of3 (x := x) (n := A 1) (by omega) (by omega) (by omega)
  exact f k hk e ek
theorem R_isFriend (hA : OKL A) (hR : RLd A la) {x : Int32} {Post : Int32 → Prop} (f : ∀ k : Nat, k < A 1 → x = nI k → x.toInt = k → Post (nI 1)) (g : x.toInt < 0 ∨ A 1 ≤ x.toInt → Post (nI 0)) : qv_X8_isFriend x la Post := by
  have hA1 := hA.1.2.2
  have hA2 := hA.1.2.1
  have e1 : la ((1 : Int32).toNatClampNeg) = nI (A 1) := hR 1 (by first | decide | exact vd (by decide))
  refine ⟨by first | decide | exact vd (by decide), ?_⟩
  rw [e1]
  have e2 : nI (A 1) - (1 : Int32) = nI (A 1 - 1) := by rw [li_1, pk_sub hA2]
  refine R_inI 0 (A 1 - 1 : Nat) rfl (by rw [e2, Int32.toInt_toInt64, nI_toInt (by omega)]) (fun q q2 => ⟨rfl, ?_⟩) (fun q => ⟨rfl, g (by omega)⟩)
  obtain ⟨k, hk, e, ek⟩ := nI_of3 (x := x) (n := A 1) (by omega) (by omega) (by omega)
  exact f k hk e ek
def a_tie (A : Nat → Nat) (x1 x2 : Int32) : Int32 := if 0 ≤ x1.toInt ∧ x1.toInt < A 1 ∧ 0 ≤ x2.toInt ∧ x2.toInt < A 1 ∧ x1.toInt ≠ x2.toInt then nI (A (37 + 6 * x1.toInt.toNat + x2.toInt.toNat)) else -1
theorem C_tie (hA : OKL A) (hC : CL A st cO cB fB fd mi lo ba sl ta ti) {x1 x2 : Int32} {Post : Int32 → Prop} (h : Post (a_tie A x1 x2)) : qv_X7_tie x1 x2 fd ti Post := by
  obtain ⟨⟨e0, e1, e2, e3, e4⟩, em, es, et⟩ := hC
  have hA1 := hA.1.2.2
  have bad : ¬ (0 ≤ x1.toInt ∧ x1.toInt < A 1 ∧ 0 ≤ x2.toInt ∧ x2.toInt < A 1 ∧ x1.toInt ≠ x2.toInt) → Post (-1) := fun q => by rw [a_tie, if_neg q] at h; exact h
  refine C_isFriend hA e1 (fun k hk e ek => t1 (C_isFriend hA e1 (fun j hj e' ej => t1 ?_) (fun q => t0 (bad (by omega))))) (fun q => t0 (bad (by omega)))
  refine bq x1.toInt x2.toInt rfl rfl (fun q => bad (by omega)) (fun q => ?_)
  rw [a_tie, if_pos (by omega), ek, ej] at h
  subst e e'
  refine ⟨vp_in_nI (by omega) (by first | decide | exact vd (by decide)), vp_in_nI (by omega) (by first | decide | exact vd (by decide)), ?_⟩
  rw [nI_clamp (by omega), nI_clamp (by omega), et k j (by omega) (by omega)]
  exact h
theorem R_tie (hA : OKL A) (hR : RLd A la) {x1 x2 : Int32} {Post : Int32 → Prop} (h : Post (a_tie A x1 x2)) : qv_X8_tie x1 x2 la Post := by
  have hA1 := hA.1.2.2
  have bad : ¬ (0 ≤ x1.toInt ∧ x1.toInt < A 1 ∧ 0 ≤ x2.toInt ∧ x2.toInt < A 1 ∧ x1.toInt ≠ x2.toInt) → Post (-1) := fun q => by rw [a_tie, if_neg q] at h; exact h
  refine R_isFriend hA hR (fun k hk e ek => t1 (R_isFriend hA hR (fun j hj e' ej => t1 ?_) (fun q => t0 (bad (by omega))))) (fun q => t0 (bad (by omega)))
  refine bq x1.toInt x2.toInt rfl rfl (fun q => bad (by omega)) (fun q => ?_)
  rw [a_tie, if_pos (by omega), ek, ej] at h
  subst e e'
  have e : (37 : Int32) + (6 : Int32) * nI k + nI j = nI (37 + 6 * k + j) := by rw [li_37, li_6, pk_mul, nI_add, nI_add]
  rw [e, nI_clamp (by omega), hR _ (by omega)]
  exact ⟨vp_in_nI (by omega) (by first | decide | exact vd (by decide)), h⟩
/-! schools -/
theorem C_isOfSchool {x : Int32} {Post : Int32 → Prop} (f : 0 ≤ x.toInt → x.toInt ≤ 20 → Post (nI 1)) (g : x.toInt < 0 ∨ 20 < x.toInt → Post (nI 0)) : qv_X7_isOfSchool x Post :=
  bl x.toInt 0 rfl rfl (fun q => g (by omega)) (fun q => bl 20 x.toInt rfl rfl (fun q2 => g (by omega)) (fun q2 => f (by omega) (by omega)))
def a_schools (x1 x2 x3 : Int32) : Int32 := if 0 ≤ x1.toInt ∧ x1.toInt ≤ 20 ∧ 0 ≤ x2.toInt ∧ x2.toInt ≤ 20 ∧ 0 ≤ x3.toInt ∧ x3.toInt ≤ 1 then (if x1.toInt = 0 ∨ x2.toInt = 0 then 0 else if x3.toInt = 0 then (if x2.toInt ≤ x1.toInt then x2 else x1) else x1 + x2 - 1) else -1
theorem sch_min {x1 x2 : Int32} (h1 : 0 ≤ x1.toInt) (h2 : 0 ≤ x2.toInt) (h : x1.toInt = 0 ∨ x2.toInt = 0) : (if x2 < x1 then x2 else x1) = 0 := by
  rcases h with h | h
  · rw [if_neg (by rw [i32_lt]; omega)]; exact i32_eq.mpr h
  · by_cases q : x2 < x1
    · rw [if_pos q]; exact i32_eq.mpr h
    · rw [if_neg q]; rw [i32_lt] at q; exact i32_eq.mpr (show x1.toInt = 0 by omega)
theorem C_schools {x1 x2 x3 : Int32} {Post : Int32 → Prop} (h : Post (a_schools x1 x2 x3)) : qv_X7_schools x1 x2 x3 Post := by
  have bad : ¬ (0 ≤ x1.toInt ∧ x1.toInt ≤ 20 ∧ 0 ≤ x2.toInt ∧ x2.toInt ≤ 20 ∧ 0 ≤ x3.toInt ∧ x3.toInt ≤ 1) → Post (-1) := fun q => by rw [a_schools, if_neg q] at h; exact h
  refine C_isOfSchool (fun a1 a2 => t1 (C_isOfSchool (fun b1 b2 => t1 ?_) (fun q => t0 (bad (by omega))))) (fun q => t0 (bad (by omega)))
  have key : (0 ≤ x3.toInt ∧ x3.toInt ≤ 1) → qv_X7_schools_J25 x1 x2 x3 Post := fun c => by
    rw [a_schools, if_pos (by omega)] at h
    have zer : (x1.toInt = 0 ∨ x2.toInt = 0) → Post (if x2 < x1 then x2 else x1) := fun q => by
      rw [if_pos q] at h; rw [sch_min a1 b1 q]; exact h
    refine bq x3.toInt 0 rfl rfl (fun c3 => ?_) (fun c3 => bq x1.toInt 0 rfl rfl (fun q => zer (Or.inl q)) (fun q => bq x2.toInt 0 rfl rfl (fun q2 => zer (Or.inr q2)) (fun q2 => ?_)))
    · by_cases q : x1.toInt = 0 ∨ x2.toInt = 0
      · exact zer q
      · rw [if_neg q, if_pos c3] at h
        by_cases q2 : x2 < x1
        · rw [if_pos q2]; rw [if_pos (by rw [i32_lt] at q2; omega)] at h; exact h
        · rw [if_neg q2]; rw [i32_lt] at q2
          by_cases q3 : x2.toInt ≤ x1.toInt
          · rw [if_pos q3] at h; rw [show x1 = x2 from i32_eq.mpr (by omega)]; exact h
          · rw [if_neg q3] at h; exact h
    · rw [if_neg (by omega), if_neg c3] at h; exact h
  exact bq x3.toInt 0 rfl rfl (fun q => key (by omega)) (fun q => bq x3.toInt 1 rfl rfl (fun q2 => key (by omega)) (fun q2 => bad (by omega)))
theorem R_schools {x1 x2 x3 : Int32} {Post : Int32 → Prop} (h : Post (a_schools x1 x2 x3)) : qv_X8_schools x1 x2 x3 Post := by
  have bad : ¬ (0 ≤ x1.toInt ∧ x1.toInt ≤ 20 ∧ 0 ≤ x2.toInt ∧ x2.toInt ≤ 20 ∧ 0 ≤ x3.toInt ∧ x3.toInt ≤ 1) → Post (-1) := fun q => by rw [a_schools, if_neg q] at h; exact h
  refine R_inI 0 20 rfl rfl (fun a1 a2 => t1 (R_inI 0 20 rfl rfl (fun b1 b2 => t1 (R_inI 0 1 rfl rfl (fun c1 c2 => t1 ?_) (fun q => t0 (bad (by omega))))) (fun q => t0 (bad (by omega))))) (fun q => t0 (bad (by omega)))
  rw [a_schools, if_pos (by omega)] at h
  refine bq x1.toInt 0 rfl rfl (fun q => ?_) (fun q => bq x2.toInt 0 rfl rfl (fun q2 => ?_) (fun q2 => bq x3.toInt 0 rfl rfl (fun q3 => ?_) (fun q3 => ?_)))
  · rw [if_pos (by omega)] at h; exact h
  · rw [if_pos (by omega)] at h; exact h
  · rw [if_neg (by omega), if_pos q3] at h
    exact b_le x2.toInt x1.toInt rfl rfl (fun q4 => by rw [if_pos q4] at h; exact h) (fun q4 => by rw [if_neg (by omega)] at h; exact h)
  · rw [if_neg (by omega), if_neg q3] at h; exact h
end SM
