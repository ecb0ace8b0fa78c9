/-! told, two, groups, size, answered -/
def a_told (c : Nat) (be so te : Nat → Int32) (x1 x2 : Int32) : Int32 := if 0 ≤ x1.toInt ∧ x1.toInt < c ∧ 0 ≤ x2.toInt ∧ x2.toInt ≤ 2 then (if x2.toInt = 0 then be x1.toInt.toNat else if x2.toInt = 1 then so x1.toInt.toNat else te x1.toInt.toNat + 2) else -1
theorem sub_m2 (x : Int32) : x - (-2 : Int32) = x + 2 := by
  rw [Int32.sub_eq_add_neg]
  rfl
theorem C_told {c : Nat} (hc : c ≤ 6) {be so te : Nat → Int32} {x1 x2 : Int32} {Post : Int32 → Prop} (h : Post (a_told c be so te x1 x2)) : qv_X7_told x1 x2 (nI c) be so te Post := by
  have bad : ¬ (0 ≤ x1.toInt ∧ x1.toInt < c ∧ 0 ≤ x2.toInt ∧ x2.toInt ≤ 2) → Post (-1) := fun q => by rw [a_told, if_neg q] at h; exact h
  refine bl x1.toInt 0 rfl rfl (fun q => bad (by omega)) (fun q => bl x1.toInt c rfl (nI_toInt (by omega)) (fun q2 => ?_) (fun q2 => bad (by omega)))
  have hin : vp_in x1 6 := vp_in_iff.mpr (by omega)
  refine ⟨fun e => ⟨hin, ?_⟩, fun e => ⟨hin, ?_⟩, fun e => ⟨hin, ?_⟩, fun e => bad (by omega)⟩
  · subst e
    rw [a_told, if_pos ⟨q, q2, by first | decide | exact vd (by decide), by first | decide | exact vd (by decide)⟩, if_pos (by rfl)] at h
    exact h
  · subst e
    rw [a_told, if_pos ⟨q, q2, by first | decide | exact vd (by decide), by first | decide | exact vd (by decide)⟩, if_neg (by first | decide | exact vd (by decide)), if_pos (by rfl)] at h
    exact h
  · subst e
    rw [a_told, if_pos ⟨q, q2, by first | decide | exact vd (by decide), by first | decide | exact vd (by decide)⟩, if_neg (by first | decide | exact vd (by decide)), if_neg (by first | decide | exact vd (by decide))] at h
    rw [sub_m2]
    exact h
theorem R_told {c : Nat} (hc : c ≤ 6) {be so te : Nat → Int32} {x1 x2 : Int32} {Post : Int32 → Prop} (h : Post (a_told c be so te x1 x2)) : qv_X8_told x1 x2 (nI c) be so te Post := by
  have bad : ¬ (0 ≤ x1.toInt ∧ x1.toInt < c ∧ 0 ≤ x2.toInt ∧ x2.toInt ≤ 2) → Post (-1) := fun q => by rw [a_told, if_neg q] at h; exact h
  have e : (nI c - (1 : Int32)).toInt = (c : Int) - 1 := by
    have := pk_sub_toInt (a := c) (b := 1) (by omega) (by first | decide | exact vd (by decide))
    exact this
  refine R_inI 0 ((c : Int) - 1) rfl (by rw [Int32.toInt_toInt64, e]) (fun q q2 => t1 (R_inI 0 2 rfl rfl (fun q3 q4 => t1 ?_) (fun q3 => t0 (bad (by omega))))) (fun q => t0 (bad (by omega)))
  have hin : vp_in x1 6 := vp_in_iff.mpr (by omega)
  rw [a_told, if_pos (by omega)] at h
  refine bq x2.toInt 0 rfl rfl (fun e => ⟨hin, ?_⟩) (fun e => bq x2.toInt 1 rfl rfl (fun e2 => ⟨hin, ?_⟩) (fun e2 => ⟨hin, ?_⟩))
  · rw [if_pos e] at h; exact h
  · rw [if_neg e, if_pos e2] at h; exact h
  · rw [if_neg e, if_neg e2] at h; exact h
theorem C_isPart {x : Int32} {Post : Int32 → Prop} (f : ∀ p : Nat, p ≤ 1 → x = nI p → x.toInt = p → Post (nI 1)) (g : x.toInt < 0 ∨ 1 < x.toInt → Post (nI 0)) : qv_X7_isPart x Post :=
  bq x.toInt 0 rfl rfl (fun q => f 0 (by first | decide | exact vd (by decide)) (i32_eq.mpr q) q) (fun q => bq x.toInt 1 rfl rfl (fun q2 => f 1 (by first | decide | exact vd (by decide)) (i32_eq.mpr q2) q2) (fun q2 => g (by omega)))
theorem R_isPart {x : Int32} {Post : Int32 → Prop} (f : ∀ p : Nat, p ≤ 1 → x = nI p → x.toInt = p → Post (nI 1)) (g : x.toInt < 0 ∨ 1 < x.toInt → Post (nI 0)) : qv_X8_in x.toInt64 (0 : Int64) (1 : Int64) Post :=
  R_inI 0 1 rfl rfl (fun q q2 => by
    obtain ⟨k, hk, e, ek⟩ := nI_of3 (x := x) (n := 2) (by first | decide | exact vd (by decide)) (by omega) (by omega)
    exact f k (by omega) e ek) g
theorem C_isOfChoice {x : Int32} {Post : Int32 → Prop} (f : ∀ p : Nat, p ≤ 2 → x = nI p → x.toInt = p → Post (nI 1)) (g : x.toInt < 0 ∨ 2 < x.toInt → Post (nI 0)) : qv_X7_isOfChoice x Post :=
  bl x.toInt 0 rfl rfl (fun q => g (by omega)) (fun q => bl 2 x.toInt rfl rfl (fun q2 => g (by omega)) (fun q2 => by
    obtain ⟨k, hk, e, ek⟩ := nI_of3 (x := x) (n := 3) (by first | decide | exact vd (by decide)) (by omega) (by omega)
    exact f k (by omega) e ek))
theorem R_isOfChoice {x : Int32} {Post : Int32 → Prop} (f : ∀ p : Nat, p ≤ 2 → x = nI p → x.toInt = p → Post (nI 1)) (g : x.toInt < 0 ∨ 2 < x.toInt → Post (nI 0)) : qv_X8_in x.toInt64 (0 : Int64) (2 : Int64) Post :=
  R_inI 0 2 rfl rfl (fun q q2 => by
    obtain ⟨k, hk, e, ek⟩ := nI_of3 (x := x) (n := 3) (by first | decide | exact vd (by decide)) (by omega) (by omega)
    exact f k (by omega) e ek) g
section SM
variable {A : Nat → Nat} {st cO cB fB fd : Int32} {mi lo ba sl ta : Nat → Int32} {ti : Nat → Nat → Int32} {la : Nat → Int32}
def v_two (s : Nat) (x1 : Int32) : Nat := if x1 = 0 then 2 * s * s else (10 - 2 * s) * (10 - 2 * s)
def a_two (A : Nat → Nat) (x1 x2 : Int32) : Int32 := if 0 ≤ x2.toInt ∧ x2.toInt ≤ 1 then nI (fr (v_two (A 29) x1) 100 x2.toInt.toNat) else -1
theorem v_two_le {s : Nat} (h : s ≤ 5) (x1 : Int32) : v_two s x1 ≤ 100 := by
  unfold v_two
  rcases (show s = 0 ∨ s = 1 ∨ s = 2 ∨ s = 3 ∨ s = 4 ∨ s = 5 by omega) with rfl | rfl | rfl | rfl | rfl | rfl <;> split <;> omega
theorem two_e {s : Nat} (h : s ≤ 5) : ((2 : Int32) * nI s * nI s).toInt64 = lN (2 * s * s) ∧ (((10 : Int32) - (2 : Int32) * nI s) * ((10 : Int32) - (2 : Int32) * nI s)).toInt64 = lN ((10 - 2 * s) * (10 - 2 * s)) := by
  rcases (show s = 0 ∨ s = 1 ∨ s = 2 ∨ s = 3 ∨ s = 4 ∨ s = 5 by omega) with rfl | rfl | rfl | rfl | rfl | rfl <;> decide
theorem C_two (hA : OKL A) (hC : CL A st cO cB fB fd mi lo ba sl ta ti) {x1 x2 : Int32} {Post : Int32 → Prop} (h : Post (a_two A x1 x2)) : qv_X7_two x1 x2 sl Post := by
  obtain ⟨⟨e0, e1, e2, e3, e4⟩, em, es, et⟩ := hC
  have hs : A 29 ≤ 5 := (hA.2.2.2.1 0 (by first | decide | exact vd (by decide))).1
  have e : sl ((0 : Int32).toNatClampNeg) = nI (A 29) := (es 0 (by first | decide | exact vd (by decide))).1
  have hv := v_two_le hs x1
  refine C_isPart (fun p hp ep tp => t1 ⟨by first | decide | exact vd (by decide), ?_⟩) (fun q => t0 (by rw [a_two, if_neg (by omega)] at h; exact h))
  rw [a_two, if_pos (by omega), tp] at h
  subst ep
  rw [e]
  have fin : ∀ {k0 : Int32}, k0.toInt64 = lN (v_two (A 29) x1) → qv_X7_two_J44 k0 (nI p) sl Post := fun {k0} ek => by
    unfold qv_X7_two_J44
    rw [ek]
    refine C_lowest (b := 100) (by first | decide | exact vd (by decide)) (by omega) (by first | decide | exact vd (by decide)) (by omega) ?_
    rw [lN_i]
    exact h
  refine ⟨fun q => fin ?_, fun q => fin ?_⟩
  · rw [(two_e hs).1, v_two, if_pos q]
  · rw [(two_e hs).2, v_two, if_neg q]
theorem R_two (hA : OKL A) (hR : RLd A la) {x1 x2 : Int32} {Post : Int32 → Prop} (h : Post (a_two A x1 x2)) : qv_X8_two x1 x2 la Post := by
  have hs : A 29 ≤ 5 := (hA.2.2.2.1 0 (by first | decide | exact vd (by decide))).1
  have e : la ((29 : Int32).toNatClampNeg) = nI (A 29) := hR 29 (by first | decide | exact vd (by decide))
  have hv := v_two_le hs x1
  refine R_isPart (fun p hp ep tp => t1 ⟨by first | decide | exact vd (by decide), ?_⟩) (fun q => t0 (by rw [a_two, if_neg (by omega)] at h; exact h))
  rw [a_two, if_pos (by omega), tp] at h
  subst ep
  rw [e]
  have fin : ∀ {k0 : Int64}, k0 = lN (v_two (A 29) x1) → qv_X8_part k0 (100 : Int64) (nI p) (fun r5 => Post (r5.toInt32)) := fun {k0} ek => by
    rw [ek]
    refine R_part (b := 100) (by first | decide | exact vd (by decide)) (by omega) (by first | decide | exact vd (by decide)) (by omega) ?_
    rw [lN_i]
    exact h
  refine ⟨fun q => fin ?_, fun q => fin ?_⟩
  · rw [(two_e hs).1, v_two, if_pos q]
  · rw [(two_e hs).2, v_two, if_neg q]
theorem C_powL (Post E : Int32 → Prop) (b n : Nat) (hn : n < 2 ^ 30) : ∀ m i acc, i + m = n → E (nI (acc * b ^ m)) → qv_X7_power_L4 (nI b) (nI n) Post E (m + 1) (nI acc) (nI i) := by
  intro m
  induction m with
  | zero =>
    intro i acc hi hE
    exact pk_le n i (fun _ => by simpa using hE) (fun h => absurd h (by omega))
  | succ m ih =>
    intro i acc hi hE
    refine pk_le n i (fun h => absurd h (by omega)) (fun _ => ?_)
    rw [pk_mul, nI_1]
    exact ih (i + 1) (acc * b) (by omega) (by rw [Nat.mul_assoc, ← Nat.pow_succ']; exact hE)
theorem C_power {b n : Nat} {Post : Int32 → Prop} (hn : n < 2 ^ 30) (h : Post (nI (b ^ n))) : qv_X7_power (nI b) (nI n) Post :=
  ⟨n + 1, C_powL _ _ b n hn n 0 1 (by omega) (by rw [Nat.one_mul]; exact h)⟩
theorem R_powL (Post E : Int32 → Prop) (b n : Nat) (hn : n < 2 ^ 30) : ∀ m i acc, i + m = n → E (nI (acc * b ^ m)) → qv_X8_power_L5 (nI b) (nI n) Post E (m + 1) (nI acc) (nI i) := by
  intro m
  induction m with
  | zero =>
    intro i acc hi hE
    exact pk_le n i (fun _ => by simpa using hE) (fun h => absurd h (by omega))
  | succ m ih =>
    intro i acc hi hE
    refine pk_le n i (fun h => absurd h (by omega)) (fun _ => ?_)
    rw [pk_mul, nI_1]
    exact ih (i + 1) (acc * b) (by omega) (by rw [Nat.mul_assoc, ← Nat.pow_succ']; exact hE)
theorem R_power {b n : Nat} {Post : Int32 → Prop} (hn : n < 2 ^ 30) (h : Post (nI (b ^ n))) : qv_X8_power (nI b) (nI n) Post :=
  ⟨n + 1, R_powL _ _ b n hn n 0 1 (by omega) (by rw [Nat.one_mul]; exact h)⟩
theorem pw_le {s n : Nat} (hs : s ≤ 5) (hn : n ≤ 4) : s ^ n ≤ 625 := Nat.le_trans (Nat.pow_le_pow_left hs n) (Nat.le_trans (Nat.pow_le_pow_right (by first | decide | exact vd (by decide)) hn) (by first | decide | exact vd (by decide)))
theorem pt_le {n : Nat} (hn : n ≤ 4) : 10 ^ n ≤ 10000 := Nat.le_trans (Nat.pow_le_pow_right (by first | decide | exact vd (by decide)) hn) (by first | decide | exact vd (by decide))
def a_groups (A : Nat → Nat) (x1 x2 : Int32) : Int32 := if 2 ≤ x1.toInt ∧ x1.toInt ≤ 5 ∧ 0 ≤ x2.toInt ∧ x2.toInt ≤ 1 then nI (fr (A 33 ^ (x1.toInt.toNat - 1)) (10 ^ (x1.toInt.toNat - 1)) x2.toInt.toNat) else -1
theorem C_groups (hA : OKL A) (hC : CL A st cO cB fB fd mi lo ba sl ta ti) {x1 x2 : Int32} {Post : Int32 → Prop} (h : Post (a_groups A x1 x2)) : qv_X7_groups x1 x2 sl Post := by
  obtain ⟨⟨e0, e1, e2, e3, e4⟩, em, es, et⟩ := hC
  have hs : A 33 ≤ 5 := (hA.2.2.2.1 2 (by first | decide | exact vd (by decide))).1
  have e : sl ((2 : Int32).toNatClampNeg) = nI (A 33) := (es 2 (by first | decide | exact vd (by decide))).1
  have bad : ¬ (2 ≤ x1.toInt ∧ x1.toInt ≤ 5 ∧ 0 ≤ x2.toInt ∧ x2.toInt ≤ 1) → Post (-1) := fun q => by rw [a_groups, if_neg q] at h; exact h
  refine bl x1.toInt 2 rfl rfl (fun q => bad (by omega)) (fun q => bl 5 x1.toInt rfl rfl (fun q2 => bad (by omega)) (fun q2 => C_isPart (fun p hp ep tp => t1 ⟨by first | decide | exact vd (by decide), ?_⟩) (fun q => t0 (bad (by omega)))))
  obtain ⟨g, hg, rfl, eg⟩ := nI_of3 (x := x1) (n := 6) (by first | decide | exact vd (by decide)) (by omega) (by omega)
  rw [a_groups, if_pos (by omega), tp, eg] at h
  have h1 := pw_le (n := g - 1) hs (by omega)
  have h2 := pt_le (n := g - 1) (by omega)
  have h3 : 0 < 10 ^ (g - 1) := Nat.pow_pos (by first | decide | exact vd (by decide))
  subst ep
  rw [e, show nI g - (1 : Int32) = nI (g - 1) from pk_sub (a := g) (b := 1) (by omega)]
  refine C_power (by omega) (C_power (b := 10) (by omega) ?_)
  rw [nI_l (by omega), nI_l (by omega)]
  refine C_lowest h3 (by omega) (by omega) (by omega) ?_
  rw [lN_i]
  exact h
theorem R_groups (hA : OKL A) (hR : RLd A la) {x1 x2 : Int32} {Post : Int32 → Prop} (h : Post (a_groups A x1 x2)) : qv_X8_groups x1 x2 la Post := by
  have hs : A 33 ≤ 5 := (hA.2.2.2.1 2 (by first | decide | exact vd (by decide))).1
  have e : la ((33 : Int32).toNatClampNeg) = nI (A 33) := hR 33 (by first | decide | exact vd (by decide))
  have bad : ¬ (2 ≤ x1.toInt ∧ x1.toInt ≤ 5 ∧ 0 ≤ x2.toInt ∧ x2.toInt ≤ 1) → Post (-1) := fun q => by rw [a_groups, if_neg q] at h; exact h
  refine R_inI 2 5 rfl rfl (fun q q2 => t1 (R_isPart (fun p hp ep tp => t1 ⟨by first | decide | exact vd (by decide), ?_⟩) (fun q => t0 (bad (by omega))))) (fun q => t0 (bad (by omega)))
  obtain ⟨g, hg, rfl, eg⟩ := nI_of3 (x := x1) (n := 6) (by first | decide | exact vd (by decide)) (by omega) (by omega)
  rw [a_groups, if_pos (by omega), tp, eg] at h
  have h1 := pw_le (n := g - 1) hs (by omega)
  have h2 := pt_le (n := g - 1) (by omega)
  have h3 : 0 < 10 ^ (g - 1) := Nat.pow_pos (by first | decide | exact vd (by decide))
  subst ep
  rw [e, show nI g - (1 : Int32) = nI (g - 1) from pk_sub (a := g) (b := 1) (by omega)]
  refine R_power (by omega) (R_power (b := 10) (by omega) ?_)
  rw [nI_l (by omega), nI_l (by omega)]
  refine R_part h3 (by omega) (by omega) (by omega) ?_
  rw [lN_i]
  exact h
def a_size (A : Nat → Nat) (x : Int32) : Int32 := if 0 ≤ x.toInt ∧ x.toInt ≤ 99 then (if 100 * A 33 ^ 1 ≤ x.toInt.toNat * 10 ^ 1 then 2 else if 100 * A 33 ^ 2 ≤ x.toInt.toNat * 10 ^ 2 then 3 else if 100 * A 33 ^ 3 ≤ x.toInt.toNat * 10 ^ 3 then 4 else if 100 * A 33 ^ 4 ≤ x.toInt.toNat * 10 ^ 4 then 5 else -4) else -1
theorem C_sizeS {x p n g : Nat} {Post : Int32 → Prop} {E : Prop} {sl : Nat → Int32} (hx : x ≤ 99) (hp : p ≤ 5) (hg : 2 ≤ g ∧ g ≤ 5) (e : sl ((2 : Int32).toNatClampNeg) = nI p) (f : 100 * p ^ (g - 1) ≤ x * 10 ^ (g - 1) → Post (nI g)) (k : ¬ 100 * p ^ (g - 1) ≤ x * 10 ^ (g - 1) → qv_X7_size_L14 (nI x) sl Post E n (nI (g + 1))) : qv_X7_size_L14 (nI x) sl Post E (n + 1) (nI g) := by
  have h1 := pw_le (n := g - 1) hp (by omega)
  have h2 := pt_le (n := g - 1) (by omega)
  refine pk_lt 5 g (fun h => absurd h (by omega)) (fun _ => ⟨by first | decide | exact vd (by decide), ?_⟩)
  rw [e, show nI g - (1 : Int32) = nI (g - 1) from pk_sub (a := g) (b := 1) (by omega)]
  refine C_power (by omega) (C_power (b := 10) (by omega) ?_)
  have h3 : x * 10 ^ (g - 1) ≤ 99 * 10000 := Nat.mul_le_mul hx h2
  rw [li_100, pk_mul, pk_mul, nI_1]
  exact pk_lt (x * 10 ^ (g - 1)) (p ^ (g - 1) * 100) (fun h => k (by omega)) (fun h => f (by omega))
theorem C_size (hA : OKL A) (hC : CL A st cO cB fB fd mi lo ba sl ta ti) {x1 : Int32} {Post : Int32 → Prop} (h : Post (a_size A x1)) : qv_X7_size x1 sl Post := by
  obtain ⟨⟨e0, e1, e2, e3, e4⟩, em, es, et⟩ := hC
  have hs : A 33 ≤ 5 := (hA.2.2.2.1 2 (by first | decide | exact vd (by decide))).1
  have e : sl ((2 : Int32).toNatClampNeg) = nI (A 33) := (es 2 (by first | decide | exact vd (by decide))).1
  refine bl x1.toInt 0 rfl rfl (fun q => by rw [a_size, if_neg (by omega)] at h; exact h) (fun q => bl x1.toInt 100 rfl rfl (fun q2 => ⟨5, ?_⟩) (fun q2 => by rw [a_size, if_neg (by omega)] at h; exact h))
  obtain ⟨g, hg, rfl, eg⟩ := nI_of3 (x := x1) (n := 100) (by first | decide | exact vd (by decide)) (by omega) (by omega)
  rw [a_size, if_pos (by omega), eg] at h
  simp only [Int.toNat_natCast] at h
  refine C_sizeS (g := 2) (by omega) hs (by omega) e (fun (q : 100 * A 33 ^ 1 ≤ g * 10 ^ 1) => by rw [if_pos q] at h; exact h) (fun (q : ¬ 100 * A 33 ^ 1 ≤ g * 10 ^ 1) => ?_)
  rw [if_neg q] at h
  refine C_sizeS (g := 3) (by omega) hs (by omega) e (fun (q : 100 * A 33 ^ 2 ≤ g * 10 ^ 2) => by rw [if_pos q] at h; exact h) (fun (q : ¬ 100 * A 33 ^ 2 ≤ g * 10 ^ 2) => ?_)
  rw [if_neg q] at h
  refine C_sizeS (g := 4) (by omega) hs (by omega) e (fun (q : 100 * A 33 ^ 3 ≤ g * 10 ^ 3) => by rw [if_pos q] at h; exact h) (fun (q : ¬ 100 * A 33 ^ 3 ≤ g * 10 ^ 3) => ?_)
  rw [if_neg q] at h
  refine C_sizeS (g := 5) (by omega) hs (by omega) e (fun (q : 100 * A 33 ^ 4 ≤ g * 10 ^ 4) => by rw [if_pos q] at h; exact h) (fun (q : ¬ 100 * A 33 ^ 4 ≤ g * 10 ^ 4) => ?_)
  rw [if_neg q] at h
  exact pk_lt 5 6 (fun _ => h) (fun h => absurd h (by omega))
theorem R_sizeS {x p n g : Nat} {y : Int32} {Post E : Int32 → Prop} {la : Nat → Int32} (hx : x ≤ 99) (hp : p ≤ 5) (hg : 2 ≤ g ∧ g ≤ 5) (e : la ((33 : Int32).toNatClampNeg) = nI p) (k : qv_X8_size_L19 (nI x) la Post E n (if 100 * p ^ (g - 1) ≤ x * 10 ^ (g - 1) then nI g else y) (nI (g - 1))) : qv_X8_size_L19 (nI x) la Post E (n + 1) y (nI g) := by
  have h1 := pw_le (n := g - 1) hp (by omega)
  have h2 := pt_le (n := g - 1) (by omega)
  refine pk_le g 1 (fun h => absurd h (by omega)) (fun _ => ⟨by first | decide | exact vd (by decide), ?_⟩)
  rw [e, show nI g - (1 : Int32) = nI (g - 1) from pk_sub (a := g) (b := 1) (by omega)]
  refine R_power (by omega) (R_power (b := 10) (by omega) ?_)
  have h3 : x * 10 ^ (g - 1) ≤ 99 * 10000 := Nat.mul_le_mul hx h2
  rw [li_100, pk_mul, pk_mul, sb_m1 (by omega)]
  exact pk_lt (x * 10 ^ (g - 1)) (100 * p ^ (g - 1)) (fun h => by rw [if_neg (by omega)] at k; exact k) (fun h => by rw [if_pos (by omega)] at k; exact k)
theorem R_size (hA : OKL A) (hR : RLd A la) {x1 : Int32} {Post : Int32 → Prop} (h : Post (a_size A x1)) : qv_X8_size x1 la Post := by
  have hs : A 33 ≤ 5 := (hA.2.2.2.1 2 (by first | decide | exact vd (by decide))).1
  have e : la ((33 : Int32).toNatClampNeg) = nI (A 33) := hR 33 (by first | decide | exact vd (by decide))
  refine R_inI 0 99 rfl rfl (fun q q2 => t1 ⟨5, ?_⟩) (fun q => t0 (by rw [a_size, if_neg (by omega)] at h; exact h))
  obtain ⟨g, hg, rfl, eg⟩ := nI_of3 (x := x1) (n := 100) (by first | decide | exact vd (by decide)) (by omega) (by omega)
  rw [a_size, if_pos (by omega), eg] at h
  simp only [Int.toNat_natCast] at h
  refine R_sizeS (g := 5) (by omega) hs (by omega) e (R_sizeS (g := 4) (by omega) hs (by omega) e (R_sizeS (g := 3) (by omega) hs (by omega) e (R_sizeS (g := 2) (by omega) hs (by omega) e ?_)))
  exact pk_le 1 1 (fun _ => h) (fun h => absurd h (by omega))
/-! answered -/
def sm (f : Nat → Nat) (a : Nat) : Nat → Nat
  | 0 => 0
  | n + 1 => f a + sm f (a + 1) n
theorem sm_last (f : Nat → Nat) : ∀ n a, sm f a (n + 1) = sm f a n + f (a + n) := by
  intro n
  induction n with
  | zero => intro a; simp [sm]
  | succ n ih =>
    intro a
    rw [sm, ih (a + 1), sm, show a + 1 + n = a + (n + 1) by omega]
    omega
theorem sm_le (f : Nat → Nat) (M : Nat) : ∀ n a, (∀ i, a ≤ i → i < a + n → f i ≤ M) → sm f a n ≤ n * M := by
  intro n
  induction n with
  | zero => intro a h; simp [sm]
  | succ n ih =>
    intro a h
    have h1 := ih (a + 1) (fun i h1 h2 => h i (by omega) (by omega))
    have h2 := h a (by omega) (by omega)
    rw [sm, Nat.succ_mul]
    omega
theorem sm_zero (f : Nat → Nat) : ∀ n a, sm f a n = 0 ↔ ∀ i, a ≤ i → i < a + n → f i = 0 := by
  intro n
  induction n with
  | zero => intro a; simp [sm]; intro i h1 h2; omega
  | succ n ih =>
    intro a
    rw [sm]
    constructor
    · intro h i h1 h2
      by_cases e : i = a
      · subst e; omega
      · exact (ih (a + 1)).mp (by omega) i (by omega) (by omega)
    · intro h
      have h1 := h a (by omega) (by omega)
      have h2 := (ih (a + 1)).mpr (fun i h1 h2 => h i (by omega) (by omega))
      omega
theorem sm_mul (f g : Nat → Nat) (G : Nat) : ∀ n a, (∀ i, a ≤ i → i < a + n → f i = G * g i) → sm f a n = G * sm g a n := by
  intro n
  induction n with
  | zero => intro a h; simp [sm]
  | succ n ih =>
    intro a h
    rw [sm, sm, ih (a + 1) (fun i h1 h2 => h i (by omega) (by omega)), h a (by omega) (by omega), Nat.mul_add]
theorem sm_ge (f : Nat → Nat) : ∀ n a i, a ≤ i → i < a + n → f i ≤ sm f a n := by
  intro n
  induction n with
  | zero => intro a i h1 h2; omega
  | succ n ih =>
    intro a i h1 h2
    rw [sm]
    by_cases e : i = a
    · subst e; omega
    · have := ih (a + 1) i (by omega) (by omega); omega
def argm (t : Nat → Nat) : Nat → Nat
  | 0 => 0
  | n + 1 => if t (argm t n) < t n then n else argm t n
theorem argm_lt (t : Nat → Nat) : ∀ n, argm t n < n ∨ (n = 0 ∧ argm t n = 0) := by
  intro n
  induction n with
  | zero => right; exact ⟨rfl, rfl⟩
  | succ n ih =>
    left
    rw [argm]
    split
    · omega
    · omega
theorem argm_ge (t : Nat → Nat) : ∀ n j, j < n → t j ≤ t (argm t n) := by
  intro n
  induction n with
  | zero => intro j h; omega
  | succ n ih =>
    intro j h
    rw [argm]
    by_cases e : j = n
    · subst e; split <;> omega
    · have := ih j (by omega); split <;> omega
def a_answered (A : Nat → Nat) (x1 x2 : Int32) : Int32 := if 0 ≤ x1.toInt ∧ x1.toInt < A 1 ∧ 0 ≤ x2.toInt ∧ x2.toInt ≤ 2 then (if sm (fun j => A (37 + 6 * x1.toInt.toNat + j)) 0 (A 1) = 0 then -4 else if x2.toInt = 0 then nI (argm (fun j => A (37 + 6 * x1.toInt.toNat + j)) (A 1)) else nI (fr (A (37 + 6 * x1.toInt.toNat + argm (fun j => A (37 + 6 * x1.toInt.toNat + j)) (A 1))) (sm (fun j => A (37 + 6 * x1.toInt.toNat + j)) 0 (A 1)) (x2.toInt.toNat - 1))) else -1
theorem C_answL (x2 : Int32) (Post : Int32 → Prop) (E : Int32 → Int32 → Prop) (ti : Nat → Nat → Int32) (i N : Nat) (t : Nat → Nat) (hN : N ≤ 6) (hi : i < 6) (ht : ∀ j, j < 6 → ti i j = nI (t j) ∧ t j ≤ 9) (hE : E (nI (argm t N)) (nI (sm t 0 N))) : ∀ m j, j + m = N → qv_X7_answered_L25 (nI i) x2 (nI N) ti Post E (m + 1) (nI (argm t j)) (nI (sm t 0 j)) (nI j) := by
  intro m
  induction m with
  | zero =>
    intro j hj
    have : j = N := by omega
    subst this
    exact pk_le j j (fun _ => hE) (fun h => absurd h (by omega))
  | succ m ih =>
    intro j hj
    have hw : argm t j < 6 := by have := argm_lt t j; omega
    have i1 : vp_in (nI i) 6 := vp_in_nI hi (by first | decide | exact vd (by decide))
    have i2 : vp_in (nI j) 6 := vp_in_nI (by omega) (by first | decide | exact vd (by decide))
    refine pk_le N j (fun h => absurd h (by omega)) (fun _ => ⟨i1, i2, i1, i2, i1, vp_in_nI hw (by first | decide | exact vd (by decide)), ?_⟩)
    rw [nI_clamp (by omega), nI_clamp (by omega), nI_clamp (by omega), (ht j (by omega)).1, (ht _ hw).1, nI_add, nI_1]
    have b1 := (ht j (by omega)).2
    have b2 := (ht _ hw).2
    have e1 : sm t 0 (j + 1) = sm t 0 j + t j := by rw [sm_last, Nat.zero_add]
    have k := ih (j + 1) (by omega)
    rw [e1] at k
    refine pk_le (t j) (t (argm t j)) (fun h => ?_) (fun h => ?_)
    · rw [argm, if_neg (by omega)] at k; exact k
    · rw [argm, if_pos (by omega)] at k; exact k
theorem C_answered (hA : OKL A) (hC : CL A st cO cB fB fd mi lo ba sl ta ti) {x1 x2 : Int32} {Post : Int32 → Prop} (h : Post (a_answered A x1 x2)) : qv_X7_answered x1 x2 fd ti Post := by
  obtain ⟨⟨e0, e1, e2, e3, e4⟩, em, es, et⟩ := hC
  have hA1 := hA.1.2.2
  have hA2 := hA.1.2.1
  have bad : ¬ (0 ≤ x1.toInt ∧ x1.toInt < A 1 ∧ 0 ≤ x2.toInt ∧ x2.toInt ≤ 2) → Post (-1) := fun q => by rw [a_answered, if_neg q] at h; exact h
  refine C_isFriend hA e1 (fun k hk e ek => t1 (C_isOfChoice (fun p hp ep tp => t1 ?_) (fun q => t0 (bad (by omega))))) (fun q => t0 (bad (by omega)))
  rw [a_answered, if_pos (by omega), ek, tp] at h
  simp only [Int.toNat_natCast] at h
  subst e ep e1
  have ht : ∀ j, j < 6 → ti k j = nI (A (37 + 6 * k + j)) ∧ A (37 + 6 * k + j) ≤ 9 := fun j hj => ⟨et k j (by omega) hj, (hA.2.2.2.2 k j (by omega) hj).1⟩
  refine ⟨A 1 + 1, C_answL _ _ _ ti k (A 1) (fun j => A (37 + 6 * k + j)) hA1 (by omega) ht ?_ (A 1) 0 (by omega)⟩
  have hs := sm_le (fun j => A (37 + 6 * k + j)) 9 (A 1) 0 (fun i h1 h2 => (hA.2.2.2.2 k i (by omega) (by omega)).1)
  have hw : argm (fun j => A (37 + 6 * k + j)) (A 1) < A 1 := by have := argm_lt (fun j => A (37 + 6 * k + j)) (A 1); omega
  generalize hS : sm (fun j => A (37 + 6 * k + j)) 0 (A 1) = S at *
  generalize hM : argm (fun j => A (37 + 6 * k + j)) (A 1) = M at *
  refine pk_eq S 0 (fun q => ?_) (fun q => pk_eq p 0 (fun q2 => ?_) (fun q2 => ⟨vp_in_nI (by omega) (by first | decide | exact vd (by decide)), vp_in_nI (by omega) (by first | decide | exact vd (by decide)), ?_⟩))
  · rw [if_pos q] at h; exact h
  · rw [if_neg q, if_pos (by omega)] at h; exact h
  · rw [if_neg q, if_neg (by omega)] at h
    rw [nI_clamp (by omega), nI_clamp (by omega), (ht M (by omega)).1, nI_l (by have := (ht M (by omega)).2; omega), nI_l (by omega), show nI p - (1 : Int32) = nI (p - 1) from pk_sub (a := p) (b := 1) (by omega)]
    refine C_lowest (by omega) (by have := (ht M (by omega)).2; omega) (by omega) (by omega) ?_
    rw [lN_i]
    exact h
theorem R_answL (x2 : Int32) (Post : Int32 → Prop) (E : Int32 → Int32 → Prop) (la : Nat → Int32) (i N : Nat) (t : Nat → Nat) (hN : N ≤ 6) (hi : i < 6) (h1 : la ((1 : Int32).toNatClampNeg) = nI N) (ht : ∀ j, j < 6 → la (37 + 6 * i + j) = nI (t j) ∧ t j ≤ 9) (hE : ∀ b, ((b = (-4 : Int32) ∧ ∀ q, q < N → t q = 0) ∨ (b = nI (argm t N) ∧ 0 < t (argm t N))) → E b (nI (sm t 0 N))) : ∀ m j b, ((b = (-4 : Int32) ∧ ∀ q, q < j → t q = 0) ∨ (b = nI (argm t j) ∧ 0 < t (argm t j) ∧ 0 < j)) → j + m = N → qv_X8_answered_L31 (nI i) x2 la Post E (m + 1) b (nI (sm t 0 j)) (nI j) := by
  intro m
  induction m with
  | zero =>
    intro j b hb hj
    have : j = N := by omega
    subst this
    refine ⟨by first | decide | exact vd (by decide), ?_⟩
    rw [h1]
    exact pk_le j j (fun _ => hE b (by rcases hb with hb | hb; exact Or.inl hb; exact Or.inr ⟨hb.1, hb.2.1⟩)) (fun h => absurd h (by omega))
  | succ m ih =>
    intro j b hb hj
    refine ⟨by first | decide | exact vd (by decide), ?_⟩
    have ei : ∀ z, (37 : Int32) + (6 : Int32) * nI i + nI z = nI (37 + 6 * i + z) := fun z => by rw [li_37, li_6, pk_mul, nI_add, nI_add]
    rw [h1]
    refine pk_le N j (fun h => absurd h (by omega)) (fun _ => ?_)
    rw [ei, nI_clamp (by omega), (ht j (by omega)).1, nI_add, nI_1]
    refine ⟨vp_in_nI (by omega) (by first | decide | exact vd (by decide)), ?_⟩
    have b1 := (ht j (by omega)).2
    have e1 : sm t 0 (j + 1) = sm t 0 j + t j := by rw [sm_last, Nat.zero_add]
    have k := fun b' => ih (j + 1) b'
    rw [e1] at k
    have hl := argm_lt t j
    refine pk_le (t j) 0 (fun h => ?_) (fun h => ?_)
    · refine k b ?_ (by omega)
      rcases hb with ⟨hb, hz⟩ | ⟨hb, hz, hp⟩
      · refine Or.inl ⟨hb, fun q hq => ?_⟩
        by_cases e : q = j
        · subst e; omega
        · exact hz q (by omega)
      · refine Or.inr ⟨?_, ?_, by omega⟩ <;> rw [argm, if_neg (by omega)] <;> assumption
    · rcases hb with ⟨rfl, hz⟩ | ⟨rfl, hz, hp⟩
      · refine br_t rfl (k (nI j) (Or.inr ?_) (by omega))
        have : argm t (j + 1) = j := by
          rw [argm]
          rcases hl with hl | hl
          · rw [if_pos (by have := hz _ hl; omega)]
          · rw [hl.2, hl.1]; simp
        rw [this]
        exact ⟨rfl, by omega, by omega⟩
      · have hlt : argm t j < 6 := by omega
        refine br_f (by intro q; have := congrArg Int32.toInt q; rw [nI_toInt (by omega)] at this; have e : (-4 : Int32).toInt = -4 := rfl; omega) ?_
        rw [ei, nI_clamp (by omega), (ht _ hlt).1]
        have b2 := (ht _ hlt).2
        refine ⟨vp_in_nI (by omega) (by first | decide | exact vd (by decide)), pk_le (t j) (t (argm t j)) (fun h => ?_) (fun h => ?_)⟩
        · exact k _ (Or.inr (by rw [argm, if_neg (by omega)]; exact ⟨rfl, hz, by omega⟩)) (by omega)
        · exact k _ (Or.inr (by rw [argm, if_pos (by omega)]; exact ⟨rfl, by omega, by omega⟩)) (by omega)
theorem R_answered (hA : OKL A) (hR : RLd A la) {x1 x2 : Int32} {Post : Int32 → Prop} (h : Post (a_answered A x1 x2)) : qv_X8_answered x1 x2 la Post := by
  have hA1 := hA.1.2.2
  have hA2 := hA.1.2.1
  have bad : ¬ (0 ≤ x1.toInt ∧ x1.toInt < A 1 ∧ 0 ≤ x2.toInt ∧ x2.toInt ≤ 2) → Post (-1) := fun q => by rw [a_answered, if_neg q] at h; exact h
  refine R_isFriend hA hR (fun k hk e ek => t1 (R_isOfChoice (fun p hp ep tp => t1 ?_) (fun q => t0 (bad (by omega))))) (fun q => t0 (bad (by omega)))
  rw [a_answered, if_pos (by omega), ek, tp] at h
  simp only [Int.toNat_natCast] at h
  subst e ep
  have ht : ∀ j, j < 6 → la (37 + 6 * k + j) = nI (A (37 + 6 * k + j)) ∧ A (37 + 6 * k + j) ≤ 9 := fun j hj => ⟨hR _ (by omega), (hA.2.2.2.2 k j (by omega) hj).1⟩
  refine ⟨A 1 + 1, R_answL _ _ _ la k (A 1) (fun j => A (37 + 6 * k + j)) hA1 (by omega) (hR 1 (by first | decide | exact vd (by decide))) ht (fun b hb => ?_) (A 1) 0 (-4 : Int32) (Or.inl ⟨rfl, fun q hq => absurd hq (by omega)⟩) (by omega)⟩
  have hs := sm_le (fun j => A (37 + 6 * k + j)) 9 (A 1) 0 (fun i h1 h2 => (hA.2.2.2.2 k i (by omega) (by omega)).1)
  have hw : argm (fun j => A (37 + 6 * k + j)) (A 1) < A 1 := by have := argm_lt (fun j => A (37 + 6 * k + j)) (A 1); omega
  have hz := sm_zero (fun j => A (37 + 6 * k + j)) (A 1) 0
  have hge := sm_ge (fun j => A (37 + 6 * k + j)) (A 1) 0 _ (by omega) (by omega : argm (fun j => A (37 + 6 * k + j)) (A 1) < 0 + A 1)
  have hth := ht
  generalize hS : sm (fun j => A (37 + 6 * k + j)) 0 (A 1) = S at *
  generalize hM : argm (fun j => A (37 + 6 * k + j)) (A 1) = M at *
  rcases hb with ⟨rfl, hb⟩ | ⟨rfl, hb⟩
  · refine br_t rfl ?_
    rw [if_pos (hz.mpr (fun i h1 h2 => hb i (by omega)))] at h
    exact h
  · have hb' : 0 < A (37 + 6 * k + M) := hb
    have hge' : A (37 + 6 * k + M) ≤ S := hge
    refine br_f (by intro q; have := congrArg Int32.toInt q; rw [nI_toInt (by omega)] at this; have e : (-4 : Int32).toInt = -4 := rfl; omega) (pk_eq p 0 (fun q2 => ?_) (fun q2 => ?_))
    · rw [if_neg (by omega), if_pos (by omega)] at h; exact h
    · rw [if_neg (by omega), if_neg (by omega)] at h
      have ei : (37 : Int32) + (6 : Int32) * nI k + nI M = nI (37 + 6 * k + M) := by rw [li_37, li_6, pk_mul, nI_add, nI_add]
      rw [ei, nI_clamp (by omega), (hth M (by omega)).1, nI_l (by have := (hth M (by omega)).2; omega), nI_l (by omega), show nI p - (1 : Int32) = nI (p - 1) from pk_sub (a := p) (b := 1) (by omega)]
      refine ⟨vp_in_nI (by omega) (by first | decide | exact vd (by decide)), R_part (by omega) (by have := (hth M (by omega)).2; omega) (by omega) (by omega) ?_⟩
      rw [lN_i]
      exact h
end SM
