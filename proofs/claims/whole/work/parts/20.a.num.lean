/-! numbers of the pure part: literals, sums, comparisons -/
def mI (n : Nat) : Int32 := -(nI n)
theorem li_0 : (0 : Int32) = nI 0 := rfl
theorem li_1 : (1 : Int32) = nI 1 := rfl
theorem li_2 : (2 : Int32) = nI 2 := rfl
theorem li_3 : (3 : Int32) = nI 3 := rfl
theorem li_4 : (4 : Int32) = nI 4 := rfl
theorem li_5 : (5 : Int32) = nI 5 := rfl
theorem li_6 : (6 : Int32) = nI 6 := rfl
theorem li_7 : (7 : Int32) = nI 7 := rfl
theorem li_8 : (8 : Int32) = nI 8 := rfl
theorem li_9 : (9 : Int32) = nI 9 := rfl
theorem li_10 : (10 : Int32) = nI 10 := rfl
theorem li_11 : (11 : Int32) = nI 11 := rfl
theorem li_20 : (20 : Int32) = nI 20 := rfl
theorem li_29 : (29 : Int32) = nI 29 := rfl
theorem li_30 : (30 : Int32) = nI 30 := rfl
theorem li_31 : (31 : Int32) = nI 31 := rfl
theorem li_32 : (32 : Int32) = nI 32 := rfl
theorem li_33 : (33 : Int32) = nI 33 := rfl
theorem li_34 : (34 : Int32) = nI 34 := rfl
theorem li_35 : (35 : Int32) = nI 35 := rfl
theorem li_36 : (36 : Int32) = nI 36 := rfl
theorem li_37 : (37 : Int32) = nI 37 := rfl
theorem li_40 : (40 : Int32) = nI 40 := rfl
theorem li_44 : (44 : Int32) = nI 44 := rfl
theorem li_48 : (48 : Int32) = nI 48 := rfl
theorem li_57 : (57 : Int32) = nI 57 := rfl
theorem li_59 : (59 : Int32) = nI 59 := rfl
theorem li_60 : (60 : Int32) = nI 60 := rfl
theorem li_61 : (61 : Int32) = nI 61 := rfl
theorem li_63 : (63 : Int32) = nI 63 := rfl
theorem li_73 : (73 : Int32) = nI 73 := rfl
theorem li_99 : (99 : Int32) = nI 99 := rfl
theorem li_100 : (100 : Int32) = nI 100 := rfl
theorem li_104 : (104 : Int32) = nI 104 := rfl
theorem li_107 : (107 : Int32) = nI 107 := rfl
theorem li_115 : (115 : Int32) = nI 115 := rfl
theorem li_116 : (116 : Int32) = nI 116 := rfl
theorem li_117 : (117 : Int32) = nI 117 := rfl
theorem li_126 : (126 : Int32) = nI 126 := rfl
theorem li_200 : (200 : Int32) = nI 200 := rfl
theorem li_9999 : (9999 : Int32) = nI 9999 := rfl
theorem ll_0 : (0 : Int64) = lN 0 := rfl
theorem ll_1 : (1 : Int64) = lN 1 := rfl
theorem ll_2 : (2 : Int64) = lN 2 := rfl
theorem ll_3 : (3 : Int64) = lN 3 := rfl
theorem ll_4 : (4 : Int64) = lN 4 := rfl
theorem ll_5 : (5 : Int64) = lN 5 := rfl
theorem ll_6 : (6 : Int64) = lN 6 := rfl
theorem ll_7 : (7 : Int64) = lN 7 := rfl
theorem ll_8 : (8 : Int64) = lN 8 := rfl
theorem ll_9 : (9 : Int64) = lN 9 := rfl
theorem ll_10 : (10 : Int64) = lN 10 := rfl
theorem ll_20 : (20 : Int64) = lN 20 := rfl
theorem ll_48 : (48 : Int64) = lN 48 := rfl
theorem ll_57 : (57 : Int64) = lN 57 := rfl
theorem ll_60 : (60 : Int64) = lN 60 := rfl
theorem ll_32 : (32 : Int64) = lN 32 := rfl
theorem ll_126 : (126 : Int64) = lN 126 := rfl
theorem ll_99 : (99 : Int64) = lN 99 := rfl
theorem ll_100 : (100 : Int64) = lN 100 := rfl
theorem ll_9999 : (9999 : Int64) = lN 9999 := rfl
theorem ll_7919 : (7919 : Int64) = lN 7919 := rfl
theorem ll_6151 : (6151 : Int64) = lN 6151 := rfl
theorem ll_65521 : (65521 : Int64) = lN 65521 := rfl
theorem mI_0 (n : Nat) : -(nI n) = mI n := rfl
theorem mI_toInt {n : Nat} (h : n < 2 ^ 31) : (mI n).toInt = -(n : Int) := sb_negT h
theorem vd {x : Int32} {n : Nat} (h : ¬ (x < 0 ∨ n ≤ x.toNatClampNeg)) : vp_in x n := h
theorem vi_t {n N : Nat} (h : n < N) (hN : N < 2 ^ 31) : vp_in (nI n) N = True := eq_true (vp_in_nI h hN)
theorem i32_eq {x y : Int32} : x = y ↔ x.toInt = y.toInt := ⟨fun h => by rw [h], fun h => Int32.toInt_inj.mp h⟩
theorem i32_lt {x y : Int32} : x < y ↔ x.toInt < y.toInt := Int32.lt_iff_toInt_lt
theorem i32_le {x y : Int32} : x ≤ y ↔ x.toInt ≤ y.toInt := Int32.le_iff_toInt_le
theorem i64_eq {x y : Int64} : x = y ↔ x.toInt = y.toInt := ⟨fun h => by rw [h], fun h => Int64.toInt_inj.mp h⟩
theorem i64_lt {x y : Int64} : x < y ↔ x.toInt < y.toInt := Int64.lt_iff_toInt_lt
theorem i64_le {x y : Int64} : x ≤ y ↔ x.toInt ≤ y.toInt := Int64.le_iff_toInt_le
theorem nb_1 : narrow .boolean (.int (nI 1)) = .int (nI 1) := rfl
theorem nb_0 : narrow .boolean (.int (nI 0)) = .int (nI 0) := rfl
theorem nI_inj0 {n : Nat} (h : n < 2 ^ 31) : (nI n = nI 0) = (n = 0) := propext (nI_eq h (by first | decide | exact vd (by decide)))
theorem clampT {x : Int32} : x.toNatClampNeg = x.toInt.toNat := rfl
/-- an index or not -/
theorem ix_or (x : Int32) (n : Nat) (hn : n < 2 ^ 31) : (∃ j : Nat, j < n ∧ x = nI j ∧ x.toInt = j) ∨ (x.toInt < 0 ∨ (n : Int) ≤ x.toInt) := by
  rcases sw_any x n hn with ⟨j, hj, rfl⟩ | h
  · exact Or.inl ⟨j, hj, rfl, nI_toInt (by omega)⟩
  · exact Or.inr (by omega)
/-! greatest common divisors -/
theorem C_cd (Post E : Int64 → Prop) : ∀ (m a b i n : Nat), b < 2 ^ m → a < 2 ^ 63 → b < 2 ^ 63 → i + 2 * m + 2 ≤ 200 → 2 * m + 2 ≤ n → E (lN (Nat.gcd a b)) → qv_X7_commonDivisor_L3 Post E n (lN a) (lN b) (nI i) := by
  intro m
  induction m with
  | zero =>
    intro a b i n hb ha hb2 hi hn hE
    have hb0 : b = 0 := by simp at hb; omega
    subst hb0
    obtain ⟨n, rfl⟩ : ∃ k, n = k + 1 := ⟨n - 1, by omega⟩
    rw [Nat.gcd_zero_right] at hE
    exact ⟨fun _ => hE, fun _ => ⟨fun _ => hE, fun h => absurd rfl h⟩⟩
  | succ m ih =>
    intro a b i n hb ha hb2 hi hn hE
    obtain ⟨n, rfl⟩ : ∃ k, n = k + 2 := ⟨n - 2, by omega⟩
    have hpow : 2 ^ (m + 1) = 2 * 2 ^ m := by rw [Nat.pow_succ]; omega
    refine ⟨fun h => absurd h (nI_ge (a := i) (b := 200) (by omega) (by first | decide | exact vd (by decide))), fun _ => ⟨fun h => ?_, fun h => ⟨h, ?_⟩⟩⟩
    · have : b = 0 := (pk_lEQ hb2 (by first | decide | exact vd (by decide))).mp h
      subst this
      rw [Nat.gcd_zero_right] at hE
      exact hE
    · have hb0 : 0 < b := Nat.pos_of_ne_zero (fun q => h (by rw [q]; rfl))
      rw [pk_lRem ha hb0 hb2]
      have hr : a % b < b := Nat.mod_lt _ hb0
      have hg : Nat.gcd a b = Nat.gcd b (a % b) := by rw [Nat.gcd_comm a b, Nat.gcd_rec b a, Nat.gcd_comm]
      refine ⟨fun h => absurd h (by rw [nI_1]; exact nI_ge (a := i + 1) (b := 200) (by omega) (by first | decide | exact vd (by decide))), fun _ => ⟨fun h2 => ?_, fun h2 => ⟨h2, ?_⟩⟩⟩
      · have : a % b = 0 := (pk_lEQ (by omega) (by first | decide | exact vd (by decide))).mp h2
        rw [hg, this, Nat.gcd_zero_right] at hE
        exact hE
      · have hr0 : 0 < a % b := Nat.pos_of_ne_zero (fun q => h2 (by rw [q]; rfl))
        rw [pk_lRem hb2 hr0 (by omega), nI_1, nI_1]
        have hr2 : b % (a % b) < a % b := Nat.mod_lt _ hr0
        have hr3 : b % (a % b) + (a % b) ≤ b := by
          have e := Nat.div_add_mod b (a % b)
          have e2 : 1 ≤ b / (a % b) := Nat.div_pos (by omega) hr0
          have e3 : a % b * 1 ≤ a % b * (b / (a % b)) := Nat.mul_le_mul_left _ e2
          omega
        refine ih (a % b) (b % (a % b)) (i + 1 + 1) n (by omega) (by omega) (by omega) (by omega) (by omega) ?_
        have hg2 : Nat.gcd b (a % b) = Nat.gcd (a % b) (b % (a % b)) := by rw [Nat.gcd_comm b, Nat.gcd_rec (a % b) b, Nat.gcd_comm]
        rw [← hg2, ← hg]
        exact hE
theorem R_cd (Post E : Int64 → Prop) : ∀ (b a : Nat), a < 2 ^ 63 → b < 2 ^ 63 → E (lN (Nat.gcd a b)) → ∃ n, qv_X8_common_L6 Post E n (lN a) (lN b) := by
  intro b
  induction b using Nat.strongRecOn with
  | _ b ih =>
    intro a ha hb hE
    by_cases hb0 : b = 0
    · subst hb0
      rw [Nat.gcd_zero_right] at hE
      exact ⟨1, fun _ => hE, fun h => absurd rfl h⟩
    · have hp : 0 < b := Nat.pos_of_ne_zero hb0
      have hr : a % b < b := Nat.mod_lt _ hp
      have hg : Nat.gcd a b = Nat.gcd b (a % b) := by rw [Nat.gcd_comm a b, Nat.gcd_rec b a, Nat.gcd_comm]
      obtain ⟨n, hn⟩ := ih (a % b) hr b hb (by omega) (by rw [← hg]; exact hE)
      have hne : ¬ lN b = (0 : Int64) := fun q => hb0 ((pk_lEQ hb (by first | decide | exact vd (by decide))).mp q)
      refine ⟨n + 1, fun h => absurd h hne, fun h => ⟨h, ?_⟩⟩
      rw [pk_lRem ha hp hb]
      exact hn
/-- a part of a fraction in lowest terms -/
def fr (a b p : Nat) : Nat := if p = 0 then a / Nat.gcd a b else b / Nat.gcd a b
theorem fr_mul (G a b p : Nat) (hG : 0 < G) : fr (G * a) (G * b) p = fr a b p := by
  unfold fr
  rw [Nat.gcd_mul_left, Nat.mul_div_mul_left _ _ hG, Nat.mul_div_mul_left _ _ hG]
theorem fr_le {a b p M : Nat} (ha : a ≤ M) (hb : b ≤ M) : fr a b p ≤ M := by
  unfold fr
  have h1 := Nat.div_le_self a (Nat.gcd a b)
  have h2 := Nat.div_le_self b (Nat.gcd a b)
  split <;> omega
theorem C_lowest {a b p : Nat} {Post : Int64 → Prop} (h0 : 0 < b) (ha : a < 2 ^ 63) (hb : b < 2 ^ 63) (hp : p < 2 ^ 31) (h : Post (lN (fr a b p))) : qv_X7_lowest (lN a) (lN b) (nI p) Post := by
  have hg0 : 0 < Nat.gcd a b := Nat.gcd_pos_of_pos_right a h0
  have hg1 : Nat.gcd a b ≤ b := Nat.gcd_le_right a h0
  refine ⟨200, ?_⟩
  refine C_cd _ _ 63 a b 0 200 hb ha hb (by first | decide | exact vd (by decide)) (by first | decide | exact vd (by decide)) ?_
  refine ⟨fun q => absurd ((pk_lEQ (b := 0) (by omega) (by first | decide | exact vd (by decide))).mp q) (by omega), fun q => ⟨fun e => ⟨q, ?_⟩, fun e => ⟨q, ?_⟩⟩⟩
  · have : p = 0 := (nI_eq hp (by first | decide | exact vd (by decide))).mp e
    rw [pk_lDiv ha hg0 (by omega)]
    simpa [fr, this] using h
  · have : p ≠ 0 := fun z => e (by rw [z]; rfl)
    rw [pk_lDiv hb hg0 (by omega)]
    simpa [fr, this] using h
theorem R_part {a b p : Nat} {Post : Int64 → Prop} (h0 : 0 < b) (ha : a < 2 ^ 63) (hb : b < 2 ^ 63) (hp : p < 2 ^ 31) (h : Post (lN (fr a b p))) : qv_X8_part (lN a) (lN b) (nI p) Post := by
  have hg0 : 0 < Nat.gcd a b := Nat.gcd_pos_of_pos_right a h0
  have hg1 : Nat.gcd a b ≤ b := Nat.gcd_le_right a h0
  have hq : ¬ lN (Nat.gcd a b) = (0 : Int64) := fun q => absurd ((pk_lEQ (b := 0) (by omega) (by first | decide | exact vd (by decide))).mp q) (by omega)
  refine R_cd _ _ b a ha hb ?_
  refine ⟨fun e => ⟨hq, ?_⟩, fun e => ⟨hq, ?_⟩⟩
  · have : p = 0 := (nI_eq hp (by first | decide | exact vd (by decide))).mp e
    rw [pk_lDiv ha hg0 (by omega)]
    simpa [fr, this] using h
  · have : p ≠ 0 := fun z => e (by rw [z]; rfl)
    rw [pk_lDiv hb hg0 (by omega)]
    simpa [fr, this] using h
/-! the questions whether a number is one that is told -/
theorem R_in {x lo hi : Int64} {Post : Int32 → Prop} (l h : Int) (hl : lo.toInt = l) (hh : hi.toInt = h) (f : l ≤ x.toInt → x.toInt ≤ h → Post (nI 1)) (g : x.toInt < l ∨ h < x.toInt → Post (nI 0)) : qv_X8_in x lo hi Post := by
  refine ⟨fun q => g (Or.inl ?_), fun q => ⟨fun q2 => g (Or.inr ?_), fun q2 => f ?_ ?_⟩⟩
  all_goals rw [i64_lt] at *
  all_goals omega
theorem R_inI {x : Int32} {lo hi : Int64} {Post : Int32 → Prop} (l h : Int) (hl : lo.toInt = l) (hh : hi.toInt = h) (f : l ≤ x.toInt → x.toInt ≤ h → Post (nI 1)) (g : x.toInt < l ∨ h < x.toInt → Post (nI 0)) : qv_X8_in x.toInt64 lo hi Post :=
  R_in l h hl hh (by rw [Int32.toInt_toInt64]; exact f) (by rw [Int32.toInt_toInt64]; exact g)
