/-! day; minutes and many -/
def drw (z k : Nat) : Nat := (7919 * z + 6151 * k + 1) * (7919 * z + 6151 * k + 1) % 65521 / 8 % 10
theorem drw_lt (z k : Nat) : drw z k < 10 := Nat.mod_lt _ (by first | decide | exact vd (by decide))
theorem drw_e {z k : Nat} (hz : z ≤ 9999) (hk : k ≤ 8) : ((((((((7919 : Int64) * ((nI z).toInt64)) + ((6151 : Int64) * ((nI k).toInt64))) + (1 : Int64)) * ((((7919 : Int64) * ((nI z).toInt64)) + ((6151 : Int64) * ((nI k).toInt64))) + (1 : Int64))) - (((((7919 : Int64) * ((nI z).toInt64)) + ((6151 : Int64) * ((nI k).toInt64))) + (1 : Int64)) * ((((7919 : Int64) * ((nI z).toInt64)) + ((6151 : Int64) * ((nI k).toInt64))) + (1 : Int64))) / (65521 : Int64) * (65521 : Int64)) / (8 : Int64)) - (((((((7919 : Int64) * ((nI z).toInt64)) + ((6151 : Int64) * ((nI k).toInt64))) + (1 : Int64)) * ((((7919 : Int64) * ((nI z).toInt64)) + ((6151 : Int64) * ((nI k).toInt64))) + (1 : Int64))) - (((((7919 : Int64) * ((nI z).toInt64)) + ((6151 : Int64) * ((nI k).toInt64))) + (1 : Int64)) * ((((7919 : Int64) * ((nI z).toInt64)) + ((6151 : Int64) * ((nI k).toInt64))) + (1 : Int64))) / (65521 : Int64) * (65521 : Int64)) / (8 : Int64)) / (10 : Int64) * (10 : Int64)) = lN (drw z k) := by
  rw [nI_l (by omega), nI_l (by omega), ll_7919, ll_6151, ll_1, ll_65521, ll_8, ll_10, lN_mul, lN_mul, lN_add, lN_add, lN_mul]
  have hx : 7919 * z + 6151 * k + 1 ≤ 80000000 := by omega
  have hxx := Nat.mul_le_mul hx hx
  have hm : (7919 * z + 6151 * k + 1) * (7919 * z + 6151 * k + 1) % 65521 < 65521 := Nat.mod_lt _ (by first | decide | exact vd (by decide))
  rw [pk_lRem (by omega) (by first | decide | exact vd (by decide)) (by first | decide | exact vd (by decide)), pk_lDiv (by omega) (by first | decide | exact vd (by decide)) (by first | decide | exact vd (by decide)), pk_lRem (by omega) (by first | decide | exact vd (by decide)) (by first | decide | exact vd (by decide))]
  rfl
/-- whether a set holds no stretch k -/
def nho (s : Int32) (k : Nat) : Bool := decide (((s >>> ((nI k - (1 : Int32)) &&& 31)) &&& (1 : Int32)) = (0 : Int32))
theorem nho_0 {s : Int32} {k : Nat} : ((s >>> ((nI k - (1 : Int32)) &&& 31)) &&& (1 : Int32)) = (0 : Int32) ↔ nho s k = true := by
  unfold nho
  rw [decide_eq_true_iff]
theorem nho_1 {s : Int32} {k : Nat} : ((s >>> ((nI k - (1 : Int32)) &&& 31)) &&& (1 : Int32)) = (1 : Int32) ↔ ¬ nho s k = true := by
  rw [← nho_0]
  obtain ⟨j, hj, e⟩ := pk_andE (s >>> ((nI k - (1 : Int32)) &&& 31)) (m := (1 : Int32)) 1 (by first | decide | exact vd (by decide))
  rw [e]
  rcases (show j = 0 ∨ j = 1 by omega) with rfl | rfl <;> decide
theorem nho_c {s : Int32} {k : Nat} {P Q : Prop} (f : nho s k = true → P) (g : ¬ nho s k = true → Q) : (((s >>> ((nI k - (1 : Int32)) &&& 31)) &&& (1 : Int32)) = (0 : Int32) → P) ∧ (¬ ((s >>> ((nI k - (1 : Int32)) &&& 31)) &&& (1 : Int32)) = (0 : Int32) → Q) :=
  ⟨fun h => f (nho_0.mp h), fun h => g (fun q => h (nho_0.mpr q))⟩
theorem nho_d {s : Int32} {k : Nat} {P Q : Prop} (f : ¬ nho s k = true → P) (g : nho s k = true → Q) : (((s >>> ((nI k - (1 : Int32)) &&& 31)) &&& (1 : Int32)) = (1 : Int32) → P) ∧ (¬ ((s >>> ((nI k - (1 : Int32)) &&& 31)) &&& (1 : Int32)) = (1 : Int32) → Q) :=
  ⟨fun h => f (nho_1.mp h), fun h => g (Decidable.not_not.mp fun q => h (nho_1.mpr q))⟩
theorem C_holds {s : Int32} {k : Nat} {Post : Int32 → Prop} (f : nho s k = true → Post (nI 0)) (g : ¬ nho s k = true → Post (nI 1)) : qv_X7_holds s (nI k) Post := nho_c f g
/-! a walk by draws: away (0, 1) ahead of stretch k, minutes, losses; n stretches still -/
def dAw (A : Nat → Nat) (z k aw : Nat) : Nat := if aw = 0 then (if drw z k < A (3 + 3 * k) then 1 else 0) else (if drw z k < A (4 + 3 * k) then 0 else 1)
def dLo (A : Nat → Nat) (z k aw lo : Nat) : Nat := if aw = 0 then (if drw z k < A (3 + 3 * k) then lo + 1 else lo) else lo
def dMi (A : Nat → Nat) (k aw mi : Nat) : Nat := if aw = 0 then mi else mi + A (2 + 3 * k)
def dayW (A : Nat → Nat) (z : Nat) (s : Int32) : Nat → Nat → Nat → Nat → Nat → Nat × Nat
  | 0, _, _, mi, lo => (mi, lo)
  | n + 1, k, aw, mi, lo => dayW A z s n (k + 1) (if nho s k = true then dAw A z k aw else 0) (dMi A k (dAw A z k aw) mi) (dLo A z k aw lo)
def a_day (A : Nat → Nat) (x1 x2 x3 : Int32) : Int32 := if 0 ≤ x1.toInt ∧ x1.toInt ≤ 9999 ∧ 0 ≤ x2.toInt ∧ x2.toInt < ((1 : Int32) <<< (nI (A 0) &&& 31)).toInt ∧ 0 ≤ x3.toInt ∧ x3.toInt ≤ 1 then (if x3.toInt = 0 then nI (dayW A x1.toInt.toNat x2 (A 0) 1 0 0 0).1 else nI (dayW A x1.toInt.toNat x2 (A 0) 1 0 0 0).2) else -1
section SM
variable {A : Nat → Nat} {st cO cB fB fd : Int32} {mi lo ba sl ta : Nat → Int32} {ti : Nat → Nat → Int32} {la : Nat → Int32}
theorem C_dayJ {A : Nat → Nat} {mi lo ba : Nat → Int32} {z m l aw k : Nat} {s x3 st : Int32} {Post : Int32 → Prop} {K : Int32 → Int32 → Int32 → Int32 → Prop} {E : Int32 → Int32 → Prop} (hk : k ≤ 8) (hm : mi k = nI (A (2 + 3 * k))) (haw : aw ≤ 1) (h : K (nI (if nho s k = true then aw else 0)) (nI (dMi A k aw m)) (nI l) (nI (k + 1))) : qv_X7_day_J122 (nI z) s x3 (nI aw) (nI m) (nI l) (nI k) st mi lo ba Post K E := by
  have fin : ∀ m', nI (dMi A k aw m) = m' → qv_X7_day_J142 (nI z) s x3 (nI aw) m' (nI l) (nI k) st mi lo ba Post K E := fun m' e => by
    subst e
    refine C_holds (fun q => t0 ?_) (fun q => t1 ?_)
    · rw [if_pos q] at h; rw [nI_1]; exact h
    · rw [if_neg q] at h; rw [nI_1]; exact h
  refine pk_eq aw 0 (fun q => fin _ (by rw [dMi, if_pos q])) (fun q => ⟨vp_in_nI (by omega) (by first | decide | exact vd (by decide)), fin _ ?_⟩)
  rw [nI_clamp (by omega), hm, nI_add, dMi, if_neg q]
theorem C_dayL {x3 : Int32} (hA : OKL A) (hC : CL A st cO cB fB fd mi lo ba sl ta ti) {z : Nat} (hz : z ≤ 9999) (s : Int32) (Post : Int32 → Prop) (E : Int32 → Int32 → Prop) : ∀ n k aw m l, k + n = A 0 + 1 → 1 ≤ k → aw ≤ 1 → E (nI (dayW A z s n k aw m l).1) (nI (dayW A z s n k aw m l).2) → qv_X7_day_L51 (nI z) s x3 st mi lo ba Post E (n + 1) (nI aw) (nI m) (nI l) (nI k) := by
  obtain ⟨⟨rfl, e1, e2, e3, e4⟩, em, es, et⟩ := hC
  have hA0 := hA.1.1
  intro n
  induction n with
  | zero =>
    intro k aw m l hk h1 haw hE
    exact pk_lt (A 0) k (fun _ => hE) (fun h => absurd h (by omega))
  | succ n ih =>
    intro k aw m l hk h1 haw hE
    obtain ⟨m1, m2, m3⟩ := em k h1 (by omega)
    obtain ⟨r1, r2, r3, r4⟩ := hA.2.2.1 k h1 (by omega)
    have hd := drw_lt z k
    refine pk_lt (A 0) k (fun h => absurd h (by omega)) (fun _ => ?_)
    unfold qv_X7_draw
    rw [drw_e hz (by omega), lN_i]
    have hin : vp_in (nI k) 9 := vp_in_nI (by omega) (by first | decide | exact vd (by decide))
    rw [dayW] at hE
    have go : ∀ aw' l', aw' = dAw A z k aw → l' = dLo A z k aw l → qv_X7_day_J122 (nI z) s x3 (nI aw') (nI m) (nI l') (nI k) (nI (A 0)) mi lo ba Post (qv_X7_day_L51 (nI z) s x3 (nI (A 0)) mi lo ba Post E (n + 1)) E := fun aw' l' ea el => by
      subst ea el
      have ha : dAw A z k aw ≤ 1 := by unfold dAw; split <;> split <;> omega
      refine C_dayJ (A := A) (by omega) m1 ha (ih (k + 1) _ _ _ (by omega) (by omega) ?_ hE)
      split <;> omega
    rw [nI_clamp (by omega), m2, m3]
    refine pk_eq aw 0 (fun q => ⟨hin, pk_le (A (3 + 3 * k)) (drw z k) (fun q2 => ?_) (fun q2 => ?_)⟩) (fun q => ⟨hin, pk_lt (drw z k) (A (4 + 3 * k)) (fun q2 => ?_) (fun q2 => ?_)⟩)
    · exact go aw l (by rw [dAw, if_pos q, if_neg (by omega), q]) (by rw [dLo, if_pos q, if_neg (by omega)])
    · rw [nI_1]; exact go 1 (l + 1) (by rw [dAw, if_pos q, if_pos (by omega)]) (by rw [dLo, if_pos q, if_pos (by omega)])
    · exact go 0 l (by rw [dAw, if_neg q, if_pos (by omega)]) (by rw [dLo, if_neg q])
    · exact go 1 l (by rw [dAw, if_neg q, if_neg (by omega)]) (by rw [dLo, if_neg q])
theorem C_day (hA : OKL A) (hC : CL A st cO cB fB fd mi lo ba sl ta ti) {x1 x2 x3 : Int32} {Post : Int32 → Prop} (h : Post (a_day A x1 x2 x3)) : qv_X7_day x1 x2 x3 st mi lo ba Post := by
  have e0 : st = nI (A 0) := hC.1.1
  have bad : ¬ (0 ≤ x1.toInt ∧ x1.toInt ≤ 9999 ∧ 0 ≤ x2.toInt ∧ x2.toInt < ((1 : Int32) <<< (nI (A 0) &&& 31)).toInt ∧ 0 ≤ x3.toInt ∧ x3.toInt ≤ 1) → Post (-1) := fun q => by rw [a_day, if_neg q] at h; exact h
  rw [show qv_X7_day x1 x2 x3 st mi lo ba Post = qv_X7_day x1 x2 x3 (nI (A 0)) mi lo ba Post by rw [e0]]
  refine bl x1.toInt 0 rfl rfl (fun q => bad (by omega)) (fun q1 => bl 9999 x1.toInt rfl rfl (fun q => bad (by omega)) (fun q2 => bl x2.toInt 0 rfl rfl (fun q => bad (by omega)) (fun q3 => b_le _ x2.toInt rfl rfl (fun q => bad (by omega)) (fun q4 => ?_))))
  have key : (0 ≤ x3.toInt ∧ x3.toInt ≤ 1) → qv_X7_day_J39 x1 x2 x3 (nI (A 0)) mi lo ba Post := fun q5 => by
    obtain ⟨z, hz, rfl, ez⟩ := nI_of3 (x := x1) (n := 10000) (by first | decide | exact vd (by decide)) (by omega) (by omega)
    rw [a_day, if_pos (by omega), ez] at h
    rw [e0] at hC
    refine ⟨A 0 + 1, C_dayL hA hC (by omega) x2 _ _ (A 0) 1 0 0 0 (by omega) (by omega) (by omega) ?_⟩
    exact bq x3.toInt 0 rfl rfl (fun q => by rw [if_pos q] at h; exact h) (fun q => by rw [if_neg q] at h; exact h)
  exact bq x3.toInt 0 rfl rfl (fun q => key (by omega)) (fun q => bq x3.toInt 1 rfl rfl (fun q2 => key (by omega)) (fun q2 => bad (by omega)))
theorem R_dayL {x3 : Int32} (hA : OKL A) (hR : RLd A la) {z : Nat} (hz : z ≤ 9999) (s : Int32) (Post : Int32 → Prop) (E : Int32 → Int32 → Prop) : ∀ n k aw m l, k + n = A 0 + 1 → 1 ≤ k → aw ≤ 1 → E (nI (dayW A z s n k aw m l).1) (nI (dayW A z s n k aw m l).2) → qv_X8_day_L56 (nI z) s x3 la Post E (n + 1) (nI aw) (nI m) (nI l) (nI k) := by
  have e0 : la ((0 : Int32).toNatClampNeg) = nI (A 0) := hR 0 (by first | decide | exact vd (by decide))
  have hA0 := hA.1.1
  intro n
  induction n with
  | zero =>
    intro k aw m l hk h1 haw hE
    refine ⟨by first | decide | exact vd (by decide), ?_⟩
    rw [e0]
    exact pk_lt (A 0) k (fun _ => hE) (fun h => absurd h (by omega))
  | succ n ih =>
    intro k aw m l hk h1 haw hE
    obtain ⟨r1, r2, r3, r4⟩ := hA.2.2.1 k h1 (by omega)
    have hd := drw_lt z k
    have i3 : (3 : Int32) + (3 : Int32) * nI k = nI (3 + 3 * k) := by rw [li_3, pk_mul, nI_add]
    have i4 : (4 : Int32) + (3 : Int32) * nI k = nI (4 + 3 * k) := by rw [li_3, li_4, pk_mul, nI_add]
    have i2 : (2 : Int32) + (3 : Int32) * nI k = nI (2 + 3 * k) := by rw [li_3, li_2, pk_mul, nI_add]
    refine ⟨by first | decide | exact vd (by decide), ?_⟩
    rw [e0]
    refine pk_lt (A 0) k (fun h => absurd h (by omega)) (fun _ => ?_)
    rw [drw_e hz (by omega), i3, i4, nI_clamp (by omega), nI_clamp (by omega), hR _ (by omega), hR _ (by omega)]
    rw [dayW] at hE
    have ha : dAw A z k aw ≤ 1 := by unfold dAw; split <;> split <;> omega
    have fin : qv_X8_day_L56 (nI z) s x3 la Post E (n + 1) (nI (if nho s k = true then dAw A z k aw else 0)) (nI (dMi A k (dAw A z k aw) m)) (nI (dLo A z k aw l)) (nI (k + 1)) := ih (k + 1) _ _ _ (by omega) (by omega) (by split <;> omega) hE
    have j180 : ∀ a l', a = nI (dAw A z k aw) → l' = nI (dLo A z k aw l) → qv_X8_day_J180 a (nI z) s x3 (nI m) l' (nI k) la Post (qv_X8_day_L56 (nI z) s x3 la Post E (n + 1)) E := fun a l' ea el => by
      subst ea el
      refine pk_eq (dAw A z k aw) 0 (fun q => ?_) (fun q => ?_)
      · refine br_t (by rw [q]; rfl) ?_
        rw [dMi, if_pos q] at fin
        have : (if nho s k = true then dAw A z k aw else 0) = 0 := by split <;> omega
        rw [this] at fin
        rw [li_0, nI_add, nI_1, Nat.add_zero]
        exact fin
      · refine ⟨by rw [i2]; exact vp_in_nI (by omega) (by first | decide | exact vd (by decide)), ?_⟩
        rw [dMi, if_neg q] at fin
        rw [i2, nI_clamp (by omega), hR _ (by omega)]
        have q' : dAw A z k aw = 1 := by omega
        rw [q'] at fin ⊢
        refine br_f (by first | decide | exact vd (by decide)) (nho_c (fun b => ?_) (fun b => ?_))
        · rw [if_pos b] at fin; rw [nI_add, nI_1]; exact fin
        · rw [if_neg b] at fin; rw [nI_add, nI_1]; exact fin
    refine pk_eq aw 0 (fun q => ⟨vp_in_nI (by omega) (by first | decide | exact vd (by decide)), ?_⟩) (fun q => ⟨vp_in_nI (by omega) (by first | decide | exact vd (by decide)), ?_⟩)
    · subst q
      unfold qv_X8_day_J136
      rw [nI_l (by omega)]
      have hle := pk_lLE (a := A (3 + 3 * k)) (b := drw z k) (by omega) (by omega)
      refine ⟨fun c => t0 (br_t rfl (j180 _ _ ?_ ?_)), fun c => ?_⟩
      · rw [dAw, if_pos rfl, if_neg (by have := hle.mp c; omega)]; rfl
      · rw [dLo, if_pos rfl, if_neg (by have := hle.mp c; omega), li_0, nI_add, Nat.add_zero]
      · have c' : drw z k < A (3 + 3 * k) := Nat.not_le.mp fun z => c (hle.mpr z)
        refine br_f (by first | decide | exact vd (by decide)) (br_t rfl (br_f (by first | decide | exact vd (by decide)) (j180 _ _ ?_ ?_)))
        · rw [dAw, if_pos rfl, if_pos c']; rfl
        · rw [dLo, if_pos rfl, if_pos c', li_1, nI_add]
    · have q' : aw = 1 := by omega
      subst q'
      unfold qv_X8_day_J136
      rw [nI_l (by omega)]
      have hle := pk_lLE (a := A (4 + 3 * k)) (b := drw z k) (by omega) (by omega)
      refine ⟨fun c => t0 (br_f (by first | decide | exact vd (by decide)) (j180 _ _ ?_ ?_)), fun c => ?_⟩
      · rw [dAw, if_neg (by first | decide | exact vd (by decide)), if_neg (by have := hle.mp c; omega)]; rfl
      · rw [dLo, if_neg (by first | decide | exact vd (by decide)), li_0, nI_add, Nat.add_zero]
      · have c' : drw z k < A (4 + 3 * k) := Nat.not_le.mp fun z => c (hle.mpr z)
        refine br_f (by first | decide | exact vd (by decide)) (br_f (by first | decide | exact vd (by decide)) (br_t rfl (j180 _ _ ?_ ?_)))
        · rw [dAw, if_neg (by first | decide | exact vd (by decide)), if_pos c']; rfl
        · rw [dLo, if_neg (by first | decide | exact vd (by decide)), li_0, nI_add, Nat.add_zero]
theorem shl_1 : ∀ n, n ≤ 8 → (1 : Int32) <<< (nI n &&& 31) = nI (2 ^ n) ∧ 2 ^ n ≤ 256 ∧ 1 ≤ 2 ^ n := by first | decide | exact vd (by decide)
theorem R_day (hA : OKL A) (hR : RLd A la) {x1 x2 x3 : Int32} {Post : Int32 → Prop} (h : Post (a_day A x1 x2 x3)) : qv_X8_day x1 x2 x3 la Post := by
  have e0 : la ((0 : Int32).toNatClampNeg) = nI (A 0) := hR 0 (by first | decide | exact vd (by decide))
  have hA0 := hA.1.1
  have bad : ¬ (0 ≤ x1.toInt ∧ x1.toInt ≤ 9999 ∧ 0 ≤ x2.toInt ∧ x2.toInt < ((1 : Int32) <<< (nI (A 0) &&& 31)).toInt ∧ 0 ≤ x3.toInt ∧ x3.toInt ≤ 1) → Post (-1) := fun q => by rw [a_day, if_neg q] at h; exact h
  obtain ⟨es, s1, s2⟩ := shl_1 (A 0) hA0
  have ti2 : ((1 : Int32) <<< (nI (A 0) &&& 31)).toInt = (2 ^ (A 0) : Nat) := by rw [es, nI_toInt (by omega)]
  refine R_inI 0 9999 rfl rfl (fun q1 q2 => t1 ⟨by first | decide | exact vd (by decide), R_inI 0 ((2 ^ (A 0) : Nat) - 1) rfl ?_ (fun q3 q4 => t1 (R_inI 0 1 rfl rfl (fun q5 q6 => t1 ⟨A 0 + 1, ?_⟩) (fun q => t0 (bad (by omega))))) (fun q => t0 (bad (by omega)))⟩) (fun q => t0 (bad (by omega)))
  · rw [e0, es, Int32.toInt_toInt64, show nI (2 ^ A 0) - (1 : Int32) = nI (2 ^ A 0 - 1) from pk_sub (b := 1) s2, nI_toInt (by omega)]
    omega
  · obtain ⟨z, hz, rfl, ez⟩ := nI_of3 (x := x1) (n := 10000) (by first | decide | exact vd (by decide)) (by omega) (by omega)
    rw [a_day, if_pos (by omega), ez] at h
    refine R_dayL hA hR (by omega) x2 _ _ (A 0) 1 0 0 0 (by omega) (by omega) (by omega) ?_
    exact bq x3.toInt 0 rfl rfl (fun q => by rw [if_pos q] at h; exact h) (fun q => by rw [if_neg q] at h; exact h)
/-! minutes, many -/
theorem C_mOver {mi : Nat → Int32} {to : Nat} (f : Nat → Nat) (hto : to ≤ 8) (Post E : Int32 → Prop) : ∀ n i s, i + n = to + 1 → (∀ k, i ≤ k → k ≤ to → mi k = nI (f k)) → E (nI (s + sm f i n)) → qv_X2_minutesOver_L5 (nI to) mi Post E (n + 1) (nI s) (nI i) := by
  intro n
  induction n with
  | zero =>
    intro i s hi hm hE
    exact pk_lt to i (fun _ => hE) (fun h => absurd h (by omega))
  | succ n ih =>
    intro i s hi hm hE
    refine pk_lt to i (fun h => absurd h (by omega)) (fun _ => ⟨vp_in_nI (by omega) (by first | decide | exact vd (by decide)), ?_⟩)
    rw [nI_clamp (by omega), hm i (by omega) (by omega), nI_add, nI_1]
    refine ih (i + 1) (s + f i) (by omega) (fun k h1 h2 => hm k (by omega) h2) ?_
    rw [sm, ← Nat.add_assoc] at hE
    exact hE
theorem C_minutesOver {mi : Nat → Int32} {fro to : Nat} (f : Nat → Nat) (hto : to ≤ 8) (hf : fro ≤ to + 1) (hm : ∀ k, fro ≤ k → k ≤ to → mi k = nI (f k)) {Post : Int32 → Prop} (h : Post (nI (sm f fro (to + 1 - fro)))) : qv_X2_minutesOver (nI fro) (nI to) mi Post :=
  ⟨to + 1 - fro + 1, C_mOver f hto _ _ (to + 1 - fro) fro 0 (by omega) hm (by rw [Nat.zero_add]; exact h)⟩
theorem C_mSpL {mi ta so : Nat → Int32} {w c : Nat} {x : Int32} (t : Nat → Nat) (hc : c ≤ 6) (hs : ∀ k, k < c → vp_in (so k) 4 ∧ ta (so k).toNatClampNeg = nI (t k)) (Post E : Int32 → Prop) : ∀ n i s, i + n = c → E (nI (s + sm t i n)) → qv_X7_minutesSpent_L18 x (nI c) mi ta so Post E (n + 1) (nI s) (nI i) := by
  intro n
  induction n with
  | zero =>
    intro i s hi hE
    exact pk_le c i (fun _ => hE) (fun h => absurd h (by omega))
  | succ n ih =>
    intro i s hi hE
    refine pk_le c i (fun h => absurd h (by omega)) (fun _ => ⟨vp_in_nI (by omega) (by first | decide | exact vd (by decide)), ?_⟩)
    rw [nI_clamp (by omega), (hs i (by omega)).2, nI_add, nI_1]
    refine ⟨(hs i (by omega)).1, ih (i + 1) (s + t i) (by omega) ?_⟩
    rw [sm, ← Nat.add_assoc] at hE
    exact hE
theorem R_miL4 {so : Nat → Int32} {w : Nat} {x : Int32} (f : Nat → Nat) (hw : w ≤ 8) (Post E : Int32 → Prop) : ∀ n i s, i + n = w + 1 → (∀ k, i ≤ k → k ≤ w → la (2 + 3 * k) = nI (f k)) → E (nI (s + sm f i n)) → qv_X8_minutes_L4 (nI w) x la so Post E (n + 1) (nI s) (nI i) := by
  intro n
  induction n with
  | zero =>
    intro i s hi hm hE
    exact pk_lt w i (fun _ => hE) (fun h => absurd h (by omega))
  | succ n ih =>
    intro i s hi hm hE
    have i2 : (2 : Int32) + (3 : Int32) * nI i = nI (2 + 3 * i) := by rw [li_3, li_2, pk_mul, nI_add]
    refine pk_lt w i (fun h => absurd h (by omega)) (fun _ => ?_)
    unfold qv_X8_m
    dsimp only
    rw [i2, nI_clamp (by omega), hm i (by omega) (by omega), nI_add, nI_1]
    refine ⟨vp_in_nI (by omega) (by first | decide | exact vd (by decide)), ih (i + 1) (s + f i) (by omega) (fun k h1 h2 => hm k (by omega) h2) ?_⟩
    rw [sm, ← Nat.add_assoc] at hE
    exact hE
theorem R_miL28 {so : Nat → Int32} {c : Nat} {x : Int32} (t S : Nat → Nat) (hc : c ≤ 6) (hs : ∀ k, k < c → so k = nI (S k) ∧ S k < 4 ∧ la (30 + 2 * S k) = nI (t k)) (Post E : Int32 → Prop) : ∀ n i s, i + n = c → E (nI (s + sm t i n)) → qv_X8_minutes_L28 x (nI c) la so Post E (n + 1) (nI s) (nI i) := by
  intro n
  induction n with
  | zero =>
    intro i s hi hE
    exact pk_le c i (fun _ => hE) (fun h => absurd h (by omega))
  | succ n ih =>
    intro i s hi hE
    obtain ⟨s1, s2, s3⟩ := hs i (by omega)
    have e : (29 : Int32) + (2 : Int32) * nI (S i) + (1 : Int32) = nI (30 + 2 * S i) := by rw [li_29, li_2, li_1, pk_mul, nI_add, nI_add]; congr 1; omega
    refine pk_le c i (fun h => absurd h (by omega)) (fun _ => ⟨vp_in_nI (by omega) (by first | decide | exact vd (by decide)), ?_⟩)
    rw [nI_clamp (by omega), s1, e, nI_clamp (by omega), s3, nI_add, nI_1]
    refine ⟨vp_in_nI (by omega) (by first | decide | exact vd (by decide)), ih (i + 1) (s + t i) (by omega) ?_⟩
    rw [sm, ← Nat.add_assoc] at hE
    exact hE
def a_many (A : Nat → Nat) (w c u kp n : Nat) (S : Nat → Nat) (x : Int32) : Int32 := if x = 0 then nI (A 0) else if x = 1 then nI w else if x = 2 then nI c else if x = 3 then nI (A 1) else if x = 4 then nI (sm (fun k => A (2 + 3 * k)) 1 w + sm (fun k => A (30 + 2 * S k)) 0 c) else if x = 5 then nI u else if x = 6 then nI kp else if x = 7 then nI n else -1
theorem many_7 (x : Int32) (h : x.toInt < 0 ∨ 7 < x.toInt) : x ≠ 0 ∧ x ≠ 1 ∧ x ≠ 2 ∧ x ≠ 3 ∧ x ≠ 4 ∧ x ≠ 5 ∧ x ≠ 6 ∧ x ≠ 7 := by
  refine ⟨?_, ?_, ?_, ?_, ?_, ?_, ?_, ?_⟩ <;> intro e <;> subst e <;> revert h <;> decide
theorem C_many (hA : OKL A) (hC : CL A st cO cB fB fd mi lo ba sl ta ti) {w c u kp n : Nat} {S : Nat → Nat} {so : Nat → Int32} (hw : w ≤ A 0) (hc : c ≤ 6) (hs : ∀ k, k < c → so k = nI (S k) ∧ S k < 4) {x : Int32} {Post : Int32 → Prop} (h : Post (a_many A w c u kp n S x)) : qv_X7_many x (nI kp) (nI n) st fd (nI w) (nI c) (nI u) mi ta so Post := by
  obtain ⟨⟨rfl, rfl, e2, e3, e4⟩, em, es, et⟩ := hC
  have hA0 := hA.1.1
  refine ⟨fun e => ?_, fun e => ?_, fun e => ?_, fun e => ?_, fun e => ?_, fun e => ?_, fun e => ?_, fun e => ?_, fun e => ?_⟩
  · subst e; exact h
  · subst e; exact h
  · subst e; exact h
  · subst e; exact h
  · subst e
    have h' : Post (nI (sm (fun k => A (2 + 3 * k)) 1 w + sm (fun k => A (30 + 2 * S k)) 0 c)) := h
    refine C_minutesOver (fro := 1) (fun k => A (2 + 3 * k)) (by omega) (by omega) (fun k h1 h2 => (em k h1 (by omega)).1) ⟨c + 1, ?_⟩
    rw [show w + 1 - 1 = w by omega]
    refine C_mSpL (w := w) (fun k => A (30 + 2 * S k)) hc (fun k hk => ?_) _ _ c 0 _ (by omega) h'
    obtain ⟨s1, s2⟩ := hs k hk
    rw [s1, nI_clamp (by omega)]
    exact ⟨vp_in_nI s2 (by first | decide | exact vd (by decide)), (es _ s2).2⟩
  · subst e; exact h
  · subst e; exact h
  · subst e; exact h
  · obtain ⟨n0, n1, n2, n3, n4, n5, n6, n7⟩ := many_7 x e
    rw [a_many, if_neg n0, if_neg n1, if_neg n2, if_neg n3, if_neg n4, if_neg n5, if_neg n6, if_neg n7] at h
    exact h
theorem R_many (hA : OKL A) (hR : RLd A la) {w c u kp n : Nat} {S : Nat → Nat} {so : Nat → Int32} (hw : w ≤ A 0) (hc : c ≤ 6) (hs : ∀ k, k < c → so k = nI (S k) ∧ S k < 4) {x : Int32} {Post : Int32 → Prop} (h : Post (a_many A w c u kp n S x)) : qv_X8_many x (nI n) (nI w) (nI c) (nI u) (nI kp) la so Post := by
  have hA0 := hA.1.1
  have e0 : la ((0 : Int32).toNatClampNeg) = nI (A 0) := hR 0 (by first | decide | exact vd (by decide))
  have e1 : la ((1 : Int32).toNatClampNeg) = nI (A 1) := hR 1 (by first | decide | exact vd (by decide))
  refine ⟨fun e => ⟨by first | decide | exact vd (by decide), ?_⟩, fun e => ?_, fun e => ?_, fun e => ⟨by first | decide | exact vd (by decide), ?_⟩, fun e => ?_, fun e => ?_, fun e => ?_, fun e => ?_, fun e => ?_⟩
  · subst e; rw [e0]; exact h
  · subst e; exact h
  · subst e; exact h
  · subst e; rw [e1]; exact h
  · subst e
    have h' : Post (nI (sm (fun k => A (2 + 3 * k)) 1 w + sm (fun k => A (30 + 2 * S k)) 0 c)) := h
    refine ⟨w + 1, R_miL4 (fun k => A (2 + 3 * k)) (by omega) _ _ w 1 0 (by omega) (fun k h1 h2 => hR _ (by omega)) ⟨c + 1, ?_⟩⟩
    rw [Nat.zero_add]
    exact R_miL28 (fun k => A (30 + 2 * S k)) S hc (fun k hk => ⟨(hs k hk).1, (hs k hk).2, hR _ (by have := (hs k hk).2; omega)⟩) _ _ c 0 _ (by omega) h'
  · subst e; exact h
  · subst e; exact h
  · subst e; exact h
  · obtain ⟨n0, n1, n2, n3, n4, n5, n6, n7⟩ := many_7 x e
    rw [a_many, if_neg n0, if_neg n1, if_neg n2, if_neg n3, if_neg n4, if_neg n5, if_neg n6, if_neg n7] at h
    exact h
end SM
