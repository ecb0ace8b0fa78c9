/-! decide, again, far -/
def mn (a b : Nat) : Nat := if b < a then b else a
theorem mn_le (a b : Nat) : mn a b ≤ a := by unfold mn; split <;> omega
theorem mn_mul (G a b : Nat) (hG : 0 < G) : mn (G * a) (G * b) = G * mn a b := by
  unfold mn
  by_cases h : b < a
  · rw [if_pos h, if_pos ((Nat.mul_lt_mul_left hG).mpr h)]
  · rw [if_neg h, if_neg (fun z => h ((Nat.mul_lt_mul_left hG).mp z))]
def d_on (A P : Nat → Nat) : Nat := A 2 * sm P 1 8
def d_bk (A P : Nat → Nat) : Nat := A 3 * P 0
def a_decide (A P : Nat → Nat) (x : Int32) : Int64 := if 0 ≤ x.toInt ∧ x.toInt ≤ 2 then (if tot P = 0 then -4 else if x.toInt = 0 then (if d_bk A P < d_on A P then 1 else 0) else lN (fr (mn (d_on A P) (d_bk A P)) (tot P) (x.toInt.toNat - 1))) else -1
theorem d_on_mul {A P P' : Nat → Nat} {G : Nat} (h : ∀ s, s < 9 → P s = G * P' s) : d_on A P = G * d_on A P' := by
  rw [d_on, d_on, away_mul h, Nat.mul_left_comm]
theorem d_bk_mul {A P P' : Nat → Nat} {G : Nat} (h : ∀ s, s < 9 → P s = G * P' s) : d_bk A P = G * d_bk A P' := by
  rw [d_bk, d_bk, h 0 (by first | decide | exact vd (by decide)), Nat.mul_left_comm]
theorem a_decide_mul {A P P' : Nat → Nat} {G : Nat} (hG : 0 < G) (h : ∀ s, s < 9 → P s = G * P' s) (x : Int32) : a_decide A P x = a_decide A P' x := by
  unfold a_decide
  by_cases q : 0 ≤ x.toInt ∧ x.toInt ≤ 2
  · rw [if_pos q, if_pos q]
    by_cases z : tot P' = 0
    · rw [if_pos z, if_pos ((tot_mul0 hG h).mpr z)]
    · rw [if_neg z, if_neg (fun y => z ((tot_mul0 hG h).mp y)), tot_mul h, d_on_mul h, d_bk_mul h, mn_mul _ _ _ hG, fr_mul _ _ _ _ hG]
      simp only [Nat.mul_lt_mul_left hG]
  · rw [if_neg q, if_neg q]
theorem d_on_le {A P : Nat → Nat} (hA : OKL A) : d_on A P ≤ 99 * tot P ∧ d_bk A P ≤ 99 * tot P := by
  have h2 := hA.2.1.1
  have h3 := hA.2.1.2.1
  have e := tot_e P
  exact ⟨Nat.mul_le_mul h2 (by omega), Nat.mul_le_mul h3 (by omega)⟩
theorem lmn {a b : Nat} (ha : a < 2 ^ 63) (hb : b < 2 ^ 63) : (if lN b < lN a then lN b else lN a) = lN (mn a b) := by
  unfold mn
  have e := pk_lLT hb ha
  by_cases h : b < a
  · rw [if_pos h, if_pos (e.mpr h)]
  · rw [if_neg h, if_neg (fun z => h (e.mp z))]
theorem C_answer {T X p : Nat} {wh : Int32} {Post : Int64 → Prop} (hT : T < 2 ^ 63) (hX : X < 2 ^ 63) (hp : p ≤ 2) (z : T = 0 → Post (-4)) (f : 0 < T → p = 0 → Post wh.toInt64) (g : 0 < T → 0 < p → Post (lN (fr X T (p - 1)))) : qv_X1_answer (nI p) wh (lN X) (lN T) Post := by
  have e := pk_lEQ (a := T) (b := 0) hT (by first | decide | exact vd (by decide))
  refine ⟨fun h => z (e.mp h), fun h => ?_⟩
  have hT0 : 0 < T := Nat.pos_of_ne_zero fun z => h (e.mpr z)
  refine pk_eq p 0 (fun q => f hT0 q) (fun q => ?_)
  rw [show nI p - (1 : Int32) = nI (p - 1) from pk_sub (b := 1) (by omega)]
  exact C_lowest hT0 hX hT (by omega) (g hT0 (by omega))
section OD
variable {A : Nat → Nat} {st cO cB fB fd : Int32} {mi lo ba sl ta : Nat → Int32} {ti : Nat → Nat → Int32} {la : Nat → Int32}
theorem C_onOrBack (hA : OKL A) (hC : CL A st cO cB fB fd mi lo ba sl ta ti) {P : Nat → Nat} {o : Nat → Int64} (ho : CO o P) (hb : tot P ≤ 100000000000000) {a : Int32} {b c : Int64} {Post : Int32 → Int64 → Int64 → Prop} (h : Post (if d_bk A P < d_on A P then nI 1 else nI 0) (lN (mn (d_on A P) (d_bk A P))) (lN (tot P))) : qv_X1_onOrBack a b c cO cB (lN (sm P 1 8)) (lN (tot P)) o Post := by
  obtain ⟨⟨e0, e1, rfl, rfl, rfl⟩, em, es, et⟩ := hC
  have h2 := hA.2.1.1
  have h3 := hA.2.1.2.1
  have hle := d_on_le (P := P) hA
  have o0 : o (0 : Int32).toNatClampNeg = lN (P 0) := ho 0 (by first | decide | exact vd (by decide))
  refine ⟨by first | decide | exact vd (by decide), ?_⟩
  rw [o0, nI_l (by omega), nI_l (by omega), lN_mul, lN_mul]
  have e := pk_lLT (a := d_bk A P) (b := d_on A P) (by omega) (by omega)
  unfold qv_X1_onOrBack_J38
  rw [show A 2 * sm P 1 8 = d_on A P from rfl, show A 3 * P 0 = d_bk A P from rfl, lmn (by omega) (by omega)]
  refine ⟨fun q => ?_, fun q => ?_⟩
  · rw [if_pos (e.mp q)] at h; exact h
  · rw [if_neg (fun z => q (e.mpr z))] at h; exact h
theorem C_decide (hA : OKL A) (hC : CL A st cO cB fB fd mi lo ba sl ta ti) {w m : Nat} {B Q D : Nat → Nat} (hV : VW (A 0) w m B Q D) {be so te : Nat → Int32} (hW : WA m B Q D be so te) {aw al : Int64} {o : Nat → Int64} {a : Int32} {b c : Int64} {x : Int32} {Post : Int64 → Int64 → Int64 → Int32 → Int64 → Int64 → (Nat → Int64) → Prop} (h : ∀ aw al a b c o, Post (a_decide A (RU A w m B Q D).1 x) aw al a b c o) : qv_X7_decide x cO cB (nI w) (nI m) aw al a b c lo ba sl be so te o Post := by
  have hA0 := hA.1.1
  have hw := hV.1
  refine C_isOfChoice (fun p hp ep tp => t1 ?_) (fun q => t0 (by rw [a_decide, if_neg (by omega)] at h; exact h _ _ _ _ _ _))
  rw [a_decide, if_pos (by omega), tp] at h
  subst ep
  refine C_follow hA hC hV hW (fun o' ho hb => ?_)
  have hb := b14 (by omega) hV.2.1 hb
  have hle := d_on_le (P := (RU A w m B Q D).1) hA
  have hmn := mn_le (d_on A (RU A w m B Q D).1) (d_bk A (RU A w m B Q D).1)
  refine C_onOrBack hA hC ho hb (C_answer (by omega) (by omega) hp (fun z => ?_) (fun z z2 => ?_) (fun z z2 => ?_))
  · rw [if_pos z] at h; exact h _ _ _ _ _ _
  · rw [if_neg (by omega), if_pos (by omega)] at h
    have e : (if d_bk A (RU A w m B Q D).1 < d_on A (RU A w m B Q D).1 then nI 1 else nI 0).toInt64 = (if d_bk A (RU A w m B Q D).1 < d_on A (RU A w m B Q D).1 then 1 else 0) := by split <;> decide
    rw [e]; exact h _ _ _ _ _ _
  · rw [if_neg (by omega), if_neg (by omega), Int.toNat_natCast] at h; exact h _ _ _ _ _ _
theorem R_decide (hA : OKL A) (hR : RLd A la) {w m : Nat} {B Q D : Nat → Nat} (hV : VW (A 0) w m B Q D) {be so te : Nat → Int32} (hW : WA m B Q D be so te) {al : Int64} {o : Nat → Int64} {x : Int32} {Post : Int64 → Int64 → (Nat → Int64) → Prop} (h : ∀ al o, Post (a_decide A (RU A w m B Q D).1 x) al o) : qv_X8_decide x (nI w) (nI m) al la be so te o Post := by
  have hA0 := hA.1.1
  have hw := hV.1
  have h2 := hA.2.1.1
  have h3 := hA.2.1.2.1
  refine R_isOfChoice (fun p hp ep tp => t1 ?_) (fun q => t0 (by rw [a_decide, if_neg (by omega)] at h; exact h _ _))
  refine R_goes hA hR hV hW (fun al o hs hb => ?_)
  have hb := b14 (by omega) hV.2.1 hb
  obtain ⟨G, P', hG, hP, ho, rfl⟩ := hs
  have hlt := RS_le hG hP
  rw [a_decide_mul hG hP, a_decide, if_pos (by omega), tp] at h
  subst ep
  have hp2 := tot_e P'
  have hle := d_on_le (P := P') hA
  have hmn := mn_le (d_on A P') (d_bk A P')
  have o0 : o (0 : Int32).toNatClampNeg = lN (P' 0) := ho 0 (by first | decide | exact vd (by decide))
  have l2 : la ((2 : Int32).toNatClampNeg) = nI (A 2) := hR 2 (by first | decide | exact vd (by decide))
  have l3 : la ((3 : Int32).toNatClampNeg) = nI (A 3) := hR 3 (by first | decide | exact vd (by decide))
  refine tot_c (by omega) (fun z => ?_) (fun z => ⟨by first | decide | exact vd (by decide), by first | decide | exact vd (by decide), by first | decide | exact vd (by decide), by first | decide | exact vd (by decide), ?_⟩)
  · rw [if_pos z] at h; exact h _ _
  rw [if_neg (by omega)] at h
  rw [o0, l2, l3, lN_sub (by omega), show tot P' - P' 0 = sm P' 1 8 by omega, nI_l (by omega), nI_l (by omega), lN_mul, lN_mul, show A 2 * sm P' 1 8 = d_on A P' from rfl, show A 3 * P' 0 = d_bk A P' from rfl]
  refine pk_eq p 0 (fun q => ?_) (fun q => ?_)
  · have e := pk_lLT (a := d_bk A P') (b := d_on A P') (by omega) (by omega)
    rw [if_pos (by omega)] at h
    refine ⟨fun c => ?_, fun c => ?_⟩
    · rw [if_pos (e.mp c)] at h; exact h _ _
    · rw [if_neg (fun y => c (e.mpr y))] at h; exact h _ _
  · rw [if_neg (by omega), Int.toNat_natCast] at h
    have e := pk_lLE (a := d_bk A P') (b := d_on A P') (by omega) (by omega)
    have fin : qv_X8_decide_J106 (lN (mn (d_on A P') (d_bk A P'))) (nI p) (nI w) (nI m) (lN (tot P')) la be so te o Post := by
      unfold qv_X8_decide_J106
      rw [show nI p - (1 : Int32) = nI (p - 1) from pk_sub (b := 1) (by omega)]
      exact R_part z (by omega) (by omega) (by omega) (h _ _)
    refine ⟨fun c => ?_, fun c => ?_⟩
    · have c' := e.mp c
      have : mn (d_on A P') (d_bk A P') = d_bk A P' := by unfold mn; split <;> omega
      rw [this] at fin; exact fin
    · have c' : d_on A P' < d_bk A P' := Nat.not_le.mp fun y => c (e.mpr y)
      have : mn (d_on A P') (d_bk A P') = d_on A P' := by unfold mn; split <;> omega
      rw [this] at fin; exact fin
/-! again -/
def db (A P : Nat → Nat) (q : Nat) : Nat → Nat
  | 0 => 0
  | d + 1 => db A P q d + mn (d_on A P * bt A q d 1) (d_bk A P * bt A q d 0)
def cst (A P : Nat → Nat) (q : Nat) : Nat := 10 * tot P * A (30 + 2 * q) + db A P q 4
def agF (A P : Nat → Nat) : Nat → Option Nat × Nat
  | 0 => (none, 10 * mn (d_on A P) (d_bk A P))
  | n + 1 => if cst A P n < (agF A P n).2 then (some n, cst A P n) else agF A P n
theorem db_mul {A P P' : Nat → Nat} {G : Nat} (hG : 0 < G) (h : ∀ s, s < 9 → P s = G * P' s) (q : Nat) : ∀ d, db A P q d = G * db A P' q d := by
  intro d
  induction d with
  | zero => exact (Nat.mul_zero G).symm
  | succ d ih => rw [db, db, ih, d_on_mul h, d_bk_mul h, Nat.mul_assoc, Nat.mul_assoc, mn_mul _ _ _ hG, Nat.mul_add]
theorem cst_mul {A P P' : Nat → Nat} {G : Nat} (hG : 0 < G) (h : ∀ s, s < 9 → P s = G * P' s) (q : Nat) : cst A P q = G * cst A P' q := by
  rw [cst, cst, db_mul hG h, tot_mul h, Nat.mul_add, Nat.mul_left_comm 10 G, Nat.mul_assoc G]
theorem agF_mul {A P P' : Nat → Nat} {G : Nat} (hG : 0 < G) (h : ∀ s, s < 9 → P s = G * P' s) : ∀ n, (agF A P n).1 = (agF A P' n).1 ∧ (agF A P n).2 = G * (agF A P' n).2 := by
  intro n
  induction n with
  | zero => exact ⟨rfl, by rw [agF, agF, d_on_mul h, d_bk_mul h, mn_mul _ _ _ hG, Nat.mul_left_comm]⟩
  | succ n ih =>
    rw [agF, agF, ih.2, cst_mul hG h]
    by_cases c : cst A P' n < (agF A P' n).2
    · rw [if_pos c, if_pos ((Nat.mul_lt_mul_left hG).mpr c)]; exact ⟨rfl, rfl⟩
    · rw [if_neg c, if_neg (fun z => c ((Nat.mul_lt_mul_left hG).mp z))]; exact ih
theorem db_le {A P : Nat → Nat} (hA : OKL A) {q : Nat} (hq : q < 4) : ∀ d, db A P q d ≤ d * (990 * tot P) := by
  intro d
  induction d with
  | zero => exact Nat.zero_le _
  | succ d ih =>
    have h1 := mn_le (d_on A P * bt A q d 1) (d_bk A P * bt A q d 0)
    have h2 := Nat.mul_le_mul (d_on_le (P := P) hA).1 (bt_le hA (d := d) (r := 1) hq)
    rw [db, Nat.succ_mul]
    omega
theorem cst_le {A P : Nat → Nat} (hA : OKL A) {q : Nat} (hq : q < 4) : cst A P q ≤ 4560 * tot P := by
  have h1 := db_le (P := P) hA hq 4
  have h2 := Nat.mul_le_mul_left (10 * tot P) (hA.2.2.2.1 q hq).2
  unfold cst
  omega
theorem agF_le {A P : Nat → Nat} (hA : OKL A) : ∀ n, n ≤ 4 → (agF A P n).2 ≤ 4560 * tot P := by
  intro n
  induction n with
  | zero =>
    intro _
    have h1 := mn_le (d_on A P) (d_bk A P)
    have h2 := (d_on_le (P := P) hA).1
    rw [agF]
    show 10 * mn (d_on A P) (d_bk A P) ≤ _
    omega
  | succ n ih =>
    intro hn
    rw [agF]
    split
    · exact cst_le hA (by omega)
    · exact ih (by omega)
theorem agF_ok {A P : Nat → Nat} : ∀ n q, (agF A P n).1 = some q → q < n := by
  intro n
  induction n with
  | zero => intro q h; cases h
  | succ n ih =>
    intro q h
    rw [agF] at h
    split at h
    · cases h; omega
    · have := ih q h; omega
def a_again (A P : Nat → Nat) (x : Int32) : Int64 := if 0 ≤ x.toInt ∧ x.toInt ≤ 2 then (if tot P = 0 then -4 else if x.toInt = 0 then (jI (agF A P 4).1).toInt64 else lN (fr (agF A P 4).2 (10 * tot P) (x.toInt.toNat - 1))) else -1
theorem a_again_mul {A P P' : Nat → Nat} {G : Nat} (hG : 0 < G) (h : ∀ s, s < 9 → P s = G * P' s) (x : Int32) : a_again A P x = a_again A P' x := by
  unfold a_again
  by_cases q : 0 ≤ x.toInt ∧ x.toInt ≤ 2
  · rw [if_pos q, if_pos q]
    by_cases z : tot P' = 0
    · rw [if_pos z, if_pos ((tot_mul0 hG h).mpr z)]
    · rw [if_neg z, if_neg (fun y => z ((tot_mul0 hG h).mp y)), (agF_mul hG h 4).1, (agF_mul hG h 4).2, tot_mul h, Nat.mul_left_comm, fr_mul _ _ _ _ hG]
  · rw [if_neg q, if_neg q]
theorem C_decidedBehind (hA : OKL A) (hC : CL A st cO cB fB fd mi lo ba sl ta ti) {P : Nat → Nat} {o : Nat → Int64} (ho : CO o P) (hb : tot P ≤ 100000000000000) {q : Nat} (hq : q < 4) {Post : Int64 → Prop} (h : Post (lN (db A P q 4))) : qv_X1_decidedBehind (nI q) cO cB (lN (sm P 1 8)) sl o Post := by
  obtain ⟨⟨e0, e1, rfl, rfl, rfl⟩, em, es, et⟩ := hC
  have h2 := hA.2.1.1
  have h3 := hA.2.1.2.1
  have hle := d_on_le (P := P) hA
  have o0 : o (0 : Int32).toNatClampNeg = lN (P 0) := ho 0 (by first | decide | exact vd (by decide))
  have vq : vp_in (nI q) 4 := vp_in_nI hq (by first | decide | exact vd (by decide))
  have L : ∀ n d, d + n = 4 → qv_X1_decidedBehind_L6 (nI q) (nI (A 2)) (nI (A 3)) (lN (sm P 1 8)) sl o Post (fun r => Post r) (n + 1) (lN (db A P q d)) (tl d) := by
    intro n
    induction n with
    | zero =>
      intro d hd
      have : d = 4 := by omega
      subst this
      exact br_t (by first | decide | exact vd (by decide)) h
    | succ n ih =>
      intro d hd
      have e1 : ¬ (1 : Int32) < tl d := by
        rcases (show d = 0 ∨ d = 1 ∨ d = 2 ∨ d = 3 by omega) with rfl | rfl | rfl | rfl <;> decide
      have e2 : tl d + (1 : Int32) = tl (d + 1) := by
        rcases (show d = 0 ∨ d = 1 ∨ d = 2 ∨ d = 3 by omega) with rfl | rfl | rfl | rfl <;> decide
      refine br_f e1 ⟨vq, ?_⟩
      rw [nI_clamp (by omega), (es q hq).1]
      refine C_byTen hA hq (by omega) (r := 1) (by first | decide | exact vd (by decide)) ⟨by first | decide | exact vd (by decide), vq, C_byTen hA hq (by omega) (r := 0) (by first | decide | exact vd (by decide)) ?_⟩
      have q1 := bt_le hA (d := d) (r := 1) hq
      have q0 := bt_le hA (d := d) (r := 0) hq
      have m1 := Nat.mul_le_mul hle.1 q1
      have m0 := Nat.mul_le_mul hle.2 q0
      rw [o0, nI_l (by omega), nI_l (by omega), nI_l (by omega), nI_l (by omega), lN_mul, lN_mul, lN_mul, lN_mul, ← Nat.mul_assoc, ← Nat.mul_assoc, show A 2 * sm P 1 8 = d_on A P from rfl, show A 3 * P 0 = d_bk A P from rfl, lmn (by omega) (by omega), lN_add, e2]
      exact ih (d + 1) (by omega)
  exact ⟨5, L 4 0 (by omega)⟩
theorem C_again (hA : OKL A) (hC : CL A st cO cB fB fd mi lo ba sl ta ti) {w m : Nat} {B Q D : Nat → Nat} (hV : VW (A 0) w m B Q D) {be so te : Nat → Int32} (hW : WA m B Q D be so te) {aw al : Int64} {o : Nat → Int64} {a : Int32} {b c : Int64} {x : Int32} {Post : Int64 → Int64 → Int64 → Int32 → Int64 → Int64 → (Nat → Int64) → Prop} (h : ∀ aw al a b c o, Post (a_again A (RU A w m B Q D).1 x) aw al a b c o) : qv_X7_again x cO cB (nI w) (nI m) aw al a b c lo ba sl ta be so te o Post := by
  have hA0 := hA.1.1
  have hw := hV.1
  refine C_isOfChoice (fun p hp ep tp => t1 ?_) (fun q => t0 (by rw [a_again, if_neg (by omega)] at h; exact h _ _ _ _ _ _))
  rw [a_again, if_pos (by omega), tp] at h
  subst ep
  refine C_follow hA hC hV hW (fun o' ho hb => ?_)
  have hb := b14 (by omega) hV.2.1 hb
  generalize (RU A w m B Q D).1 = P at *
  refine C_onOrBack hA hC ho hb ?_
  have hle := agF_le (P := P) hA
  have L : ∀ n q, q + n = 4 → qv_X1_anotherCount_L38 (lN (10 * tot P)) cO cB (lN (sm P 1 8)) (lN (tot P)) sl ta o' (fun a b c => qv_X1_answer (nI p) a b c (fun r5 => Post r5 (lN (sm P 1 8)) (lN (tot P)) a b c o')) (fun a b => qv_X1_answer (nI p) a b (lN (10 * tot P)) (fun r5 => Post r5 (lN (sm P 1 8)) (lN (tot P)) a b (lN (10 * tot P)) o')) (n + 1) (nI q) (jI (agF A P q).1) (lN (agF A P q).2) := by
    intro n
    induction n with
    | zero =>
      intro q hq
      have : q = 4 := by omega
      subst this
      have := hle 4 (by omega)
      refine pk_le 4 4 (fun _ => C_answer (by omega) (by omega) hp (fun z => ?_) (fun z z2 => ?_) (fun z z2 => ?_)) (fun q => absurd q (by omega))
      · rw [if_pos (by omega)] at h; exact h _ _ _ _ _ _
      · rw [if_neg (by omega), if_pos (by omega)] at h; exact h _ _ _ _ _ _
      · rw [if_neg (by omega), if_neg (by omega), Int.toNat_natCast] at h; exact h _ _ _ _ _ _
    | succ n ih =>
      intro q hq
      have c1 := cst_le (P := P) hA (q := q) (by omega)
      have c2 := hle q (by omega)
      have c3 := (hA.2.2.2.1 q (by omega)).2
      refine pk_le 4 q (fun z => absurd z (by omega)) (fun _ => ⟨vp_in_nI (by omega) (by first | decide | exact vd (by decide)), C_decidedBehind hA hC ho hb (by omega) ?_⟩)
      rw [nI_clamp (by omega), (hC.2.2.1 q (by omega)).2, nI_l (by omega), lN_mul, lN_add, nI_1, Nat.mul_comm (A (30 + 2 * q)), show 10 * tot P * A (30 + 2 * q) + db A P q 4 = cst A P q from rfl]
      have e := pk_lLE (a := (agF A P q).2) (b := cst A P q) (by omega) (by omega)
      have k := ih (q + 1) (by omega)
      rw [agF] at k
      refine ⟨fun z => ?_, fun z => ?_⟩
      · rw [if_neg (by have := e.mp z; omega)] at k; exact k
      · rw [if_pos (Nat.not_le.mp fun y => z (e.mpr y))] at k; exact k
  have k := L 4 0 (by omega)
  refine ⟨5, ?_⟩
  rw [ll_10, lN_mul, lN_mul, Nat.mul_comm (tot P), Nat.mul_comm (mn _ _)]
  exact k
theorem R_costs (hA : OKL A) (hR : RLd A la) {P : Nat → Nat} {o : Nat → Int64} (ho : CO o P) (hb : tot P ≤ 100000000000000) {q : Nat} (hq : q < 4) {Post : Int64 → Prop} (h : Post (lN (cst A P q))) : qv_X8_costs (nI q) (lN (tot P)) la o Post := by
  have h2 := hA.2.1.1
  have h3 := hA.2.1.2.1
  have h4 := (hA.2.2.2.1 q hq).2
  have hle := d_on_le (P := P) hA
  have hp2 := tot_e P
  have o0 : o (0 : Int32).toNatClampNeg = lN (P 0) := ho 0 (by first | decide | exact vd (by decide))
  have l2 : la ((2 : Int32).toNatClampNeg) = nI (A 2) := hR 2 (by first | decide | exact vd (by decide))
  have l3 : la ((3 : Int32).toNatClampNeg) = nI (A 3) := hR 3 (by first | decide | exact vd (by decide))
  have ei : (29 : Int32) + (2 : Int32) * nI q + (1 : Int32) = nI (30 + 2 * q) := by rw [li_29, li_2, li_1, pk_mul, nI_add, nI_add]; congr 1; omega
  unfold qv_X8_costs
  rw [ei, nI_clamp (by omega), hR _ (by omega), nI_l (by omega), ll_10, lN_mul, lN_mul]
  refine ⟨vp_in_nI (by omega) (by first | decide | exact vd (by decide)), ?_⟩
  have L : ∀ n d, d + n = 4 → qv_X8_costs_L28 (nI q) (lN (tot P)) la o Post (fun r => Post r) (n + 1) (lN (10 * tot P * A (30 + 2 * q) + db A P q d)) (tl d) := by
    intro n
    induction n with
    | zero =>
      intro d hd
      have : d = 4 := by omega
      subst this
      exact br_t (by first | decide | exact vd (by decide)) h
    | succ n ih =>
      intro d hd
      have e1 : ¬ (2 : Int32) ≤ tl d := by
        rcases (show d = 0 ∨ d = 1 ∨ d = 2 ∨ d = 3 by omega) with rfl | rfl | rfl | rfl <;> decide
      have e2 : tl d + (1 : Int32) = tl (d + 1) := by
        rcases (show d = 0 ∨ d = 1 ∨ d = 2 ∨ d = 3 by omega) with rfl | rfl | rfl | rfl <;> decide
      refine br_f e1 ⟨by first | decide | exact vd (by decide), by first | decide | exact vd (by decide), ?_⟩
      refine R_tellsBy hA hR hq (by omega) (r := 1) (by first | decide | exact vd (by decide)) ⟨by first | decide | exact vd (by decide), by first | decide | exact vd (by decide), R_tellsBy hA hR hq (by omega) (r := 0) (by first | decide | exact vd (by decide)) ?_⟩
      have q1 := bt_le hA (d := d) (r := 1) hq
      have q0 := bt_le hA (d := d) (r := 0) hq
      have m1 := Nat.mul_le_mul hle.1 q1
      have m0 := Nat.mul_le_mul hle.2 q0
      rw [o0, l2, l3, lN_sub (by omega), show tot P - P 0 = sm P 1 8 by omega, nI_l (by omega), nI_l (by omega), nI_l (by omega), nI_l (by omega), lN_mul, lN_mul, lN_mul, lN_mul, show A 2 * sm P 1 8 = d_on A P from rfl, show A 3 * P 0 = d_bk A P from rfl, lN_add, lN_add, e2]
      have e := pk_lLE (a := d_bk A P * bt A q d 0) (b := d_on A P * bt A q d 1) (by omega) (by omega)
      have k := ih (d + 1) (by omega)
      rw [db, ← Nat.add_assoc] at k
      refine ⟨fun z => ?_, fun z => ?_⟩
      · have z' := e.mp z
        rw [show mn (d_on A P * bt A q d 1) (d_bk A P * bt A q d 0) = d_bk A P * bt A q d 0 by unfold mn; split <;> omega] at k; exact k
      · have z' : d_on A P * bt A q d 1 < d_bk A P * bt A q d 0 := Nat.not_le.mp fun y => z (e.mpr y)
        rw [show mn (d_on A P * bt A q d 1) (d_bk A P * bt A q d 0) = d_on A P * bt A q d 1 by unfold mn; split <;> omega] at k; exact k
  exact ⟨5, L 4 0 (by omega)⟩
theorem R_again (hA : OKL A) (hR : RLd A la) {w m : Nat} {B Q D : Nat → Nat} (hV : VW (A 0) w m B Q D) {be so te : Nat → Int32} (hW : WA m B Q D be so te) {al : Int64} {o : Nat → Int64} {x : Int32} {Post : Int64 → Int64 → (Nat → Int64) → Prop} (h : ∀ al o, Post (a_again A (RU A w m B Q D).1 x) al o) : qv_X8_again x (nI w) (nI m) al la be so te o Post := by
  have hA0 := hA.1.1
  have hw := hV.1
  have h2 := hA.2.1.1
  have h3 := hA.2.1.2.1
  refine R_isOfChoice (fun p hp ep tp => t1 ?_) (fun q => t0 (by rw [a_again, if_neg (by omega)] at h; exact h _ _))
  refine R_goes hA hR hV hW (fun al o hs hb => ?_)
  have hb := b14 (by omega) hV.2.1 hb
  obtain ⟨G, P, hG, hP, ho, rfl⟩ := hs
  have hlt := RS_le hG hP
  rw [a_again_mul hG hP, a_again, if_pos (by omega), tp] at h
  subst ep
  have hp2 := tot_e P
  have hdl := d_on_le (P := P) hA
  have o0 : o (0 : Int32).toNatClampNeg = lN (P 0) := ho 0 (by first | decide | exact vd (by decide))
  have l2 : la ((2 : Int32).toNatClampNeg) = nI (A 2) := hR 2 (by first | decide | exact vd (by decide))
  have l3 : la ((3 : Int32).toNatClampNeg) = nI (A 3) := hR 3 (by first | decide | exact vd (by decide))
  refine tot_c (by omega) (fun z => ?_) (fun z => ⟨by first | decide | exact vd (by decide), by first | decide | exact vd (by decide), by first | decide | exact vd (by decide), by first | decide | exact vd (by decide), ?_⟩)
  · rw [if_pos z] at h; exact h _ _
  rw [if_neg (by omega)] at h
  have hle := agF_le (P := P) hA
  have L : ∀ n q, q + n = 4 → qv_X8_again_L104 (nI p) (nI w) (nI m) (lN (tot P)) la be so te o Post (fun x6_14 x8_14 => (nI p = (0 : Int32) → Post (x8_14.toInt64) (lN (tot P)) o) ∧ (¬ nI p = (0 : Int32) → qv_X8_part x6_14 ((10 : Int64) * lN (tot P)) (nI p - (1 : Int32)) (fun r16 => Post r16 (lN (tot P)) o))) (n + 1) (lN (agF A P q).2) (jI (agF A P q).1) (nI q) := by
    intro n
    induction n with
    | zero =>
      intro q hq
      have : q = 4 := by omega
      subst this
      have := hle 4 (by omega)
      refine pk_le 4 4 (fun _ => pk_eq p 0 (fun z2 => ?_) (fun z2 => ?_)) (fun q => absurd q (by omega))
      · rw [if_pos (by omega)] at h; exact h _ _
      · rw [if_neg (by omega), Int.toNat_natCast] at h
        rw [show nI p - (1 : Int32) = nI (p - 1) from pk_sub (b := 1) (by omega), ll_10, lN_mul]
        exact R_part (by omega) (by omega) (by omega) (by omega) (h _ _)
    | succ n ih =>
      intro q hq
      have c1 := cst_le (P := P) hA (q := q) (by omega)
      have c2 := hle q (by omega)
      refine pk_le 4 q (fun z => absurd z (by omega)) (fun _ => R_costs hA hR ho (by omega) (by omega) ?_)
      unfold qv_X8_again_J133
      rw [nI_1]
      have e := pk_lLE (a := (agF A P q).2) (b := cst A P q) (by omega) (by omega)
      have k := ih (q + 1) (by omega)
      rw [agF] at k
      refine ⟨fun z => br_t z ?_, fun z => br_f z ?_⟩
      · rw [if_neg (by have := e.mp z; omega)] at k; exact k
      · rw [if_pos (Nat.not_le.mp fun y => z (e.mpr y))] at k; exact k
  have k := L 4 0 (by omega)
  rw [o0, l2, l3, lN_sub (by omega), show tot P - P 0 = sm P 1 8 by omega, nI_l (by omega), nI_l (by omega), ll_10, lN_mul, lN_mul, lN_mul, lN_mul, Nat.mul_assoc, Nat.mul_assoc, show A 2 * sm P 1 8 = d_on A P from rfl, show A 3 * P 0 = d_bk A P from rfl]
  have e := pk_lLE (a := 10 * d_bk A P) (b := 10 * d_on A P) (by omega) (by omega)
  have hag : (agF A P 0).2 = 10 * mn (d_on A P) (d_bk A P) := rfl
  rw [hag] at k
  refine ⟨fun z => ⟨5, ?_⟩, fun z => ⟨5, ?_⟩⟩
  · have z' := e.mp z
    rw [show mn (d_on A P) (d_bk A P) = d_bk A P by unfold mn; split <;> omega] at k; exact k
  · have z' : 10 * d_on A P < 10 * d_bk A P := Nat.not_le.mp fun y => z (e.mpr y)
    rw [show mn (d_on A P) (d_bk A P) = d_on A P by unfold mn; split <;> omega] at k; exact k
end OD
