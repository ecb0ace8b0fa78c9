/-! far -/
theorem sm_app (f : Nat → Nat) : ∀ n a m, sm f a (n + m) = sm f a n + sm f (a + n) m := by
  intro n
  induction n with
  | zero => intro a m; rw [Nat.zero_add, sm, Nat.zero_add, Nat.add_zero]
  | succ n ih => intro a m; rw [show n + 1 + m = n + m + 1 by omega, sm, sm, ih (a + 1) m, show a + 1 + n = a + (n + 1) by omega]; omega
theorem sm_sub (f : Nat → Nat) {a n b m : Nat} (h1 : b ≤ a) (h2 : a + n ≤ b + m) : sm f a n ≤ sm f b m := by
  have e1 := sm_app f (a - b) b (m - (a - b))
  have e2 := sm_app f n a (b + m - (a + n))
  rw [show a - b + (m - (a - b)) = m by omega, show b + (a - b) = a by omega] at e1
  rw [show n + (b + m - (a + n)) = m - (a - b) by omega] at e2
  omega
def ov (P : Nat → Nat) (w r : Nat) : Nat := sm P (w + 1 - r) r
def fmi (A : Nat → Nat) (w r : Nat) : Nat := sm (fun k => A (2 + 3 * k)) (w + 1 - r) r
theorem ov_s (P : Nat → Nat) {w r : Nat} (h : r < w) : ov P w (r + 1) = ov P w r + P (w - r) := by
  rw [ov, ov, show w + 1 - (r + 1) = w - r by omega, sm, show w - r + 1 = w + 1 - r by omega]
  omega
theorem fmi_s (A : Nat → Nat) {w r : Nat} (h : r < w) : fmi A w (r + 1) = fmi A w r + A (2 + 3 * (w - r)) := by
  rw [fmi, fmi, show w + 1 - (r + 1) = w - r by omega, sm, show w - r + 1 = w + 1 - r by omega]
  omega
def fcs (A P : Nat → Nat) (w r : Nat) : Nat := 20 * tot P * fmi A w r + A 2 * (10 * sm P 1 8 - A 4 * ov P w r)
def faF (A P : Nat → Nat) (w : Nat) : Nat → Nat × Nat
  | 0 => (0, 10 * d_on A P)
  | n + 1 => if fcs A P w (n + 1) < (faF A P w n).2 then (n + 1, fcs A P w (n + 1)) else faF A P w n
theorem ov_mul {P P' : Nat → Nat} {G w r : Nat} (hw : w ≤ 8) (hr : r ≤ w) (h : ∀ s, s < 9 → P s = G * P' s) : ov P w r = G * ov P' w r := sm_mul P P' G r _ (fun i h1 h2 => h i (by omega))
theorem fcs_mul {A P P' : Nat → Nat} {G w r : Nat} (hw : w ≤ 8) (hr : r ≤ w) (h : ∀ s, s < 9 → P s = G * P' s) : fcs A P w r = G * fcs A P' w r := by
  rw [fcs, fcs, ov_mul hw hr h, away_mul h, tot_mul h, Nat.mul_add, Nat.mul_left_comm 20 G, Nat.mul_assoc G, Nat.mul_left_comm 10 G, Nat.mul_left_comm (A 4) G, ← Nat.mul_sub, Nat.mul_left_comm (A 2) G]
theorem faF_mul {A P P' : Nat → Nat} {G w : Nat} (hw : w ≤ 8) (hG : 0 < G) (h : ∀ s, s < 9 → P s = G * P' s) : ∀ n, n ≤ w → (faF A P w n).1 = (faF A P' w n).1 ∧ (faF A P w n).2 = G * (faF A P' w n).2 := by
  intro n
  induction n with
  | zero => intro _; exact ⟨rfl, by rw [faF, faF, d_on_mul h, Nat.mul_left_comm]⟩
  | succ n ih =>
    intro hn
    have ih := ih (by omega)
    rw [faF, faF, ih.2, fcs_mul hw hn h]
    by_cases c : fcs A P' w (n + 1) < (faF A P' w n).2
    · rw [if_pos c, if_pos ((Nat.mul_lt_mul_left hG).mpr c)]; exact ⟨rfl, rfl⟩
    · rw [if_neg c, if_neg (fun z => c ((Nat.mul_lt_mul_left hG).mp z))]; exact ih
theorem ov_le {A P : Nat → Nat} (hA : OKL A) {w r : Nat} (hw : w ≤ 8) (hr : r ≤ w) : A 4 * ov P w r ≤ 10 * sm P 1 8 := Nat.mul_le_mul hA.2.1.2.2 (sm_sub P (by omega) (by omega))
theorem fmi_le {A : Nat → Nat} (hA : OKL A) {w r : Nat} (hw : w ≤ A 0) (hr : r ≤ w) : fmi A w r ≤ 480 := by
  have hA0 := hA.1.1
  have := sm_le (fun k => A (2 + 3 * k)) 60 r (w + 1 - r) (fun i h1 h2 => (hA.2.2.1 i (by omega) (by omega)).2.1)
  unfold fmi
  omega
theorem fcs_le {A P : Nat → Nat} (hA : OKL A) {w r : Nat} (hw : w ≤ A 0) (hr : r ≤ w) : fcs A P w r ≤ 10590 * tot P := by
  have h1 := Nat.mul_le_mul_left (20 * tot P) (fmi_le hA hw hr)
  have h2 := Nat.mul_le_mul hA.2.1.1 (show 10 * sm P 1 8 - A 4 * ov P w r ≤ 10 * tot P by have := tot_e P; omega)
  unfold fcs
  omega
theorem faF_le {A P : Nat → Nat} (hA : OKL A) {w : Nat} (hw : w ≤ A 0) : ∀ n, n ≤ w → (faF A P w n).2 ≤ 10590 * tot P ∧ (faF A P w n).1 ≤ n := by
  intro n
  induction n with
  | zero =>
    intro _
    have h2 := (d_on_le (P := P) hA).1
    exact ⟨show 10 * d_on A P ≤ _ by omega, Nat.le_refl 0⟩
  | succ n ih =>
    intro hn
    have ih := ih (by omega)
    rw [faF]
    split
    · exact ⟨fcs_le hA hw hn, Nat.le_refl _⟩
    · exact ⟨ih.1, by omega⟩
def a_far (A P : Nat → Nat) (w : Nat) (x : Int32) : Int64 := if 0 ≤ x.toInt ∧ x.toInt ≤ 2 then (if tot P = 0 then -4 else if x.toInt = 0 then lN (faF A P w w).1 else lN (fr (faF A P w w).2 (10 * tot P) (x.toInt.toNat - 1))) else -1
theorem a_far_mul {A P P' : Nat → Nat} {G w : Nat} (hw : w ≤ 8) (hG : 0 < G) (h : ∀ s, s < 9 → P s = G * P' s) (x : Int32) : a_far A P w x = a_far A P' w x := by
  unfold a_far
  by_cases q : 0 ≤ x.toInt ∧ x.toInt ≤ 2
  · rw [if_pos q, if_pos q]
    by_cases z : tot P' = 0
    · rw [if_pos z, if_pos ((tot_mul0 hG h).mpr z)]
    · rw [if_neg z, if_neg (fun y => z ((tot_mul0 hG h).mp y)), (faF_mul hw hG h w (Nat.le_refl _)).1, (faF_mul hw hG h w (Nat.le_refl _)).2, tot_mul h, Nat.mul_left_comm, fr_mul _ _ _ _ hG]
  · rw [if_neg q, if_neg q]
section OD
variable {A : Nat → Nat} {st cO cB fB fd : Int32} {mi lo ba sl ta : Nat → Int32} {ti : Nat → Nat → Int32} {la : Nat → Int32}
theorem C_far (hA : OKL A) (hC : CL A st cO cB fB fd mi lo ba sl ta ti) {w m : Nat} {B Q D : Nat → Nat} (hV : VW (A 0) w m B Q D) {be so te : Nat → Int32} (hW : WA m B Q D be so te) {aw al : Int64} {o : Nat → Int64} {a : Int32} {b c : Int64} {x : Int32} {Post : Int64 → Int64 → Int64 → Int32 → Int64 → Int64 → (Nat → Int64) → Prop} (h : ∀ aw al a b c o, Post (a_far A (RU A w m B Q D).1 w x) aw al a b c o) : qv_X7_far x cO fB (nI w) (nI m) aw al a b c mi lo ba sl be so te o Post := by
  have hA0 := hA.1.1
  have hw := hV.1
  have g2 := hA.2.1.1
  have g4 := hA.2.1.2.2
  refine C_isOfChoice (fun p hp ep tp => t1 ?_) (fun q => t0 (by rw [a_far, if_neg (by omega)] at h; exact h _ _ _ _ _ _))
  rw [a_far, if_pos (by omega), tp] at h
  subst ep
  refine C_follow hA hC hV hW (fun o' ho hb => ?_)
  have hb := b14 (by omega) hV.2.1 hb
  generalize (RU A w m B Q D).1 = P at *
  obtain ⟨⟨rfl, rfl, rfl, rfl, rfl⟩, em, es, et⟩ := hC
  have hle := faF_le (P := P) hA hw
  have L : ∀ n r, r + n = w → qv_X1_howFarBack_L40 (nI w) (lN (10 * tot P)) (nI (A 2)) (nI (A 4)) (lN (sm P 1 8)) (lN (tot P)) mi o' (fun a b c => qv_X1_answer (nI p) a b c (fun r5 => Post r5 (lN (sm P 1 8)) (lN (tot P)) a b c o')) (fun a b => qv_X1_answer (nI p) a b (lN (10 * tot P)) (fun r5 => Post r5 (lN (sm P 1 8)) (lN (tot P)) a b (lN (10 * tot P)) o')) (n + 1) (lN (A 4 * ov P w r)) (nI (r + 1)) (nI (faF A P w r).1) (lN (faF A P w r).2) := by
    intro n
    induction n with
    | zero =>
      intro r hr
      have : r = w := by omega
      subst this
      have := hle r (by omega)
      refine pk_lt r (r + 1) (fun _ => C_answer (by omega) (by omega) hp (fun z => ?_) (fun z z2 => ?_) (fun z z2 => ?_)) (fun q => absurd q (by omega))
      · rw [if_pos (by omega)] at h; exact h _ _ _ _ _ _
      · rw [if_neg (by omega), if_pos (by omega)] at h; rw [nI_l (by omega)]; exact h _ _ _ _ _ _
      · rw [if_neg (by omega), if_neg (by omega), Int.toNat_natCast] at h; exact h _ _ _ _ _ _
    | succ n ih =>
      intro r hr
      have el : nI w - nI (r + 1) + (1 : Int32) = nI (w - r) := by rw [pk_sub (by omega), nI_1]; congr 1; omega
      have c1 := fcs_le (P := P) hA hw (r := r + 1) (by omega)
      have c2 := (hle r (by omega)).1
      have c3 := fmi_le hA hw (r := r + 1) (by omega)
      have c4 := ov_le (P := P) hA (w := w) (r := r + 1) (by omega) (by omega)
      refine pk_lt w (r + 1) (fun z => absurd z (by omega)) (fun _ => ?_)
      rw [el, nI_clamp (by omega), ho (w - r) (by omega)]
      refine ⟨vp_in_nI (by omega) (by first | decide | exact vd (by decide)), C_minutesOver (fun k => A (2 + 3 * k)) (by omega) (by omega) (fun k h1 h2 => (em k (by omega) (by omega)).1) ?_⟩
      rw [show sm (fun k => A (2 + 3 * k)) (w - r) (w + 1 - (w - r)) = fmi A w (r + 1) by rw [fmi, show w + 1 - (r + 1) = w - r by omega, show w + 1 - (w - r) = r + 1 by omega], li_2, pk_mul, nI_l (by omega), nI_l (by omega), nI_l (by omega), lN_mul, lN_mul, lN_add, ← Nat.mul_add, ← ov_s P (by omega), ll_10, lN_mul, lN_sub c4, lN_mul, lN_add, nI_1]
      rw [show 2 * fmi A w (r + 1) * (10 * tot P) + A 2 * (10 * sm P 1 8 - A 4 * ov P w (r + 1)) = fcs A P w (r + 1) by
        rw [fcs]; congr 1; rw [Nat.mul_mul_mul_comm, Nat.mul_comm (fmi A w (r + 1)), ← Nat.mul_assoc]]
      have e := pk_lLE (a := (faF A P w r).2) (b := fcs A P w (r + 1)) (by omega) (by omega)
      have k := ih (r + 1) (by omega)
      rw [faF] at k
      refine ⟨fun z => ?_, fun z => ?_⟩
      · rw [if_neg (by have := e.mp z; omega)] at k; exact k
      · rw [if_pos (Nat.not_le.mp fun y => z (e.mpr y))] at k; exact k
  have k := L w 0 (by omega)
  refine ⟨w + 1, ?_⟩
  rw [li_10, pk_mul, nI_l (by omega), ll_10, lN_mul, lN_mul, show A 2 * 10 * sm P 1 8 = 10 * d_on A P by rw [d_on, Nat.mul_comm (A 2), Nat.mul_assoc]]
  rw [show A 4 * ov P w 0 = 0 from Nat.mul_zero _] at k
  exact k
theorem R_far (hA : OKL A) (hR : RLd A la) {w m : Nat} {B Q D : Nat → Nat} (hV : VW (A 0) w m B Q D) {be so te : Nat → Int32} (hW : WA m B Q D be so te) {al : Int64} {o : Nat → Int64} {x : Int32} {Post : Int64 → Int64 → (Nat → Int64) → Prop} (h : ∀ al o, Post (a_far A (RU A w m B Q D).1 w x) al o) : qv_X8_far x (nI w) (nI m) al la be so te o Post := by
  have hA0 := hA.1.1
  have hw := hV.1
  have h2 := hA.2.1.1
  have h4 := hA.2.1.2.2
  refine R_isOfChoice (fun p hp ep tp => t1 ?_) (fun q => t0 (by rw [a_far, if_neg (by omega)] at h; exact h _ _))
  refine R_goes hA hR hV hW (fun al o hs hb => ?_)
  have hb := b14 (by omega) hV.2.1 hb
  obtain ⟨G, P, hG, hP, ho, rfl⟩ := hs
  have hlt := RS_le hG hP
  rw [a_far_mul (by omega) hG hP, a_far, if_pos (by omega), tp] at h
  subst ep
  have hp2 := tot_e P
  have o0 : o (0 : Int32).toNatClampNeg = lN (P 0) := ho 0 (by first | decide | exact vd (by decide))
  have l2 : la ((2 : Int32).toNatClampNeg) = nI (A 2) := hR 2 (by first | decide | exact vd (by decide))
  have l4 : la ((4 : Int32).toNatClampNeg) = nI (A 4) := hR 4 (by first | decide | exact vd (by decide))
  refine tot_c (by omega) (fun z => ?_) (fun z => ⟨by first | decide | exact vd (by decide), by first | decide | exact vd (by decide), ?_⟩)
  · rw [if_pos z] at h; exact h _ _
  rw [if_neg (by omega)] at h
  have hle := faF_le (P := P) hA hw
  have L : ∀ n r, r + n = w → qv_X8_far_L73 (nI p) (nI w) (nI m) (lN (tot P)) la be so te o Post (fun x2_15 x3_15 => (nI p = (0 : Int32) → Post (x2_15.toInt64) (lN (tot P)) o) ∧ (¬ nI p = (0 : Int32) → qv_X8_part x3_15 ((10 : Int64) * lN (tot P)) (nI p - (1 : Int32)) (fun r17 => Post r17 (lN (tot P)) o))) (n + 1) (nI (faF A P w r).1) (lN (faF A P w r).2) (lN (ov P w r)) (lN (fmi A w r)) (nI (r + 1)) := by
    intro n
    induction n with
    | zero =>
      intro r hr
      have : r = w := by omega
      subst this
      have := hle r (by omega)
      refine pk_lt r (r + 1) (fun _ => pk_eq p 0 (fun z2 => ?_) (fun z2 => ?_)) (fun q => absurd q (by omega))
      · rw [if_pos (by omega)] at h; rw [nI_l (by omega)]; exact h _ _
      · rw [if_neg (by omega), Int.toNat_natCast] at h
        rw [show nI p - (1 : Int32) = nI (p - 1) from pk_sub (b := 1) (by omega), ll_10, lN_mul]
        exact R_part (by omega) (by omega) (by omega) (by omega) (h _ _)
    | succ n ih =>
      intro r hr
      have el : nI w + (1 : Int32) - nI (r + 1) = nI (w - r) := by rw [nI_1, pk_sub (by omega)]; congr 1; omega
      have i2 : (2 : Int32) + (3 : Int32) * nI (w - r) = nI (2 + 3 * (w - r)) := by rw [li_3, li_2, pk_mul, nI_add]
      have m1 := (hA.2.2.1 (w - r) (by omega) (by omega)).2.1
      have c1 := fcs_le (P := P) hA hw (r := r + 1) (by omega)
      have c2 := (hle r (by omega)).1
      have c3 := fmi_le hA hw (r := r + 1) (by omega)
      have c4 := ov_le (P := P) hA (w := w) (r := r + 1) (by omega) (by omega)
      refine pk_lt w (r + 1) (fun z => absurd z (by omega)) (fun _ => ?_)
      unfold qv_X8_m
      dsimp only
      rw [el, i2, nI_clamp (by omega), nI_clamp (by omega), ho (w - r) (by omega), hR _ (by omega), nI_l (by omega), lN_add, lN_add, ← ov_s P (by omega), ← fmi_s A (by omega)]
      refine ⟨vp_in_nI (by omega) (by first | decide | exact vd (by decide)), vp_in_nI (by omega) (by first | decide | exact vd (by decide)), by first | decide | exact vd (by decide), by first | decide | exact vd (by decide), by first | decide | exact vd (by decide), ?_⟩
      unfold qv_X8_far_J178
      rw [o0, l2, l4, lN_sub (by omega), show tot P - P 0 = sm P 1 8 by omega, nI_l (by omega), nI_l (by omega), ll_20, ll_10, lN_mul, lN_mul, lN_mul, lN_mul, lN_sub c4, lN_mul, lN_add, nI_1, show 20 * tot P * fmi A w (r + 1) + A 2 * (10 * sm P 1 8 - A 4 * ov P w (r + 1)) = fcs A P w (r + 1) from rfl]
      have e := pk_lLE (a := (faF A P w r).2) (b := fcs A P w (r + 1)) (by omega) (by omega)
      have k := ih (r + 1) (by omega)
      rw [faF] at k
      refine ⟨fun z => br_t z ?_, fun z => br_f z ?_⟩
      · rw [if_neg (by have := e.mp z; omega)] at k; exact k
      · rw [if_pos (Nat.not_le.mp fun y => z (e.mpr y))] at k; exact k
  have k := L w 0 (by omega)
  refine ⟨w + 1, ?_⟩
  have em : (10 : Int64) * (nI (A 2)).toInt64 * lN (sm P 1 8) = lN (10 * d_on A P) := by rw [nI_l (by omega), ll_10, lN_mul, lN_mul, d_on, Nat.mul_assoc]
  rw [o0, l2, lN_sub (by omega), show tot P - P 0 = sm P 1 8 by omega, em]
  exact k
end OD
