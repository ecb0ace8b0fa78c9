/-! odds, missing, since, judge, backward -/
def a_odds (A P : Nat → Nat) (x1 x2 : Int32) : Int64 := if 0 ≤ x1.toInt ∧ x1.toInt ≤ A 0 ∧ 0 ≤ x2.toInt ∧ x2.toInt ≤ 1 then (if tot P = 0 then -4 else lN (fr (P x1.toInt.toNat) (tot P) x2.toInt.toNat)) else -1
def a_missing (P : Nat → Nat) (x : Int32) : Int64 := if 0 ≤ x.toInt ∧ x.toInt ≤ 1 then (if tot P = 0 then -4 else lN (fr (sm P 1 8) (tot P) x.toInt.toNat)) else -1
theorem tot_mul0 {P P' : Nat → Nat} {G : Nat} (hG : 0 < G) (h : ∀ s, s < 9 → P s = G * P' s) : tot P = 0 ↔ tot P' = 0 := by
  rw [tot_mul h, Nat.mul_eq_zero]
  omega
theorem away_mul {P P' : Nat → Nat} {G : Nat} (h : ∀ s, s < 9 → P s = G * P' s) : sm P 1 8 = G * sm P' 1 8 := sm_mul P P' G 8 1 (fun i h1 h2 => h i (by omega))
theorem a_odds_mul {A P P' : Nat → Nat} {G : Nat} (hA : OKL A) (hG : 0 < G) (h : ∀ s, s < 9 → P s = G * P' s) (x1 x2 : Int32) : a_odds A P x1 x2 = a_odds A P' x1 x2 := by
  have hA0 := hA.1.1
  unfold a_odds
  by_cases q : 0 ≤ x1.toInt ∧ x1.toInt ≤ A 0 ∧ 0 ≤ x2.toInt ∧ x2.toInt ≤ 1
  · rw [if_pos q, if_pos q]
    by_cases z : tot P' = 0
    · rw [if_pos z, if_pos ((tot_mul0 hG h).mpr z)]
    · rw [if_neg z, if_neg (fun y => z ((tot_mul0 hG h).mp y)), tot_mul h, h _ (by omega), fr_mul _ _ _ _ hG]
  · rw [if_neg q, if_neg q]
theorem a_missing_mul {P P' : Nat → Nat} {G : Nat} (hG : 0 < G) (h : ∀ s, s < 9 → P s = G * P' s) (x : Int32) : a_missing P x = a_missing P' x := by
  unfold a_missing
  by_cases q : 0 ≤ x.toInt ∧ x.toInt ≤ 1
  · rw [if_pos q, if_pos q]
    by_cases z : tot P' = 0
    · rw [if_pos z, if_pos ((tot_mul0 hG h).mpr z)]
    · rw [if_neg z, if_neg (fun y => z ((tot_mul0 hG h).mp y)), tot_mul h, away_mul h, fr_mul _ _ _ _ hG]
  · rw [if_neg q, if_neg q]
theorem b14 {w m : Nat} (hw : w ≤ 8) (hm : m ≤ 6) {X : Nat} (h : X ≤ 10 ^ (w + m)) : X ≤ 100000000000000 := Nat.le_trans h (p14 hw hm)
theorem tot_c {T : Nat} (hb : T ≤ 100000000000000) {X Y : Prop} (f : T = 0 → X) (g : 0 < T → Y) : (lN T = (0 : Int64) → X) ∧ (¬ lN T = (0 : Int64) → Y) := by
  have e := pk_lEQ (a := T) (b := 0) (by omega) (by first | decide | exact vd (by decide))
  exact ⟨fun h => f (e.mp h), fun h => g (Nat.pos_of_ne_zero fun z => h (e.mpr z))⟩
section OD
variable {A : Nat → Nat} {st cO cB fB fd : Int32} {mi lo ba sl ta : Nat → Int32} {ti : Nat → Nat → Int32} {la : Nat → Int32}
theorem C_odds (hA : OKL A) (hC : CL A st cO cB fB fd mi lo ba sl ta ti) {w m : Nat} {B Q D : Nat → Nat} (hV : VW (A 0) w m B Q D) {be so te : Nat → Int32} (hW : WA m B Q D be so te) {aw al : Int64} {o : Nat → Int64} {x1 x2 : Int32} {Post : Int64 → Int64 → Int64 → (Nat → Int64) → Prop} (h : ∀ aw al o, Post (a_odds A (RU A w m B Q D).1 x1 x2) aw al o) : qv_X7_odds x1 x2 st (nI w) (nI m) aw al lo ba sl be so te o Post := by
  have hA0 := hA.1.1
  have hw := hV.1
  have tst : st.toInt = A 0 := by rw [hC.1.1, nI_toInt (by omega)]
  have bad : ¬ (0 ≤ x1.toInt ∧ x1.toInt ≤ A 0 ∧ 0 ≤ x2.toInt ∧ x2.toInt ≤ 1) → ∀ aw al o, Post (-1) aw al o := fun q => by rw [a_odds, if_neg q] at h; exact h
  refine bl x1.toInt 0 rfl rfl (fun q => bad (by omega) _ _ _) (fun q => bl (A 0) x1.toInt tst rfl (fun q2 => bad (by omega) _ _ _) (fun q2 => C_isPart (fun p hp ep tp => t1 ?_) (fun q => t0 (bad (by omega) _ _ _))))
  obtain ⟨k, hk, rfl, ek⟩ := nI_of3 (x := x1) (n := 9) (by first | decide | exact vd (by decide)) (by omega) (by omega)
  rw [a_odds, if_pos (by omega), ek, tp] at h
  subst ep
  refine C_follow hA hC hV hW (fun o' ho hb => ?_)
  have hb := b14 (by omega) hV.2.1 hb
  have hp2 := tot_ge (RU A w m B Q D).1 hk
  refine tot_c hb (fun z => ?_) (fun z => ⟨vp_in_nI hk (by first | decide | exact vd (by decide)), ?_⟩)
  · rw [if_pos z] at h; exact h _ _ _
  · rw [if_neg (by omega)] at h
    rw [nI_clamp (by omega), ho k hk]
    exact C_lowest z (by omega) (by omega) (by omega) (h _ _ _)
theorem R_odds (hA : OKL A) (hR : RLd A la) {w m : Nat} {B Q D : Nat → Nat} (hV : VW (A 0) w m B Q D) {be so te : Nat → Int32} (hW : WA m B Q D be so te) {al : Int64} {o : Nat → Int64} {x1 x2 : Int32} {Post : Int64 → Int64 → (Nat → Int64) → Prop} (h : ∀ al o, Post (a_odds A (RU A w m B Q D).1 x1 x2) al o) : qv_X8_odds x1 x2 (nI w) (nI m) al la be so te o Post := by
  have hA0 := hA.1.1
  have hw := hV.1
  have e0 : la ((0 : Int32).toNatClampNeg) = nI (A 0) := hR 0 (by first | decide | exact vd (by decide))
  have bad : ¬ (0 ≤ x1.toInt ∧ x1.toInt ≤ A 0 ∧ 0 ≤ x2.toInt ∧ x2.toInt ≤ 1) → ∀ al o, Post (-1) al o := fun q => by rw [a_odds, if_neg q] at h; exact h
  refine ⟨by first | decide | exact vd (by decide), R_inI 0 (A 0) rfl (by rw [e0, Int32.toInt_toInt64, nI_toInt (by omega)]) (fun q q2 => t1 (R_isPart (fun p hp ep tp => t1 ?_) (fun q => t0 (bad (by omega) _ _)))) (fun q => t0 (bad (by omega) _ _))⟩
  refine R_goes hA hR hV hW (fun al o hs hb => ?_)
  have hb := b14 (by omega) hV.2.1 hb
  obtain ⟨G, P', hG, hP, ho, rfl⟩ := hs
  have hle := RS_le hG hP
  rw [a_odds_mul hA hG hP] at h
  obtain ⟨k, hk, rfl, ek⟩ := nI_of3 (x := x1) (n := 9) (by first | decide | exact vd (by decide)) (by omega) (by omega)
  rw [a_odds, if_pos (by omega), ek, tp] at h
  subst ep
  have hp2 := tot_ge P' hk
  refine tot_c (by omega) (fun z => ?_) (fun z => ⟨vp_in_nI hk (by first | decide | exact vd (by decide)), ?_⟩)
  · rw [if_pos z] at h; exact h _ _
  · rw [if_neg (by omega)] at h
    rw [nI_clamp (by omega), ho k hk]
    exact R_part z (by omega) (by omega) (by omega) (h _ _)
theorem C_missing (hA : OKL A) (hC : CL A st cO cB fB fd mi lo ba sl ta ti) {w m : Nat} {B Q D : Nat → Nat} (hV : VW (A 0) w m B Q D) {be so te : Nat → Int32} (hW : WA m B Q D be so te) {aw al : Int64} {o : Nat → Int64} {x : Int32} {Post : Int64 → Int64 → Int64 → (Nat → Int64) → Prop} (h : ∀ aw al o, Post (a_missing (RU A w m B Q D).1 x) aw al o) : qv_X7_missing x (nI w) (nI m) aw al lo ba sl be so te o Post := by
  have hA0 := hA.1.1
  have hw := hV.1
  refine C_isPart (fun p hp ep tp => t1 ?_) (fun q => t0 (by rw [a_missing, if_neg (by omega)] at h; exact h _ _ _))
  rw [a_missing, if_pos (by omega), tp] at h
  subst ep
  refine C_follow hA hC hV hW (fun o' ho hb => ?_)
  have hb := b14 (by omega) hV.2.1 hb
  have hp2 := tot_e (RU A w m B Q D).1
  refine tot_c hb (fun z => ?_) (fun z => ?_)
  · rw [if_pos z] at h; exact h _ _ _
  · rw [if_neg (by omega)] at h
    exact C_lowest z (by omega) (by omega) (by omega) (h _ _ _)
theorem R_missing (hA : OKL A) (hR : RLd A la) {w m : Nat} {B Q D : Nat → Nat} (hV : VW (A 0) w m B Q D) {be so te : Nat → Int32} (hW : WA m B Q D be so te) {al : Int64} {o : Nat → Int64} {x : Int32} {Post : Int64 → Int64 → (Nat → Int64) → Prop} (h : ∀ al o, Post (a_missing (RU A w m B Q D).1 x) al o) : qv_X8_missing x (nI w) (nI m) al la be so te o Post := by
  have hA0 := hA.1.1
  have hw := hV.1
  refine R_isPart (fun p hp ep tp => t1 ?_) (fun q => t0 (by rw [a_missing, if_neg (by omega)] at h; exact h _ _))
  refine R_goes hA hR hV hW (fun al o hs hb => ?_)
  have hb := b14 (by omega) hV.2.1 hb
  obtain ⟨G, P', hG, hP, ho, rfl⟩ := hs
  have hle := RS_le hG hP
  rw [a_missing_mul hG hP, a_missing, if_pos (by omega), tp] at h
  subst ep
  have hp2 := tot_e P'
  refine tot_c (by omega) (fun z => ?_) (fun z => ⟨by first | decide | exact vd (by decide), ?_⟩)
  · rw [if_pos z] at h; exact h _ _
  · rw [if_neg (by omega)] at h
    have o0 : o (0 : Int32).toNatClampNeg = lN (P' 0) := ho 0 (by first | decide | exact vd (by decide))
    rw [o0, lN_sub (by omega), show tot P' - P' 0 = sm P' 1 8 by omega]
    exact R_part z (by omega) (by omega) (by omega) (h _ _)
def a_back (A : Nat → Nat) (w m : Nat) (B Q D : Nat → Nat) (x : Int32) : Int64 := if 0 ≤ x.toInt ∧ x.toInt ≤ 1 then (if m = 0 then -2 else a_missing (RU A w (m - 1) B Q D).1 x) else -1
theorem VW_pred {S w m : Nat} {B Q D : Nat → Nat} (hV : VW S w m B Q D) : VW S w (m - 1) B Q D := ⟨hV.1, by have := hV.2.1; omega, fun i hi => hV.2.2.1 i (by omega), fun i j h1 h2 => hV.2.2.2 i j h1 (by omega)⟩
theorem WA_pred {m : Nat} {B Q D : Nat → Nat} {be so te : Nat → Int32} (hW : WA m B Q D be so te) : WA (m - 1) B Q D be so te := fun i hi => hW i (by omega)
theorem C_backward (hA : OKL A) (hC : CL A st cO cB fB fd mi lo ba sl ta ti) {w m : Nat} {B Q D : Nat → Nat} (hV : VW (A 0) w m B Q D) {be so te : Nat → Int32} (hW : WA m B Q D be so te) {aw al : Int64} {o : Nat → Int64} {x : Int32} {Post : Int64 → Int64 → Int64 → (Nat → Int64) → Prop} (h : ∀ aw al o, Post (a_back A w m B Q D x) aw al o) : qv_X7_backward x (nI w) (nI m) aw al lo ba sl be so te o Post := by
  have hA0 := hA.1.1
  have hw := hV.1
  have hm := hV.2.1
  refine C_isPart (fun p hp ep tp => t1 (pk_eq m 0 (fun q => ?_) (fun q => ?_))) (fun q => t0 (by rw [a_back, if_neg (by omega)] at h; exact h _ _ _))
  · rw [a_back, if_pos (by omega), if_pos q] at h; exact h _ _ _
  rw [a_back, if_pos (by omega), if_neg q, a_missing, if_pos (by omega), tp] at h
  subst ep
  rw [show nI m - (1 : Int32) = nI (m - 1) from pk_sub (b := 1) (by omega)]
  refine C_follow hA hC (VW_pred hV) (WA_pred hW) (fun o' ho hb => ?_)
  have hb := b14 (by omega) (VW_pred hV).2.1 hb
  have hp2 := tot_e (RU A w (m - 1) B Q D).1
  refine tot_c hb (fun z => ?_) (fun z => ?_)
  · rw [if_pos z] at h; exact h _ _ _
  · rw [if_neg (by omega)] at h
    exact C_lowest z (by omega) (by omega) (by omega) (h _ _ _)
theorem R_backward (hA : OKL A) (hR : RLd A la) {w m : Nat} {B Q D : Nat → Nat} (hV : VW (A 0) w m B Q D) {be so te : Nat → Int32} (hW : WA m B Q D be so te) {al : Int64} {o : Nat → Int64} {x : Int32} {Post : Int64 → Int64 → (Nat → Int64) → Prop} (h : ∀ al o, Post (a_back A w m B Q D x) al o) : qv_X8_backward x (nI w) (nI m) al la be so te o Post := by
  have hA0 := hA.1.1
  have hw := hV.1
  have hm := hV.2.1
  refine R_isPart (fun p hp ep tp => t1 (pk_eq m 0 (fun q => ?_) (fun q => ?_))) (fun q => t0 (by rw [a_back, if_neg (by omega)] at h; exact h _ _))
  · rw [a_back, if_pos (by omega), if_pos q] at h; exact h _ _
  rw [a_back, if_pos (by omega), if_neg q] at h
  rw [show nI m - (1 : Int32) = nI (m - 1) from pk_sub (b := 1) (by omega)]
  refine R_goes hA hR (VW_pred hV) (WA_pred hW) (fun al o hs hb => ?_)
  have hb := b14 (by omega) (VW_pred hV).2.1 hb
  obtain ⟨G, P', hG, hP, ho, rfl⟩ := hs
  have hle := RS_le hG hP
  rw [a_missing_mul hG hP, a_missing, if_pos (by omega), tp] at h
  subst ep
  have hp2 := tot_e P'
  refine tot_c (by omega) (fun z => ?_) (fun z => ⟨by first | decide | exact vd (by decide), ?_⟩)
  · rw [if_pos z] at h; exact h _ _
  · rw [if_neg (by omega)] at h
    have o0 : o (0 : Int32).toNatClampNeg = lN (P' 0) := ho 0 (by first | decide | exact vd (by decide))
    rw [o0, lN_sub (by omega), show tot P' - P' 0 = sm P' 1 8 by omega]
    exact R_part z (by omega) (by omega) (by omega) (h _ _)
/-! since, judge -/
def bv (P : Nat → Nat) : Option Nat → Nat
  | none => 0
  | some b => P b
def bst (P : Nat → Nat) : Nat → Option Nat
  | 0 => none
  | n + 1 => if bv P (bst P n) < P (n + 1) then some (n + 1) else bst P n
theorem bst_ok (P : Nat → Nat) : ∀ n q, bst P n = some q → 1 ≤ q ∧ q ≤ n := by
  intro n
  induction n with
  | zero => intro q h; cases h
  | succ n ih =>
    intro q h
    rw [bst] at h
    split at h
    · cases h; omega
    · have := ih q h; omega
theorem bst_pos (P : Nat → Nat) : ∀ n q, bst P n = some q → 0 < P q := by
  intro n
  induction n with
  | zero => intro q h; cases h
  | succ n ih =>
    intro q h
    rw [bst] at h
    split at h
    · cases h; omega
    · exact ih q h
theorem bst_mul {P P' : Nat → Nat} {G : Nat} (hG : 0 < G) (h : ∀ s, s < 9 → P s = G * P' s) : ∀ n, n ≤ 8 → bst P n = bst P' n := by
  intro n
  induction n with
  | zero => intro _; rfl
  | succ n ih =>
    intro hn
    have e := ih (by omega)
    have e2 : bv P (bst P n) = G * bv P' (bst P' n) := by
      rw [e]
      cases q : bst P' n with
      | none => exact (Nat.mul_zero G).symm
      | some b => exact h b (by have := bst_ok P' n b q; omega)
    rw [bst, bst, e2, h (n + 1) (by omega), e]
    have e3 : (G * bv P' (bst P' n) < G * P' (n + 1)) = (bv P' (bst P' n) < P' (n + 1)) := propext (Nat.mul_lt_mul_left hG)
    simp only [e3]
theorem C_since (hA : OKL A) (hC : CL A st cO cB fB fd mi lo ba sl ta ti) {w m : Nat} {B Q D : Nat → Nat} (hV : VW (A 0) w m B Q D) {be so te : Nat → Int32} (hW : WA m B Q D be so te) {aw al : Int64} {o : Nat → Int64} {Post : Int32 → Int64 → Int64 → (Nat → Int64) → Prop} (h : ∀ aw al o, Post (jI (bst (RU A w m B Q D).1 8)) aw al o) : qv_X7_since (nI w) (nI m) aw al lo ba sl be so te o Post := by
  have hA0 := hA.1.1
  have hw := hV.1
  refine C_follow hA hC hV hW (fun o' ho hb => ?_)
  have hb := b14 (by omega) hV.2.1 hb
  have hh := h (lN (sm (RU A w m B Q D).1 1 8)) (lN (tot (RU A w m B Q D).1)) o'
  generalize (RU A w m B Q D).1 = P at *
  have L : ∀ n i, i + n = 8 → qv_X0_likeliestAway_L8 o' (fun r2 => Post r2 (lN (sm P 1 8)) (lN (tot P)) o') (fun r2 => Post r2 (lN (sm P 1 8)) (lN (tot P)) o') (n + 1) (jI (bst P i)) (lN (bv P (bst P i))) (nI (i + 1)) := by
    intro n
    induction n with
    | zero =>
      intro i hi
      have : i = 8 := by omega
      subst this
      exact pk_lt 8 9 (fun _ => hh) (fun q => absurd q (by omega))
    | succ n ih =>
      intro i hi
      have vi : vp_in (nI (i + 1)) 9 := vp_in_nI (by omega) (by first | decide | exact vd (by decide))
      refine pk_lt 8 (i + 1) (fun q => absurd q (by omega)) (fun _ => ⟨vi, ?_⟩)
      have b1 := tot_ge P (s := i + 1) (by omega)
      have b2 : bv P (bst P i) ≤ tot P := by
        cases q : bst P i with
        | none => exact Nat.zero_le _
        | some b => exact tot_ge P (by have := bst_ok P i b q; omega)
      rw [nI_clamp (by omega), ho (i + 1) (by omega), nI_1]
      have e := pk_lLE (a := P (i + 1)) (b := bv P (bst P i)) (by omega) (by omega)
      have k := ih (i + 1) (by omega)
      rw [bst] at k
      refine ⟨fun q => ?_, fun q => ⟨vi, ?_⟩⟩
      · rw [if_neg (by have := e.mp q; omega)] at k; exact k
      · rw [if_pos (Nat.not_le.mp fun z => q (e.mpr z))] at k; exact k
  exact ⟨9, L 8 0 (by omega)⟩
theorem R_since (hA : OKL A) (hR : RLd A la) {w m : Nat} {B Q D : Nat → Nat} (hV : VW (A 0) w m B Q D) {be so te : Nat → Int32} (hW : WA m B Q D be so te) {al : Int64} {o : Nat → Int64} {Post : Int32 → Int64 → (Nat → Int64) → Prop} (h : ∀ al o, Post (jI (bst (RU A w m B Q D).1 8)) al o) : qv_X8_since (nI w) (nI m) al la be so te o Post := by
  have hA0 := hA.1.1
  have hw := hV.1
  refine R_goes hA hR hV hW (fun al o hs hb => ?_)
  have hb := b14 (by omega) hV.2.1 hb
  obtain ⟨G, P, hG, hP, ho, rfl⟩ := hs
  have hle := RS_le hG hP
  rw [bst_mul hG hP 8 (by omega)] at h
  have L : ∀ n i, i + n = 8 → qv_X8_since_L14 (nI w) (nI m) (lN (tot P)) la be so te o Post (fun x1_9 => Post x1_9 (lN (tot P)) o) (n + 1) (jI (bst P i)) (nI (i + 1)) := by
    intro n
    induction n with
    | zero =>
      intro i hi
      have : i = 8 := by omega
      subst this
      exact pk_le 9 9 (fun _ => h _ _) (fun q => absurd q (by omega))
    | succ n ih =>
      intro i hi
      have vi : vp_in (nI (i + 1)) 9 := vp_in_nI (by omega) (by first | decide | exact vd (by decide))
      refine pk_le 9 (i + 1) (fun q => absurd q (by omega)) (fun _ => ⟨vi, ?_⟩)
      have b1 := tot_ge P (s := i + 1) (by omega)
      rw [nI_clamp (by omega), ho (i + 1) (by omega), nI_1]
      have e := pk_lLE (a := P (i + 1)) (b := 0) (by omega) (by first | decide | exact vd (by decide))
      have k := ih (i + 1) (by omega)
      rw [bst] at k
      refine ⟨fun q => ?_, fun q => ?_⟩
      · rw [if_neg (by have := e.mp q; omega)] at k; exact k
      · have q' : 0 < P (i + 1) := Nat.pos_of_ne_zero (fun z => q (e.mpr (by omega)))
        cases hq : bst P i with
        | none =>
          rw [hq] at k
          rw [if_pos (by exact q')] at k
          exact br_t rfl k
        | some b =>
          rw [hq] at k
          obtain ⟨b2, b3⟩ := bst_ok P i b hq
          have b4 := tot_ge P (s := b) (by omega)
          refine br_f (jI_ne (by omega)) ?_
          show vp_in (nI (i + 1)) 9 ∧ _
          refine ⟨vi, vp_in_nI (show b < 9 by omega) (by first | decide | exact vd (by decide)), ?_⟩
          rw [show jI (some b) = nI b from rfl, nI_clamp (by omega), ho b (by omega)]
          have e2 := pk_lLE (a := P (i + 1)) (b := P b) (by omega) (by omega)
          have k' : qv_X8_since_L14 (nI w) (nI m) (lN (tot P)) la be so te o Post (fun x1_9 => Post x1_9 (lN (tot P)) o) (n + 1) (jI (if P b < P (i + 1) then some (i + 1) else some b)) (nI (i + 1 + 1)) := k
          refine ⟨fun z => ?_, fun z => ?_⟩
          · rw [if_neg (by have := e2.mp z; omega)] at k'; exact k'
          · rw [if_pos (Nat.not_le.mp fun y => z (e2.mpr y))] at k'; exact k'
  exact ⟨9, L 8 0 (by omega)⟩
end OD
