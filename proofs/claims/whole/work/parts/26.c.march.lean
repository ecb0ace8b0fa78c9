/-! march: the reference -/
section MA
variable {A : Nat → Nat} {la : Nat → Int32}
theorem R_L45 (hA : OKL A) (hR : RLd A la) (x2 x3 zl : Int32) (gw : Nat → Int32) (Post : Int32 → (Nat → Int32) → (Nat → Int32) → Prop) (E : Int32 → Int32 → Int32 → (Nat → Int32) → Prop) {N : Nat} (hN : N ≤ 6) :
    ∀ m i met al left w acc wi, i + m = N → met < 64 → left < 6 ^ m → w.length = 6 → (∀ k, k < i → bi met k = 1) → (∀ k, k < 6 → bi met k = 1 → wi k = cd (w.getD k 7)) →
    (rowS N m i met al left w acc = none → ∀ a s wi', E a s (nI 0) wi') →
    (∀ al' w' acc' wi', rowS N m i met al left w acc = some (al', w', acc') → (∀ k, k < N → wi' k = cd (w'.getD k 7)) → E (nI al') (nI (tsm (fun i j => A (37 + 6 * i + j)) acc')) (nI 1) wi') →
    qv_X8_marches_L45 (nI N) x2 x3 zl la gw Post E (m + 1) (nI met) (nI al) (nI (tsm (fun i j => A (37 + 6 * i + j)) acc)) (nI left) (nI 1) (nI i) wi := by
  intro m
  induction m with
  | zero =>
    intro i met al left w acc wi hi hm hl hw hb hwi no yes
    have : i = N := by omega
    subst this
    exact pk_le i i (fun _ => yes al w acc wi rfl (fun k hk => hwi k (by omega) (hb k hk))) (fun q => absurd q (by omega))
  | succ m ih =>
    intro i met al left w acc wi hi hm hl hw hb hwi no yes
    have hp : 0 < 6 ^ m := Nat.pow_pos (by first | decide | exact vd (by decide))
    have hp2 : 6 ^ m ≤ 7776 := Nat.le_trans (Nat.pow_le_pow_right (by first | decide | exact vd (by decide)) (show m ≤ 5 by omega)) (by first | decide | exact vd (by decide))
    have hfig : left / 6 ^ m < 6 := by
      rw [Nat.pow_succ, Nat.mul_comm] at hl
      exact Nat.div_lt_of_lt_mul (by rw [Nat.mul_comm]; exact hl)
    have hlr : left % 6 ^ m < 6 ^ m := Nat.mod_lt _ hp
    have hll : left < 46656 := by
      rw [Nat.pow_succ] at hl; omega
    have exit : ∀ met al s left wi, E al s (nI 0) wi → qv_X8_marches_L45 (nI N) x2 x3 zl la gw Post E (m + 1) met al s left (nI 0) (nI (i + 1)) wi := fun met al s left wi h => pk_le N (i + 1) (fun _ => h) (fun _ => t0 h)
    refine pk_le N i (fun q => absurd q (by omega)) (fun _ => t1 ?_)
    have ep : nI N - (1 : Int32) - nI i = nI m := by
      rw [show nI N - (1 : Int32) = nI (N - 1) from pk_sub (b := 1) (by omega), pk_sub (by omega)]; congr 1; omega
    have hne : ¬ nI (6 ^ m) = (0 : Int32) := fun q => by have := (nI_eq (b := 0) (by omega) (by first | decide | exact vd (by decide))).mp q; omega
    rw [ep]
    refine R_power (b := 6) (by omega) ⟨hne, R_power (b := 6) (by omega) ⟨hne, ?_⟩⟩
    rw [pk_rem (a := left) (by omega) hp (by omega), pk_div (a := left) (by omega) hp (by omega), b_shr met hm i (by omega), nI_1 i, nI_add i]
    rw [rowS] at no yes
    have b1 := bi_le met i
    refine pk_eq (bi met i) 1 (fun c1 => ?_) (fun c1 => ?_) rfl rfl (by omega)
    · rw [if_pos c1] at no yes
      refine pk_eq (left / 6 ^ m) 0 (fun c2 => ?_) (fun c2 => ?_)
      · rw [if_pos c2] at no yes
        refine ih (i + 1) met al _ w acc wi (by omega) hm hlr hw (fun k hk => ?_) hwi no yes
        by_cases e : k = i
        · subst e; exact c1
        · exact hb k (by omega)
      · rw [if_neg c2] at no
        exact exit _ _ _ _ _ (no rfl _ _ _)
    · rw [if_neg c1] at no yes
      have o1 := b_or1 met hm i (by omega)
      refine pk_eq (left / 6 ^ m) 0 (fun c2 => ?_) (fun c2 => ?_)
      · rw [if_pos c2] at no yes
        rw [o1.1, nI_1, nI_clamp (by omega)]
        refine ⟨vp_in_nI (by omega) (by first | decide | exact vd (by decide)), ih (i + 1) _ (al + 1) _ _ acc _ (by omega) o1.2 hlr (by rw [List.length_set]; exact hw) (fun k hk => ?_) (fun k hk6 hbk => ?_) no yes⟩
        · rw [b_ori met hm i (by omega) k (by omega)]
          by_cases e : k = i
          · rw [if_pos e]
          · rw [if_neg e]; exact hb k (by omega)
        · rw [b_ori met hm i (by omega) k hk6] at hbk
          rw [gd_set _ _ _ _ _ (by omega)]
          by_cases e : k = i
          · subst e; rw [pk_us, if_pos rfl]; rfl
          · rw [if_neg e] at hbk; rw [pk_un e, if_neg e]; exact hwi k hk6 hbk
      · rw [if_neg c2] at no yes
        have J0 : rowS N m i met al left w acc = rowS N m i met al left w acc → ¬ (i + left / 6 ^ m < N ∧ bi met (i + left / 6 ^ m) = 0) → qv_X8_marches_J173 (0 : Int32) (nI N) x2 x3 (nI met) (nI al) (nI (tsm (fun i j => A (37 + 6 * i + j)) acc)) (nI (left % 6 ^ m)) (nI i) (nI (i + left / 6 ^ m)) zl la gw wi Post (qv_X8_marches_L45 (nI N) x2 x3 zl la gw Post E (m + 1)) E := fun _ c => by
          rw [if_neg c] at no
          refine br_t rfl ?_
          rw [nI_1]
          exact exit _ _ _ _ _ (no rfl _ _ _)
        refine pk_le N (i + left / 6 ^ m) (fun c3 => J0 rfl (fun z => by omega)) (fun c3 => ?_)
        rw [b_shr met hm _ (by omega)]
        have b2 := bi_le met (i + left / 6 ^ m)
        refine pk_eq (bi met (i + left / 6 ^ m)) 0 (fun c4 => br_f (by first | decide | exact vd (by decide)) ?_) (fun c4 => J0 rfl (fun z => c4 z.2)) rfl rfl (by omega)
        rw [if_pos ⟨c3, c4⟩] at no yes
        have ex : (37 : Int32) + (6 : Int32) * nI i + nI (i + left / 6 ^ m) = nI (37 + 6 * i + (i + left / 6 ^ m)) := by rw [li_37, li_6, pk_mul, nI_add, nI_add]
        rw [ex, b_or2 met hm i (by omega) _ (by omega), nI_clamp (by omega), nI_clamp (by omega), nI_clamp (by omega), hR _ (by omega), nI_add, nI_1]
        refine ⟨vp_in_nI (by omega) (by first | decide | exact vd (by decide)), vp_in_nI (by omega) (by first | decide | exact vd (by decide)), vp_in_nI (by omega) (by first | decide | exact vd (by decide)), ?_⟩
        have l1 : i < w.length := by omega
        have l2 : i + left / 6 ^ m < (w.set i (i + left / 6 ^ m)).length := by rw [List.length_set]; omega
        have o2 := b_or1 _ o1.2 (i + left / 6 ^ m) (by omega)
        refine ih (i + 1) _ al _ _ ((i, i + left / 6 ^ m) :: acc) _ (by omega) o2.2 hlr (by rw [List.length_set, List.length_set]; exact hw) (fun k hk => ?_) (fun k hk6 hbk => ?_) no yes
        · rw [b_ori _ o1.2 _ (by omega) k (by omega), b_ori met hm i (by omega) k (by omega)]
          by_cases e : k = i
          · rw [if_pos e]; split <;> rfl
          · rw [if_neg e]
            split
            · rfl
            · exact hb k (by omega)
        · rw [b_ori _ o1.2 _ (by omega) k hk6, b_ori met hm i (by omega) k hk6] at hbk
          rw [gd_set _ _ _ _ _ l2, gd_set _ _ _ _ _ l1]
          unfold upd
          by_cases e1 : k = i + left / 6 ^ m
          · rw [if_pos e1, if_pos e1]; unfold cd; rw [if_neg (by omega), if_neg (by omega)]
          · rw [if_neg e1] at hbk
            rw [if_neg e1, if_neg e1]
            by_cases e2 : k = i
            · rw [if_pos e2, if_pos e2]; unfold cd; rw [if_neg (by omega), if_neg (by omega)]
            · rw [if_neg e2] at hbk
              rw [if_neg e2, if_neg e2]; exact hwi k hk6 hbk
/-- what the reference holds of the best -/
def RRb (N : Nat) (S : Option (Nat × List Nat)) (l : Int32) (gw : Nat → Int32) : Prop := match S with
  | none => l = (-1 : Int32)
  | some (s, w) => l = nI s ∧ s ≤ 1000 ∧ ∀ k, k < N → gw k = cd (w.getD k 7)
theorem tsm_row {t : Nat → Nat → Nat} {N : Nat} (ht : ∀ i j, i < 6 → j < 6 → t i j ≤ 9) (hN : N ≤ 6) : ∀ m i met al left w acc al' w' acc', i + m = N → rowS N m i met al left w acc = some (al', w', acc') → tsm t acc' ≤ tsm t acc + 9 * m := by
  intro m
  induction m with
  | zero => intro i met al left w acc al' w' acc' h e; rw [rowS] at e; cases e; omega
  | succ m ih =>
    intro i met al left w acc al' w' acc' h e
    rw [rowS] at e
    by_cases c1 : bi met i = 1
    · rw [if_pos c1] at e
      by_cases c2 : left / 6 ^ m = 0
      · rw [if_pos c2] at e
        have := ih _ _ _ _ _ _ _ _ _ (by omega) e
        omega
      · rw [if_neg c2] at e; cases e
    · rw [if_neg c1] at e
      by_cases c2 : left / 6 ^ m = 0
      · rw [if_pos c2] at e
        have := ih _ _ _ _ _ _ _ _ _ (by omega) e
        omega
      · rw [if_neg c2] at e
        by_cases c3 : i + left / 6 ^ m < N ∧ bi met (i + left / 6 ^ m) = 0
        · rw [if_pos c3] at e
          have := ih _ _ _ _ _ _ _ _ _ (by omega) e
          rw [tsm] at this
          have q := ht i (i + left / 6 ^ m) (by omega) (by omega)
          have this' : tsm t acc' ≤ tsm t acc + t i (i + left / 6 ^ m) + 9 * m := this
          omega
        · rw [if_neg c3] at e; cases e
theorem R_marches (hA : OKL A) (hR : RLd A la) {zl : Int32} {gw wi : Nat → Int32} {Post : Int32 → (Nat → Int32) → (Nat → Int32) → Prop} (h : ∀ l gw wi, RRb (A 1) (mbest (fun i j => A (37 + 6 * i + j)) (A 1)) l gw → Post l gw wi) : qv_X8_marches zl la gw wi Post := by
  have hA1 := hA.1.2.1
  have hA2 := hA.1.2.2
  have e1 : la (1 : Int32).toNatClampNeg = nI (A 1) := hR 1 (by first | decide | exact vd (by decide))
  have hp2 : 6 ^ A 1 ≤ 46656 := Nat.le_trans (Nat.pow_le_pow_right (by first | decide | exact vd (by decide)) hA2) (by first | decide | exact vd (by decide))
  have t9 : ∀ i j, i < 6 → j < 6 → A (37 + 6 * i + j) ≤ 9 := fun i j hi hj => (hA.2.2.2.2 i j hi hj).1
  refine ⟨by first | decide | exact vd (by decide), ?_⟩
  rw [e1]
  refine R_power (b := 6) (by omega) ⟨6 ^ A 1 + 1, ?_⟩
  have hblk := blk (fun i j => A (37 + 6 * i + j)) (A 1) (A 1) 0 0 0 [7, 7, 7, 7, 7, 7] [] none (by omega)
  have G : ∀ n r l gw wi, r + n = 6 ^ A 1 → RRb (A 1) (foR (fun left S => stR (fun i j => A (37 + 6 * i + j)) (A 1) (rowS (A 1) (A 1) 0 0 0 left [7, 7, 7, 7, 7, 7] []) S) r none) l gw → qv_X8_marches_L22 (nI (A 1)) (nI (6 ^ A 1)) la Post (fun l gw wi => Post l gw wi) (n + 1) (nI r) l gw wi := by
    intro n
    induction n with
    | zero =>
      intro r l gw wi hr hS
      rw [Nat.add_zero] at hr
      rw [hr, hblk] at hS
      exact pk_le (6 ^ A 1) r (fun _ => h l gw wi hS) (fun q => absurd q (by omega))
    | succ n ih =>
      intro r l gw wi hr hS
      refine pk_le (6 ^ A 1) r (fun q => absurd q (by omega)) (fun _ => ⟨A 1 + 1, ?_⟩)
      have nx := fun l gw wi => ih (r + 1) l gw wi (by omega)
      rw [foR] at nx
      have J0 : ∀ s wi', stR (fun i j => A (37 + 6 * i + j)) (A 1) (rowS (A 1) (A 1) 0 0 0 r [7, 7, 7, 7, 7, 7] []) (foR (fun left S => stR (fun i j => A (37 + 6 * i + j)) (A 1) (rowS (A 1) (A 1) 0 0 0 left [7, 7, 7, 7, 7, 7] []) S) r none) = foR (fun left S => stR (fun i j => A (37 + 6 * i + j)) (A 1) (rowS (A 1) (A 1) 0 0 0 left [7, 7, 7, 7, 7, 7] []) S) r none → qv_X8_marches_J273 (0 : Int32) (nI (A 1)) (nI (6 ^ A 1)) (nI r) s l la gw wi' Post (qv_X8_marches_L22 (nI (A 1)) (nI (6 ^ A 1)) la Post (fun l gw wi => Post l gw wi) (n + 1)) (fun l gw wi => Post l gw wi) := fun s wi' e => by
        rw [e] at nx
        refine br_t rfl ⟨1, br_f (by intro q; have := (nI_leI (a := A 1) (b := 0) (by omega) (by first | decide | exact vd (by decide))).mp q; omega) (br_t rfl ?_)⟩
        rw [nI_1]
        exact nx l gw wi' hS
      refine R_L45 hA hR _ _ l gw Post _ hA2 (A 1) 0 0 0 r [7, 7, 7, 7, 7, 7] [] wi (by omega) (by first | decide | exact vd (by decide)) (by omega) rfl (fun k hk => absurd hk (by omega)) (fun k hk6 hbk => ?_) (fun e a s wi' => t0 (J0 s wi' (by rw [e]; rfl))) (fun al' w' acc' wi' e hw' => t1 ?_)
      · have : bi 0 k = 0 := by unfold bi; rw [Nat.zero_div]
        omega
      · rw [show nI (A 1) - nI (A 1) / (2 : Int32) * (2 : Int32) = nI (A 1 % 2) from pk_rem (d := 2) (by omega) (by first | decide | exact vd (by decide)) (by first | decide | exact vd (by decide))]
        have hsum := tsm_row (t := fun i j => A (37 + 6 * i + j)) t9 hA2 (A 1) 0 0 0 r _ _ al' w' acc' (by omega) e
        have hsum' : tsm (fun i j => A (37 + 6 * i + j)) acc' ≤ 54 := by
          have : tsm (fun i j => A (37 + 6 * i + j)) [] = 0 := rfl
          omega
        have hal : al' ≤ 100 := by
          have : ∀ m i met al left w acc al' w' acc', rowS (A 1) m i met al left w acc = some (al', w', acc') → al' ≤ al + m := by
            intro m
            induction m with
            | zero => intro i met al left w acc al' w' acc' e; rw [rowS] at e; cases e; omega
            | succ m ihm =>
              intro i met al left w acc al' w' acc' e
              rw [rowS] at e
              split at e
              · split at e
                · have := ihm _ _ _ _ _ _ _ _ _ e; omega
                · cases e
              · split at e
                · have := ihm _ _ _ _ _ _ _ _ _ e; omega
                · split at e
                  · have := ihm _ _ _ _ _ _ _ _ _ e; omega
                  · cases e
          have := this _ _ _ _ _ _ _ _ _ _ e
          omega
        rw [e] at nx J0
        have J1 : (stR (fun i j => A (37 + 6 * i + j)) (A 1) (some (al', w', acc')) (foR (fun left S => stR (fun i j => A (37 + 6 * i + j)) (A 1) (rowS (A 1) (A 1) 0 0 0 left [7, 7, 7, 7, 7, 7] []) S) r none) = some (tsm (fun i j => A (37 + 6 * i + j)) acc', w')) → qv_X8_marches_J273 (1 : Int32) (nI (A 1)) (nI (6 ^ A 1)) (nI r) (nI (tsm (fun i j => A (37 + 6 * i + j)) acc')) l la gw wi' Post (qv_X8_marches_L22 (nI (A 1)) (nI (6 ^ A 1)) la Post (fun l gw wi => Post l gw wi) (n + 1)) (fun l gw wi => Post l gw wi) := fun es => by
          rw [es] at nx
          refine br_f (by first | decide | exact vd (by decide)) ⟨A 1 + 1, ?_⟩
          have L296 : ∀ m i gw', i + m = A 1 → (∀ k, k < i → gw' k = cd (w'.getD k 7)) → qv_X8_marches_L296 (nI (A 1)) (nI (6 ^ A 1)) (nI r) (1 : Int32) (nI (tsm (fun i j => A (37 + 6 * i + j)) acc')) la wi' Post (fun z_goesWith_28 => qv_X8_marches_L22 (nI (A 1)) (nI (6 ^ A 1)) la Post (fun l gw wi => Post l gw wi) (n + 1) (nI r + (1 : Int32)) (nI (tsm (fun i j => A (37 + 6 * i + j)) acc')) z_goesWith_28 wi') (m + 1) (nI i) gw' := by
            intro m
            induction m with
            | zero =>
              intro i gw' hi hg
              have : i = A 1 := by omega
              refine pk_le (A 1) i (fun _ => ?_) (fun q => absurd q (by omega))
              rw [nI_1]
              exact nx _ _ _ ⟨rfl, by omega, fun k hk => hg k (by omega)⟩
            | succ m ihm =>
              intro i gw' hi hg
              have vi : vp_in (nI i) 6 := vp_in_nI (by omega) (by first | decide | exact vd (by decide))
              refine pk_le (A 1) i (fun q => absurd q (by omega)) (fun _ => br_f (by first | decide | exact vd (by decide)) ⟨vi, vi, ?_⟩)
              rw [nI_clamp (by omega), hw' i (by omega), nI_1 i]
              refine ihm (i + 1) _ (by omega) (fun k hk => ?_)
              by_cases z : k = i
              · subst z; exact pk_us
              · rw [pk_un z]; exact hg k (by omega)
          exact L296 (A 1) 0 gw (by omega) (fun k hk => absurd hk (by omega))
        refine pk_eq al' (A 1 % 2) (fun c => ?_) (fun c => J0 _ _ (if_neg c))
        generalize hSr : foR (fun left S => stR (fun i j => A (37 + 6 * i + j)) (A 1) (rowS (A 1) (A 1) 0 0 0 left [7, 7, 7, 7, 7, 7] []) S) r none = Sr at *
        have est : stR (fun i j => A (37 + 6 * i + j)) (A 1) (some (al', w', acc')) Sr = seF (fun i j => A (37 + 6 * i + j)) Sr (w', acc') := if_pos c
        rw [est] at J0 J1
        cases Sr with
        | none =>
          have hl : l = (-1 : Int32) := hS
          subst hl
          exact br_t (by first | decide | exact vd (by decide)) (J1 rfl)
        | some p =>
          obtain ⟨s, w0⟩ := p
          obtain ⟨rfl, hs1, hs2⟩ := hS
          refine br_f (nI_pos (by omega)) (pk_le s (tsm (fun i j => A (37 + 6 * i + j)) acc') (fun q => J0 _ _ ?_) (fun q => J1 ?_))
          · show (if tsm _ acc' < s then some (tsm _ acc', w') else some (s, w0)) = _
            rw [if_neg (by omega)]
          · show (if tsm _ acc' < s then some (tsm _ acc', w') else some (s, w0)) = _
            rw [if_pos (by omega)]
  exact G (6 ^ A 1) 0 (-1 : Int32) gw wi (by omega) rfl
theorem R_march (hA : OKL A) (hR : RLd A la) {l : Int32} {gw wi : Nat → Int32} {x : Int32} {Post : Int32 → Int32 → (Nat → Int32) → (Nat → Int32) → Prop} (h : ∀ l gw wi, Post (a_march A x) l gw wi) : qv_X8_march x l la gw wi Post := by
  have hA1 := hA.1.2.1
  have hA2 := hA.1.2.2
  obtain ⟨s, w, hb⟩ := mbest_some (fun i j => A (37 + 6 * i + j)) hA1 hA2
  refine ⟨fun q => ?_, fun q => R_isFriend hA hR (fun k hk e ek => t1 ?_) (fun q2 => t0 ?_)⟩
  · refine R_marches hA hR (fun l' gw' wi' hS => ?_)
    rw [hb] at hS
    rw [a_march, if_pos (Or.inl q), hb] at h
    simp only [q, if_true] at h
    refine br_f (by rw [q]; decide) ?_
    rw [hS.1]
    exact h _ _ _
  · refine R_marches hA hR (fun l' gw' wi' hS => ?_)
    rw [hb] at hS
    rw [a_march, if_pos (Or.inr (by omega)), hb] at h
    simp only [q, if_false] at h
    rw [ek] at h
    refine br_t (by rw [e]; exact nI_pos' (by omega)) ⟨?_, ?_⟩
    · rw [e]; exact vp_in_nI (by omega) (by first | decide | exact vd (by decide))
    · rw [e, nI_clamp (by omega), hS.2.2 k hk]
      exact h _ _ _
  · rw [a_march, if_neg (by intro z; rcases z with z | z; exact q z; omega)] at h
    exact h _ _ _
end MA
