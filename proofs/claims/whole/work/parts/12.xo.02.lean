/-! StileCounts$Reader.enterStretch(LStileCounts$Laid;)Z -/
abbrev qw_X4_enterStretch (cI cJ cC cG cW : ClassId) (a_this a_this_numbers a_p0 a_p0_minutes a_p0_lostBy a_p0_backBy a_p0_slips a_p0_takes a_p0_ties : Nat) (z_place : Int32) (z_p0_stretches : Int32) (z_p0_costOn : Int32) (z_p0_costBack : Int32) (z_p0_foundBy : Int32) (z_p0_friends : Int32) (z_numbers : Nat → Int32) (z_p0_minutes : Nat → Int32) (z_p0_lostBy : Nat → Int32) (z_p0_backBy : Nat → Int32) : va_W := [(a_this, .inr (4, [.ref a_this_numbers, .int z_place])), (a_p0, .inr (2, [.int z_p0_stretches, .ref a_p0_minutes, .ref a_p0_lostBy, .ref a_p0_backBy, .ref a_p0_slips, .ref a_p0_takes, .int z_p0_costOn, .int z_p0_costBack, .int z_p0_foundBy, .int z_p0_friends, .ref a_p0_ties])), (a_this_numbers, .inl (cI, 3, .inl z_numbers)), (a_p0_minutes, .inl (cI, 9, .inl z_p0_minutes)), (a_p0_lostBy, .inl (cI, 9, .inl z_p0_lostBy)), (a_p0_backBy, .inl (cI, 9, .inl z_p0_backBy))]
theorem qi_X4_enterStretch_X2 : ∀ w ∈ wsX20, w ∈ wsX4_enterStretch := by decide +kernel
theorem ql_X4_enterStretch_91 : (.fieldLink RX4 91 "StileCounts$Laid" "stretches" "I" : Cond) ∈ wsX4_enterStretch := by decide +kernel
theorem ql_X4_enterStretch_94 : (.fieldLink RX4 94 "StileCounts$Laid" "minutes" "[I" : Cond) ∈ wsX4_enterStretch := by decide +kernel
theorem qi_X4_enterStretch_X4 : ∀ w ∈ wsX40, w ∈ wsX4_enterStretch := by decide +kernel
theorem ql_X4_enterStretch_11 : (.fieldLink RX4 11 "StileCounts$Reader" "numbers" "[I" : Cond) ∈ wsX4_enterStretch := by decide +kernel
theorem ql_X4_enterStretch_97 : (.fieldLink RX4 97 "StileCounts$Laid" "lostBy" "[I" : Cond) ∈ wsX4_enterStretch := by decide +kernel
theorem ql_X4_enterStretch_100 : (.fieldLink RX4 100 "StileCounts$Laid" "backBy" "[I" : Cond) ∈ wsX4_enterStretch := by decide +kernel
def qv_X4_enterStretch (z_p0_stretches : Int32) (z_numbers : Nat → Int32) (z_p0_minutes : Nat → Int32) (z_p0_lostBy : Nat → Int32) (z_p0_backBy : Nat → Int32) (Post : Int32 → (Int32) → (Nat → Int32) → (Nat → Int32) → (Nat → Int32) → Prop) : Prop := (z_p0_stretches < (8 : Int32) → vp_in (0 : Int32) 3 ∧ (vp_in (z_p0_stretches + (1 : Int32)) 9 ∧ (vp_in (1 : Int32) 3 ∧ (vp_in (z_p0_stretches + (1 : Int32)) 9 ∧ (vp_in (2 : Int32) 3 ∧ (vp_in (z_p0_stretches + (1 : Int32)) 9 ∧ (Post (1 : Int32) (z_p0_stretches + (1 : Int32)) (upd z_p0_minutes (z_p0_stretches + (1 : Int32)).toNatClampNeg (z_numbers (0 : Int32).toNatClampNeg)) (upd z_p0_lostBy (z_p0_stretches + (1 : Int32)).toNatClampNeg (z_numbers (1 : Int32).toNatClampNeg)) (upd z_p0_backBy (z_p0_stretches + (1 : Int32)).toNatClampNeg (z_numbers (2 : Int32).toNatClampNeg))))))))) ∧ (¬ z_p0_stretches < (8 : Int32) → Post (0 : Int32) z_p0_stretches z_p0_minutes z_p0_lostBy z_p0_backBy)
set_option maxHeartbeats 4000000 in
set_option maxRecDepth 100000 in
theorem qm_X4_enterStretch (l : Launch) (dC : Nat → ClassId) (dI : Nat → Nat → Nat) (cI cJ cC cG cW : ClassId) (a_this a_this_numbers a_p0 a_p0_minutes a_p0_lostBy a_p0_backBy a_p0_slips a_p0_takes a_p0_ties : Nat) (z_place : Int32) (z_p0_stretches : Int32) (z_p0_costOn : Int32) (z_p0_costBack : Int32) (z_p0_foundBy : Int32) (z_p0_friends : Int32) (z_numbers : Nat → Int32) (z_p0_minutes : Nat → Int32) (z_p0_lostBy : Nat → Int32) (z_p0_backBy : Nat → Int32) (sz : Nat) (Post : Int32 → (Int32) → (Nat → Int32) → (Nat → Int32) → (Nat → Int32) → Prop) (hV : qv_X4_enterStretch z_p0_stretches z_numbers z_p0_minutes z_p0_lostBy z_p0_backBy Post) : Met l yX4_enterStretch wsX4_enterStretch ({ frames := 0, cells := 0, slots := 0, locals := 0 } : Room) (va_Pc [.ref a_this, .ref a_p0] (prW (dC, dI) (qw_X4_enterStretch cI cJ cC cG cW a_this a_this_numbers a_p0 a_p0_minutes a_p0_lostBy a_p0_backBy a_p0_slips a_p0_takes a_p0_ties z_place z_p0_stretches z_p0_costOn z_p0_costBack z_p0_foundBy z_p0_friends z_numbers z_p0_minutes z_p0_lostBy z_p0_backBy) (tyL cI cJ cC cG cW) sz)) (va_Qi (fun (r : Int32) (u : (Int32) × (Nat → Int32) × (Nat → Int32) × (Nat → Int32)) => Post r u.1 u.2.1 u.2.2.1 u.2.2.2) (fun u t => poW (dC, dI) (tyL cI cJ cC cG cW) (va_A (qw_X4_enterStretch cI cJ cC cG cW a_this a_this_numbers a_p0 a_p0_minutes a_p0_lostBy a_p0_backBy a_p0_slips a_p0_takes a_p0_ties z_place z_p0_stretches z_p0_costOn z_p0_costBack z_p0_foundBy z_p0_friends z_numbers z_p0_minutes z_p0_lostBy z_p0_backBy) sz) (qw_X4_enterStretch cI cJ cC cG cW a_this a_this_numbers a_p0 a_p0_minutes a_p0_lostBy a_p0_backBy a_p0_slips a_p0_takes a_p0_ties z_place u.1 z_p0_costOn z_p0_costBack z_p0_foundBy z_p0_friends z_numbers u.2.1 u.2.2.1 u.2.2.2) t) (va_A (qw_X4_enterStretch cI cJ cC cG cW a_this a_this_numbers a_p0 a_p0_minutes a_p0_lostBy a_p0_backBy a_p0_slips a_p0_takes a_p0_ties z_place z_p0_stretches z_p0_costOn z_p0_costBack z_p0_foundBy z_p0_friends z_numbers z_p0_minutes z_p0_lostBy z_p0_backBy) sz)) 0 0 (va_A (qw_X4_enterStretch cI cJ cC cG cW a_this a_this_numbers a_p0 a_p0_minutes a_p0_lostBy a_p0_backBy a_p0_slips a_p0_takes a_p0_ties z_place z_p0_stretches z_p0_costOn z_p0_costBack z_p0_foundBy z_p0_friends z_numbers z_p0_minutes z_p0_lostBy z_p0_backBy) sz) := by
  refine Met.ofM (Qc := fun A => va_Qi (fun (r : Int32) (u : (Int32) × (Nat → Int32) × (Nat → Int32) × (Nat → Int32)) => Post r u.1 u.2.1 u.2.2.1 u.2.2.2) (fun u t => poW (dC, dI) (tyL cI cJ cC cG cW) A (qw_X4_enterStretch cI cJ cC cG cW a_this a_this_numbers a_p0 a_p0_minutes a_p0_lostBy a_p0_backBy a_p0_slips a_p0_takes a_p0_ties z_place u.1 z_p0_costOn z_p0_costBack z_p0_foundBy z_p0_friends z_numbers u.2.1 u.2.2.1 u.2.2.2) t) A) (nm := "enterStretch") (ds := "(LStileCounts$Laid;)Z") (own := RX4) (maxL := 2) (cc := cX4_enterStretch) (ret := (some .boolean)) (by decide) rfl rfl (Nat.le_of_ble_eq_true rfl) (fun p e s m below meth c A C0 hin hK hN hA hP hD hS ls hl => ?_)
  obtain ⟨hx, hb, hr, hml, hown, hts, hlocks⟩ := id C0
  have hl : lv_has ls 2 [(0, .ref a_this), (1, .ref a_p0)] := hl
  obtain ⟨H, hH⟩ : ∃ h : Heap, h = s.heap := ⟨_, rfl⟩
  obtain ⟨locs, hLc⟩ : ∃ L : List Loc, L = [] := ⟨_, rfl⟩
  have hS : va_S A s.heap H locs := by rw [hH, hLc]; exact hS
  rw [← hH] at hP
  rw [← hLc, ← hH]
  clear hH hLc
  refine lv_aload_n hx hb dX4_enterStretch_0 rfl (lv_at hl 1 rfl) ?_
  refine va_get (D := (dC, dI)) (ci := 2) (v := .int z_p0_stretches) (C := RX2) (T := TX2) (N := 11) hx hb hts qi_X4_enterStretch_X2 hown hK hP 1 rfl rfl 0 (by decide) (hts _ ql_X4_enterStretch_91) (fun _ h9 => h9) rfl dX4_enterStretch_1 ?_
  refine lv_bipush (v := (8 : Int32)) hx hb dX4_enterStretch_4 (by decide) ?_
  refine lv_icmp_lt (tgt := 11) hx hb dX4_enterStretch_6 (by decide) (fun c1 => ?_) (fun c1 => ?_)
  · have hV := hV.1 c1
    refine lv_aload_n hx hb dX4_enterStretch_11 rfl (lv_at hl 1 rfl) ?_
    refine lv_dup hx hb dX4_enterStretch_12 rfl ?_
    refine va_get (D := (dC, dI)) (ci := 2) (v := .int z_p0_stretches) (C := RX2) (T := TX2) (N := 11) hx hb hts qi_X4_enterStretch_X2 hown hK hP 1 rfl rfl 0 (by decide) (hts _ ql_X4_enterStretch_91) (fun _ h9 => h9) rfl dX4_enterStretch_13 ?_
    refine lv_iconst (v := (1 : Int32)) hx hb dX4_enterStretch_16 (by decide) ?_
    refine lv_iadd hx hb dX4_enterStretch_17 ?_
    refine va_put (D := (dC, dI)) (ci := 2) (v := .int (z_p0_stretches + (1 : Int32))) (ty := .int) (C := RX2) (T := TX2) (N := 11) hx hb hts qi_X4_enterStretch_X2 tyX2 tyX2_ok nmX2 hown hK hP hD hS 1 rfl rfl 0 (by decide) (hts _ ql_X4_enterStretch_91) (fun _ h9 => h9) rfl (by decide +kernel) rfl rfl (Nat.le_of_ble_eq_true rfl) dX4_enterStretch_18 (fun H locs hP hD hS => ?_)
    have hP : va_P (dC, dI) vwCl (qw_X4_enterStretch cI cJ cC cG cW a_this a_this_numbers a_p0 a_p0_minutes a_p0_lostBy a_p0_backBy a_p0_slips a_p0_takes a_p0_ties z_place (z_p0_stretches + (1 : Int32)) z_p0_costOn z_p0_costBack z_p0_foundBy z_p0_friends z_numbers z_p0_minutes z_p0_lostBy z_p0_backBy) H := hP
    have hD : va_D A (qw_X4_enterStretch cI cJ cC cG cW a_this a_this_numbers a_p0 a_p0_minutes a_p0_lostBy a_p0_backBy a_p0_slips a_p0_takes a_p0_ties z_place (z_p0_stretches + (1 : Int32)) z_p0_costOn z_p0_costBack z_p0_foundBy z_p0_friends z_numbers z_p0_minutes z_p0_lostBy z_p0_backBy) := hD
    refine lv_aload_n hx hb dX4_enterStretch_21 rfl (lv_at hl 1 rfl) ?_
    refine va_get (D := (dC, dI)) (ci := 2) (v := .ref a_p0_minutes) (C := RX2) (T := TX2) (N := 11) hx hb hts qi_X4_enterStretch_X2 hown hK hP 1 rfl rfl 1 (by decide) (hts _ ql_X4_enterStretch_94) (fun _ h9 => h9) rfl dX4_enterStretch_22 ?_
    refine lv_aload_n hx hb dX4_enterStretch_25 rfl (lv_at hl 1 rfl) ?_
    refine va_get (D := (dC, dI)) (ci := 2) (v := .int (z_p0_stretches + (1 : Int32))) (C := RX2) (T := TX2) (N := 11) hx hb hts qi_X4_enterStretch_X2 hown hK hP 1 rfl rfl 0 (by decide) (hts _ ql_X4_enterStretch_91) (fun _ h9 => h9) rfl dX4_enterStretch_26 ?_
    refine lv_aload_n hx hb dX4_enterStretch_29 rfl (lv_at hl 0 rfl) ?_
    refine va_get (D := (dC, dI)) (ci := 4) (v := .ref a_this_numbers) (C := RX4) (T := TX4) (N := 2) hx hb hts qi_X4_enterStretch_X4 hown hK hP 0 rfl rfl 0 (by decide) (hts _ ql_X4_enterStretch_11) (fun _ h9 => h9) rfl dX4_enterStretch_30 ?_
    refine lv_iconst (v := (0 : Int32)) hx hb dX4_enterStretch_33 (by decide) ?_
    obtain ⟨h2, hV⟩ := hV
    refine va_iald hx hb hK hP 2 0 rfl rfl h2 dX4_enterStretch_34 ?_
    obtain ⟨h3, hV⟩ := hV
    refine va_iast hx hb hK hP hD hS 3 0 rfl rfl h3 dX4_enterStretch_35 (fun H locs hP hD hS => ?_)
    have hP : va_P (dC, dI) vwCl (qw_X4_enterStretch cI cJ cC cG cW a_this a_this_numbers a_p0 a_p0_minutes a_p0_lostBy a_p0_backBy a_p0_slips a_p0_takes a_p0_ties z_place (z_p0_stretches + (1 : Int32)) z_p0_costOn z_p0_costBack z_p0_foundBy z_p0_friends z_numbers (upd z_p0_minutes (z_p0_stretches + (1 : Int32)).toNatClampNeg (z_numbers (0 : Int32).toNatClampNeg)) z_p0_lostBy z_p0_backBy) H := hP
    have hD : va_D A (qw_X4_enterStretch cI cJ cC cG cW a_this a_this_numbers a_p0 a_p0_minutes a_p0_lostBy a_p0_backBy a_p0_slips a_p0_takes a_p0_ties z_place (z_p0_stretches + (1 : Int32)) z_p0_costOn z_p0_costBack z_p0_foundBy z_p0_friends z_numbers (upd z_p0_minutes (z_p0_stretches + (1 : Int32)).toNatClampNeg (z_numbers (0 : Int32).toNatClampNeg)) z_p0_lostBy z_p0_backBy) := hD
    refine lv_aload_n hx hb dX4_enterStretch_36 rfl (lv_at hl 1 rfl) ?_
    refine va_get (D := (dC, dI)) (ci := 2) (v := .ref a_p0_lostBy) (C := RX2) (T := TX2) (N := 11) hx hb hts qi_X4_enterStretch_X2 hown hK hP 1 rfl rfl 2 (by decide) (hts _ ql_X4_enterStretch_97) (fun _ h9 => h9) rfl dX4_enterStretch_37 ?_
    refine lv_aload_n hx hb dX4_enterStretch_40 rfl (lv_at hl 1 rfl) ?_
    refine va_get (D := (dC, dI)) (ci := 2) (v := .int (z_p0_stretches + (1 : Int32))) (C := RX2) (T := TX2) (N := 11) hx hb hts qi_X4_enterStretch_X2 hown hK hP 1 rfl rfl 0 (by decide) (hts _ ql_X4_enterStretch_91) (fun _ h9 => h9) rfl dX4_enterStretch_41 ?_
    refine lv_aload_n hx hb dX4_enterStretch_44 rfl (lv_at hl 0 rfl) ?_
    refine va_get (D := (dC, dI)) (ci := 4) (v := .ref a_this_numbers) (C := RX4) (T := TX4) (N := 2) hx hb hts qi_X4_enterStretch_X4 hown hK hP 0 rfl rfl 0 (by decide) (hts _ ql_X4_enterStretch_11) (fun _ h9 => h9) rfl dX4_enterStretch_45 ?_
    refine lv_iconst (v := (1 : Int32)) hx hb dX4_enterStretch_48 (by decide) ?_
    obtain ⟨h4, hV⟩ := hV
    refine va_iald hx hb hK hP 2 0 rfl rfl h4 dX4_enterStretch_49 ?_
    obtain ⟨h5, hV⟩ := hV
    refine va_iast hx hb hK hP hD hS 4 0 rfl rfl h5 dX4_enterStretch_50 (fun H locs hP hD hS => ?_)
    have hP : va_P (dC, dI) vwCl (qw_X4_enterStretch cI cJ cC cG cW a_this a_this_numbers a_p0 a_p0_minutes a_p0_lostBy a_p0_backBy a_p0_slips a_p0_takes a_p0_ties z_place (z_p0_stretches + (1 : Int32)) z_p0_costOn z_p0_costBack z_p0_foundBy z_p0_friends z_numbers (upd z_p0_minutes (z_p0_stretches + (1 : Int32)).toNatClampNeg (z_numbers (0 : Int32).toNatClampNeg)) (upd z_p0_lostBy (z_p0_stretches + (1 : Int32)).toNatClampNeg (z_numbers (1 : Int32).toNatClampNeg)) z_p0_backBy) H := hP
    have hD : va_D A (qw_X4_enterStretch cI cJ cC cG cW a_this a_this_numbers a_p0 a_p0_minutes a_p0_lostBy a_p0_backBy a_p0_slips a_p0_takes a_p0_ties z_place (z_p0_stretches + (1 : Int32)) z_p0_costOn z_p0_costBack z_p0_foundBy z_p0_friends z_numbers (upd z_p0_minutes (z_p0_stretches + (1 : Int32)).toNatClampNeg (z_numbers (0 : Int32).toNatClampNeg)) (upd z_p0_lostBy (z_p0_stretches + (1 : Int32)).toNatClampNeg (z_numbers (1 : Int32).toNatClampNeg)) z_p0_backBy) := hD
    refine lv_aload_n hx hb dX4_enterStretch_51 rfl (lv_at hl 1 rfl) ?_
    refine va_get (D := (dC, dI)) (ci := 2) (v := .ref a_p0_backBy) (C := RX2) (T := TX2) (N := 11) hx hb hts qi_X4_enterStretch_X2 hown hK hP 1 rfl rfl 3 (by decide) (hts _ ql_X4_enterStretch_100) (fun _ h9 => h9) rfl dX4_enterStretch_52 ?_
    refine lv_aload_n hx hb dX4_enterStretch_55 rfl (lv_at hl 1 rfl) ?_
    refine va_get (D := (dC, dI)) (ci := 2) (v := .int (z_p0_stretches + (1 : Int32))) (C := RX2) (T := TX2) (N := 11) hx hb hts qi_X4_enterStretch_X2 hown hK hP 1 rfl rfl 0 (by decide) (hts _ ql_X4_enterStretch_91) (fun _ h9 => h9) rfl dX4_enterStretch_56 ?_
    refine lv_aload_n hx hb dX4_enterStretch_59 rfl (lv_at hl 0 rfl) ?_
    refine va_get (D := (dC, dI)) (ci := 4) (v := .ref a_this_numbers) (C := RX4) (T := TX4) (N := 2) hx hb hts qi_X4_enterStretch_X4 hown hK hP 0 rfl rfl 0 (by decide) (hts _ ql_X4_enterStretch_11) (fun _ h9 => h9) rfl dX4_enterStretch_60 ?_
    refine lv_iconst (v := (2 : Int32)) hx hb dX4_enterStretch_63 (by decide) ?_
    obtain ⟨h6, hV⟩ := hV
    refine va_iald hx hb hK hP 2 0 rfl rfl h6 dX4_enterStretch_64 ?_
    obtain ⟨h7, hV⟩ := hV
    refine va_iast hx hb hK hP hD hS 5 0 rfl rfl h7 dX4_enterStretch_65 (fun H locs hP hD hS => ?_)
    have hP : va_P (dC, dI) vwCl (qw_X4_enterStretch cI cJ cC cG cW a_this a_this_numbers a_p0 a_p0_minutes a_p0_lostBy a_p0_backBy a_p0_slips a_p0_takes a_p0_ties z_place (z_p0_stretches + (1 : Int32)) z_p0_costOn z_p0_costBack z_p0_foundBy z_p0_friends z_numbers (upd z_p0_minutes (z_p0_stretches + (1 : Int32)).toNatClampNeg (z_numbers (0 : Int32).toNatClampNeg)) (upd z_p0_lostBy (z_p0_stretches + (1 : Int32)).toNatClampNeg (z_numbers (1 : Int32).toNatClampNeg)) (upd z_p0_backBy (z_p0_stretches + (1 : Int32)).toNatClampNeg (z_numbers (2 : Int32).toNatClampNeg))) H := hP
    have hD : va_D A (qw_X4_enterStretch cI cJ cC cG cW a_this a_this_numbers a_p0 a_p0_minutes a_p0_lostBy a_p0_backBy a_p0_slips a_p0_takes a_p0_ties z_place (z_p0_stretches + (1 : Int32)) z_p0_costOn z_p0_costBack z_p0_foundBy z_p0_friends z_numbers (upd z_p0_minutes (z_p0_stretches + (1 : Int32)).toNatClampNeg (z_numbers (0 : Int32).toNatClampNeg)) (upd z_p0_lostBy (z_p0_stretches + (1 : Int32)).toNatClampNeg (z_numbers (1 : Int32).toNatClampNeg)) (upd z_p0_backBy (z_p0_stretches + (1 : Int32)).toNatClampNeg (z_numbers (2 : Int32).toNatClampNeg))) := hD
    refine lv_iconst (v := (1 : Int32)) hx hb dX4_enterStretch_66 (by decide) ?_
    exact W.zret hx hb hr rfl (fun t ht hW => ⟨⟨_, ((z_p0_stretches + (1 : Int32)), (upd z_p0_minutes (z_p0_stretches + (1 : Int32)).toNatClampNeg (z_numbers (0 : Int32).toNatClampNeg)), (upd z_p0_lostBy (z_p0_stretches + (1 : Int32)).toNatClampNeg (z_numbers (1 : Int32).toNatClampNeg)), (upd z_p0_backBy (z_p0_stretches + (1 : Int32)).toNatClampNeg (z_numbers (2 : Int32).toNatClampNeg))), rfl, hV, ⟨by rw [ht]; exact hP, va_K.moved hW.alike hK, hD⟩⟩, hS.F ht⟩) hS.2.2 dX4_enterStretch_67 hlocks
  · have hV := hV.2 c1
    refine lv_iconst (v := (0 : Int32)) hx hb dX4_enterStretch_9 (by decide) ?_
    exact W.zret hx hb hr rfl (fun t ht hW => ⟨⟨_, (z_p0_stretches, z_p0_minutes, z_p0_lostBy, z_p0_backBy), rfl, hV, ⟨by rw [ht]; exact hP, va_K.moved hW.alike hK, hD⟩⟩, hS.F ht⟩) hS.2.2 dX4_enterStretch_10 hlocks

/-! StileCounts$Reader.enterTie(LStileCounts$Laid;)Z -/
abbrev qw_X4_enterTie (cI cJ cC cG cW : ClassId) (a_this a_this_numbers a_p0 a_p0_minutes a_p0_lostBy a_p0_backBy a_p0_slips a_p0_takes a_p0_ties : Nat) (r_p0_ties : Nat → Nat) (z_place : Int32) (z_p0_stretches : Int32) (z_p0_costOn : Int32) (z_p0_costBack : Int32) (z_p0_foundBy : Int32) (z_p0_friends : Int32) (z_numbers : Nat → Int32) (z_p0_ties : Nat → Nat → Int32) : va_W := [(a_this, .inr (4, [.ref a_this_numbers, .int z_place])), (a_p0, .inr (2, [.int z_p0_stretches, .ref a_p0_minutes, .ref a_p0_lostBy, .ref a_p0_backBy, .ref a_p0_slips, .ref a_p0_takes, .int z_p0_costOn, .int z_p0_costBack, .int z_p0_foundBy, .int z_p0_friends, .ref a_p0_ties])), (a_this_numbers, .inl (cI, 3, .inl z_numbers)), (a_p0_ties, .inl (cG, 6, .inr (.inr (.inr (.inr (gG r_p0_ties)))))), (r_p0_ties 0, .inl (cI, 6, .inl (z_p0_ties 0))), (r_p0_ties 1, .inl (cI, 6, .inl (z_p0_ties 1))), (r_p0_ties 2, .inl (cI, 6, .inl (z_p0_ties 2))), (r_p0_ties 3, .inl (cI, 6, .inl (z_p0_ties 3))), (r_p0_ties 4, .inl (cI, 6, .inl (z_p0_ties 4))), (r_p0_ties 5, .inl (cI, 6, .inl (z_p0_ties 5)))]
theorem qi_X4_enterTie_X4 : ∀ w ∈ wsX40, w ∈ wsX4_enterTie := by decide +kernel
theorem ql_X4_enterTie_11 : (.fieldLink RX4 11 "StileCounts$Reader" "numbers" "[I" : Cond) ∈ wsX4_enterTie := by decide +kernel
theorem qi_X4_enterTie_X2 : ∀ w ∈ wsX20, w ∈ wsX4_enterTie := by decide +kernel
theorem ql_X4_enterTie_103 : (.fieldLink RX4 103 "StileCounts$Laid" "ties" "[[I" : Cond) ∈ wsX4_enterTie := by decide +kernel
def qv_X4_enterTie (z_numbers : Nat → Int32) (z_p0_ties : Nat → Nat → Int32) (Post : Int32 → (Nat → Nat → Int32) → Prop) : Prop := vp_in (0 : Int32) 3 ∧ (vp_in (1 : Int32) 3 ∧ (((z_numbers (0 : Int32).toNatClampNeg) = (z_numbers (1 : Int32).toNatClampNeg) → Post (0 : Int32) z_p0_ties) ∧ (¬ (z_numbers (0 : Int32).toNatClampNeg) = (z_numbers (1 : Int32).toNatClampNeg) → vp_in (0 : Int32) 3 ∧ (vp_in (z_numbers (0 : Int32).toNatClampNeg) 6 ∧ (vp_in (1 : Int32) 3 ∧ (vp_in (2 : Int32) 3 ∧ (vp_in (z_numbers (1 : Int32).toNatClampNeg) 6 ∧ (vp_in (1 : Int32) 3 ∧ (vp_in (z_numbers (1 : Int32).toNatClampNeg) 6 ∧ (vp_in (0 : Int32) 3 ∧ (vp_in (2 : Int32) 3 ∧ (vp_in (z_numbers (0 : Int32).toNatClampNeg) 6 ∧ (Post (1 : Int32) (va_up (va_up z_p0_ties (z_numbers (0 : Int32).toNatClampNeg).toNatClampNeg (upd (z_p0_ties (z_numbers (0 : Int32).toNatClampNeg).toNatClampNeg) (z_numbers (1 : Int32).toNatClampNeg).toNatClampNeg (z_numbers (2 : Int32).toNatClampNeg))) (z_numbers (1 : Int32).toNatClampNeg).toNatClampNeg (upd ((va_up z_p0_ties (z_numbers (0 : Int32).toNatClampNeg).toNatClampNeg (upd (z_p0_ties (z_numbers (0 : Int32).toNatClampNeg).toNatClampNeg) (z_numbers (1 : Int32).toNatClampNeg).toNatClampNeg (z_numbers (2 : Int32).toNatClampNeg))) (z_numbers (1 : Int32).toNatClampNeg).toNatClampNeg) (z_numbers (0 : Int32).toNatClampNeg).toNatClampNeg (z_numbers (2 : Int32).toNatClampNeg))))))))))))))))
set_option maxHeartbeats 4000000 in
set_option maxRecDepth 100000 in
theorem qm_X4_enterTie (l : Launch) (dC : Nat → ClassId) (dI : Nat → Nat → Nat) (cI cJ cC cG cW : ClassId) (a_this a_this_numbers a_p0 a_p0_minutes a_p0_lostBy a_p0_backBy a_p0_slips a_p0_takes a_p0_ties : Nat) (r_p0_ties : Nat → Nat) (z_place : Int32) (z_p0_stretches : Int32) (z_p0_costOn : Int32) (z_p0_costBack : Int32) (z_p0_foundBy : Int32) (z_p0_friends : Int32) (z_numbers : Nat → Int32) (z_p0_ties : Nat → Nat → Int32) (sz : Nat) (Post : Int32 → (Nat → Nat → Int32) → Prop) (hV : qv_X4_enterTie z_numbers z_p0_ties Post) : Met l yX4_enterTie wsX4_enterTie ({ frames := 0, cells := 0, slots := 0, locals := 0 } : Room) (va_Pc [.ref a_this, .ref a_p0] (prW (dC, dI) (qw_X4_enterTie cI cJ cC cG cW a_this a_this_numbers a_p0 a_p0_minutes a_p0_lostBy a_p0_backBy a_p0_slips a_p0_takes a_p0_ties r_p0_ties z_place z_p0_stretches z_p0_costOn z_p0_costBack z_p0_foundBy z_p0_friends z_numbers z_p0_ties) (tyL cI cJ cC cG cW) sz)) (va_Qi (fun (r : Int32) (u : (Nat → Nat → Int32)) => Post r u) (fun u t => poW (dC, dI) (tyL cI cJ cC cG cW) (va_A (qw_X4_enterTie cI cJ cC cG cW a_this a_this_numbers a_p0 a_p0_minutes a_p0_lostBy a_p0_backBy a_p0_slips a_p0_takes a_p0_ties r_p0_ties z_place z_p0_stretches z_p0_costOn z_p0_costBack z_p0_foundBy z_p0_friends z_numbers z_p0_ties) sz) (qw_X4_enterTie cI cJ cC cG cW a_this a_this_numbers a_p0 a_p0_minutes a_p0_lostBy a_p0_backBy a_p0_slips a_p0_takes a_p0_ties r_p0_ties z_place z_p0_stretches z_p0_costOn z_p0_costBack z_p0_foundBy z_p0_friends z_numbers u) t) (va_A (qw_X4_enterTie cI cJ cC cG cW a_this a_this_numbers a_p0 a_p0_minutes a_p0_lostBy a_p0_backBy a_p0_slips a_p0_takes a_p0_ties r_p0_ties z_place z_p0_stretches z_p0_costOn z_p0_costBack z_p0_foundBy z_p0_friends z_numbers z_p0_ties) sz)) 0 0 (va_A (qw_X4_enterTie cI cJ cC cG cW a_this a_this_numbers a_p0 a_p0_minutes a_p0_lostBy a_p0_backBy a_p0_slips a_p0_takes a_p0_ties r_p0_ties z_place z_p0_stretches z_p0_costOn z_p0_costBack z_p0_foundBy z_p0_friends z_numbers z_p0_ties) sz) := by
  refine Met.ofM (Qc := fun A => va_Qi (fun (r : Int32) (u : (Nat → Nat → Int32)) => Post r u) (fun u t => poW (dC, dI) (tyL cI cJ cC cG cW) A (qw_X4_enterTie cI cJ cC cG cW a_this a_this_numbers a_p0 a_p0_minutes a_p0_lostBy a_p0_backBy a_p0_slips a_p0_takes a_p0_ties r_p0_ties z_place z_p0_stretches z_p0_costOn z_p0_costBack z_p0_foundBy z_p0_friends z_numbers u) t) A) (nm := "enterTie") (ds := "(LStileCounts$Laid;)Z") (own := RX4) (maxL := 2) (cc := cX4_enterTie) (ret := (some .boolean)) (by decide) rfl rfl (Nat.le_of_ble_eq_true rfl) (fun p e s m below meth c A C0 hin hK hN hA hP hD hS ls hl => ?_)
  obtain ⟨hx, hb, hr, hml, hown, hts, hlocks⟩ := id C0
  have hl : lv_has ls 2 [(0, .ref a_this), (1, .ref a_p0)] := hl
  obtain ⟨H, hH⟩ : ∃ h : Heap, h = s.heap := ⟨_, rfl⟩
  obtain ⟨locs, hLc⟩ : ∃ L : List Loc, L = [] := ⟨_, rfl⟩
  have hS : va_S A s.heap H locs := by rw [hH, hLc]; exact hS
  rw [← hH] at hP
  rw [← hLc, ← hH]
  clear hH hLc
  refine lv_aload_n hx hb dX4_enterTie_0 rfl (lv_at hl 0 rfl) ?_
  refine va_get (D := (dC, dI)) (ci := 4) (v := .ref a_this_numbers) (C := RX4) (T := TX4) (N := 2) hx hb hts qi_X4_enterTie_X4 hown hK hP 0 rfl rfl 0 (by decide) (hts _ ql_X4_enterTie_11) (fun _ h9 => h9) rfl dX4_enterTie_1 ?_
  refine lv_iconst (v := (0 : Int32)) hx hb dX4_enterTie_4 (by decide) ?_
  obtain ⟨h1, hV⟩ := hV
  refine va_iald hx hb hK hP 2 0 rfl rfl h1 dX4_enterTie_5 ?_
  refine lv_aload_n hx hb dX4_enterTie_6 rfl (lv_at hl 0 rfl) ?_
  refine va_get (D := (dC, dI)) (ci := 4) (v := .ref a_this_numbers) (C := RX4) (T := TX4) (N := 2) hx hb hts qi_X4_enterTie_X4 hown hK hP 0 rfl rfl 0 (by decide) (hts _ ql_X4_enterTie_11) (fun _ h9 => h9) rfl dX4_enterTie_7 ?_
  refine lv_iconst (v := (1 : Int32)) hx hb dX4_enterTie_10 (by decide) ?_
  obtain ⟨h2, hV⟩ := hV
  refine va_iald hx hb hK hP 2 0 rfl rfl h2 dX4_enterTie_11 ?_
  refine lv_icmp_ne (tgt := 17) hx hb dX4_enterTie_12 (by decide) (fun c3 => ?_) (fun c3 => ?_)
  · have hV := hV.2 c3
    refine lv_aload_n hx hb dX4_enterTie_17 rfl (lv_at hl 1 rfl) ?_
    refine va_get (D := (dC, dI)) (ci := 2) (v := .ref a_p0_ties) (C := RX2) (T := TX2) (N := 11) hx hb hts qi_X4_enterTie_X2 hown hK hP 1 rfl rfl 10 (by decide) (hts _ ql_X4_enterTie_103) (fun _ h9 => h9) rfl dX4_enterTie_18 ?_
    refine lv_aload_n hx hb dX4_enterTie_21 rfl (lv_at hl 0 rfl) ?_
    refine va_get (D := (dC, dI)) (ci := 4) (v := .ref a_this_numbers) (C := RX4) (T := TX4) (N := 2) hx hb hts qi_X4_enterTie_X4 hown hK hP 0 rfl rfl 0 (by decide) (hts _ ql_X4_enterTie_11) (fun _ h9 => h9) rfl dX4_enterTie_22 ?_
    refine lv_iconst (v := (0 : Int32)) hx hb dX4_enterTie_25 (by decide) ?_
    obtain ⟨h4, hV⟩ := hV
    refine va_iald hx hb hK hP 2 0 rfl rfl h4 dX4_enterTie_26 ?_
    obtain ⟨h5, hV⟩ := hV
    refine va_aldG hx hb hK hP 3 3 rfl rfl h5 dX4_enterTie_27 ?_
    refine lv_aload_n hx hb dX4_enterTie_28 rfl (lv_at hl 0 rfl) ?_
    refine va_get (D := (dC, dI)) (ci := 4) (v := .ref a_this_numbers) (C := RX4) (T := TX4) (N := 2) hx hb hts qi_X4_enterTie_X4 hown hK hP 0 rfl rfl 0 (by decide) (hts _ ql_X4_enterTie_11) (fun _ h9 => h9) rfl dX4_enterTie_29 ?_
    refine lv_iconst (v := (1 : Int32)) hx hb dX4_enterTie_32 (by decide) ?_
    obtain ⟨h6, hV⟩ := hV
    refine va_iald hx hb hK hP 2 0 rfl rfl h6 dX4_enterTie_33 ?_
    refine lv_aload_n hx hb dX4_enterTie_34 rfl (lv_at hl 0 rfl) ?_
    refine va_get (D := (dC, dI)) (ci := 4) (v := .ref a_this_numbers) (C := RX4) (T := TX4) (N := 2) hx hb hts qi_X4_enterTie_X4 hown hK hP 0 rfl rfl 0 (by decide) (hts _ ql_X4_enterTie_11) (fun _ h9 => h9) rfl dX4_enterTie_35 ?_
    refine lv_iconst (v := (2 : Int32)) hx hb dX4_enterTie_38 (by decide) ?_
    obtain ⟨h7, hV⟩ := hV
    refine va_iald hx hb hK hP 2 0 rfl rfl h7 dX4_enterTie_39 ?_
    obtain ⟨h8, hV⟩ := hV
    refine va_iast hx hb hK hP hD hS (4 + (z_numbers (0 : Int32).toNatClampNeg).toNatClampNeg) 0 (rows6 (P := fun j => (qw_X4_enterTie cI cJ cC cG cW a_this a_this_numbers a_p0 a_p0_minutes a_p0_lostBy a_p0_backBy a_p0_slips a_p0_takes a_p0_ties r_p0_ties z_place z_p0_stretches z_p0_costOn z_p0_costBack z_p0_foundBy z_p0_friends z_numbers z_p0_ties)[4 + j]? = some (r_p0_ties j, .inl (cI, 6, .inl (z_p0_ties j)))) rfl rfl rfl rfl rfl rfl _ (vp_lt h5)) rfl h8 dX4_enterTie_40 (fun H locs hP hD hS => ?_)
    have eW := rows6 (P := fun j => ∀ g : Nat → Int32, List.set (qw_X4_enterTie cI cJ cC cG cW a_this a_this_numbers a_p0 a_p0_minutes a_p0_lostBy a_p0_backBy a_p0_slips a_p0_takes a_p0_ties r_p0_ties z_place z_p0_stretches z_p0_costOn z_p0_costBack z_p0_foundBy z_p0_friends z_numbers z_p0_ties) (4 + j) (r_p0_ties j, .inl (cI, 6, .inl g)) = (qw_X4_enterTie cI cJ cC cG cW a_this a_this_numbers a_p0 a_p0_minutes a_p0_lostBy a_p0_backBy a_p0_slips a_p0_takes a_p0_ties r_p0_ties z_place z_p0_stretches z_p0_costOn z_p0_costBack z_p0_foundBy z_p0_friends z_numbers (va_up z_p0_ties j g))) (fun _ => rfl) (fun _ => rfl) (fun _ => rfl) (fun _ => rfl) (fun _ => rfl) (fun _ => rfl) _ (vp_lt h5) (upd (z_p0_ties (z_numbers (0 : Int32).toNatClampNeg).toNatClampNeg) (z_numbers (1 : Int32).toNatClampNeg).toNatClampNeg (z_numbers (2 : Int32).toNatClampNeg))
    rw [eW] at hP hD
    have hP : va_P (dC, dI) vwCl (qw_X4_enterTie cI cJ cC cG cW a_this a_this_numbers a_p0 a_p0_minutes a_p0_lostBy a_p0_backBy a_p0_slips a_p0_takes a_p0_ties r_p0_ties z_place z_p0_stretches z_p0_costOn z_p0_costBack z_p0_foundBy z_p0_friends z_numbers (va_up z_p0_ties (z_numbers (0 : Int32).toNatClampNeg).toNatClampNeg (upd (z_p0_ties (z_numbers (0 : Int32).toNatClampNeg).toNatClampNeg) (z_numbers (1 : Int32).toNatClampNeg).toNatClampNeg (z_numbers (2 : Int32).toNatClampNeg)))) H := hP
    have hD : va_D A (qw_X4_enterTie cI cJ cC cG cW a_this a_this_numbers a_p0 a_p0_minutes a_p0_lostBy a_p0_backBy a_p0_slips a_p0_takes a_p0_ties r_p0_ties z_place z_p0_stretches z_p0_costOn z_p0_costBack z_p0_foundBy z_p0_friends z_numbers (va_up z_p0_ties (z_numbers (0 : Int32).toNatClampNeg).toNatClampNeg (upd (z_p0_ties (z_numbers (0 : Int32).toNatClampNeg).toNatClampNeg) (z_numbers (1 : Int32).toNatClampNeg).toNatClampNeg (z_numbers (2 : Int32).toNatClampNeg)))) := hD
    refine lv_aload_n hx hb dX4_enterTie_41 rfl (lv_at hl 1 rfl) ?_
    refine va_get (D := (dC, dI)) (ci := 2) (v := .ref a_p0_ties) (C := RX2) (T := TX2) (N := 11) hx hb hts qi_X4_enterTie_X2 hown hK hP 1 rfl rfl 10 (by decide) (hts _ ql_X4_enterTie_103) (fun _ h9 => h9) rfl dX4_enterTie_42 ?_
    refine lv_aload_n hx hb dX4_enterTie_45 rfl (lv_at hl 0 rfl) ?_
    refine va_get (D := (dC, dI)) (ci := 4) (v := .ref a_this_numbers) (C := RX4) (T := TX4) (N := 2) hx hb hts qi_X4_enterTie_X4 hown hK hP 0 rfl rfl 0 (by decide) (hts _ ql_X4_enterTie_11) (fun _ h9 => h9) rfl dX4_enterTie_46 ?_
    refine lv_iconst (v := (1 : Int32)) hx hb dX4_enterTie_49 (by decide) ?_
    obtain ⟨h11, hV⟩ := hV
    refine va_iald hx hb hK hP 2 0 rfl rfl h11 dX4_enterTie_50 ?_
    obtain ⟨h12, hV⟩ := hV
    refine va_aldG hx hb hK hP 3 3 rfl rfl h12 dX4_enterTie_51 ?_
    refine lv_aload_n hx hb dX4_enterTie_52 rfl (lv_at hl 0 rfl) ?_
    refine va_get (D := (dC, dI)) (ci := 4) (v := .ref a_this_numbers) (C := RX4) (T := TX4) (N := 2) hx hb hts qi_X4_enterTie_X4 hown hK hP 0 rfl rfl 0 (by decide) (hts _ ql_X4_enterTie_11) (fun _ h9 => h9) rfl dX4_enterTie_53 ?_
    refine lv_iconst (v := (0 : Int32)) hx hb dX4_enterTie_56 (by decide) ?_
    obtain ⟨h13, hV⟩ := hV
    refine va_iald hx hb hK hP 2 0 rfl rfl h13 dX4_enterTie_57 ?_
    refine lv_aload_n hx hb dX4_enterTie_58 rfl (lv_at hl 0 rfl) ?_
    refine va_get (D := (dC, dI)) (ci := 4) (v := .ref a_this_numbers) (C := RX4) (T := TX4) (N := 2) hx hb hts qi_X4_enterTie_X4 hown hK hP 0 rfl rfl 0 (by decide) (hts _ ql_X4_enterTie_11) (fun _ h9 => h9) rfl dX4_enterTie_59 ?_
    refine lv_iconst (v := (2 : Int32)) hx hb dX4_enterTie_62 (by decide) ?_
    obtain ⟨h14, hV⟩ := hV
    refine va_iald hx hb hK hP 2 0 rfl rfl h14 dX4_enterTie_63 ?_
    obtain ⟨h15, hV⟩ := hV
    refine va_iast hx hb hK hP hD hS (4 + (z_numbers (1 : Int32).toNatClampNeg).toNatClampNeg) 0 (rows6 (P := fun j => (qw_X4_enterTie cI cJ cC cG cW a_this a_this_numbers a_p0 a_p0_minutes a_p0_lostBy a_p0_backBy a_p0_slips a_p0_takes a_p0_ties r_p0_ties z_place z_p0_stretches z_p0_costOn z_p0_costBack z_p0_foundBy z_p0_friends z_numbers (va_up z_p0_ties (z_numbers (0 : Int32).toNatClampNeg).toNatClampNeg (upd (z_p0_ties (z_numbers (0 : Int32).toNatClampNeg).toNatClampNeg) (z_numbers (1 : Int32).toNatClampNeg).toNatClampNeg (z_numbers (2 : Int32).toNatClampNeg))))[4 + j]? = some (r_p0_ties j, .inl (cI, 6, .inl ((va_up z_p0_ties (z_numbers (0 : Int32).toNatClampNeg).toNatClampNeg (upd (z_p0_ties (z_numbers (0 : Int32).toNatClampNeg).toNatClampNeg) (z_numbers (1 : Int32).toNatClampNeg).toNatClampNeg (z_numbers (2 : Int32).toNatClampNeg))) j)))) rfl rfl rfl rfl rfl rfl _ (vp_lt h12)) rfl h15 dX4_enterTie_64 (fun H locs hP hD hS => ?_)
    have eW := rows6 (P := fun j => ∀ g : Nat → Int32, List.set (qw_X4_enterTie cI cJ cC cG cW a_this a_this_numbers a_p0 a_p0_minutes a_p0_lostBy a_p0_backBy a_p0_slips a_p0_takes a_p0_ties r_p0_ties z_place z_p0_stretches z_p0_costOn z_p0_costBack z_p0_foundBy z_p0_friends z_numbers (va_up z_p0_ties (z_numbers (0 : Int32).toNatClampNeg).toNatClampNeg (upd (z_p0_ties (z_numbers (0 : Int32).toNatClampNeg).toNatClampNeg) (z_numbers (1 : Int32).toNatClampNeg).toNatClampNeg (z_numbers (2 : Int32).toNatClampNeg)))) (4 + j) (r_p0_ties j, .inl (cI, 6, .inl g)) = (qw_X4_enterTie cI cJ cC cG cW a_this a_this_numbers a_p0 a_p0_minutes a_p0_lostBy a_p0_backBy a_p0_slips a_p0_takes a_p0_ties r_p0_ties z_place z_p0_stretches z_p0_costOn z_p0_costBack z_p0_foundBy z_p0_friends z_numbers (va_up (va_up z_p0_ties (z_numbers (0 : Int32).toNatClampNeg).toNatClampNeg (upd (z_p0_ties (z_numbers (0 : Int32).toNatClampNeg).toNatClampNeg) (z_numbers (1 : Int32).toNatClampNeg).toNatClampNeg (z_numbers (2 : Int32).toNatClampNeg))) j g))) (fun _ => rfl) (fun _ => rfl) (fun _ => rfl) (fun _ => rfl) (fun _ => rfl) (fun _ => rfl) _ (vp_lt h12) (upd ((va_up z_p0_ties (z_numbers (0 : Int32).toNatClampNeg).toNatClampNeg (upd (z_p0_ties (z_numbers (0 : Int32).toNatClampNeg).toNatClampNeg) (z_numbers (1 : Int32).toNatClampNeg).toNatClampNeg (z_numbers (2 : Int32).toNatClampNeg))) (z_numbers (1 : Int32).toNatClampNeg).toNatClampNeg) (z_numbers (0 : Int32).toNatClampNeg).toNatClampNeg (z_numbers (2 : Int32).toNatClampNeg))
    rw [eW] at hP hD
    have hP : va_P (dC, dI) vwCl (qw_X4_enterTie cI cJ cC cG cW a_this a_this_numbers a_p0 a_p0_minutes a_p0_lostBy a_p0_backBy a_p0_slips a_p0_takes a_p0_ties r_p0_ties z_place z_p0_stretches z_p0_costOn z_p0_costBack z_p0_foundBy z_p0_friends z_numbers (va_up (va_up z_p0_ties (z_numbers (0 : Int32).toNatClampNeg).toNatClampNeg (upd (z_p0_ties (z_numbers (0 : Int32).toNatClampNeg).toNatClampNeg) (z_numbers (1 : Int32).toNatClampNeg).toNatClampNeg (z_numbers (2 : Int32).toNatClampNeg))) (z_numbers (1 : Int32).toNatClampNeg).toNatClampNeg (upd ((va_up z_p0_ties (z_numbers (0 : Int32).toNatClampNeg).toNatClampNeg (upd (z_p0_ties (z_numbers (0 : Int32).toNatClampNeg).toNatClampNeg) (z_numbers (1 : Int32).toNatClampNeg).toNatClampNeg (z_numbers (2 : Int32).toNatClampNeg))) (z_numbers (1 : Int32).toNatClampNeg).toNatClampNeg) (z_numbers (0 : Int32).toNatClampNeg).toNatClampNeg (z_numbers (2 : Int32).toNatClampNeg)))) H := hP
    have hD : va_D A (qw_X4_enterTie cI cJ cC cG cW a_this a_this_numbers a_p0 a_p0_minutes a_p0_lostBy a_p0_backBy a_p0_slips a_p0_takes a_p0_ties r_p0_ties z_place z_p0_stretches z_p0_costOn z_p0_costBack z_p0_foundBy z_p0_friends z_numbers (va_up (va_up z_p0_ties (z_numbers (0 : Int32).toNatClampNeg).toNatClampNeg (upd (z_p0_ties (z_numbers (0 : Int32).toNatClampNeg).toNatClampNeg) (z_numbers (1 : Int32).toNatClampNeg).toNatClampNeg (z_numbers (2 : Int32).toNatClampNeg))) (z_numbers (1 : Int32).toNatClampNeg).toNatClampNeg (upd ((va_up z_p0_ties (z_numbers (0 : Int32).toNatClampNeg).toNatClampNeg (upd (z_p0_ties (z_numbers (0 : Int32).toNatClampNeg).toNatClampNeg) (z_numbers (1 : Int32).toNatClampNeg).toNatClampNeg (z_numbers (2 : Int32).toNatClampNeg))) (z_numbers (1 : Int32).toNatClampNeg).toNatClampNeg) (z_numbers (0 : Int32).toNatClampNeg).toNatClampNeg (z_numbers (2 : Int32).toNatClampNeg)))) := hD
    refine lv_iconst (v := (1 : Int32)) hx hb dX4_enterTie_65 (by decide) ?_
    exact W.zret hx hb hr rfl (fun t ht hW => ⟨⟨_, ((va_up (va_up z_p0_ties (z_numbers (0 : Int32).toNatClampNeg).toNatClampNeg (upd (z_p0_ties (z_numbers (0 : Int32).toNatClampNeg).toNatClampNeg) (z_numbers (1 : Int32).toNatClampNeg).toNatClampNeg (z_numbers (2 : Int32).toNatClampNeg))) (z_numbers (1 : Int32).toNatClampNeg).toNatClampNeg (upd ((va_up z_p0_ties (z_numbers (0 : Int32).toNatClampNeg).toNatClampNeg (upd (z_p0_ties (z_numbers (0 : Int32).toNatClampNeg).toNatClampNeg) (z_numbers (1 : Int32).toNatClampNeg).toNatClampNeg (z_numbers (2 : Int32).toNatClampNeg))) (z_numbers (1 : Int32).toNatClampNeg).toNatClampNeg) (z_numbers (0 : Int32).toNatClampNeg).toNatClampNeg (z_numbers (2 : Int32).toNatClampNeg)))), rfl, hV, ⟨by rw [ht]; exact hP, va_K.moved hW.alike hK, hD⟩⟩, hS.F ht⟩) hS.2.2 dX4_enterTie_66 hlocks
  · have hV := hV.1 c3
    refine lv_iconst (v := (0 : Int32)) hx hb dX4_enterTie_15 (by decide) ?_
    exact W.zret hx hb hr rfl (fun t ht hW => ⟨⟨_, (z_p0_ties), rfl, hV, ⟨by rw [ht]; exact hP, va_K.moved hW.alike hK, hD⟩⟩, hS.F ht⟩) hS.2.2 dX4_enterTie_16 hlocks

/-! StileCounts$Reader.enter(LStileCounts$Laid;I)Z -/
abbrev qw_X4_enter (cI cJ cC cG cW : ClassId) (a_this a_this_numbers a_p0 a_p0_minutes a_p0_lostBy a_p0_backBy a_p0_slips a_p0_takes a_p0_ties : Nat) (r_p0_ties : Nat → Nat) (z_place : Int32) (z_p0_stretches : Int32) (z_p0_costOn : Int32) (z_p0_costBack : Int32) (z_p0_foundBy : Int32) (z_p0_friends : Int32) (z_numbers : Nat → Int32) (z_p0_minutes : Nat → Int32) (z_p0_lostBy : Nat → Int32) (z_p0_backBy : Nat → Int32) (z_p0_slips : Nat → Int32) (z_p0_takes : Nat → Int32) (z_p0_ties : Nat → Nat → Int32) : va_W := [(a_this, .inr (4, [.ref a_this_numbers, .int z_place])), (a_p0, .inr (2, [.int z_p0_stretches, .ref a_p0_minutes, .ref a_p0_lostBy, .ref a_p0_backBy, .ref a_p0_slips, .ref a_p0_takes, .int z_p0_costOn, .int z_p0_costBack, .int z_p0_foundBy, .int z_p0_friends, .ref a_p0_ties])), (a_this_numbers, .inl (cI, 3, .inl z_numbers)), (a_p0_minutes, .inl (cI, 9, .inl z_p0_minutes)), (a_p0_lostBy, .inl (cI, 9, .inl z_p0_lostBy)), (a_p0_backBy, .inl (cI, 9, .inl z_p0_backBy)), (a_p0_slips, .inl (cI, 4, .inl z_p0_slips)), (a_p0_takes, .inl (cI, 4, .inl z_p0_takes)), (a_p0_ties, .inl (cG, 6, .inr (.inr (.inr (.inr (gG r_p0_ties)))))), (r_p0_ties 0, .inl (cI, 6, .inl (z_p0_ties 0))), (r_p0_ties 1, .inl (cI, 6, .inl (z_p0_ties 1))), (r_p0_ties 2, .inl (cI, 6, .inl (z_p0_ties 2))), (r_p0_ties 3, .inl (cI, 6, .inl (z_p0_ties 3))), (r_p0_ties 4, .inl (cI, 6, .inl (z_p0_ties 4))), (r_p0_ties 5, .inl (cI, 6, .inl (z_p0_ties 5)))]
theorem qi_X4_enter_X2 : ∀ w ∈ wsX20, w ∈ wsX4_enter := by decide +kernel
theorem ql_X4_enter_70 : (.fieldLink RX4 70 "StileCounts$Laid" "slips" "[I" : Cond) ∈ wsX4_enter := by decide +kernel
theorem qi_X4_enter_X4 : ∀ w ∈ wsX40, w ∈ wsX4_enter := by decide +kernel
theorem ql_X4_enter_11 : (.fieldLink RX4 11 "StileCounts$Reader" "numbers" "[I" : Cond) ∈ wsX4_enter := by decide +kernel
theorem ql_X4_enter_73 : (.fieldLink RX4 73 "StileCounts$Laid" "takes" "[I" : Cond) ∈ wsX4_enter := by decide +kernel
theorem ql_X4_enter_76 : (.fieldLink RX4 76 "StileCounts$Laid" "costOn" "I" : Cond) ∈ wsX4_enter := by decide +kernel
theorem ql_X4_enter_79 : (.fieldLink RX4 79 "StileCounts$Laid" "costBack" "I" : Cond) ∈ wsX4_enter := by decide +kernel
theorem ql_X4_enter_82 : (.fieldLink RX4 82 "StileCounts$Laid" "foundBy" "I" : Cond) ∈ wsX4_enter := by decide +kernel
theorem ql_X4_enter_85 : (.fieldLink RX4 85 "StileCounts$Laid" "friends" "I" : Cond) ∈ wsX4_enter := by decide +kernel
def qv_X4_enter (x2 : Int32) (z_p0_stretches : Int32) (z_p0_costOn : Int32) (z_p0_costBack : Int32) (z_p0_foundBy : Int32) (z_p0_friends : Int32) (z_numbers : Nat → Int32) (z_p0_minutes : Nat → Int32) (z_p0_lostBy : Nat → Int32) (z_p0_backBy : Nat → Int32) (z_p0_slips : Nat → Int32) (z_p0_takes : Nat → Int32) (z_p0_ties : Nat → Nat → Int32) (Post : Int32 → (Int32) → (Int32) → (Int32) → (Int32) → (Int32) → (Nat → Int32) → (Nat → Int32) → (Nat → Int32) → (Nat → Int32) → (Nat → Int32) → (Nat → Nat → Int32) → Prop) : Prop := (x2 = (0 : Int32) → qv_X4_enterStretch z_p0_stretches z_numbers z_p0_minutes z_p0_lostBy z_p0_backBy (fun r2 z_p0_stretches_2 z_p0_minutes_2 z_p0_lostBy_2 z_p0_backBy_2 => narrow .boolean (.int r2) = .int r2 ∧ Post r2 z_p0_stretches_2 z_p0_costOn z_p0_costBack z_p0_foundBy z_p0_friends z_p0_minutes_2 z_p0_lostBy_2 z_p0_backBy_2 z_p0_slips z_p0_takes z_p0_ties)) ∧ (x2 = (1 : Int32) → vp_in (0 : Int32) 3 ∧ (vp_in (1 : Int32) 3 ∧ (vp_in (z_numbers (0 : Int32).toNatClampNeg) 4 ∧ (vp_in (0 : Int32) 3 ∧ (vp_in (2 : Int32) 3 ∧ (vp_in (z_numbers (0 : Int32).toNatClampNeg) 4 ∧ (Post (1 : Int32) z_p0_stretches z_p0_costOn z_p0_costBack z_p0_foundBy z_p0_friends z_p0_minutes z_p0_lostBy z_p0_backBy (upd z_p0_slips (z_numbers (0 : Int32).toNatClampNeg).toNatClampNeg (z_numbers (1 : Int32).toNatClampNeg)) (upd z_p0_takes (z_numbers (0 : Int32).toNatClampNeg).toNatClampNeg (z_numbers (2 : Int32).toNatClampNeg)) z_p0_ties))))))) ∧ (x2 = (2 : Int32) → vp_in (0 : Int32) 3 ∧ (vp_in (1 : Int32) 3 ∧ (vp_in (2 : Int32) 3 ∧ (Post (1 : Int32) z_p0_stretches (z_numbers (0 : Int32).toNatClampNeg) (z_numbers (1 : Int32).toNatClampNeg) (z_numbers (2 : Int32).toNatClampNeg) z_p0_friends z_p0_minutes z_p0_lostBy z_p0_backBy z_p0_slips z_p0_takes z_p0_ties)))) ∧ (x2 = (3 : Int32) → vp_in (0 : Int32) 3 ∧ (Post (1 : Int32) z_p0_stretches z_p0_costOn z_p0_costBack z_p0_foundBy (z_numbers (0 : Int32).toNatClampNeg) z_p0_minutes z_p0_lostBy z_p0_backBy z_p0_slips z_p0_takes z_p0_ties)) ∧ (((x2).toInt < 0 ∨ 3 < (x2).toInt) → qv_X4_enterTie z_numbers z_p0_ties (fun r14 z_p0_ties_14 => narrow .boolean (.int r14) = .int r14 ∧ Post r14 z_p0_stretches z_p0_costOn z_p0_costBack z_p0_foundBy z_p0_friends z_p0_minutes z_p0_lostBy z_p0_backBy z_p0_slips z_p0_takes z_p0_ties_14))
set_option maxHeartbeats 4000000 in
set_option maxRecDepth 100000 in
theorem qm_X4_enter (l : Launch) (dC : Nat → ClassId) (dI : Nat → Nat → Nat) (cI cJ cC cG cW : ClassId) (a_this a_this_numbers a_p0 a_p0_minutes a_p0_lostBy a_p0_backBy a_p0_slips a_p0_takes a_p0_ties : Nat) (r_p0_ties : Nat → Nat) (z_place : Int32) (z_p0_stretches : Int32) (z_p0_costOn : Int32) (z_p0_costBack : Int32) (z_p0_foundBy : Int32) (z_p0_friends : Int32) (z_numbers : Nat → Int32) (z_p0_minutes : Nat → Int32) (z_p0_lostBy : Nat → Int32) (z_p0_backBy : Nat → Int32) (z_p0_slips : Nat → Int32) (z_p0_takes : Nat → Int32) (z_p0_ties : Nat → Nat → Int32) (sz : Nat) (x2 : Int32) (Post : Int32 → (Int32) → (Int32) → (Int32) → (Int32) → (Int32) → (Nat → Int32) → (Nat → Int32) → (Nat → Int32) → (Nat → Int32) → (Nat → Int32) → (Nat → Nat → Int32) → Prop) (hV : qv_X4_enter x2 z_p0_stretches z_p0_costOn z_p0_costBack z_p0_foundBy z_p0_friends z_numbers z_p0_minutes z_p0_lostBy z_p0_backBy z_p0_slips z_p0_takes z_p0_ties Post) : Met l yX4_enter wsX4_enter ({ frames := 1, cells := 0, slots := 0, locals := 21 } : Room) (va_Pc [.ref a_this, .ref a_p0, .int x2] (prW (dC, dI) (qw_X4_enter cI cJ cC cG cW a_this a_this_numbers a_p0 a_p0_minutes a_p0_lostBy a_p0_backBy a_p0_slips a_p0_takes a_p0_ties r_p0_ties z_place z_p0_stretches z_p0_costOn z_p0_costBack z_p0_foundBy z_p0_friends z_numbers z_p0_minutes z_p0_lostBy z_p0_backBy z_p0_slips z_p0_takes z_p0_ties) (tyL cI cJ cC cG cW) sz)) (va_Qi (fun (r : Int32) (u : (Int32) × (Int32) × (Int32) × (Int32) × (Int32) × (Nat → Int32) × (Nat → Int32) × (Nat → Int32) × (Nat → Int32) × (Nat → Int32) × (Nat → Nat → Int32)) => Post r u.1 u.2.1 u.2.2.1 u.2.2.2.1 u.2.2.2.2.1 u.2.2.2.2.2.1 u.2.2.2.2.2.2.1 u.2.2.2.2.2.2.2.1 u.2.2.2.2.2.2.2.2.1 u.2.2.2.2.2.2.2.2.2.1 u.2.2.2.2.2.2.2.2.2.2) (fun u t => poW (dC, dI) (tyL cI cJ cC cG cW) (va_A (qw_X4_enter cI cJ cC cG cW a_this a_this_numbers a_p0 a_p0_minutes a_p0_lostBy a_p0_backBy a_p0_slips a_p0_takes a_p0_ties r_p0_ties z_place z_p0_stretches z_p0_costOn z_p0_costBack z_p0_foundBy z_p0_friends z_numbers z_p0_minutes z_p0_lostBy z_p0_backBy z_p0_slips z_p0_takes z_p0_ties) sz) (qw_X4_enter cI cJ cC cG cW a_this a_this_numbers a_p0 a_p0_minutes a_p0_lostBy a_p0_backBy a_p0_slips a_p0_takes a_p0_ties r_p0_ties z_place u.1 u.2.1 u.2.2.1 u.2.2.2.1 u.2.2.2.2.1 z_numbers u.2.2.2.2.2.1 u.2.2.2.2.2.2.1 u.2.2.2.2.2.2.2.1 u.2.2.2.2.2.2.2.2.1 u.2.2.2.2.2.2.2.2.2.1 u.2.2.2.2.2.2.2.2.2.2) t) (va_A (qw_X4_enter cI cJ cC cG cW a_this a_this_numbers a_p0 a_p0_minutes a_p0_lostBy a_p0_backBy a_p0_slips a_p0_takes a_p0_ties r_p0_ties z_place z_p0_stretches z_p0_costOn z_p0_costBack z_p0_foundBy z_p0_friends z_numbers z_p0_minutes z_p0_lostBy z_p0_backBy z_p0_slips z_p0_takes z_p0_ties) sz)) 0 0 (va_A (qw_X4_enter cI cJ cC cG cW a_this a_this_numbers a_p0 a_p0_minutes a_p0_lostBy a_p0_backBy a_p0_slips a_p0_takes a_p0_ties r_p0_ties z_place z_p0_stretches z_p0_costOn z_p0_costBack z_p0_foundBy z_p0_friends z_numbers z_p0_minutes z_p0_lostBy z_p0_backBy z_p0_slips z_p0_takes z_p0_ties) sz) := by
  refine Met.ofM (Qc := fun A => va_Qi (fun (r : Int32) (u : (Int32) × (Int32) × (Int32) × (Int32) × (Int32) × (Nat → Int32) × (Nat → Int32) × (Nat → Int32) × (Nat → Int32) × (Nat → Int32) × (Nat → Nat → Int32)) => Post r u.1 u.2.1 u.2.2.1 u.2.2.2.1 u.2.2.2.2.1 u.2.2.2.2.2.1 u.2.2.2.2.2.2.1 u.2.2.2.2.2.2.2.1 u.2.2.2.2.2.2.2.2.1 u.2.2.2.2.2.2.2.2.2.1 u.2.2.2.2.2.2.2.2.2.2) (fun u t => poW (dC, dI) (tyL cI cJ cC cG cW) A (qw_X4_enter cI cJ cC cG cW a_this a_this_numbers a_p0 a_p0_minutes a_p0_lostBy a_p0_backBy a_p0_slips a_p0_takes a_p0_ties r_p0_ties z_place u.1 u.2.1 u.2.2.1 u.2.2.2.1 u.2.2.2.2.1 z_numbers u.2.2.2.2.2.1 u.2.2.2.2.2.2.1 u.2.2.2.2.2.2.2.1 u.2.2.2.2.2.2.2.2.1 u.2.2.2.2.2.2.2.2.2.1 u.2.2.2.2.2.2.2.2.2.2) t) A) (nm := "enter") (ds := "(LStileCounts$Laid;I)Z") (own := RX4) (maxL := 3) (cc := cX4_enter) (ret := (some .boolean)) (by decide) rfl rfl (Nat.le_of_ble_eq_true rfl) (fun p e s m below meth c A C0 hin hK hN hA hP hD hS ls hl => ?_)
  obtain ⟨hx, hb, hr, hml, hown, hts, hlocks⟩ := id C0
  have hl : lv_has ls 3 [(0, .ref a_this), (1, .ref a_p0), (2, .int x2)] := hl
  obtain ⟨H, hH⟩ : ∃ h : Heap, h = s.heap := ⟨_, rfl⟩
  obtain ⟨locs, hLc⟩ : ∃ L : List Loc, L = [] := ⟨_, rfl⟩
  have hS : va_S A s.heap H locs := by rw [hH, hLc]; exact hS
  rw [← hH] at hP
  rw [← hLc, ← hH]
  clear hH hLc
  refine lv_iload_n hx hb dX4_enter_0 rfl (lv_at hl 2 rfl) ?_
  rcases sw_4 x2 with c1 | c1 | c1 | c1 | c1
  · have hV := hV.1 c1
    refine lv_tableIn (off := 31) (tgt := 32) hx hb dX4_enter_1 (by rw [c1]; decide) (by rw [c1]; decide) (by rw [c1]; rfl) (by decide) ?_
    refine lv_aload_n hx hb dX4_enter_32 rfl (lv_at hl 0 rfl) ?_
    refine lv_aload_n hx hb dX4_enter_33 rfl (lv_at hl 1 rfl) ?_
    refine kW_i (wc := (qw_X4_enterStretch cI cJ cC cG cW a_this a_this_numbers a_p0 a_p0_minutes a_p0_lostBy a_p0_backBy a_p0_slips a_p0_takes a_p0_ties z_place z_p0_stretches z_p0_costOn z_p0_costBack z_p0_foundBy z_p0_friends z_numbers z_p0_minutes z_p0_lostBy z_p0_backBy)) (wr := List.filterMap (fun (i : Nat) => (qw_X4_enter cI cJ cC cG cW a_this a_this_numbers a_p0 a_p0_minutes a_p0_lostBy a_p0_backBy a_p0_slips a_p0_takes a_p0_ties r_p0_ties z_place z_p0_stretches z_p0_costOn z_p0_costBack z_p0_foundBy z_p0_friends z_numbers z_p0_minutes z_p0_lostBy z_p0_backBy z_p0_slips z_p0_takes z_p0_ties)[i]?) [6, 7, 8, 9, 10, 11, 12, 13, 14]) (w1 := fun (u : (Int32) × (Nat → Int32) × (Nat → Int32) × (Nat → Int32)) => (qw_X4_enterStretch cI cJ cC cG cW a_this a_this_numbers a_p0 a_p0_minutes a_p0_lostBy a_p0_backBy a_p0_slips a_p0_takes a_p0_ties z_place u.1 z_p0_costOn z_p0_costBack z_p0_foundBy z_p0_friends z_numbers u.2.1 u.2.2.1 u.2.2.2)) (va_runV (As := [.ref a_p0]) (rest := []) ⟨hx, hb, hml, hown, hts⟩ (qm_X4_enterStretch l dC dI cI cJ cC cG cW a_this a_this_numbers a_p0 a_p0_minutes a_p0_lostBy a_p0_backBy a_p0_slips a_p0_takes a_p0_ties z_place z_p0_stretches z_p0_costOn z_p0_costBack z_p0_foundBy z_p0_friends z_numbers z_p0_minutes z_p0_lostBy z_p0_backBy H.size _ hV) (cwV 1 hts gX4_enter_X4_enterStretch rfl rfl rfl (by decide +kernel) ⟨Nat.le_of_ble_eq_true rfl, Nat.le_of_ble_eq_true rfl⟩) (preWV hK hN (hP.sub (ws' := (qw_X4_enterStretch cI cJ cC cG cW a_this a_this_numbers a_p0 a_p0_minutes a_p0_lostBy a_p0_backBy a_p0_slips a_p0_takes a_p0_ties z_place z_p0_stretches z_p0_costOn z_p0_costBack z_p0_foundBy z_p0_friends z_numbers z_p0_minutes z_p0_lostBy z_p0_backBy)) [0, 1, 2, 3, 4, 5] rfl) (hD.sub (ws' := (qw_X4_enterStretch cI cJ cC cG cW a_this a_this_numbers a_p0 a_p0_minutes a_p0_lostBy a_p0_backBy a_p0_slips a_p0_takes a_p0_ties z_place z_p0_stretches z_p0_costOn z_p0_costBack z_p0_foundBy z_p0_friends z_numbers z_p0_minutes z_p0_lostBy z_p0_backBy)) [0, 1, 2, 3, 4, 5] (by decide) rfl) rfl rfl) rfl rfl hl.1 rfl (lv_room (Nat.le_of_ble_eq_true rfl)) dX4_enter_34 ⟨Nat.le_of_ble_eq_true rfl, Nat.le_of_ble_eq_true rfl⟩) hP hD hS hA [0, 1, 2, 3, 4, 5] [6, 7, 8, 9, 10, 11, 12, 13, 14] rfl rfl (by decide) (by decide) (fun r2 u H locs hV hP hD hS => ?_)
    obtain ⟨z_p0_stretches_2, z_p0_minutes_2, z_p0_lostBy_2, z_p0_backBy_2⟩ := u
    try dsimp only at hV
    have hP := hP.sub (ws' := (qw_X4_enter cI cJ cC cG cW a_this a_this_numbers a_p0 a_p0_minutes a_p0_lostBy a_p0_backBy a_p0_slips a_p0_takes a_p0_ties r_p0_ties z_place z_p0_stretches_2 z_p0_costOn z_p0_costBack z_p0_foundBy z_p0_friends z_numbers z_p0_minutes_2 z_p0_lostBy_2 z_p0_backBy_2 z_p0_slips z_p0_takes z_p0_ties)) [9, 10, 11, 12, 13, 14, 0, 1, 2, 3, 4, 5, 6, 7, 8] rfl
    have hD := hD.sub (ws' := (qw_X4_enter cI cJ cC cG cW a_this a_this_numbers a_p0 a_p0_minutes a_p0_lostBy a_p0_backBy a_p0_slips a_p0_takes a_p0_ties r_p0_ties z_place z_p0_stretches_2 z_p0_costOn z_p0_costBack z_p0_foundBy z_p0_friends z_numbers z_p0_minutes_2 z_p0_lostBy_2 z_p0_backBy_2 z_p0_slips z_p0_takes z_p0_ties)) [9, 10, 11, 12, 13, 14, 0, 1, 2, 3, 4, 5, 6, 7, 8] (by decide) rfl
    obtain ⟨hn3, hV⟩ := hV
    exact W.zret hx hb hr hn3 (fun t ht hW => ⟨⟨_, (z_p0_stretches_2, z_p0_costOn, z_p0_costBack, z_p0_foundBy, z_p0_friends, z_p0_minutes_2, z_p0_lostBy_2, z_p0_backBy_2, z_p0_slips, z_p0_takes, z_p0_ties), rfl, hV, ⟨by rw [ht]; exact hP, va_K.moved hW.alike hK, hD⟩⟩, hS.F ht⟩) hS.2.2 dX4_enter_37 hlocks
  · have hV := hV.2.1 c1
    refine lv_tableIn (off := 37) (tgt := 38) hx hb dX4_enter_1 (by rw [c1]; decide) (by rw [c1]; decide) (by rw [c1]; rfl) (by decide) ?_
    refine lv_aload_n hx hb dX4_enter_38 rfl (lv_at hl 1 rfl) ?_
    refine va_get (D := (dC, dI)) (ci := 2) (v := .ref a_p0_slips) (C := RX2) (T := TX2) (N := 11) hx hb hts qi_X4_enter_X2 hown hK hP 1 rfl rfl 4 (by decide) (hts _ ql_X4_enter_70) (fun _ h9 => h9) rfl dX4_enter_39 ?_
    refine lv_aload_n hx hb dX4_enter_42 rfl (lv_at hl 0 rfl) ?_
    refine va_get (D := (dC, dI)) (ci := 4) (v := .ref a_this_numbers) (C := RX4) (T := TX4) (N := 2) hx hb hts qi_X4_enter_X4 hown hK hP 0 rfl rfl 0 (by decide) (hts _ ql_X4_enter_11) (fun _ h9 => h9) rfl dX4_enter_43 ?_
    refine lv_iconst (v := (0 : Int32)) hx hb dX4_enter_46 (by decide) ?_
    obtain ⟨h4, hV⟩ := hV
    refine va_iald hx hb hK hP 2 0 rfl rfl h4 dX4_enter_47 ?_
    refine lv_aload_n hx hb dX4_enter_48 rfl (lv_at hl 0 rfl) ?_
    refine va_get (D := (dC, dI)) (ci := 4) (v := .ref a_this_numbers) (C := RX4) (T := TX4) (N := 2) hx hb hts qi_X4_enter_X4 hown hK hP 0 rfl rfl 0 (by decide) (hts _ ql_X4_enter_11) (fun _ h9 => h9) rfl dX4_enter_49 ?_
    refine lv_iconst (v := (1 : Int32)) hx hb dX4_enter_52 (by decide) ?_
    obtain ⟨h5, hV⟩ := hV
    refine va_iald hx hb hK hP 2 0 rfl rfl h5 dX4_enter_53 ?_
    obtain ⟨h6, hV⟩ := hV
    refine va_iast hx hb hK hP hD hS 6 0 rfl rfl h6 dX4_enter_54 (fun H locs hP hD hS => ?_)
    have hP : va_P (dC, dI) vwCl (qw_X4_enter cI cJ cC cG cW a_this a_this_numbers a_p0 a_p0_minutes a_p0_lostBy a_p0_backBy a_p0_slips a_p0_takes a_p0_ties r_p0_ties z_place z_p0_stretches z_p0_costOn z_p0_costBack z_p0_foundBy z_p0_friends z_numbers z_p0_minutes z_p0_lostBy z_p0_backBy (upd z_p0_slips (z_numbers (0 : Int32).toNatClampNeg).toNatClampNeg (z_numbers (1 : Int32).toNatClampNeg)) z_p0_takes z_p0_ties) H := hP
    have hD : va_D A (qw_X4_enter cI cJ cC cG cW a_this a_this_numbers a_p0 a_p0_minutes a_p0_lostBy a_p0_backBy a_p0_slips a_p0_takes a_p0_ties r_p0_ties z_place z_p0_stretches z_p0_costOn z_p0_costBack z_p0_foundBy z_p0_friends z_numbers z_p0_minutes z_p0_lostBy z_p0_backBy (upd z_p0_slips (z_numbers (0 : Int32).toNatClampNeg).toNatClampNeg (z_numbers (1 : Int32).toNatClampNeg)) z_p0_takes z_p0_ties) := hD
    refine lv_aload_n hx hb dX4_enter_55 rfl (lv_at hl 1 rfl) ?_
    refine va_get (D := (dC, dI)) (ci := 2) (v := .ref a_p0_takes) (C := RX2) (T := TX2) (N := 11) hx hb hts qi_X4_enter_X2 hown hK hP 1 rfl rfl 5 (by decide) (hts _ ql_X4_enter_73) (fun _ h9 => h9) rfl dX4_enter_56 ?_
    refine lv_aload_n hx hb dX4_enter_59 rfl (lv_at hl 0 rfl) ?_
    refine va_get (D := (dC, dI)) (ci := 4) (v := .ref a_this_numbers) (C := RX4) (T := TX4) (N := 2) hx hb hts qi_X4_enter_X4 hown hK hP 0 rfl rfl 0 (by decide) (hts _ ql_X4_enter_11) (fun _ h9 => h9) rfl dX4_enter_60 ?_
    refine lv_iconst (v := (0 : Int32)) hx hb dX4_enter_63 (by decide) ?_
    obtain ⟨h7, hV⟩ := hV
    refine va_iald hx hb hK hP 2 0 rfl rfl h7 dX4_enter_64 ?_
    refine lv_aload_n hx hb dX4_enter_65 rfl (lv_at hl 0 rfl) ?_
    refine va_get (D := (dC, dI)) (ci := 4) (v := .ref a_this_numbers) (C := RX4) (T := TX4) (N := 2) hx hb hts qi_X4_enter_X4 hown hK hP 0 rfl rfl 0 (by decide) (hts _ ql_X4_enter_11) (fun _ h9 => h9) rfl dX4_enter_66 ?_
    refine lv_iconst (v := (2 : Int32)) hx hb dX4_enter_69 (by decide) ?_
    obtain ⟨h8, hV⟩ := hV
    refine va_iald hx hb hK hP 2 0 rfl rfl h8 dX4_enter_70 ?_
    obtain ⟨h9, hV⟩ := hV
    refine va_iast hx hb hK hP hD hS 7 0 rfl rfl h9 dX4_enter_71 (fun H locs hP hD hS => ?_)
    have hP : va_P (dC, dI) vwCl (qw_X4_enter cI cJ cC cG cW a_this a_this_numbers a_p0 a_p0_minutes a_p0_lostBy a_p0_backBy a_p0_slips a_p0_takes a_p0_ties r_p0_ties z_place z_p0_stretches z_p0_costOn z_p0_costBack z_p0_foundBy z_p0_friends z_numbers z_p0_minutes z_p0_lostBy z_p0_backBy (upd z_p0_slips (z_numbers (0 : Int32).toNatClampNeg).toNatClampNeg (z_numbers (1 : Int32).toNatClampNeg)) (upd z_p0_takes (z_numbers (0 : Int32).toNatClampNeg).toNatClampNeg (z_numbers (2 : Int32).toNatClampNeg)) z_p0_ties) H := hP
    have hD : va_D A (qw_X4_enter cI cJ cC cG cW a_this a_this_numbers a_p0 a_p0_minutes a_p0_lostBy a_p0_backBy a_p0_slips a_p0_takes a_p0_ties r_p0_ties z_place z_p0_stretches z_p0_costOn z_p0_costBack z_p0_foundBy z_p0_friends z_numbers z_p0_minutes z_p0_lostBy z_p0_backBy (upd z_p0_slips (z_numbers (0 : Int32).toNatClampNeg).toNatClampNeg (z_numbers (1 : Int32).toNatClampNeg)) (upd z_p0_takes (z_numbers (0 : Int32).toNatClampNeg).toNatClampNeg (z_numbers (2 : Int32).toNatClampNeg)) z_p0_ties) := hD
    refine lv_iconst (v := (1 : Int32)) hx hb dX4_enter_72 (by decide) ?_
    exact W.zret hx hb hr rfl (fun t ht hW => ⟨⟨_, (z_p0_stretches, z_p0_costOn, z_p0_costBack, z_p0_foundBy, z_p0_friends, z_p0_minutes, z_p0_lostBy, z_p0_backBy, (upd z_p0_slips (z_numbers (0 : Int32).toNatClampNeg).toNatClampNeg (z_numbers (1 : Int32).toNatClampNeg)), (upd z_p0_takes (z_numbers (0 : Int32).toNatClampNeg).toNatClampNeg (z_numbers (2 : Int32).toNatClampNeg)), z_p0_ties), rfl, hV, ⟨by rw [ht]; exact hP, va_K.moved hW.alike hK, hD⟩⟩, hS.F ht⟩) hS.2.2 dX4_enter_73 hlocks
  · have hV := hV.2.2.1 c1
    refine lv_tableIn (off := 73) (tgt := 74) hx hb dX4_enter_1 (by rw [c1]; decide) (by rw [c1]; decide) (by rw [c1]; rfl) (by decide) ?_
    refine lv_aload_n hx hb dX4_enter_74 rfl (lv_at hl 1 rfl) ?_
    refine lv_aload_n hx hb dX4_enter_75 rfl (lv_at hl 0 rfl) ?_
    refine va_get (D := (dC, dI)) (ci := 4) (v := .ref a_this_numbers) (C := RX4) (T := TX4) (N := 2) hx hb hts qi_X4_enter_X4 hown hK hP 0 rfl rfl 0 (by decide) (hts _ ql_X4_enter_11) (fun _ h9 => h9) rfl dX4_enter_76 ?_
    refine lv_iconst (v := (0 : Int32)) hx hb dX4_enter_79 (by decide) ?_
    obtain ⟨h10, hV⟩ := hV
    refine va_iald hx hb hK hP 2 0 rfl rfl h10 dX4_enter_80 ?_
    refine va_put (D := (dC, dI)) (ci := 2) (v := .int (z_numbers (0 : Int32).toNatClampNeg)) (ty := .int) (C := RX2) (T := TX2) (N := 11) hx hb hts qi_X4_enter_X2 tyX2 tyX2_ok nmX2 hown hK hP hD hS 1 rfl rfl 6 (by decide) (hts _ ql_X4_enter_76) (fun _ h9 => h9) rfl (by decide +kernel) rfl rfl (Nat.le_of_ble_eq_true rfl) dX4_enter_81 (fun H locs hP hD hS => ?_)
    have hP : va_P (dC, dI) vwCl (qw_X4_enter cI cJ cC cG cW a_this a_this_numbers a_p0 a_p0_minutes a_p0_lostBy a_p0_backBy a_p0_slips a_p0_takes a_p0_ties r_p0_ties z_place z_p0_stretches (z_numbers (0 : Int32).toNatClampNeg) z_p0_costBack z_p0_foundBy z_p0_friends z_numbers z_p0_minutes z_p0_lostBy z_p0_backBy z_p0_slips z_p0_takes z_p0_ties) H := hP
    have hD : va_D A (qw_X4_enter cI cJ cC cG cW a_this a_this_numbers a_p0 a_p0_minutes a_p0_lostBy a_p0_backBy a_p0_slips a_p0_takes a_p0_ties r_p0_ties z_place z_p0_stretches (z_numbers (0 : Int32).toNatClampNeg) z_p0_costBack z_p0_foundBy z_p0_friends z_numbers z_p0_minutes z_p0_lostBy z_p0_backBy z_p0_slips z_p0_takes z_p0_ties) := hD
    refine lv_aload_n hx hb dX4_enter_84 rfl (lv_at hl 1 rfl) ?_
    refine lv_aload_n hx hb dX4_enter_85 rfl (lv_at hl 0 rfl) ?_
    refine va_get (D := (dC, dI)) (ci := 4) (v := .ref a_this_numbers) (C := RX4) (T := TX4) (N := 2) hx hb hts qi_X4_enter_X4 hown hK hP 0 rfl rfl 0 (by decide) (hts _ ql_X4_enter_11) (fun _ h9 => h9) rfl dX4_enter_86 ?_
    refine lv_iconst (v := (1 : Int32)) hx hb dX4_enter_89 (by decide) ?_
    obtain ⟨h11, hV⟩ := hV
    refine va_iald hx hb hK hP 2 0 rfl rfl h11 dX4_enter_90 ?_
    refine va_put (D := (dC, dI)) (ci := 2) (v := .int (z_numbers (1 : Int32).toNatClampNeg)) (ty := .int) (C := RX2) (T := TX2) (N := 11) hx hb hts qi_X4_enter_X2 tyX2 tyX2_ok nmX2 hown hK hP hD hS 1 rfl rfl 7 (by decide) (hts _ ql_X4_enter_79) (fun _ h9 => h9) rfl (by decide +kernel) rfl rfl (Nat.le_of_ble_eq_true rfl) dX4_enter_91 (fun H locs hP hD hS => ?_)
    have hP : va_P (dC, dI) vwCl (qw_X4_enter cI cJ cC cG cW a_this a_this_numbers a_p0 a_p0_minutes a_p0_lostBy a_p0_backBy a_p0_slips a_p0_takes a_p0_ties r_p0_ties z_place z_p0_stretches (z_numbers (0 : Int32).toNatClampNeg) (z_numbers (1 : Int32).toNatClampNeg) z_p0_foundBy z_p0_friends z_numbers z_p0_minutes z_p0_lostBy z_p0_backBy z_p0_slips z_p0_takes z_p0_ties) H := hP
    have hD : va_D A (qw_X4_enter cI cJ cC cG cW a_this a_this_numbers a_p0 a_p0_minutes a_p0_lostBy a_p0_backBy a_p0_slips a_p0_takes a_p0_ties r_p0_ties z_place z_p0_stretches (z_numbers (0 : Int32).toNatClampNeg) (z_numbers (1 : Int32).toNatClampNeg) z_p0_foundBy z_p0_friends z_numbers z_p0_minutes z_p0_lostBy z_p0_backBy z_p0_slips z_p0_takes z_p0_ties) := hD
    refine lv_aload_n hx hb dX4_enter_94 rfl (lv_at hl 1 rfl) ?_
    refine lv_aload_n hx hb dX4_enter_95 rfl (lv_at hl 0 rfl) ?_
    refine va_get (D := (dC, dI)) (ci := 4) (v := .ref a_this_numbers) (C := RX4) (T := TX4) (N := 2) hx hb hts qi_X4_enter_X4 hown hK hP 0 rfl rfl 0 (by decide) (hts _ ql_X4_enter_11) (fun _ h9 => h9) rfl dX4_enter_96 ?_
    refine lv_iconst (v := (2 : Int32)) hx hb dX4_enter_99 (by decide) ?_
    obtain ⟨h12, hV⟩ := hV
    refine va_iald hx hb hK hP 2 0 rfl rfl h12 dX4_enter_100 ?_
    refine va_put (D := (dC, dI)) (ci := 2) (v := .int (z_numbers (2 : Int32).toNatClampNeg)) (ty := .int) (C := RX2) (T := TX2) (N := 11) hx hb hts qi_X4_enter_X2 tyX2 tyX2_ok nmX2 hown hK hP hD hS 1 rfl rfl 8 (by decide) (hts _ ql_X4_enter_82) (fun _ h9 => h9) rfl (by decide +kernel) rfl rfl (Nat.le_of_ble_eq_true rfl) dX4_enter_101 (fun H locs hP hD hS => ?_)
    have hP : va_P (dC, dI) vwCl (qw_X4_enter cI cJ cC cG cW a_this a_this_numbers a_p0 a_p0_minutes a_p0_lostBy a_p0_backBy a_p0_slips a_p0_takes a_p0_ties r_p0_ties z_place z_p0_stretches (z_numbers (0 : Int32).toNatClampNeg) (z_numbers (1 : Int32).toNatClampNeg) (z_numbers (2 : Int32).toNatClampNeg) z_p0_friends z_numbers z_p0_minutes z_p0_lostBy z_p0_backBy z_p0_slips z_p0_takes z_p0_ties) H := hP
    have hD : va_D A (qw_X4_enter cI cJ cC cG cW a_this a_this_numbers a_p0 a_p0_minutes a_p0_lostBy a_p0_backBy a_p0_slips a_p0_takes a_p0_ties r_p0_ties z_place z_p0_stretches (z_numbers (0 : Int32).toNatClampNeg) (z_numbers (1 : Int32).toNatClampNeg) (z_numbers (2 : Int32).toNatClampNeg) z_p0_friends z_numbers z_p0_minutes z_p0_lostBy z_p0_backBy z_p0_slips z_p0_takes z_p0_ties) := hD
    refine lv_iconst (v := (1 : Int32)) hx hb dX4_enter_104 (by decide) ?_
    exact W.zret hx hb hr rfl (fun t ht hW => ⟨⟨_, (z_p0_stretches, (z_numbers (0 : Int32).toNatClampNeg), (z_numbers (1 : Int32).toNatClampNeg), (z_numbers (2 : Int32).toNatClampNeg), z_p0_friends, z_p0_minutes, z_p0_lostBy, z_p0_backBy, z_p0_slips, z_p0_takes, z_p0_ties), rfl, hV, ⟨by rw [ht]; exact hP, va_K.moved hW.alike hK, hD⟩⟩, hS.F ht⟩) hS.2.2 dX4_enter_105 hlocks
  · have hV := hV.2.2.2.1 c1
    refine lv_tableIn (off := 105) (tgt := 106) hx hb dX4_enter_1 (by rw [c1]; decide) (by rw [c1]; decide) (by rw [c1]; rfl) (by decide) ?_
    refine lv_aload_n hx hb dX4_enter_106 rfl (lv_at hl 1 rfl) ?_
    refine lv_aload_n hx hb dX4_enter_107 rfl (lv_at hl 0 rfl) ?_
    refine va_get (D := (dC, dI)) (ci := 4) (v := .ref a_this_numbers) (C := RX4) (T := TX4) (N := 2) hx hb hts qi_X4_enter_X4 hown hK hP 0 rfl rfl 0 (by decide) (hts _ ql_X4_enter_11) (fun _ h9 => h9) rfl dX4_enter_108 ?_
    refine lv_iconst (v := (0 : Int32)) hx hb dX4_enter_111 (by decide) ?_
    obtain ⟨h13, hV⟩ := hV
    refine va_iald hx hb hK hP 2 0 rfl rfl h13 dX4_enter_112 ?_
    refine va_put (D := (dC, dI)) (ci := 2) (v := .int (z_numbers (0 : Int32).toNatClampNeg)) (ty := .int) (C := RX2) (T := TX2) (N := 11) hx hb hts qi_X4_enter_X2 tyX2 tyX2_ok nmX2 hown hK hP hD hS 1 rfl rfl 9 (by decide) (hts _ ql_X4_enter_85) (fun _ h9 => h9) rfl (by decide +kernel) rfl rfl (Nat.le_of_ble_eq_true rfl) dX4_enter_113 (fun H locs hP hD hS => ?_)
    have hP : va_P (dC, dI) vwCl (qw_X4_enter cI cJ cC cG cW a_this a_this_numbers a_p0 a_p0_minutes a_p0_lostBy a_p0_backBy a_p0_slips a_p0_takes a_p0_ties r_p0_ties z_place z_p0_stretches z_p0_costOn z_p0_costBack z_p0_foundBy (z_numbers (0 : Int32).toNatClampNeg) z_numbers z_p0_minutes z_p0_lostBy z_p0_backBy z_p0_slips z_p0_takes z_p0_ties) H := hP
    have hD : va_D A (qw_X4_enter cI cJ cC cG cW a_this a_this_numbers a_p0 a_p0_minutes a_p0_lostBy a_p0_backBy a_p0_slips a_p0_takes a_p0_ties r_p0_ties z_place z_p0_stretches z_p0_costOn z_p0_costBack z_p0_foundBy (z_numbers (0 : Int32).toNatClampNeg) z_numbers z_p0_minutes z_p0_lostBy z_p0_backBy z_p0_slips z_p0_takes z_p0_ties) := hD
    refine lv_iconst (v := (1 : Int32)) hx hb dX4_enter_116 (by decide) ?_
    exact W.zret hx hb hr rfl (fun t ht hW => ⟨⟨_, (z_p0_stretches, z_p0_costOn, z_p0_costBack, z_p0_foundBy, (z_numbers (0 : Int32).toNatClampNeg), z_p0_minutes, z_p0_lostBy, z_p0_backBy, z_p0_slips, z_p0_takes, z_p0_ties), rfl, hV, ⟨by rw [ht]; exact hP, va_K.moved hW.alike hK, hD⟩⟩, hS.F ht⟩) hS.2.2 dX4_enter_117 hlocks
  · have hV := hV.2.2.2.2 c1
    refine lv_tableOut (tgt := 118) hx hb dX4_enter_1 c1 (by decide) ?_
    refine lv_aload_n hx hb dX4_enter_118 rfl (lv_at hl 0 rfl) ?_
    refine lv_aload_n hx hb dX4_enter_119 rfl (lv_at hl 1 rfl) ?_
    refine kW_i (wc := (qw_X4_enterTie cI cJ cC cG cW a_this a_this_numbers a_p0 a_p0_minutes a_p0_lostBy a_p0_backBy a_p0_slips a_p0_takes a_p0_ties r_p0_ties z_place z_p0_stretches z_p0_costOn z_p0_costBack z_p0_foundBy z_p0_friends z_numbers z_p0_ties)) (wr := List.filterMap (fun (i : Nat) => (qw_X4_enter cI cJ cC cG cW a_this a_this_numbers a_p0 a_p0_minutes a_p0_lostBy a_p0_backBy a_p0_slips a_p0_takes a_p0_ties r_p0_ties z_place z_p0_stretches z_p0_costOn z_p0_costBack z_p0_foundBy z_p0_friends z_numbers z_p0_minutes z_p0_lostBy z_p0_backBy z_p0_slips z_p0_takes z_p0_ties)[i]?) [3, 4, 5, 6, 7]) (w1 := fun (u : (Nat → Nat → Int32)) => (qw_X4_enterTie cI cJ cC cG cW a_this a_this_numbers a_p0 a_p0_minutes a_p0_lostBy a_p0_backBy a_p0_slips a_p0_takes a_p0_ties r_p0_ties z_place z_p0_stretches z_p0_costOn z_p0_costBack z_p0_foundBy z_p0_friends z_numbers u)) (va_runV (As := [.ref a_p0]) (rest := []) ⟨hx, hb, hml, hown, hts⟩ (qm_X4_enterTie l dC dI cI cJ cC cG cW a_this a_this_numbers a_p0 a_p0_minutes a_p0_lostBy a_p0_backBy a_p0_slips a_p0_takes a_p0_ties r_p0_ties z_place z_p0_stretches z_p0_costOn z_p0_costBack z_p0_foundBy z_p0_friends z_numbers z_p0_ties H.size _ hV) (cwV 1 hts gX4_enter_X4_enterTie rfl rfl rfl (by decide +kernel) ⟨Nat.le_of_ble_eq_true rfl, Nat.le_of_ble_eq_true rfl⟩) (preWV hK hN (hP.sub (ws' := (qw_X4_enterTie cI cJ cC cG cW a_this a_this_numbers a_p0 a_p0_minutes a_p0_lostBy a_p0_backBy a_p0_slips a_p0_takes a_p0_ties r_p0_ties z_place z_p0_stretches z_p0_costOn z_p0_costBack z_p0_foundBy z_p0_friends z_numbers z_p0_ties)) [0, 1, 2, 8, 9, 10, 11, 12, 13, 14] rfl) (hD.sub (ws' := (qw_X4_enterTie cI cJ cC cG cW a_this a_this_numbers a_p0 a_p0_minutes a_p0_lostBy a_p0_backBy a_p0_slips a_p0_takes a_p0_ties r_p0_ties z_place z_p0_stretches z_p0_costOn z_p0_costBack z_p0_foundBy z_p0_friends z_numbers z_p0_ties)) [0, 1, 2, 8, 9, 10, 11, 12, 13, 14] (by decide) rfl) rfl rfl) rfl rfl hl.1 rfl (lv_room (Nat.le_of_ble_eq_true rfl)) dX4_enter_120 ⟨Nat.le_of_ble_eq_true rfl, Nat.le_of_ble_eq_true rfl⟩) hP hD hS hA [0, 1, 2, 8, 9, 10, 11, 12, 13, 14] [3, 4, 5, 6, 7] rfl rfl (by decide) (by decide) (fun r14 u H locs hV hP hD hS => ?_)
    obtain ⟨z_p0_ties_14, rfl⟩ : ∃ y, y = u := ⟨_, rfl⟩
    try dsimp only at hV
    have hP := hP.sub (ws' := (qw_X4_enter cI cJ cC cG cW a_this a_this_numbers a_p0 a_p0_minutes a_p0_lostBy a_p0_backBy a_p0_slips a_p0_takes a_p0_ties r_p0_ties z_place z_p0_stretches z_p0_costOn z_p0_costBack z_p0_foundBy z_p0_friends z_numbers z_p0_minutes z_p0_lostBy z_p0_backBy z_p0_slips z_p0_takes z_p0_ties_14)) [5, 6, 7, 0, 1, 2, 3, 4, 8, 9, 10, 11, 12, 13, 14] rfl
    have hD := hD.sub (ws' := (qw_X4_enter cI cJ cC cG cW a_this a_this_numbers a_p0 a_p0_minutes a_p0_lostBy a_p0_backBy a_p0_slips a_p0_takes a_p0_ties r_p0_ties z_place z_p0_stretches z_p0_costOn z_p0_costBack z_p0_foundBy z_p0_friends z_numbers z_p0_minutes z_p0_lostBy z_p0_backBy z_p0_slips z_p0_takes z_p0_ties_14)) [5, 6, 7, 0, 1, 2, 3, 4, 8, 9, 10, 11, 12, 13, 14] (by decide) rfl
    obtain ⟨hn15, hV⟩ := hV
    exact W.zret hx hb hr hn15 (fun t ht hW => ⟨⟨_, (z_p0_stretches, z_p0_costOn, z_p0_costBack, z_p0_foundBy, z_p0_friends, z_p0_minutes, z_p0_lostBy, z_p0_backBy, z_p0_slips, z_p0_takes, z_p0_ties_14), rfl, hV, ⟨by rw [ht]; exact hP, va_K.moved hW.alike hK, hD⟩⟩, hS.F ht⟩) hS.2.2 dX4_enter_123 hlocks

/-! StileCounts$Text.append(C)V -/
abbrev qw_X5_append (cI cJ cC cG cW : ClassId) (a_this a_this_letters : Nat) (z_length : Int32) (z_letters : Nat → Int32) : va_W := [(a_this, .inr (5, [.ref a_this_letters, .int z_length])), (a_this_letters, .inl (cC, 200, .inl z_letters))]
theorem qi_X5_append_X5 : ∀ w ∈ wsX50, w ∈ wsX5_append := by decide +kernel
theorem ql_X5_append_15 : (.fieldLink RX5 15 "StileCounts$Text" "length" "I" : Cond) ∈ wsX5_append := by decide +kernel
theorem ql_X5_append_9 : (.fieldLink RX5 9 "StileCounts$Text" "letters" "[C" : Cond) ∈ wsX5_append := by decide +kernel
def qv_X5_append (x1 : Int32) (z_length : Int32) (z_letters : Nat → Int32) (Post : (Int32) → (Nat → Int32) → Prop) : Prop := ((200 : Int32) ≤ z_length → Post z_length z_letters) ∧ (¬ (200 : Int32) ≤ z_length → vp_in z_length 200 ∧ (Post (z_length + (1 : Int32)) (upd z_letters z_length.toNatClampNeg (vp_nar .char x1))))
set_option maxHeartbeats 4000000 in
set_option maxRecDepth 100000 in
theorem qm_X5_append (l : Launch) (dC : Nat → ClassId) (dI : Nat → Nat → Nat) (cI cJ cC cG cW : ClassId) (a_this a_this_letters : Nat) (z_length : Int32) (z_letters : Nat → Int32) (sz : Nat) (x1 : Int32) (Post : (Int32) → (Nat → Int32) → Prop) (hV : qv_X5_append x1 z_length z_letters Post) : Met l yX5_append wsX5_append ({ frames := 0, cells := 0, slots := 0, locals := 0 } : Room) (va_Pc [.ref a_this, .int x1] (prW (dC, dI) (qw_X5_append cI cJ cC cG cW a_this a_this_letters z_length z_letters) (tyL cI cJ cC cG cW) sz)) (va_Qv (fun (u : (Int32) × (Nat → Int32)) => Post u.1 u.2) (fun u t => poW (dC, dI) (tyL cI cJ cC cG cW) (va_A (qw_X5_append cI cJ cC cG cW a_this a_this_letters z_length z_letters) sz) (qw_X5_append cI cJ cC cG cW a_this a_this_letters u.1 u.2) t) (va_A (qw_X5_append cI cJ cC cG cW a_this a_this_letters z_length z_letters) sz)) 0 0 (va_A (qw_X5_append cI cJ cC cG cW a_this a_this_letters z_length z_letters) sz) := by
  refine Met.ofM (Qc := fun A => va_Qv (fun (u : (Int32) × (Nat → Int32)) => Post u.1 u.2) (fun u t => poW (dC, dI) (tyL cI cJ cC cG cW) A (qw_X5_append cI cJ cC cG cW a_this a_this_letters u.1 u.2) t) A) (nm := "append") (ds := "(C)V") (own := RX5) (maxL := 2) (cc := cX5_append) (ret := none) (by decide) rfl rfl (Nat.le_of_ble_eq_true rfl) (fun p e s m below meth c A C0 hin hK hN hA hP hD hS ls hl => ?_)
  obtain ⟨hx, hb, hr, hml, hown, hts, hlocks⟩ := id C0
  have hl : lv_has ls 2 [(0, .ref a_this), (1, .int x1)] := hl
  obtain ⟨H, hH⟩ : ∃ h : Heap, h = s.heap := ⟨_, rfl⟩
  obtain ⟨locs, hLc⟩ : ∃ L : List Loc, L = [] := ⟨_, rfl⟩
  have hS : va_S A s.heap H locs := by rw [hH, hLc]; exact hS
  rw [← hH] at hP
  rw [← hLc, ← hH]
  clear hH hLc
  refine lv_aload_n hx hb dX5_append_0 rfl (lv_at hl 0 rfl) ?_
  refine va_get (D := (dC, dI)) (ci := 5) (v := .int z_length) (C := RX5) (T := TX5) (N := 2) hx hb hts qi_X5_append_X5 hown hK hP 0 rfl rfl 1 (by decide) (hts _ ql_X5_append_15) (fun _ h9 => h9) rfl dX5_append_1 ?_
  refine lv_sipush (v := (200 : Int32)) hx hb dX5_append_4 (by decide) ?_
  refine lv_icmp_ge (tgt := 30) hx hb dX5_append_7 (by decide) (fun c1 => ?_) (fun c1 => ?_)
  · have hV := hV.1 c1
    exact W.vret hx hb hr (fun t ht hW => ⟨⟨(z_length, z_letters), rfl, hV, ⟨by rw [ht]; exact hP, va_K.moved hW.alike hK, hD⟩⟩, hS.F ht⟩) hS.2.2 dX5_append_30 hlocks
  · have hV := hV.2 c1
    refine lv_aload_n hx hb dX5_append_10 rfl (lv_at hl 0 rfl) ?_
    refine va_get (D := (dC, dI)) (ci := 5) (v := .ref a_this_letters) (C := RX5) (T := TX5) (N := 2) hx hb hts qi_X5_append_X5 hown hK hP 0 rfl rfl 0 (by decide) (hts _ ql_X5_append_9) (fun _ h9 => h9) rfl dX5_append_11 ?_
    refine lv_aload_n hx hb dX5_append_14 rfl (lv_at hl 0 rfl) ?_
    refine va_get (D := (dC, dI)) (ci := 5) (v := .int z_length) (C := RX5) (T := TX5) (N := 2) hx hb hts qi_X5_append_X5 hown hK hP 0 rfl rfl 1 (by decide) (hts _ ql_X5_append_15) (fun _ h9 => h9) rfl dX5_append_15 ?_
    refine lv_iload_n hx hb dX5_append_18 rfl (lv_at hl 1 rfl) ?_
    obtain ⟨h2, hV⟩ := hV
    refine va_cast hx hb hK hP hD hS 1 2 rfl rfl h2 dX5_append_19 (fun H locs hP hD hS => ?_)
    have hP : va_P (dC, dI) vwCl (qw_X5_append cI cJ cC cG cW a_this a_this_letters z_length (upd z_letters z_length.toNatClampNeg (vp_nar .char x1))) H := hP
    have hD : va_D A (qw_X5_append cI cJ cC cG cW a_this a_this_letters z_length (upd z_letters z_length.toNatClampNeg (vp_nar .char x1))) := hD
    refine lv_aload_n hx hb dX5_append_20 rfl (lv_at hl 0 rfl) ?_
    refine lv_dup hx hb dX5_append_21 rfl ?_
    refine va_get (D := (dC, dI)) (ci := 5) (v := .int z_length) (C := RX5) (T := TX5) (N := 2) hx hb hts qi_X5_append_X5 hown hK hP 0 rfl rfl 1 (by decide) (hts _ ql_X5_append_15) (fun _ h9 => h9) rfl dX5_append_22 ?_
    refine lv_iconst (v := (1 : Int32)) hx hb dX5_append_25 (by decide) ?_
    refine lv_iadd hx hb dX5_append_26 ?_
    refine va_put (D := (dC, dI)) (ci := 5) (v := .int (z_length + (1 : Int32))) (ty := .int) (C := RX5) (T := TX5) (N := 2) hx hb hts qi_X5_append_X5 tyX5 tyX5_ok nmX5 hown hK hP hD hS 0 rfl rfl 1 (by decide) (hts _ ql_X5_append_15) (fun _ h9 => h9) rfl (by decide +kernel) rfl rfl (Nat.le_of_ble_eq_true rfl) dX5_append_27 (fun H locs hP hD hS => ?_)
    have hP : va_P (dC, dI) vwCl (qw_X5_append cI cJ cC cG cW a_this a_this_letters (z_length + (1 : Int32)) (upd z_letters z_length.toNatClampNeg (vp_nar .char x1))) H := hP
    have hD : va_D A (qw_X5_append cI cJ cC cG cW a_this a_this_letters (z_length + (1 : Int32)) (upd z_letters z_length.toNatClampNeg (vp_nar .char x1))) := hD
    exact W.vret hx hb hr (fun t ht hW => ⟨⟨((z_length + (1 : Int32)), (upd z_letters z_length.toNatClampNeg (vp_nar .char x1))), rfl, hV, ⟨by rw [ht]; exact hP, va_K.moved hW.alike hK, hD⟩⟩, hS.F ht⟩) hS.2.2 dX5_append_30 hlocks

/-! StileCounts$Way.clear()V -/
abbrev qw_X6_clear (cI cJ cC cG cW : ClassId) (a_this a_this_behind a_this_sorts a_this_tells : Nat) (z_walked : Int32) (z_counts : Int32) (z_undoable : Int32) : va_W := [(a_this, .inr (6, [.int z_walked, .int z_counts, .ref a_this_behind, .ref a_this_sorts, .ref a_this_tells, .int z_undoable]))]
theorem qi_X6_clear_X6 : ∀ w ∈ wsX60, w ∈ wsX6_clear := by decide +kernel
theorem ql_X6_clear_9 : (.fieldLink RX6 9 "StileCounts$Way" "walked" "I" : Cond) ∈ wsX6_clear := by decide +kernel
theorem ql_X6_clear_15 : (.fieldLink RX6 15 "StileCounts$Way" "counts" "I" : Cond) ∈ wsX6_clear := by decide +kernel
theorem ql_X6_clear_28 : (.fieldLink RX6 28 "StileCounts$Way" "undoable" "I" : Cond) ∈ wsX6_clear := by decide +kernel
def qv_X6_clear (z_walked : Int32) (z_counts : Int32) (z_undoable : Int32) (Post : (Int32) → (Int32) → (Int32) → Prop) : Prop := Post (0 : Int32) (0 : Int32) (0 : Int32)
set_option maxHeartbeats 4000000 in
set_option maxRecDepth 100000 in
theorem qm_X6_clear (l : Launch) (dC : Nat → ClassId) (dI : Nat → Nat → Nat) (cI cJ cC cG cW : ClassId) (a_this a_this_behind a_this_sorts a_this_tells : Nat) (z_walked : Int32) (z_counts : Int32) (z_undoable : Int32) (sz : Nat) (Post : (Int32) → (Int32) → (Int32) → Prop) (hV : qv_X6_clear z_walked z_counts z_undoable Post) : Met l yX6_clear wsX6_clear ({ frames := 0, cells := 0, slots := 0, locals := 0 } : Room) (va_Pc [.ref a_this] (prW (dC, dI) (qw_X6_clear cI cJ cC cG cW a_this a_this_behind a_this_sorts a_this_tells z_walked z_counts z_undoable) (tyL cI cJ cC cG cW) sz)) (va_Qv (fun (u : (Int32) × (Int32) × (Int32)) => Post u.1 u.2.1 u.2.2) (fun u t => poW (dC, dI) (tyL cI cJ cC cG cW) (va_A (qw_X6_clear cI cJ cC cG cW a_this a_this_behind a_this_sorts a_this_tells z_walked z_counts z_undoable) sz) (qw_X6_clear cI cJ cC cG cW a_this a_this_behind a_this_sorts a_this_tells u.1 u.2.1 u.2.2) t) (va_A (qw_X6_clear cI cJ cC cG cW a_this a_this_behind a_this_sorts a_this_tells z_walked z_counts z_undoable) sz)) 0 0 (va_A (qw_X6_clear cI cJ cC cG cW a_this a_this_behind a_this_sorts a_this_tells z_walked z_counts z_undoable) sz) := by
  refine Met.ofM (Qc := fun A => va_Qv (fun (u : (Int32) × (Int32) × (Int32)) => Post u.1 u.2.1 u.2.2) (fun u t => poW (dC, dI) (tyL cI cJ cC cG cW) A (qw_X6_clear cI cJ cC cG cW a_this a_this_behind a_this_sorts a_this_tells u.1 u.2.1 u.2.2) t) A) (nm := "clear") (ds := "()V") (own := RX6) (maxL := 1) (cc := cX6_clear) (ret := none) (by decide) rfl rfl (Nat.le_of_ble_eq_true rfl) (fun p e s m below meth c A C0 hin hK hN hA hP hD hS ls hl => ?_)
  obtain ⟨hx, hb, hr, hml, hown, hts, hlocks⟩ := id C0
  have hl : lv_has ls 1 [(0, .ref a_this)] := hl
  obtain ⟨H, hH⟩ : ∃ h : Heap, h = s.heap := ⟨_, rfl⟩
  obtain ⟨locs, hLc⟩ : ∃ L : List Loc, L = [] := ⟨_, rfl⟩
  have hS : va_S A s.heap H locs := by rw [hH, hLc]; exact hS
  rw [← hH] at hP
  rw [← hLc, ← hH]
  clear hH hLc
  refine lv_aload_n hx hb dX6_clear_0 rfl (lv_at hl 0 rfl) ?_
  refine lv_iconst (v := (0 : Int32)) hx hb dX6_clear_1 (by decide) ?_
  refine va_put (D := (dC, dI)) (ci := 6) (v := .int (0 : Int32)) (ty := .int) (C := RX6) (T := TX6) (N := 6) hx hb hts qi_X6_clear_X6 tyX6 tyX6_ok nmX6 hown hK hP hD hS 0 rfl rfl 0 (by decide) (hts _ ql_X6_clear_9) (fun _ h9 => h9) rfl (by decide +kernel) rfl rfl (Nat.le_of_ble_eq_true rfl) dX6_clear_2 (fun H locs hP hD hS => ?_)
  have hP : va_P (dC, dI) vwCl (qw_X6_clear cI cJ cC cG cW a_this a_this_behind a_this_sorts a_this_tells (0 : Int32) z_counts z_undoable) H := hP
  have hD : va_D A (qw_X6_clear cI cJ cC cG cW a_this a_this_behind a_this_sorts a_this_tells (0 : Int32) z_counts z_undoable) := hD
  refine lv_aload_n hx hb dX6_clear_5 rfl (lv_at hl 0 rfl) ?_
  refine lv_iconst (v := (0 : Int32)) hx hb dX6_clear_6 (by decide) ?_
  refine va_put (D := (dC, dI)) (ci := 6) (v := .int (0 : Int32)) (ty := .int) (C := RX6) (T := TX6) (N := 6) hx hb hts qi_X6_clear_X6 tyX6 tyX6_ok nmX6 hown hK hP hD hS 0 rfl rfl 1 (by decide) (hts _ ql_X6_clear_15) (fun _ h9 => h9) rfl (by decide +kernel) rfl rfl (Nat.le_of_ble_eq_true rfl) dX6_clear_7 (fun H locs hP hD hS => ?_)
  have hP : va_P (dC, dI) vwCl (qw_X6_clear cI cJ cC cG cW a_this a_this_behind a_this_sorts a_this_tells (0 : Int32) (0 : Int32) z_undoable) H := hP
  have hD : va_D A (qw_X6_clear cI cJ cC cG cW a_this a_this_behind a_this_sorts a_this_tells (0 : Int32) (0 : Int32) z_undoable) := hD
  refine lv_aload_n hx hb dX6_clear_10 rfl (lv_at hl 0 rfl) ?_
  refine lv_iconst (v := (0 : Int32)) hx hb dX6_clear_11 (by decide) ?_
  refine va_put (D := (dC, dI)) (ci := 6) (v := .int (0 : Int32)) (ty := .int) (C := RX6) (T := TX6) (N := 6) hx hb hts qi_X6_clear_X6 tyX6 tyX6_ok nmX6 hown hK hP hD hS 0 rfl rfl 5 (by decide) (hts _ ql_X6_clear_28) (fun _ h9 => h9) rfl (by decide +kernel) rfl rfl (Nat.le_of_ble_eq_true rfl) dX6_clear_12 (fun H locs hP hD hS => ?_)
  have hP : va_P (dC, dI) vwCl (qw_X6_clear cI cJ cC cG cW a_this a_this_behind a_this_sorts a_this_tells (0 : Int32) (0 : Int32) (0 : Int32)) H := hP
  have hD : va_D A (qw_X6_clear cI cJ cC cG cW a_this a_this_behind a_this_sorts a_this_tells (0 : Int32) (0 : Int32) (0 : Int32)) := hD
  exact W.vret hx hb hr (fun t ht hW => ⟨⟨((0 : Int32), (0 : Int32), (0 : Int32)), rfl, hV, ⟨by rw [ht]; exact hP, va_K.moved hW.alike hK, hD⟩⟩, hS.F ht⟩) hS.2.2 dX6_clear_15 hlocks

/-! StileCounts$Way.addStretch()V -/
abbrev qw_X6_addStretch (cI cJ cC cG cW : ClassId) (a_this a_this_behind a_this_sorts a_this_tells : Nat) (z_walked : Int32) (z_counts : Int32) (z_undoable : Int32) : va_W := [(a_this, .inr (6, [.int z_walked, .int z_counts, .ref a_this_behind, .ref a_this_sorts, .ref a_this_tells, .int z_undoable]))]
theorem qi_X6_addStretch_X6 : ∀ w ∈ wsX60, w ∈ wsX6_addStretch := by decide +kernel
theorem ql_X6_addStretch_9 : (.fieldLink RX6 9 "StileCounts$Way" "walked" "I" : Cond) ∈ wsX6_addStretch := by decide +kernel
theorem ql_X6_addStretch_28 : (.fieldLink RX6 28 "StileCounts$Way" "undoable" "I" : Cond) ∈ wsX6_addStretch := by decide +kernel
theorem qk_X6_addStretch_31_a : (.methodLink RX6 31 Lib.Math.min.name : Cond) ∈ wsX6_addStretch := by decide +kernel
theorem qk_X6_addStretch_31_b : (.static Lib.Math.min.name : Cond) ∈ wsX6_addStretch := by decide +kernel
theorem qk_X6_addStretch_31_c : (.initialized "java/lang/Math" : Cond) ∈ wsX6_addStretch := by decide +kernel
theorem qk_X6_addStretch_31_d : (.code Lib.Math.min.name Lib.Math.min.code 2 (some .int) : Cond) ∈ wsX6_addStretch := by decide +kernel
def qv_X6_addStretch (z_walked : Int32) (z_undoable : Int32) (Post : (Int32) → (Int32) → Prop) : Prop := Post (z_walked + (1 : Int32)) (if (8 : Int32) < (z_undoable + (1 : Int32)) then (8 : Int32) else (z_undoable + (1 : Int32)))
set_option maxHeartbeats 4000000 in
set_option maxRecDepth 100000 in
theorem qm_X6_addStretch (l : Launch) (dC : Nat → ClassId) (dI : Nat → Nat → Nat) (cI cJ cC cG cW : ClassId) (a_this a_this_behind a_this_sorts a_this_tells : Nat) (z_walked : Int32) (z_counts : Int32) (z_undoable : Int32) (sz : Nat) (Post : (Int32) → (Int32) → Prop) (hV : qv_X6_addStretch z_walked z_undoable Post) : Met l yX6_addStretch wsX6_addStretch ({ frames := 1, cells := 0, slots := 0, locals := 23 } : Room) (va_Pc [.ref a_this] (prW (dC, dI) (qw_X6_addStretch cI cJ cC cG cW a_this a_this_behind a_this_sorts a_this_tells z_walked z_counts z_undoable) (tyL cI cJ cC cG cW) sz)) (va_Qv (fun (u : (Int32) × (Int32)) => Post u.1 u.2) (fun u t => poW (dC, dI) (tyL cI cJ cC cG cW) (va_A (qw_X6_addStretch cI cJ cC cG cW a_this a_this_behind a_this_sorts a_this_tells z_walked z_counts z_undoable) sz) (qw_X6_addStretch cI cJ cC cG cW a_this a_this_behind a_this_sorts a_this_tells u.1 z_counts u.2) t) (va_A (qw_X6_addStretch cI cJ cC cG cW a_this a_this_behind a_this_sorts a_this_tells z_walked z_counts z_undoable) sz)) 0 0 (va_A (qw_X6_addStretch cI cJ cC cG cW a_this a_this_behind a_this_sorts a_this_tells z_walked z_counts z_undoable) sz) := by
  refine Met.ofM (Qc := fun A => va_Qv (fun (u : (Int32) × (Int32)) => Post u.1 u.2) (fun u t => poW (dC, dI) (tyL cI cJ cC cG cW) A (qw_X6_addStretch cI cJ cC cG cW a_this a_this_behind a_this_sorts a_this_tells u.1 z_counts u.2) t) A) (nm := "addStretch") (ds := "()V") (own := RX6) (maxL := 1) (cc := cX6_addStretch) (ret := none) (by decide) rfl rfl (Nat.le_of_ble_eq_true rfl) (fun p e s m below meth c A C0 hin hK hN hA hP hD hS ls hl => ?_)
  obtain ⟨hx, hb, hr, hml, hown, hts, hlocks⟩ := id C0
  have hl : lv_has ls 1 [(0, .ref a_this)] := hl
  obtain ⟨H, hH⟩ : ∃ h : Heap, h = s.heap := ⟨_, rfl⟩
  obtain ⟨locs, hLc⟩ : ∃ L : List Loc, L = [] := ⟨_, rfl⟩
  have hS : va_S A s.heap H locs := by rw [hH, hLc]; exact hS
  rw [← hH] at hP
  rw [← hLc, ← hH]
  clear hH hLc
  refine lv_aload_n hx hb dX6_addStretch_0 rfl (lv_at hl 0 rfl) ?_
  refine lv_dup hx hb dX6_addStretch_1 rfl ?_
  refine va_get (D := (dC, dI)) (ci := 6) (v := .int z_walked) (C := RX6) (T := TX6) (N := 6) hx hb hts qi_X6_addStretch_X6 hown hK hP 0 rfl rfl 0 (by decide) (hts _ ql_X6_addStretch_9) (fun _ h9 => h9) rfl dX6_addStretch_2 ?_
  refine lv_iconst (v := (1 : Int32)) hx hb dX6_addStretch_5 (by decide) ?_
  refine lv_iadd hx hb dX6_addStretch_6 ?_
  refine va_put (D := (dC, dI)) (ci := 6) (v := .int (z_walked + (1 : Int32))) (ty := .int) (C := RX6) (T := TX6) (N := 6) hx hb hts qi_X6_addStretch_X6 tyX6 tyX6_ok nmX6 hown hK hP hD hS 0 rfl rfl 0 (by decide) (hts _ ql_X6_addStretch_9) (fun _ h9 => h9) rfl (by decide +kernel) rfl rfl (Nat.le_of_ble_eq_true rfl) dX6_addStretch_7 (fun H locs hP hD hS => ?_)
  have hP : va_P (dC, dI) vwCl (qw_X6_addStretch cI cJ cC cG cW a_this a_this_behind a_this_sorts a_this_tells (z_walked + (1 : Int32)) z_counts z_undoable) H := hP
  have hD : va_D A (qw_X6_addStretch cI cJ cC cG cW a_this a_this_behind a_this_sorts a_this_tells (z_walked + (1 : Int32)) z_counts z_undoable) := hD
  refine lv_aload_n hx hb dX6_addStretch_10 rfl (lv_at hl 0 rfl) ?_
  refine lv_aload_n hx hb dX6_addStretch_11 rfl (lv_at hl 0 rfl) ?_
  refine va_get (D := (dC, dI)) (ci := 6) (v := .int z_undoable) (C := RX6) (T := TX6) (N := 6) hx hb hts qi_X6_addStretch_X6 hown hK hP 0 rfl rfl 5 (by decide) (hts _ ql_X6_addStretch_28) (fun _ h9 => h9) rfl dX6_addStretch_12 ?_
  refine lv_iconst (v := (1 : Int32)) hx hb dX6_addStretch_15 (by decide) ?_
  refine lv_iadd hx hb dX6_addStretch_16 ?_
  refine lv_bipush (v := (8 : Int32)) hx hb dX6_addStretch_17 (by decide) ?_
  refine va_mmin hx hb (hml.trans hl.1.symm) hown (hts _ qk_X6_addStretch_31_a) (hts _ qk_X6_addStretch_31_b) (hts _ qk_X6_addStretch_31_c) (hts _ qk_X6_addStretch_31_d) (Nat.le_of_ble_eq_true rfl) (Nat.le_of_ble_eq_true rfl) (Nat.zero_le _) (Nat.zero_le _) dX6_addStretch_19 ?_
  refine va_put (D := (dC, dI)) (ci := 6) (v := .int (if (8 : Int32) < (z_undoable + (1 : Int32)) then (8 : Int32) else (z_undoable + (1 : Int32)))) (ty := .int) (C := RX6) (T := TX6) (N := 6) hx hb hts qi_X6_addStretch_X6 tyX6 tyX6_ok nmX6 hown hK hP hD hS 0 rfl rfl 5 (by decide) (hts _ ql_X6_addStretch_28) (fun _ h9 => h9) rfl (by decide +kernel) rfl rfl (Nat.le_of_ble_eq_true rfl) dX6_addStretch_22 (fun H locs hP hD hS => ?_)
  have hP : va_P (dC, dI) vwCl (qw_X6_addStretch cI cJ cC cG cW a_this a_this_behind a_this_sorts a_this_tells (z_walked + (1 : Int32)) z_counts (if (8 : Int32) < (z_undoable + (1 : Int32)) then (8 : Int32) else (z_undoable + (1 : Int32)))) H := hP
  have hD : va_D A (qw_X6_addStretch cI cJ cC cG cW a_this a_this_behind a_this_sorts a_this_tells (z_walked + (1 : Int32)) z_counts (if (8 : Int32) < (z_undoable + (1 : Int32)) then (8 : Int32) else (z_undoable + (1 : Int32)))) := hD
  exact W.vret hx hb hr (fun t ht hW => ⟨⟨((z_walked + (1 : Int32)), (if (8 : Int32) < (z_undoable + (1 : Int32)) then (8 : Int32) else (z_undoable + (1 : Int32)))), rfl, hV, ⟨by rw [ht]; exact hP, va_K.moved hW.alike hK, hD⟩⟩, hS.F ht⟩) hS.2.2 dX6_addStretch_25 hlocks

/-! StileCounts$Way.addCount(II)V -/
abbrev qw_X6_addCount (cI cJ cC cG cW : ClassId) (a_this a_this_behind a_this_sorts a_this_tells : Nat) (z_walked : Int32) (z_counts : Int32) (z_undoable : Int32) (z_behind : Nat → Int32) (z_sorts : Nat → Int32) (z_tells : Nat → Int32) : va_W := [(a_this, .inr (6, [.int z_walked, .int z_counts, .ref a_this_behind, .ref a_this_sorts, .ref a_this_tells, .int z_undoable])), (a_this_behind, .inl (cI, 6, .inl z_behind)), (a_this_sorts, .inl (cI, 6, .inl z_sorts)), (a_this_tells, .inl (cI, 6, .inl z_tells))]
theorem qi_X6_addCount_X6 : ∀ w ∈ wsX60, w ∈ wsX6_addCount := by decide +kernel
theorem ql_X6_addCount_18 : (.fieldLink RX6 18 "StileCounts$Way" "behind" "[I" : Cond) ∈ wsX6_addCount := by decide +kernel
theorem ql_X6_addCount_15 : (.fieldLink RX6 15 "StileCounts$Way" "counts" "I" : Cond) ∈ wsX6_addCount := by decide +kernel
theorem ql_X6_addCount_9 : (.fieldLink RX6 9 "StileCounts$Way" "walked" "I" : Cond) ∈ wsX6_addCount := by decide +kernel
theorem ql_X6_addCount_22 : (.fieldLink RX6 22 "StileCounts$Way" "sorts" "[I" : Cond) ∈ wsX6_addCount := by decide +kernel
theorem ql_X6_addCount_25 : (.fieldLink RX6 25 "StileCounts$Way" "tells" "[I" : Cond) ∈ wsX6_addCount := by decide +kernel
theorem ql_X6_addCount_28 : (.fieldLink RX6 28 "StileCounts$Way" "undoable" "I" : Cond) ∈ wsX6_addCount := by decide +kernel
theorem qk_X6_addCount_31_a : (.methodLink RX6 31 Lib.Math.min.name : Cond) ∈ wsX6_addCount := by decide +kernel
theorem qk_X6_addCount_31_b : (.static Lib.Math.min.name : Cond) ∈ wsX6_addCount := by decide +kernel
theorem qk_X6_addCount_31_c : (.initialized "java/lang/Math" : Cond) ∈ wsX6_addCount := by decide +kernel
theorem qk_X6_addCount_31_d : (.code Lib.Math.min.name Lib.Math.min.code 2 (some .int) : Cond) ∈ wsX6_addCount := by decide +kernel
def qv_X6_addCount (x1 : Int32) (x2 : Int32) (z_walked : Int32) (z_counts : Int32) (z_undoable : Int32) (z_behind : Nat → Int32) (z_sorts : Nat → Int32) (z_tells : Nat → Int32) (Post : (Int32) → (Int32) → (Nat → Int32) → (Nat → Int32) → (Nat → Int32) → Prop) : Prop := vp_in z_counts 6 ∧ (vp_in z_counts 6 ∧ (vp_in z_counts 6 ∧ (Post (z_counts + (1 : Int32)) (if (8 : Int32) < (z_undoable + (1 : Int32)) then (8 : Int32) else (z_undoable + (1 : Int32))) (upd z_behind z_counts.toNatClampNeg z_walked) (upd z_sorts z_counts.toNatClampNeg x1) (upd z_tells z_counts.toNatClampNeg x2))))
set_option maxHeartbeats 4000000 in
set_option maxRecDepth 100000 in
theorem qm_X6_addCount (l : Launch) (dC : Nat → ClassId) (dI : Nat → Nat → Nat) (cI cJ cC cG cW : ClassId) (a_this a_this_behind a_this_sorts a_this_tells : Nat) (z_walked : Int32) (z_counts : Int32) (z_undoable : Int32) (z_behind : Nat → Int32) (z_sorts : Nat → Int32) (z_tells : Nat → Int32) (sz : Nat) (x1 : Int32) (x2 : Int32) (Post : (Int32) → (Int32) → (Nat → Int32) → (Nat → Int32) → (Nat → Int32) → Prop) (hV : qv_X6_addCount x1 x2 z_walked z_counts z_undoable z_behind z_sorts z_tells Post) : Met l yX6_addCount wsX6_addCount ({ frames := 1, cells := 0, slots := 0, locals := 23 } : Room) (va_Pc [.ref a_this, .int x1, .int x2] (prW (dC, dI) (qw_X6_addCount cI cJ cC cG cW a_this a_this_behind a_this_sorts a_this_tells z_walked z_counts z_undoable z_behind z_sorts z_tells) (tyL cI cJ cC cG cW) sz)) (va_Qv (fun (u : (Int32) × (Int32) × (Nat → Int32) × (Nat → Int32) × (Nat → Int32)) => Post u.1 u.2.1 u.2.2.1 u.2.2.2.1 u.2.2.2.2) (fun u t => poW (dC, dI) (tyL cI cJ cC cG cW) (va_A (qw_X6_addCount cI cJ cC cG cW a_this a_this_behind a_this_sorts a_this_tells z_walked z_counts z_undoable z_behind z_sorts z_tells) sz) (qw_X6_addCount cI cJ cC cG cW a_this a_this_behind a_this_sorts a_this_tells z_walked u.1 u.2.1 u.2.2.1 u.2.2.2.1 u.2.2.2.2) t) (va_A (qw_X6_addCount cI cJ cC cG cW a_this a_this_behind a_this_sorts a_this_tells z_walked z_counts z_undoable z_behind z_sorts z_tells) sz)) 0 0 (va_A (qw_X6_addCount cI cJ cC cG cW a_this a_this_behind a_this_sorts a_this_tells z_walked z_counts z_undoable z_behind z_sorts z_tells) sz) := by
  refine Met.ofM (Qc := fun A => va_Qv (fun (u : (Int32) × (Int32) × (Nat → Int32) × (Nat → Int32) × (Nat → Int32)) => Post u.1 u.2.1 u.2.2.1 u.2.2.2.1 u.2.2.2.2) (fun u t => poW (dC, dI) (tyL cI cJ cC cG cW) A (qw_X6_addCount cI cJ cC cG cW a_this a_this_behind a_this_sorts a_this_tells z_walked u.1 u.2.1 u.2.2.1 u.2.2.2.1 u.2.2.2.2) t) A) (nm := "addCount") (ds := "(II)V") (own := RX6) (maxL := 3) (cc := cX6_addCount) (ret := none) (by decide) rfl rfl (Nat.le_of_ble_eq_true rfl) (fun p e s m below meth c A C0 hin hK hN hA hP hD hS ls hl => ?_)
  obtain ⟨hx, hb, hr, hml, hown, hts, hlocks⟩ := id C0
  have hl : lv_has ls 3 [(0, .ref a_this), (1, .int x1), (2, .int x2)] := hl
  obtain ⟨H, hH⟩ : ∃ h : Heap, h = s.heap := ⟨_, rfl⟩
  obtain ⟨locs, hLc⟩ : ∃ L : List Loc, L = [] := ⟨_, rfl⟩
  have hS : va_S A s.heap H locs := by rw [hH, hLc]; exact hS
  rw [← hH] at hP
  rw [← hLc, ← hH]
  clear hH hLc
  refine lv_aload_n hx hb dX6_addCount_0 rfl (lv_at hl 0 rfl) ?_
  refine va_get (D := (dC, dI)) (ci := 6) (v := .ref a_this_behind) (C := RX6) (T := TX6) (N := 6) hx hb hts qi_X6_addCount_X6 hown hK hP 0 rfl rfl 2 (by decide) (hts _ ql_X6_addCount_18) (fun _ h9 => h9) rfl dX6_addCount_1 ?_
  refine lv_aload_n hx hb dX6_addCount_4 rfl (lv_at hl 0 rfl) ?_
  refine va_get (D := (dC, dI)) (ci := 6) (v := .int z_counts) (C := RX6) (T := TX6) (N := 6) hx hb hts qi_X6_addCount_X6 hown hK hP 0 rfl rfl 1 (by decide) (hts _ ql_X6_addCount_15) (fun _ h9 => h9) rfl dX6_addCount_5 ?_
  refine lv_aload_n hx hb dX6_addCount_8 rfl (lv_at hl 0 rfl) ?_
  refine va_get (D := (dC, dI)) (ci := 6) (v := .int z_walked) (C := RX6) (T := TX6) (N := 6) hx hb hts qi_X6_addCount_X6 hown hK hP 0 rfl rfl 0 (by decide) (hts _ ql_X6_addCount_9) (fun _ h9 => h9) rfl dX6_addCount_9 ?_
  obtain ⟨h1, hV⟩ := hV
  refine va_iast hx hb hK hP hD hS 1 0 rfl rfl h1 dX6_addCount_12 (fun H locs hP hD hS => ?_)
  have hP : va_P (dC, dI) vwCl (qw_X6_addCount cI cJ cC cG cW a_this a_this_behind a_this_sorts a_this_tells z_walked z_counts z_undoable (upd z_behind z_counts.toNatClampNeg z_walked) z_sorts z_tells) H := hP
  have hD : va_D A (qw_X6_addCount cI cJ cC cG cW a_this a_this_behind a_this_sorts a_this_tells z_walked z_counts z_undoable (upd z_behind z_counts.toNatClampNeg z_walked) z_sorts z_tells) := hD
  refine lv_aload_n hx hb dX6_addCount_13 rfl (lv_at hl 0 rfl) ?_
  refine va_get (D := (dC, dI)) (ci := 6) (v := .ref a_this_sorts) (C := RX6) (T := TX6) (N := 6) hx hb hts qi_X6_addCount_X6 hown hK hP 0 rfl rfl 3 (by decide) (hts _ ql_X6_addCount_22) (fun _ h9 => h9) rfl dX6_addCount_14 ?_
  refine lv_aload_n hx hb dX6_addCount_17 rfl (lv_at hl 0 rfl) ?_
  refine va_get (D := (dC, dI)) (ci := 6) (v := .int z_counts) (C := RX6) (T := TX6) (N := 6) hx hb hts qi_X6_addCount_X6 hown hK hP 0 rfl rfl 1 (by decide) (hts _ ql_X6_addCount_15) (fun _ h9 => h9) rfl dX6_addCount_18 ?_
  refine lv_iload_n hx hb dX6_addCount_21 rfl (lv_at hl 1 rfl) ?_
  obtain ⟨h2, hV⟩ := hV
  refine va_iast hx hb hK hP hD hS 2 0 rfl rfl h2 dX6_addCount_22 (fun H locs hP hD hS => ?_)
  have hP : va_P (dC, dI) vwCl (qw_X6_addCount cI cJ cC cG cW a_this a_this_behind a_this_sorts a_this_tells z_walked z_counts z_undoable (upd z_behind z_counts.toNatClampNeg z_walked) (upd z_sorts z_counts.toNatClampNeg x1) z_tells) H := hP
  have hD : va_D A (qw_X6_addCount cI cJ cC cG cW a_this a_this_behind a_this_sorts a_this_tells z_walked z_counts z_undoable (upd z_behind z_counts.toNatClampNeg z_walked) (upd z_sorts z_counts.toNatClampNeg x1) z_tells) := hD
  refine lv_aload_n hx hb dX6_addCount_23 rfl (lv_at hl 0 rfl) ?_
  refine va_get (D := (dC, dI)) (ci := 6) (v := .ref a_this_tells) (C := RX6) (T := TX6) (N := 6) hx hb hts qi_X6_addCount_X6 hown hK hP 0 rfl rfl 4 (by decide) (hts _ ql_X6_addCount_25) (fun _ h9 => h9) rfl dX6_addCount_24 ?_
  refine lv_aload_n hx hb dX6_addCount_27 rfl (lv_at hl 0 rfl) ?_
  refine va_get (D := (dC, dI)) (ci := 6) (v := .int z_counts) (C := RX6) (T := TX6) (N := 6) hx hb hts qi_X6_addCount_X6 hown hK hP 0 rfl rfl 1 (by decide) (hts _ ql_X6_addCount_15) (fun _ h9 => h9) rfl dX6_addCount_28 ?_
  refine lv_iload_n hx hb dX6_addCount_31 rfl (lv_at hl 2 rfl) ?_
  obtain ⟨h3, hV⟩ := hV
  refine va_iast hx hb hK hP hD hS 3 0 rfl rfl h3 dX6_addCount_32 (fun H locs hP hD hS => ?_)
  have hP : va_P (dC, dI) vwCl (qw_X6_addCount cI cJ cC cG cW a_this a_this_behind a_this_sorts a_this_tells z_walked z_counts z_undoable (upd z_behind z_counts.toNatClampNeg z_walked) (upd z_sorts z_counts.toNatClampNeg x1) (upd z_tells z_counts.toNatClampNeg x2)) H := hP
  have hD : va_D A (qw_X6_addCount cI cJ cC cG cW a_this a_this_behind a_this_sorts a_this_tells z_walked z_counts z_undoable (upd z_behind z_counts.toNatClampNeg z_walked) (upd z_sorts z_counts.toNatClampNeg x1) (upd z_tells z_counts.toNatClampNeg x2)) := hD
  refine lv_aload_n hx hb dX6_addCount_33 rfl (lv_at hl 0 rfl) ?_
  refine lv_dup hx hb dX6_addCount_34 rfl ?_
  refine va_get (D := (dC, dI)) (ci := 6) (v := .int z_counts) (C := RX6) (T := TX6) (N := 6) hx hb hts qi_X6_addCount_X6 hown hK hP 0 rfl rfl 1 (by decide) (hts _ ql_X6_addCount_15) (fun _ h9 => h9) rfl dX6_addCount_35 ?_
  refine lv_iconst (v := (1 : Int32)) hx hb dX6_addCount_38 (by decide) ?_
  refine lv_iadd hx hb dX6_addCount_39 ?_
  refine va_put (D := (dC, dI)) (ci := 6) (v := .int (z_counts + (1 : Int32))) (ty := .int) (C := RX6) (T := TX6) (N := 6) hx hb hts qi_X6_addCount_X6 tyX6 tyX6_ok nmX6 hown hK hP hD hS 0 rfl rfl 1 (by decide) (hts _ ql_X6_addCount_15) (fun _ h9 => h9) rfl (by decide +kernel) rfl rfl (Nat.le_of_ble_eq_true rfl) dX6_addCount_40 (fun H locs hP hD hS => ?_)
  have hP : va_P (dC, dI) vwCl (qw_X6_addCount cI cJ cC cG cW a_this a_this_behind a_this_sorts a_this_tells z_walked (z_counts + (1 : Int32)) z_undoable (upd z_behind z_counts.toNatClampNeg z_walked) (upd z_sorts z_counts.toNatClampNeg x1) (upd z_tells z_counts.toNatClampNeg x2)) H := hP
  have hD : va_D A (qw_X6_addCount cI cJ cC cG cW a_this a_this_behind a_this_sorts a_this_tells z_walked (z_counts + (1 : Int32)) z_undoable (upd z_behind z_counts.toNatClampNeg z_walked) (upd z_sorts z_counts.toNatClampNeg x1) (upd z_tells z_counts.toNatClampNeg x2)) := hD
  refine lv_aload_n hx hb dX6_addCount_43 rfl (lv_at hl 0 rfl) ?_
  refine lv_aload_n hx hb dX6_addCount_44 rfl (lv_at hl 0 rfl) ?_
  refine va_get (D := (dC, dI)) (ci := 6) (v := .int z_undoable) (C := RX6) (T := TX6) (N := 6) hx hb hts qi_X6_addCount_X6 hown hK hP 0 rfl rfl 5 (by decide) (hts _ ql_X6_addCount_28) (fun _ h9 => h9) rfl dX6_addCount_45 ?_
  refine lv_iconst (v := (1 : Int32)) hx hb dX6_addCount_48 (by decide) ?_
  refine lv_iadd hx hb dX6_addCount_49 ?_
  refine lv_bipush (v := (8 : Int32)) hx hb dX6_addCount_50 (by decide) ?_
  refine va_mmin hx hb (hml.trans hl.1.symm) hown (hts _ qk_X6_addCount_31_a) (hts _ qk_X6_addCount_31_b) (hts _ qk_X6_addCount_31_c) (hts _ qk_X6_addCount_31_d) (Nat.le_of_ble_eq_true rfl) (Nat.le_of_ble_eq_true rfl) (Nat.zero_le _) (Nat.zero_le _) dX6_addCount_52 ?_
  refine va_put (D := (dC, dI)) (ci := 6) (v := .int (if (8 : Int32) < (z_undoable + (1 : Int32)) then (8 : Int32) else (z_undoable + (1 : Int32)))) (ty := .int) (C := RX6) (T := TX6) (N := 6) hx hb hts qi_X6_addCount_X6 tyX6 tyX6_ok nmX6 hown hK hP hD hS 0 rfl rfl 5 (by decide) (hts _ ql_X6_addCount_28) (fun _ h9 => h9) rfl (by decide +kernel) rfl rfl (Nat.le_of_ble_eq_true rfl) dX6_addCount_55 (fun H locs hP hD hS => ?_)
  have hP : va_P (dC, dI) vwCl (qw_X6_addCount cI cJ cC cG cW a_this a_this_behind a_this_sorts a_this_tells z_walked (z_counts + (1 : Int32)) (if (8 : Int32) < (z_undoable + (1 : Int32)) then (8 : Int32) else (z_undoable + (1 : Int32))) (upd z_behind z_counts.toNatClampNeg z_walked) (upd z_sorts z_counts.toNatClampNeg x1) (upd z_tells z_counts.toNatClampNeg x2)) H := hP
  have hD : va_D A (qw_X6_addCount cI cJ cC cG cW a_this a_this_behind a_this_sorts a_this_tells z_walked (z_counts + (1 : Int32)) (if (8 : Int32) < (z_undoable + (1 : Int32)) then (8 : Int32) else (z_undoable + (1 : Int32))) (upd z_behind z_counts.toNatClampNeg z_walked) (upd z_sorts z_counts.toNatClampNeg x1) (upd z_tells z_counts.toNatClampNeg x2)) := hD
  exact W.vret hx hb hr (fun t ht hW => ⟨⟨((z_counts + (1 : Int32)), (if (8 : Int32) < (z_undoable + (1 : Int32)) then (8 : Int32) else (z_undoable + (1 : Int32))), (upd z_behind z_counts.toNatClampNeg z_walked), (upd z_sorts z_counts.toNatClampNeg x1), (upd z_tells z_counts.toNatClampNeg x2)), rfl, hV, ⟨by rw [ht]; exact hP, va_K.moved hW.alike hK, hD⟩⟩, hS.F ht⟩) hS.2.2 dX6_addCount_58 hlocks

/-! StileCounts$Way.takeBack()V -/
abbrev qw_X6_takeBack (cI cJ cC cG cW : ClassId) (a_this a_this_behind a_this_sorts a_this_tells : Nat) (z_walked : Int32) (z_counts : Int32) (z_undoable : Int32) (z_behind : Nat → Int32) : va_W := [(a_this, .inr (6, [.int z_walked, .int z_counts, .ref a_this_behind, .ref a_this_sorts, .ref a_this_tells, .int z_undoable])), (a_this_behind, .inl (cI, 6, .inl z_behind))]
theorem qi_X6_takeBack_X6 : ∀ w ∈ wsX60, w ∈ wsX6_takeBack := by decide +kernel
theorem ql_X6_takeBack_15 : (.fieldLink RX6 15 "StileCounts$Way" "counts" "I" : Cond) ∈ wsX6_takeBack := by decide +kernel
theorem ql_X6_takeBack_9 : (.fieldLink RX6 9 "StileCounts$Way" "walked" "I" : Cond) ∈ wsX6_takeBack := by decide +kernel
theorem ql_X6_takeBack_28 : (.fieldLink RX6 28 "StileCounts$Way" "undoable" "I" : Cond) ∈ wsX6_takeBack := by decide +kernel
theorem ql_X6_takeBack_18 : (.fieldLink RX6 18 "StileCounts$Way" "behind" "[I" : Cond) ∈ wsX6_takeBack := by decide +kernel
def qv_X6_takeBack_J55 (z_walked : Int32) (z_counts : Int32) (z_undoable : Int32) (z_behind : Nat → Int32) (Post : (Int32) → (Int32) → (Int32) → Prop) : Prop := Post z_walked z_counts (z_undoable - (1 : Int32))
set_option maxHeartbeats 4000000 in
set_option maxRecDepth 100000 in
theorem qt_X6_takeBack_J55 {p : Program} {l : Launch} {e : Env} {s : State} {m : MethodId} {args : Array Value} {below : List Frame} {meth : Method} {c : Code} {dC : Nat → ClassId} {dI : Nat → Nat → Nat} {cI cJ cC cG cW : ClassId} {a_this a_this_behind a_this_sorts a_this_tells : Nat} {A : Nat → Prop} (C0 : MC cX6_takeBack 1 none RX6 wsX6_takeBack p s m args meth c) (hK : va_K (dC, dI) vwCl (tyL cI cJ cC cG cW) s) (hN : NW s) (hA : ∀ q, s.heap.size ≤ q → A q) (z_walked : Int32) (z_counts : Int32) (z_undoable : Int32) (z_behind : Nat → Int32) (Post : (Int32) → (Int32) → (Int32) → Prop) (H : Heap) (locs : List Loc) (ls : Array Slot) (hV : qv_X6_takeBack_J55 z_walked z_counts z_undoable z_behind Post) (hP : va_P (dC, dI) vwCl (qw_X6_takeBack cI cJ cC cG cW a_this a_this_behind a_this_sorts a_this_tells z_walked z_counts z_undoable z_behind) H) (hD : va_D A (qw_X6_takeBack cI cJ cC cG cW a_this a_this_behind a_this_sorts a_this_tells z_walked z_counts z_undoable z_behind)) (hS : va_S A s.heap H locs) (hl : lv_has ls 1 [(0, .ref a_this)]) : W p l e ({ frames := 0, cells := 0, slots := 0, locals := 0 } : Room) s m args below meth c H locs 0 0 (MQ below (va_Qv (fun (u : (Int32) × (Int32) × (Int32)) => Post u.1 u.2.1 u.2.2) (fun u t => poW (dC, dI) (tyL cI cJ cC cG cW) A (qw_X6_takeBack cI cJ cC cG cW a_this a_this_behind a_this_sorts a_this_tells u.1 u.2.1 u.2.2 z_behind) t) A) args s 0 0 A) (F0 m 55 ls []) := by
  obtain ⟨hx, hb, hr, hml, hown, hts, hlocks⟩ := id C0
  refine lv_aload_n hx hb dX6_takeBack_55 rfl (lv_at hl 0 rfl) ?_
  refine lv_dup hx hb dX6_takeBack_56 rfl ?_
  refine va_get (D := (dC, dI)) (ci := 6) (v := .int z_undoable) (C := RX6) (T := TX6) (N := 6) hx hb hts qi_X6_takeBack_X6 hown hK hP 0 rfl rfl 5 (by decide) (hts _ ql_X6_takeBack_28) (fun _ h9 => h9) rfl dX6_takeBack_57 ?_
  refine lv_iconst (v := (1 : Int32)) hx hb dX6_takeBack_60 (by decide) ?_
  refine lv_isub hx hb dX6_takeBack_61 ?_
  refine va_put (D := (dC, dI)) (ci := 6) (v := .int (z_undoable - (1 : Int32))) (ty := .int) (C := RX6) (T := TX6) (N := 6) hx hb hts qi_X6_takeBack_X6 tyX6 tyX6_ok nmX6 hown hK hP hD hS 0 rfl rfl 5 (by decide) (hts _ ql_X6_takeBack_28) (fun _ h9 => h9) rfl (by decide +kernel) rfl rfl (Nat.le_of_ble_eq_true rfl) dX6_takeBack_62 (fun H locs hP hD hS => ?_)
  have hP : va_P (dC, dI) vwCl (qw_X6_takeBack cI cJ cC cG cW a_this a_this_behind a_this_sorts a_this_tells z_walked z_counts (z_undoable - (1 : Int32)) z_behind) H := hP
  have hD : va_D A (qw_X6_takeBack cI cJ cC cG cW a_this a_this_behind a_this_sorts a_this_tells z_walked z_counts (z_undoable - (1 : Int32)) z_behind) := hD
  exact W.vret hx hb hr (fun t ht hW => ⟨⟨(z_walked, z_counts, (z_undoable - (1 : Int32))), rfl, hV, ⟨by rw [ht]; exact hP, va_K.moved hW.alike hK, hD⟩⟩, hS.F ht⟩) hS.2.2 dX6_takeBack_65 hlocks
def qv_X6_takeBack_J38 (z_walked : Int32) (z_counts : Int32) (z_undoable : Int32) (z_behind : Nat → Int32) (Post : (Int32) → (Int32) → (Int32) → Prop) : Prop := (z_walked ≤ (0 : Int32) → qv_X6_takeBack_J55 z_walked z_counts z_undoable z_behind Post) ∧ (¬ z_walked ≤ (0 : Int32) → qv_X6_takeBack_J55 (z_walked - (1 : Int32)) z_counts z_undoable z_behind Post)
set_option maxHeartbeats 4000000 in
set_option maxRecDepth 100000 in
theorem qt_X6_takeBack_J38 {p : Program} {l : Launch} {e : Env} {s : State} {m : MethodId} {args : Array Value} {below : List Frame} {meth : Method} {c : Code} {dC : Nat → ClassId} {dI : Nat → Nat → Nat} {cI cJ cC cG cW : ClassId} {a_this a_this_behind a_this_sorts a_this_tells : Nat} {A : Nat → Prop} (C0 : MC cX6_takeBack 1 none RX6 wsX6_takeBack p s m args meth c) (hK : va_K (dC, dI) vwCl (tyL cI cJ cC cG cW) s) (hN : NW s) (hA : ∀ q, s.heap.size ≤ q → A q) (z_walked : Int32) (z_counts : Int32) (z_undoable : Int32) (z_behind : Nat → Int32) (Post : (Int32) → (Int32) → (Int32) → Prop) (H : Heap) (locs : List Loc) (ls : Array Slot) (hV : qv_X6_takeBack_J38 z_walked z_counts z_undoable z_behind Post) (hP : va_P (dC, dI) vwCl (qw_X6_takeBack cI cJ cC cG cW a_this a_this_behind a_this_sorts a_this_tells z_walked z_counts z_undoable z_behind) H) (hD : va_D A (qw_X6_takeBack cI cJ cC cG cW a_this a_this_behind a_this_sorts a_this_tells z_walked z_counts z_undoable z_behind)) (hS : va_S A s.heap H locs) (hl : lv_has ls 1 [(0, .ref a_this)]) : W p l e ({ frames := 0, cells := 0, slots := 0, locals := 0 } : Room) s m args below meth c H locs 0 0 (MQ below (va_Qv (fun (u : (Int32) × (Int32) × (Int32)) => Post u.1 u.2.1 u.2.2) (fun u t => poW (dC, dI) (tyL cI cJ cC cG cW) A (qw_X6_takeBack cI cJ cC cG cW a_this a_this_behind a_this_sorts a_this_tells u.1 u.2.1 u.2.2 z_behind) t) A) args s 0 0 A) (F0 m 38 ls []) := by
  obtain ⟨hx, hb, hr, hml, hown, hts, hlocks⟩ := id C0
  refine lv_aload_n hx hb dX6_takeBack_38 rfl (lv_at hl 0 rfl) ?_
  refine va_get (D := (dC, dI)) (ci := 6) (v := .int z_walked) (C := RX6) (T := TX6) (N := 6) hx hb hts qi_X6_takeBack_X6 hown hK hP 0 rfl rfl 0 (by decide) (hts _ ql_X6_takeBack_9) (fun _ h9 => h9) rfl dX6_takeBack_39 ?_
  refine lv_if_le (tgt := 55) hx hb dX6_takeBack_42 (by decide) (fun c2 => ?_) (fun c2 => ?_)
  · have hV := hV.1 c2
    exact qt_X6_takeBack_J55 C0 hK hN hA z_walked z_counts z_undoable z_behind _ H locs ls hV hP hD hS (lv_sub hl [0] rfl)
  · have hV := hV.2 c2
    refine lv_aload_n hx hb dX6_takeBack_45 rfl (lv_at hl 0 rfl) ?_
    refine lv_dup hx hb dX6_takeBack_46 rfl ?_
    refine va_get (D := (dC, dI)) (ci := 6) (v := .int z_walked) (C := RX6) (T := TX6) (N := 6) hx hb hts qi_X6_takeBack_X6 hown hK hP 0 rfl rfl 0 (by decide) (hts _ ql_X6_takeBack_9) (fun _ h9 => h9) rfl dX6_takeBack_47 ?_
    refine lv_iconst (v := (1 : Int32)) hx hb dX6_takeBack_50 (by decide) ?_
    refine lv_isub hx hb dX6_takeBack_51 ?_
    refine va_put (D := (dC, dI)) (ci := 6) (v := .int (z_walked - (1 : Int32))) (ty := .int) (C := RX6) (T := TX6) (N := 6) hx hb hts qi_X6_takeBack_X6 tyX6 tyX6_ok nmX6 hown hK hP hD hS 0 rfl rfl 0 (by decide) (hts _ ql_X6_takeBack_9) (fun _ h9 => h9) rfl (by decide +kernel) rfl rfl (Nat.le_of_ble_eq_true rfl) dX6_takeBack_52 (fun H locs hP hD hS => ?_)
    have hP : va_P (dC, dI) vwCl (qw_X6_takeBack cI cJ cC cG cW a_this a_this_behind a_this_sorts a_this_tells (z_walked - (1 : Int32)) z_counts z_undoable z_behind) H := hP
    have hD : va_D A (qw_X6_takeBack cI cJ cC cG cW a_this a_this_behind a_this_sorts a_this_tells (z_walked - (1 : Int32)) z_counts z_undoable z_behind) := hD
    exact qt_X6_takeBack_J55 C0 hK hN hA (z_walked - (1 : Int32)) z_counts z_undoable z_behind _ H locs ls hV hP hD hS (lv_sub hl [0] rfl)
def qv_X6_takeBack (z_walked : Int32) (z_counts : Int32) (z_undoable : Int32) (z_behind : Nat → Int32) (Post : (Int32) → (Int32) → (Int32) → Prop) : Prop := (z_counts ≤ (0 : Int32) → qv_X6_takeBack_J38 z_walked z_counts z_undoable z_behind Post) ∧ (¬ z_counts ≤ (0 : Int32) → vp_in (z_counts - (1 : Int32)) 6 ∧ (((z_behind (z_counts - (1 : Int32)).toNatClampNeg) = z_walked → qv_X6_takeBack_J55 z_walked (z_counts - (1 : Int32)) z_undoable z_behind Post) ∧ (¬ (z_behind (z_counts - (1 : Int32)).toNatClampNeg) = z_walked → qv_X6_takeBack_J38 z_walked z_counts z_undoable z_behind Post)))
set_option maxHeartbeats 4000000 in
set_option maxRecDepth 100000 in
theorem qm_X6_takeBack (l : Launch) (dC : Nat → ClassId) (dI : Nat → Nat → Nat) (cI cJ cC cG cW : ClassId) (a_this a_this_behind a_this_sorts a_this_tells : Nat) (z_walked : Int32) (z_counts : Int32) (z_undoable : Int32) (z_behind : Nat → Int32) (sz : Nat) (Post : (Int32) → (Int32) → (Int32) → Prop) (hV : qv_X6_takeBack z_walked z_counts z_undoable z_behind Post) : Met l yX6_takeBack wsX6_takeBack ({ frames := 0, cells := 0, slots := 0, locals := 0 } : Room) (va_Pc [.ref a_this] (prW (dC, dI) (qw_X6_takeBack cI cJ cC cG cW a_this a_this_behind a_this_sorts a_this_tells z_walked z_counts z_undoable z_behind) (tyL cI cJ cC cG cW) sz)) (va_Qv (fun (u : (Int32) × (Int32) × (Int32)) => Post u.1 u.2.1 u.2.2) (fun u t => poW (dC, dI) (tyL cI cJ cC cG cW) (va_A (qw_X6_takeBack cI cJ cC cG cW a_this a_this_behind a_this_sorts a_this_tells z_walked z_counts z_undoable z_behind) sz) (qw_X6_takeBack cI cJ cC cG cW a_this a_this_behind a_this_sorts a_this_tells u.1 u.2.1 u.2.2 z_behind) t) (va_A (qw_X6_takeBack cI cJ cC cG cW a_this a_this_behind a_this_sorts a_this_tells z_walked z_counts z_undoable z_behind) sz)) 0 0 (va_A (qw_X6_takeBack cI cJ cC cG cW a_this a_this_behind a_this_sorts a_this_tells z_walked z_counts z_undoable z_behind) sz) := by
  refine Met.ofM (Qc := fun A => va_Qv (fun (u : (Int32) × (Int32) × (Int32)) => Post u.1 u.2.1 u.2.2) (fun u t => poW (dC, dI) (tyL cI cJ cC cG cW) A (qw_X6_takeBack cI cJ cC cG cW a_this a_this_behind a_this_sorts a_this_tells u.1 u.2.1 u.2.2 z_behind) t) A) (nm := "takeBack") (ds := "()V") (own := RX6) (maxL := 1) (cc := cX6_takeBack) (ret := none) (by decide) rfl rfl (Nat.le_of_ble_eq_true rfl) (fun p e s m below meth c A C0 hin hK hN hA hP hD hS ls hl => ?_)
  obtain ⟨hx, hb, hr, hml, hown, hts, hlocks⟩ := id C0
  have hl : lv_has ls 1 [(0, .ref a_this)] := hl
  obtain ⟨H, hH⟩ : ∃ h : Heap, h = s.heap := ⟨_, rfl⟩
  obtain ⟨locs, hLc⟩ : ∃ L : List Loc, L = [] := ⟨_, rfl⟩
  have hS : va_S A s.heap H locs := by rw [hH, hLc]; exact hS
  rw [← hH] at hP
  rw [← hLc, ← hH]
  clear hH hLc
  refine lv_aload_n hx hb dX6_takeBack_0 rfl (lv_at hl 0 rfl) ?_
  refine va_get (D := (dC, dI)) (ci := 6) (v := .int z_counts) (C := RX6) (T := TX6) (N := 6) hx hb hts qi_X6_takeBack_X6 hown hK hP 0 rfl rfl 1 (by decide) (hts _ ql_X6_takeBack_15) (fun _ h9 => h9) rfl dX6_takeBack_1 ?_
  refine lv_if_le (tgt := 38) hx hb dX6_takeBack_4 (by decide) (fun c1 => ?_) (fun c1 => ?_)
  · have hV := hV.1 c1
    exact qt_X6_takeBack_J38 C0 hK hN hA z_walked z_counts z_undoable z_behind _ H locs ls hV hP hD hS (lv_sub hl [0] rfl)
  · have hV := hV.2 c1
    refine lv_aload_n hx hb dX6_takeBack_7 rfl (lv_at hl 0 rfl) ?_
    refine va_get (D := (dC, dI)) (ci := 6) (v := .ref a_this_behind) (C := RX6) (T := TX6) (N := 6) hx hb hts qi_X6_takeBack_X6 hown hK hP 0 rfl rfl 2 (by decide) (hts _ ql_X6_takeBack_18) (fun _ h9 => h9) rfl dX6_takeBack_8 ?_
    refine lv_aload_n hx hb dX6_takeBack_11 rfl (lv_at hl 0 rfl) ?_
    refine va_get (D := (dC, dI)) (ci := 6) (v := .int z_counts) (C := RX6) (T := TX6) (N := 6) hx hb hts qi_X6_takeBack_X6 hown hK hP 0 rfl rfl 1 (by decide) (hts _ ql_X6_takeBack_15) (fun _ h9 => h9) rfl dX6_takeBack_12 ?_
    refine lv_iconst (v := (1 : Int32)) hx hb dX6_takeBack_15 (by decide) ?_
    refine lv_isub hx hb dX6_takeBack_16 ?_
    obtain ⟨h3, hV⟩ := hV
    refine va_iald hx hb hK hP 1 0 rfl rfl h3 dX6_takeBack_17 ?_
    refine lv_aload_n hx hb dX6_takeBack_18 rfl (lv_at hl 0 rfl) ?_
    refine va_get (D := (dC, dI)) (ci := 6) (v := .int z_walked) (C := RX6) (T := TX6) (N := 6) hx hb hts qi_X6_takeBack_X6 hown hK hP 0 rfl rfl 0 (by decide) (hts _ ql_X6_takeBack_9) (fun _ h9 => h9) rfl dX6_takeBack_19 ?_
    refine lv_icmp_ne (tgt := 38) hx hb dX6_takeBack_22 (by decide) (fun c4 => ?_) (fun c4 => ?_)
    · have hV := hV.2 c4
      exact qt_X6_takeBack_J38 C0 hK hN hA z_walked z_counts z_undoable z_behind _ H locs ls hV hP hD hS (lv_sub hl [0] rfl)
    · have hV := hV.1 c4
      refine lv_aload_n hx hb dX6_takeBack_25 rfl (lv_at hl 0 rfl) ?_
      refine lv_dup hx hb dX6_takeBack_26 rfl ?_
      refine va_get (D := (dC, dI)) (ci := 6) (v := .int z_counts) (C := RX6) (T := TX6) (N := 6) hx hb hts qi_X6_takeBack_X6 hown hK hP 0 rfl rfl 1 (by decide) (hts _ ql_X6_takeBack_15) (fun _ h9 => h9) rfl dX6_takeBack_27 ?_
      refine lv_iconst (v := (1 : Int32)) hx hb dX6_takeBack_30 (by decide) ?_
      refine lv_isub hx hb dX6_takeBack_31 ?_
      refine va_put (D := (dC, dI)) (ci := 6) (v := .int (z_counts - (1 : Int32))) (ty := .int) (C := RX6) (T := TX6) (N := 6) hx hb hts qi_X6_takeBack_X6 tyX6 tyX6_ok nmX6 hown hK hP hD hS 0 rfl rfl 1 (by decide) (hts _ ql_X6_takeBack_15) (fun _ h9 => h9) rfl (by decide +kernel) rfl rfl (Nat.le_of_ble_eq_true rfl) dX6_takeBack_32 (fun H locs hP hD hS => ?_)
      have hP : va_P (dC, dI) vwCl (qw_X6_takeBack cI cJ cC cG cW a_this a_this_behind a_this_sorts a_this_tells z_walked (z_counts - (1 : Int32)) z_undoable z_behind) H := hP
      have hD : va_D A (qw_X6_takeBack cI cJ cC cG cW a_this a_this_behind a_this_sorts a_this_tells z_walked (z_counts - (1 : Int32)) z_undoable z_behind) := hD
      refine lv_goto (tgt := 55) hx hb dX6_takeBack_35 (by decide) ?_
      exact qt_X6_takeBack_J55 C0 hK hN hA z_walked (z_counts - (1 : Int32)) z_undoable z_behind _ H locs ls hV hP hD hS (lv_sub hl [0] rfl)

/-! StileCounts$Way.become(LStileCounts$Way;)V -/
abbrev qw_X6_become (cI cJ cC cG cW : ClassId) (a_this a_this_behind a_this_sorts a_this_tells a_p0 a_p0_behind a_p0_sorts a_p0_tells : Nat) (z_walked : Int32) (z_counts : Int32) (z_undoable : Int32) (z_p0_walked : Int32) (z_p0_counts : Int32) (z_p0_undoable : Int32) (z_behind : Nat → Int32) (z_sorts : Nat → Int32) (z_tells : Nat → Int32) (z_p0_behind : Nat → Int32) (z_p0_sorts : Nat → Int32) (z_p0_tells : Nat → Int32) : va_W := [(a_this, .inr (6, [.int z_walked, .int z_counts, .ref a_this_behind, .ref a_this_sorts, .ref a_this_tells, .int z_undoable])), (a_p0, .inr (6, [.int z_p0_walked, .int z_p0_counts, .ref a_p0_behind, .ref a_p0_sorts, .ref a_p0_tells, .int z_p0_undoable])), (a_this_behind, .inl (cI, 6, .inl z_behind)), (a_this_sorts, .inl (cI, 6, .inl z_sorts)), (a_this_tells, .inl (cI, 6, .inl z_tells)), (a_p0_behind, .inl (cI, 6, .inl z_p0_behind)), (a_p0_sorts, .inl (cI, 6, .inl z_p0_sorts)), (a_p0_tells, .inl (cI, 6, .inl z_p0_tells))]
theorem qi_X6_become_X6 : ∀ w ∈ wsX60, w ∈ wsX6_become := by decide +kernel
theorem ql_X6_become_9 : (.fieldLink RX6 9 "StileCounts$Way" "walked" "I" : Cond) ∈ wsX6_become := by decide +kernel
theorem ql_X6_become_15 : (.fieldLink RX6 15 "StileCounts$Way" "counts" "I" : Cond) ∈ wsX6_become := by decide +kernel
theorem ql_X6_become_28 : (.fieldLink RX6 28 "StileCounts$Way" "undoable" "I" : Cond) ∈ wsX6_become := by decide +kernel
theorem ql_X6_become_18 : (.fieldLink RX6 18 "StileCounts$Way" "behind" "[I" : Cond) ∈ wsX6_become := by decide +kernel
theorem ql_X6_become_22 : (.fieldLink RX6 22 "StileCounts$Way" "sorts" "[I" : Cond) ∈ wsX6_become := by decide +kernel
theorem ql_X6_become_25 : (.fieldLink RX6 25 "StileCounts$Way" "tells" "[I" : Cond) ∈ wsX6_become := by decide +kernel
def qv_X6_become_L26 (z_walked : Int32) (z_counts : Int32) (z_undoable : Int32) (z_p0_walked : Int32) (z_p0_counts : Int32) (z_p0_undoable : Int32) (z_p0_behind : Nat → Int32) (z_p0_sorts : Nat → Int32) (z_p0_tells : Nat → Int32) (Post : (Int32) → (Int32) → (Int32) → (Nat → Int32) → (Nat → Int32) → (Nat → Int32) → Prop) (E : (Nat → Int32) → (Nat → Int32) → (Nat → Int32) → Prop) : Nat → (Int32) → (Nat → Int32) → (Nat → Int32) → (Nat → Int32) → Prop
  | 0, _, _, _, _ => False
  | n + 1, x2, z_behind, z_sorts, z_tells => ((6 : Int32) ≤ x2 → E z_behind z_sorts z_tells) ∧ (¬ (6 : Int32) ≤ x2 → vp_in x2 6 ∧ (vp_in x2 6 ∧ (vp_in x2 6 ∧ (vp_in x2 6 ∧ (vp_in x2 6 ∧ (vp_in x2 6 ∧ (qv_X6_become_L26 z_walked z_counts z_undoable z_p0_walked z_p0_counts z_p0_undoable z_p0_behind z_p0_sorts z_p0_tells Post E n (x2 + (1 : Int32)) (upd z_behind x2.toNatClampNeg (z_p0_behind x2.toNatClampNeg)) (upd z_sorts x2.toNatClampNeg (z_p0_sorts x2.toNatClampNeg)) (upd z_tells x2.toNatClampNeg (z_p0_tells x2.toNatClampNeg)))))))))
set_option maxHeartbeats 4000000 in
set_option maxRecDepth 100000 in
theorem qt_X6_become_L26 {p : Program} {l : Launch} {e : Env} {s : State} {m : MethodId} {args : Array Value} {below : List Frame} {meth : Method} {c : Code} {dC : Nat → ClassId} {dI : Nat → Nat → Nat} {cI cJ cC cG cW : ClassId} {a_this a_this_behind a_this_sorts a_this_tells a_p0 a_p0_behind a_p0_sorts a_p0_tells : Nat} {A : Nat → Prop} (C0 : MC cX6_become 3 none RX6 wsX6_become p s m args meth c) (hK : va_K (dC, dI) vwCl (tyL cI cJ cC cG cW) s) (hN : NW s) (hA : ∀ q, s.heap.size ≤ q → A q) (z_walked : Int32) (z_counts : Int32) (z_undoable : Int32) (z_p0_walked : Int32) (z_p0_counts : Int32) (z_p0_undoable : Int32) (z_p0_behind : Nat → Int32) (z_p0_sorts : Nat → Int32) (z_p0_tells : Nat → Int32) (Post : (Int32) → (Int32) → (Int32) → (Nat → Int32) → (Nat → Int32) → (Nat → Int32) → Prop) (E : (Nat → Int32) → (Nat → Int32) → (Nat → Int32) → Prop) (hE : ∀ (z_behind : Nat → Int32) (z_sorts : Nat → Int32) (z_tells : Nat → Int32) (H : Heap) (locs : List Loc) (ls : Array Slot), E z_behind z_sorts z_tells → va_P (dC, dI) vwCl (qw_X6_become cI cJ cC cG cW a_this a_this_behind a_this_sorts a_this_tells a_p0 a_p0_behind a_p0_sorts a_p0_tells z_walked z_counts z_undoable z_p0_walked z_p0_counts z_p0_undoable z_behind z_sorts z_tells z_p0_behind z_p0_sorts z_p0_tells) H → va_D A (qw_X6_become cI cJ cC cG cW a_this a_this_behind a_this_sorts a_this_tells a_p0 a_p0_behind a_p0_sorts a_p0_tells z_walked z_counts z_undoable z_p0_walked z_p0_counts z_p0_undoable z_behind z_sorts z_tells z_p0_behind z_p0_sorts z_p0_tells) → va_S A s.heap H locs → lv_has ls 3 [] → W p l e ({ frames := 0, cells := 0, slots := 0, locals := 0 } : Room) s m args below meth c H locs 0 0 (MQ below (va_Qv (fun (u : (Int32) × (Int32) × (Int32) × (Nat → Int32) × (Nat → Int32) × (Nat → Int32)) => Post u.1 u.2.1 u.2.2.1 u.2.2.2.1 u.2.2.2.2.1 u.2.2.2.2.2) (fun u t => poW (dC, dI) (tyL cI cJ cC cG cW) A (qw_X6_become cI cJ cC cG cW a_this a_this_behind a_this_sorts a_this_tells a_p0 a_p0_behind a_p0_sorts a_p0_tells u.1 u.2.1 u.2.2.1 z_p0_walked z_p0_counts z_p0_undoable u.2.2.2.1 u.2.2.2.2.1 u.2.2.2.2.2 z_p0_behind z_p0_sorts z_p0_tells) t) A) args s 0 0 A) (F0 m 74 ls [])) : ∀ (n : Nat) (x2 : Int32) (z_behind : Nat → Int32) (z_sorts : Nat → Int32) (z_tells : Nat → Int32) (H : Heap) (locs : List Loc) (ls : Array Slot), qv_X6_become_L26 z_walked z_counts z_undoable z_p0_walked z_p0_counts z_p0_undoable z_p0_behind z_p0_sorts z_p0_tells Post E n x2 z_behind z_sorts z_tells → va_P (dC, dI) vwCl (qw_X6_become cI cJ cC cG cW a_this a_this_behind a_this_sorts a_this_tells a_p0 a_p0_behind a_p0_sorts a_p0_tells z_walked z_counts z_undoable z_p0_walked z_p0_counts z_p0_undoable z_behind z_sorts z_tells z_p0_behind z_p0_sorts z_p0_tells) H → va_D A (qw_X6_become cI cJ cC cG cW a_this a_this_behind a_this_sorts a_this_tells a_p0 a_p0_behind a_p0_sorts a_p0_tells z_walked z_counts z_undoable z_p0_walked z_p0_counts z_p0_undoable z_behind z_sorts z_tells z_p0_behind z_p0_sorts z_p0_tells) → va_S A s.heap H locs → lv_has ls 3 [(0, .ref a_this), (1, .ref a_p0), (2, .int x2)] → W p l e ({ frames := 0, cells := 0, slots := 0, locals := 0 } : Room) s m args below meth c H locs 0 0 (MQ below (va_Qv (fun (u : (Int32) × (Int32) × (Int32) × (Nat → Int32) × (Nat → Int32) × (Nat → Int32)) => Post u.1 u.2.1 u.2.2.1 u.2.2.2.1 u.2.2.2.2.1 u.2.2.2.2.2) (fun u t => poW (dC, dI) (tyL cI cJ cC cG cW) A (qw_X6_become cI cJ cC cG cW a_this a_this_behind a_this_sorts a_this_tells a_p0 a_p0_behind a_p0_sorts a_p0_tells u.1 u.2.1 u.2.2.1 z_p0_walked z_p0_counts z_p0_undoable u.2.2.2.1 u.2.2.2.2.1 u.2.2.2.2.2 z_p0_behind z_p0_sorts z_p0_tells) t) A) args s 0 0 A) (F0 m 26 ls []) := by
  obtain ⟨hx, hb, hr, hml, hown, hts, hlocks⟩ := id C0
  intro n
  induction n with
  | zero =>
    intro x2 z_behind z_sorts z_tells H locs ls hV
    exact False.elim hV
  | succ n ih =>
    intro x2 z_behind z_sorts z_tells H locs ls hV hP hD hS hl
    refine lv_iload_n hx hb dX6_become_26 rfl (lv_at hl 2 rfl) ?_
    refine lv_bipush (v := (6 : Int32)) hx hb dX6_become_27 (by decide) ?_
    refine lv_icmp_ge (tgt := 74) hx hb dX6_become_29 (by decide) (fun c1 => ?_) (fun c1 => ?_)
    · have hV := hV.1 c1
      exact hE z_behind z_sorts z_tells H locs ls hV hP hD hS (lv_sub hl [] rfl)
    · have hV := hV.2 c1
      refine lv_aload_n hx hb dX6_become_32 rfl (lv_at hl 0 rfl) ?_
      refine va_get (D := (dC, dI)) (ci := 6) (v := .ref a_this_behind) (C := RX6) (T := TX6) (N := 6) hx hb hts qi_X6_become_X6 hown hK hP 0 rfl rfl 2 (by decide) (hts _ ql_X6_become_18) (fun _ h9 => h9) rfl dX6_become_33 ?_
      refine lv_iload_n hx hb dX6_become_36 rfl (lv_at hl 2 rfl) ?_
      refine lv_aload_n hx hb dX6_become_37 rfl (lv_at hl 1 rfl) ?_
      refine va_get (D := (dC, dI)) (ci := 6) (v := .ref a_p0_behind) (C := RX6) (T := TX6) (N := 6) hx hb hts qi_X6_become_X6 hown hK hP 1 rfl rfl 2 (by decide) (hts _ ql_X6_become_18) (fun _ h9 => h9) rfl dX6_become_38 ?_
      refine lv_iload_n hx hb dX6_become_41 rfl (lv_at hl 2 rfl) ?_
      obtain ⟨h2, hV⟩ := hV
      refine va_iald hx hb hK hP 5 0 rfl rfl h2 dX6_become_42 ?_
      obtain ⟨h3, hV⟩ := hV
      refine va_iast hx hb hK hP hD hS 2 0 rfl rfl h3 dX6_become_43 (fun H locs hP hD hS => ?_)
      have hP : va_P (dC, dI) vwCl (qw_X6_become cI cJ cC cG cW a_this a_this_behind a_this_sorts a_this_tells a_p0 a_p0_behind a_p0_sorts a_p0_tells z_walked z_counts z_undoable z_p0_walked z_p0_counts z_p0_undoable (upd z_behind x2.toNatClampNeg (z_p0_behind x2.toNatClampNeg)) z_sorts z_tells z_p0_behind z_p0_sorts z_p0_tells) H := hP
      have hD : va_D A (qw_X6_become cI cJ cC cG cW a_this a_this_behind a_this_sorts a_this_tells a_p0 a_p0_behind a_p0_sorts a_p0_tells z_walked z_counts z_undoable z_p0_walked z_p0_counts z_p0_undoable (upd z_behind x2.toNatClampNeg (z_p0_behind x2.toNatClampNeg)) z_sorts z_tells z_p0_behind z_p0_sorts z_p0_tells) := hD
      refine lv_aload_n hx hb dX6_become_44 rfl (lv_at hl 0 rfl) ?_
      refine va_get (D := (dC, dI)) (ci := 6) (v := .ref a_this_sorts) (C := RX6) (T := TX6) (N := 6) hx hb hts qi_X6_become_X6 hown hK hP 0 rfl rfl 3 (by decide) (hts _ ql_X6_become_22) (fun _ h9 => h9) rfl dX6_become_45 ?_
      refine lv_iload_n hx hb dX6_become_48 rfl (lv_at hl 2 rfl) ?_
      refine lv_aload_n hx hb dX6_become_49 rfl (lv_at hl 1 rfl) ?_
      refine va_get (D := (dC, dI)) (ci := 6) (v := .ref a_p0_sorts) (C := RX6) (T := TX6) (N := 6) hx hb hts qi_X6_become_X6 hown hK hP 1 rfl rfl 3 (by decide) (hts _ ql_X6_become_22) (fun _ h9 => h9) rfl dX6_become_50 ?_
      refine lv_iload_n hx hb dX6_become_53 rfl (lv_at hl 2 rfl) ?_
      obtain ⟨h4, hV⟩ := hV
      refine va_iald hx hb hK hP 6 0 rfl rfl h4 dX6_become_54 ?_
      obtain ⟨h5, hV⟩ := hV
      refine va_iast hx hb hK hP hD hS 3 0 rfl rfl h5 dX6_become_55 (fun H locs hP hD hS => ?_)
      have hP : va_P (dC, dI) vwCl (qw_X6_become cI cJ cC cG cW a_this a_this_behind a_this_sorts a_this_tells a_p0 a_p0_behind a_p0_sorts a_p0_tells z_walked z_counts z_undoable z_p0_walked z_p0_counts z_p0_undoable (upd z_behind x2.toNatClampNeg (z_p0_behind x2.toNatClampNeg)) (upd z_sorts x2.toNatClampNeg (z_p0_sorts x2.toNatClampNeg)) z_tells z_p0_behind z_p0_sorts z_p0_tells) H := hP
      have hD : va_D A (qw_X6_become cI cJ cC cG cW a_this a_this_behind a_this_sorts a_this_tells a_p0 a_p0_behind a_p0_sorts a_p0_tells z_walked z_counts z_undoable z_p0_walked z_p0_counts z_p0_undoable (upd z_behind x2.toNatClampNeg (z_p0_behind x2.toNatClampNeg)) (upd z_sorts x2.toNatClampNeg (z_p0_sorts x2.toNatClampNeg)) z_tells z_p0_behind z_p0_sorts z_p0_tells) := hD
      refine lv_aload_n hx hb dX6_become_56 rfl (lv_at hl 0 rfl) ?_
      refine va_get (D := (dC, dI)) (ci := 6) (v := .ref a_this_tells) (C := RX6) (T := TX6) (N := 6) hx hb hts qi_X6_become_X6 hown hK hP 0 rfl rfl 4 (by decide) (hts _ ql_X6_become_25) (fun _ h9 => h9) rfl dX6_become_57 ?_
      refine lv_iload_n hx hb dX6_become_60 rfl (lv_at hl 2 rfl) ?_
      refine lv_aload_n hx hb dX6_become_61 rfl (lv_at hl 1 rfl) ?_
      refine va_get (D := (dC, dI)) (ci := 6) (v := .ref a_p0_tells) (C := RX6) (T := TX6) (N := 6) hx hb hts qi_X6_become_X6 hown hK hP 1 rfl rfl 4 (by decide) (hts _ ql_X6_become_25) (fun _ h9 => h9) rfl dX6_become_62 ?_
      refine lv_iload_n hx hb dX6_become_65 rfl (lv_at hl 2 rfl) ?_
      obtain ⟨h6, hV⟩ := hV
      refine va_iald hx hb hK hP 7 0 rfl rfl h6 dX6_become_66 ?_
      obtain ⟨h7, hV⟩ := hV
      refine va_iast hx hb hK hP hD hS 4 0 rfl rfl h7 dX6_become_67 (fun H locs hP hD hS => ?_)
      have hP : va_P (dC, dI) vwCl (qw_X6_become cI cJ cC cG cW a_this a_this_behind a_this_sorts a_this_tells a_p0 a_p0_behind a_p0_sorts a_p0_tells z_walked z_counts z_undoable z_p0_walked z_p0_counts z_p0_undoable (upd z_behind x2.toNatClampNeg (z_p0_behind x2.toNatClampNeg)) (upd z_sorts x2.toNatClampNeg (z_p0_sorts x2.toNatClampNeg)) (upd z_tells x2.toNatClampNeg (z_p0_tells x2.toNatClampNeg)) z_p0_behind z_p0_sorts z_p0_tells) H := hP
      have hD : va_D A (qw_X6_become cI cJ cC cG cW a_this a_this_behind a_this_sorts a_this_tells a_p0 a_p0_behind a_p0_sorts a_p0_tells z_walked z_counts z_undoable z_p0_walked z_p0_counts z_p0_undoable (upd z_behind x2.toNatClampNeg (z_p0_behind x2.toNatClampNeg)) (upd z_sorts x2.toNatClampNeg (z_p0_sorts x2.toNatClampNeg)) (upd z_tells x2.toNatClampNeg (z_p0_tells x2.toNatClampNeg)) z_p0_behind z_p0_sorts z_p0_tells) := hD
      refine lv_iinc (v := (x2 + (1 : Int32))) (lv' := [(2, .int (x2 + (1 : Int32))), (0, .ref a_this), (1, .ref a_p0)]) hx hb dX6_become_68 hl (k := 2) rfl rfl (by decide) rfl (fun ls hl => ?_)
      refine lv_goto (tgt := 26) hx hb dX6_become_71 (by decide) ?_
      exact ih (x2 + (1 : Int32)) (upd z_behind x2.toNatClampNeg (z_p0_behind x2.toNatClampNeg)) (upd z_sorts x2.toNatClampNeg (z_p0_sorts x2.toNatClampNeg)) (upd z_tells x2.toNatClampNeg (z_p0_tells x2.toNatClampNeg)) H locs ls hV hP hD hS (lv_sub hl [1, 2, 0] rfl)
def qv_X6_become (z_walked : Int32) (z_counts : Int32) (z_undoable : Int32) (z_p0_walked : Int32) (z_p0_counts : Int32) (z_p0_undoable : Int32) (z_behind : Nat → Int32) (z_sorts : Nat → Int32) (z_tells : Nat → Int32) (z_p0_behind : Nat → Int32) (z_p0_sorts : Nat → Int32) (z_p0_tells : Nat → Int32) (Post : (Int32) → (Int32) → (Int32) → (Nat → Int32) → (Nat → Int32) → (Nat → Int32) → Prop) : Prop := ∃ n8, qv_X6_become_L26 z_p0_walked z_p0_counts z_p0_undoable z_p0_walked z_p0_counts z_p0_undoable z_p0_behind z_p0_sorts z_p0_tells Post (fun z_behind_8 z_sorts_8 z_tells_8 => Post z_p0_walked z_p0_counts z_p0_undoable z_behind_8 z_sorts_8 z_tells_8) n8 (0 : Int32) z_behind z_sorts z_tells
set_option maxHeartbeats 4000000 in
set_option maxRecDepth 100000 in
theorem qm_X6_become (l : Launch) (dC : Nat → ClassId) (dI : Nat → Nat → Nat) (cI cJ cC cG cW : ClassId) (a_this a_this_behind a_this_sorts a_this_tells a_p0 a_p0_behind a_p0_sorts a_p0_tells : Nat) (z_walked : Int32) (z_counts : Int32) (z_undoable : Int32) (z_p0_walked : Int32) (z_p0_counts : Int32) (z_p0_undoable : Int32) (z_behind : Nat → Int32) (z_sorts : Nat → Int32) (z_tells : Nat → Int32) (z_p0_behind : Nat → Int32) (z_p0_sorts : Nat → Int32) (z_p0_tells : Nat → Int32) (sz : Nat) (Post : (Int32) → (Int32) → (Int32) → (Nat → Int32) → (Nat → Int32) → (Nat → Int32) → Prop) (hV : qv_X6_become z_walked z_counts z_undoable z_p0_walked z_p0_counts z_p0_undoable z_behind z_sorts z_tells z_p0_behind z_p0_sorts z_p0_tells Post) : Met l yX6_become wsX6_become ({ frames := 0, cells := 0, slots := 0, locals := 0 } : Room) (va_Pc [.ref a_this, .ref a_p0] (prW (dC, dI) (qw_X6_become cI cJ cC cG cW a_this a_this_behind a_this_sorts a_this_tells a_p0 a_p0_behind a_p0_sorts a_p0_tells z_walked z_counts z_undoable z_p0_walked z_p0_counts z_p0_undoable z_behind z_sorts z_tells z_p0_behind z_p0_sorts z_p0_tells) (tyL cI cJ cC cG cW) sz)) (va_Qv (fun (u : (Int32) × (Int32) × (Int32) × (Nat → Int32) × (Nat → Int32) × (Nat → Int32)) => Post u.1 u.2.1 u.2.2.1 u.2.2.2.1 u.2.2.2.2.1 u.2.2.2.2.2) (fun u t => poW (dC, dI) (tyL cI cJ cC cG cW) (va_A (qw_X6_become cI cJ cC cG cW a_this a_this_behind a_this_sorts a_this_tells a_p0 a_p0_behind a_p0_sorts a_p0_tells z_walked z_counts z_undoable z_p0_walked z_p0_counts z_p0_undoable z_behind z_sorts z_tells z_p0_behind z_p0_sorts z_p0_tells) sz) (qw_X6_become cI cJ cC cG cW a_this a_this_behind a_this_sorts a_this_tells a_p0 a_p0_behind a_p0_sorts a_p0_tells u.1 u.2.1 u.2.2.1 z_p0_walked z_p0_counts z_p0_undoable u.2.2.2.1 u.2.2.2.2.1 u.2.2.2.2.2 z_p0_behind z_p0_sorts z_p0_tells) t) (va_A (qw_X6_become cI cJ cC cG cW a_this a_this_behind a_this_sorts a_this_tells a_p0 a_p0_behind a_p0_sorts a_p0_tells z_walked z_counts z_undoable z_p0_walked z_p0_counts z_p0_undoable z_behind z_sorts z_tells z_p0_behind z_p0_sorts z_p0_tells) sz)) 0 0 (va_A (qw_X6_become cI cJ cC cG cW a_this a_this_behind a_this_sorts a_this_tells a_p0 a_p0_behind a_p0_sorts a_p0_tells z_walked z_counts z_undoable z_p0_walked z_p0_counts z_p0_undoable z_behind z_sorts z_tells z_p0_behind z_p0_sorts z_p0_tells) sz) := by
  refine Met.ofM (Qc := fun A => va_Qv (fun (u : (Int32) × (Int32) × (Int32) × (Nat → Int32) × (Nat → Int32) × (Nat → Int32)) => Post u.1 u.2.1 u.2.2.1 u.2.2.2.1 u.2.2.2.2.1 u.2.2.2.2.2) (fun u t => poW (dC, dI) (tyL cI cJ cC cG cW) A (qw_X6_become cI cJ cC cG cW a_this a_this_behind a_this_sorts a_this_tells a_p0 a_p0_behind a_p0_sorts a_p0_tells u.1 u.2.1 u.2.2.1 z_p0_walked z_p0_counts z_p0_undoable u.2.2.2.1 u.2.2.2.2.1 u.2.2.2.2.2 z_p0_behind z_p0_sorts z_p0_tells) t) A) (nm := "become") (ds := "(LStileCounts$Way;)V") (own := RX6) (maxL := 3) (cc := cX6_become) (ret := none) (by decide) rfl rfl (Nat.le_of_ble_eq_true rfl) (fun p e s m below meth c A C0 hin hK hN hA hP hD hS ls hl => ?_)
  obtain ⟨hx, hb, hr, hml, hown, hts, hlocks⟩ := id C0
  have hl : lv_has ls 3 [(0, .ref a_this), (1, .ref a_p0)] := hl
  obtain ⟨H, hH⟩ : ∃ h : Heap, h = s.heap := ⟨_, rfl⟩
  obtain ⟨locs, hLc⟩ : ∃ L : List Loc, L = [] := ⟨_, rfl⟩
  have hS : va_S A s.heap H locs := by rw [hH, hLc]; exact hS
  rw [← hH] at hP
  rw [← hLc, ← hH]
  clear hH hLc
  refine lv_aload_n hx hb dX6_become_0 rfl (lv_at hl 0 rfl) ?_
  refine lv_aload_n hx hb dX6_become_1 rfl (lv_at hl 1 rfl) ?_
  refine va_get (D := (dC, dI)) (ci := 6) (v := .int z_p0_walked) (C := RX6) (T := TX6) (N := 6) hx hb hts qi_X6_become_X6 hown hK hP 1 rfl rfl 0 (by decide) (hts _ ql_X6_become_9) (fun _ h9 => h9) rfl dX6_become_2 ?_
  refine va_put (D := (dC, dI)) (ci := 6) (v := .int z_p0_walked) (ty := .int) (C := RX6) (T := TX6) (N := 6) hx hb hts qi_X6_become_X6 tyX6 tyX6_ok nmX6 hown hK hP hD hS 0 rfl rfl 0 (by decide) (hts _ ql_X6_become_9) (fun _ h9 => h9) rfl (by decide +kernel) rfl rfl (Nat.le_of_ble_eq_true rfl) dX6_become_5 (fun H locs hP hD hS => ?_)
  have hP : va_P (dC, dI) vwCl (qw_X6_become cI cJ cC cG cW a_this a_this_behind a_this_sorts a_this_tells a_p0 a_p0_behind a_p0_sorts a_p0_tells z_p0_walked z_counts z_undoable z_p0_walked z_p0_counts z_p0_undoable z_behind z_sorts z_tells z_p0_behind z_p0_sorts z_p0_tells) H := hP
  have hD : va_D A (qw_X6_become cI cJ cC cG cW a_this a_this_behind a_this_sorts a_this_tells a_p0 a_p0_behind a_p0_sorts a_p0_tells z_p0_walked z_counts z_undoable z_p0_walked z_p0_counts z_p0_undoable z_behind z_sorts z_tells z_p0_behind z_p0_sorts z_p0_tells) := hD
  refine lv_aload_n hx hb dX6_become_8 rfl (lv_at hl 0 rfl) ?_
  refine lv_aload_n hx hb dX6_become_9 rfl (lv_at hl 1 rfl) ?_
  refine va_get (D := (dC, dI)) (ci := 6) (v := .int z_p0_counts) (C := RX6) (T := TX6) (N := 6) hx hb hts qi_X6_become_X6 hown hK hP 1 rfl rfl 1 (by decide) (hts _ ql_X6_become_15) (fun _ h9 => h9) rfl dX6_become_10 ?_
  refine va_put (D := (dC, dI)) (ci := 6) (v := .int z_p0_counts) (ty := .int) (C := RX6) (T := TX6) (N := 6) hx hb hts qi_X6_become_X6 tyX6 tyX6_ok nmX6 hown hK hP hD hS 0 rfl rfl 1 (by decide) (hts _ ql_X6_become_15) (fun _ h9 => h9) rfl (by decide +kernel) rfl rfl (Nat.le_of_ble_eq_true rfl) dX6_become_13 (fun H locs hP hD hS => ?_)
  have hP : va_P (dC, dI) vwCl (qw_X6_become cI cJ cC cG cW a_this a_this_behind a_this_sorts a_this_tells a_p0 a_p0_behind a_p0_sorts a_p0_tells z_p0_walked z_p0_counts z_undoable z_p0_walked z_p0_counts z_p0_undoable z_behind z_sorts z_tells z_p0_behind z_p0_sorts z_p0_tells) H := hP
  have hD : va_D A (qw_X6_become cI cJ cC cG cW a_this a_this_behind a_this_sorts a_this_tells a_p0 a_p0_behind a_p0_sorts a_p0_tells z_p0_walked z_p0_counts z_undoable z_p0_walked z_p0_counts z_p0_undoable z_behind z_sorts z_tells z_p0_behind z_p0_sorts z_p0_tells) := hD
  refine lv_aload_n hx hb dX6_become_16 rfl (lv_at hl 0 rfl) ?_
  refine lv_aload_n hx hb dX6_become_17 rfl (lv_at hl 1 rfl) ?_
  refine va_get (D := (dC, dI)) (ci := 6) (v := .int z_p0_undoable) (C := RX6) (T := TX6) (N := 6) hx hb hts qi_X6_become_X6 hown hK hP 1 rfl rfl 5 (by decide) (hts _ ql_X6_become_28) (fun _ h9 => h9) rfl dX6_become_18 ?_
  refine va_put (D := (dC, dI)) (ci := 6) (v := .int z_p0_undoable) (ty := .int) (C := RX6) (T := TX6) (N := 6) hx hb hts qi_X6_become_X6 tyX6 tyX6_ok nmX6 hown hK hP hD hS 0 rfl rfl 5 (by decide) (hts _ ql_X6_become_28) (fun _ h9 => h9) rfl (by decide +kernel) rfl rfl (Nat.le_of_ble_eq_true rfl) dX6_become_21 (fun H locs hP hD hS => ?_)
  have hP : va_P (dC, dI) vwCl (qw_X6_become cI cJ cC cG cW a_this a_this_behind a_this_sorts a_this_tells a_p0 a_p0_behind a_p0_sorts a_p0_tells z_p0_walked z_p0_counts z_p0_undoable z_p0_walked z_p0_counts z_p0_undoable z_behind z_sorts z_tells z_p0_behind z_p0_sorts z_p0_tells) H := hP
  have hD : va_D A (qw_X6_become cI cJ cC cG cW a_this a_this_behind a_this_sorts a_this_tells a_p0 a_p0_behind a_p0_sorts a_p0_tells z_p0_walked z_p0_counts z_p0_undoable z_p0_walked z_p0_counts z_p0_undoable z_behind z_sorts z_tells z_p0_behind z_p0_sorts z_p0_tells) := hD
  refine lv_iconst (v := (0 : Int32)) hx hb dX6_become_24 (by decide) ?_
  refine lv_istore_n (lv' := [(2, .int (0 : Int32)), (0, .ref a_this), (1, .ref a_p0)]) hx hb dX6_become_25 rfl hl (by decide) rfl (fun ls hl => ?_)
  obtain ⟨n8, hV⟩ := hV
  refine qt_X6_become_L26 C0 hK hN hA z_p0_walked z_p0_counts z_p0_undoable z_p0_walked z_p0_counts z_p0_undoable z_p0_behind z_p0_sorts z_p0_tells _ _ (fun z_behind_8 z_sorts_8 z_tells_8 H locs ls hV hP hD hS hl => ?_) n8 (0 : Int32) z_behind z_sorts z_tells H locs ls hV hP hD hS (lv_sub hl [1, 2, 0] rfl)
  exact W.vret hx hb hr (fun t ht hW => ⟨⟨(z_p0_walked, z_p0_counts, z_p0_undoable, z_behind_8, z_sorts_8, z_tells_8), rfl, hV, ⟨by rw [ht]; exact hP, va_K.moved hW.alike hK, hD⟩⟩, hS.F ht⟩) hS.2.2 dX6_become_74 hlocks

/-! StileCounts.write(I)I -/
abbrev qw_X7_write (cI cJ cC cG cW : ClassId) (a_this a_this_text a_this_reader a_this_laid a_this_draft a_this_way a_this_kept a_this_chances a_this_choice a_this_pairing a_this_text_letters : Nat) (z_keptWays : Int32) (z_text_length : Int32) (z_text_letters : Nat → Int32) : va_W := [(a_this, .inr (7, [.ref a_this_text, .ref a_this_reader, .ref a_this_laid, .ref a_this_draft, .ref a_this_way, .ref a_this_kept, .int z_keptWays, .ref a_this_chances, .ref a_this_choice, .ref a_this_pairing])), (a_this_text, .inr (5, [.ref a_this_text_letters, .int z_text_length])), (a_this_text_letters, .inl (cC, 200, .inl z_text_letters))]
theorem qi_X7_write_X7 : ∀ w ∈ wsX70, w ∈ wsX7_write := by decide +kernel
theorem ql_X7_write_10 : (.fieldLink RX7 10 "StileCounts" "text" "LStileCounts$Text;" : Cond) ∈ wsX7_write := by decide +kernel
theorem qi_X7_write_X5 : ∀ w ∈ wsX50, w ∈ wsX7_write := by decide +kernel
theorem ql_X7_write_89 : (.fieldLink RX7 89 "StileCounts$Text" "length" "I" : Cond) ∈ wsX7_write := by decide +kernel
def qv_X7_write (x1 : Int32) (z_text_length : Int32) (z_text_letters : Nat → Int32) (Post : Int32 → (Int32) → (Nat → Int32) → Prop) : Prop := (x1 < (32 : Int32) → Post (-1 : Int32) z_text_length z_text_letters) ∧ (¬ x1 < (32 : Int32) → (x1 ≤ (126 : Int32) → (z_text_length < (200 : Int32) → qv_X5_append ((x1.toUInt32 % 65536).toInt32) z_text_length z_text_letters (fun z_text_length_4 z_text_letters_4 => Post z_text_length_4 z_text_length_4 z_text_letters_4)) ∧ (¬ z_text_length < (200 : Int32) → Post (-3 : Int32) z_text_length z_text_letters)) ∧ (¬ x1 ≤ (126 : Int32) → Post (-1 : Int32) z_text_length z_text_letters))
set_option maxHeartbeats 4000000 in
set_option maxRecDepth 100000 in
theorem qm_X7_write (l : Launch) (dC : Nat → ClassId) (dI : Nat → Nat → Nat) (cI cJ cC cG cW : ClassId) (a_this a_this_text a_this_reader a_this_laid a_this_draft a_this_way a_this_kept a_this_chances a_this_choice a_this_pairing a_this_text_letters : Nat) (z_keptWays : Int32) (z_text_length : Int32) (z_text_letters : Nat → Int32) (sz : Nat) (x1 : Int32) (Post : Int32 → (Int32) → (Nat → Int32) → Prop) (hV : qv_X7_write x1 z_text_length z_text_letters Post) : Met l yX7_write wsX7_write ({ frames := 1, cells := 0, slots := 0, locals := 21 } : Room) (va_Pc [.ref a_this, .int x1] (prW (dC, dI) (qw_X7_write cI cJ cC cG cW a_this a_this_text a_this_reader a_this_laid a_this_draft a_this_way a_this_kept a_this_chances a_this_choice a_this_pairing a_this_text_letters z_keptWays z_text_length z_text_letters) (tyL cI cJ cC cG cW) sz)) (va_Qi (fun (r : Int32) (u : (Int32) × (Nat → Int32)) => Post r u.1 u.2) (fun u t => poW (dC, dI) (tyL cI cJ cC cG cW) (va_A (qw_X7_write cI cJ cC cG cW a_this a_this_text a_this_reader a_this_laid a_this_draft a_this_way a_this_kept a_this_chances a_this_choice a_this_pairing a_this_text_letters z_keptWays z_text_length z_text_letters) sz) (qw_X7_write cI cJ cC cG cW a_this a_this_text a_this_reader a_this_laid a_this_draft a_this_way a_this_kept a_this_chances a_this_choice a_this_pairing a_this_text_letters z_keptWays u.1 u.2) t) (va_A (qw_X7_write cI cJ cC cG cW a_this a_this_text a_this_reader a_this_laid a_this_draft a_this_way a_this_kept a_this_chances a_this_choice a_this_pairing a_this_text_letters z_keptWays z_text_length z_text_letters) sz)) 0 0 (va_A (qw_X7_write cI cJ cC cG cW a_this a_this_text a_this_reader a_this_laid a_this_draft a_this_way a_this_kept a_this_chances a_this_choice a_this_pairing a_this_text_letters z_keptWays z_text_length z_text_letters) sz) := by
  refine Met.ofM (Qc := fun A => va_Qi (fun (r : Int32) (u : (Int32) × (Nat → Int32)) => Post r u.1 u.2) (fun u t => poW (dC, dI) (tyL cI cJ cC cG cW) A (qw_X7_write cI cJ cC cG cW a_this a_this_text a_this_reader a_this_laid a_this_draft a_this_way a_this_kept a_this_chances a_this_choice a_this_pairing a_this_text_letters z_keptWays u.1 u.2) t) A) (nm := "write") (ds := "(I)I") (own := RX7) (maxL := 2) (cc := cX7_write) (ret := (some .int)) (by decide) rfl rfl (Nat.le_of_ble_eq_true rfl) (fun p e s m below meth c A C0 hin hK hN hA hP hD hS ls hl => ?_)
  obtain ⟨hx, hb, hr, hml, hown, hts, hlocks⟩ := id C0
  have hl : lv_has ls 2 [(0, .ref a_this), (1, .int x1)] := hl
  obtain ⟨H, hH⟩ : ∃ h : Heap, h = s.heap := ⟨_, rfl⟩
  obtain ⟨locs, hLc⟩ : ∃ L : List Loc, L = [] := ⟨_, rfl⟩
  have hS : va_S A s.heap H locs := by rw [hH, hLc]; exact hS
  rw [← hH] at hP
  rw [← hLc, ← hH]
  clear hH hLc
  refine lv_iload_n hx hb dX7_write_0 rfl (lv_at hl 1 rfl) ?_
  refine lv_bipush (v := (32 : Int32)) hx hb dX7_write_1 (by decide) ?_
  refine lv_icmp_lt (tgt := 12) hx hb dX7_write_3 (by decide) (fun c1 => ?_) (fun c1 => ?_)
  · have hV := hV.1 c1
    refine lv_iconst (v := (-1 : Int32)) hx hb dX7_write_12 (by decide) ?_
    exact W.iret hx hb hr (fun t ht hW => ⟨⟨_, (z_text_length, z_text_letters), rfl, hV, ⟨by rw [ht]; exact hP, va_K.moved hW.alike hK, hD⟩⟩, hS.F ht⟩) hS.2.2 dX7_write_13 hlocks
  · have hV := hV.2 c1
    refine lv_iload_n hx hb dX7_write_6 rfl (lv_at hl 1 rfl) ?_
    refine lv_bipush (v := (126 : Int32)) hx hb dX7_write_7 (by decide) ?_
    refine lv_icmp_le (tgt := 14) hx hb dX7_write_9 (by decide) (fun c2 => ?_) (fun c2 => ?_)
    · have hV := hV.1 c2
      refine lv_aload_n hx hb dX7_write_14 rfl (lv_at hl 0 rfl) ?_
      refine va_get (D := (dC, dI)) (ci := 7) (v := .ref a_this_text) (C := RX7) (T := TX7) (N := 10) hx hb hts qi_X7_write_X7 hown hK hP 0 rfl rfl 0 (by decide) (hts _ ql_X7_write_10) (fun _ h9 => h9) rfl dX7_write_15 ?_
      refine va_get (D := (dC, dI)) (ci := 5) (v := .int z_text_length) (C := RX5) (T := TX5) (N := 2) hx hb hts qi_X7_write_X5 hown hK hP 1 rfl rfl 1 (by decide) (hts _ ql_X7_write_89) (fun _ h9 => h9) rfl dX7_write_18 ?_
      refine lv_sipush (v := (200 : Int32)) hx hb dX7_write_21 (by decide) ?_
      refine lv_icmp_lt (tgt := 30) hx hb dX7_write_24 (by decide) (fun c3 => ?_) (fun c3 => ?_)
      · have hV := hV.1 c3
        refine lv_aload_n hx hb dX7_write_30 rfl (lv_at hl 0 rfl) ?_
        refine va_get (D := (dC, dI)) (ci := 7) (v := .ref a_this_text) (C := RX7) (T := TX7) (N := 10) hx hb hts qi_X7_write_X7 hown hK hP 0 rfl rfl 0 (by decide) (hts _ ql_X7_write_10) (fun _ h9 => h9) rfl dX7_write_31 ?_
        refine lv_iload_n hx hb dX7_write_34 rfl (lv_at hl 1 rfl) ?_
        refine lv_i2c hx hb dX7_write_35 rfl ?_
        refine kW_v (wc := (qw_X5_append cI cJ cC cG cW a_this_text a_this_text_letters z_text_length z_text_letters)) (wr := List.filterMap (fun (i : Nat) => (qw_X7_write cI cJ cC cG cW a_this a_this_text a_this_reader a_this_laid a_this_draft a_this_way a_this_kept a_this_chances a_this_choice a_this_pairing a_this_text_letters z_keptWays z_text_length z_text_letters)[i]?) [0]) (w1 := fun (u : (Int32) × (Nat → Int32)) => (qw_X5_append cI cJ cC cG cW a_this_text a_this_text_letters u.1 u.2)) (va_runV (As := [.int (x1.toUInt32 % 65536).toInt32]) (rest := []) ⟨hx, hb, hml, hown, hts⟩ (qm_X5_append l dC dI cI cJ cC cG cW a_this_text a_this_text_letters z_text_length z_text_letters H.size ((x1.toUInt32 % 65536).toInt32) _ hV) (cwV 1 hts gX7_write_X5_append rfl rfl rfl (by decide +kernel) ⟨Nat.le_of_ble_eq_true rfl, Nat.le_of_ble_eq_true rfl⟩) (preWV hK hN (hP.sub (ws' := (qw_X5_append cI cJ cC cG cW a_this_text a_this_text_letters z_text_length z_text_letters)) [1, 2] rfl) (hD.sub (ws' := (qw_X5_append cI cJ cC cG cW a_this_text a_this_text_letters z_text_length z_text_letters)) [1, 2] (by decide) rfl) rfl rfl) rfl rfl hl.1 rfl (lv_room (Nat.le_of_ble_eq_true rfl)) dX7_write_36 ⟨Nat.le_of_ble_eq_true rfl, Nat.le_of_ble_eq_true rfl⟩) hP hD hS hA [1, 2] [0] rfl rfl (by decide) (by decide) (fun u H locs hV hP hD hS => ?_)
        obtain ⟨z_text_length_4, z_text_letters_4⟩ := u
        try dsimp only at hV
        have hP := hP.sub (ws' := (qw_X7_write cI cJ cC cG cW a_this a_this_text a_this_reader a_this_laid a_this_draft a_this_way a_this_kept a_this_chances a_this_choice a_this_pairing a_this_text_letters z_keptWays z_text_length_4 z_text_letters_4)) [0, 1, 2] rfl
        have hD := hD.sub (ws' := (qw_X7_write cI cJ cC cG cW a_this a_this_text a_this_reader a_this_laid a_this_draft a_this_way a_this_kept a_this_chances a_this_choice a_this_pairing a_this_text_letters z_keptWays z_text_length_4 z_text_letters_4)) [0, 1, 2] (by decide) rfl
        refine lv_aload_n hx hb dX7_write_39 rfl (lv_at hl 0 rfl) ?_
        refine va_get (D := (dC, dI)) (ci := 7) (v := .ref a_this_text) (C := RX7) (T := TX7) (N := 10) hx hb hts qi_X7_write_X7 hown hK hP 0 rfl rfl 0 (by decide) (hts _ ql_X7_write_10) (fun _ h9 => h9) rfl dX7_write_40 ?_
        refine va_get (D := (dC, dI)) (ci := 5) (v := .int z_text_length_4) (C := RX5) (T := TX5) (N := 2) hx hb hts qi_X7_write_X5 hown hK hP 1 rfl rfl 1 (by decide) (hts _ ql_X7_write_89) (fun _ h9 => h9) rfl dX7_write_43 ?_
        exact W.iret hx hb hr (fun t ht hW => ⟨⟨_, (z_text_length_4, z_text_letters_4), rfl, hV, ⟨by rw [ht]; exact hP, va_K.moved hW.alike hK, hD⟩⟩, hS.F ht⟩) hS.2.2 dX7_write_46 hlocks
      · have hV := hV.2 c3
        refine lv_bipush (v := (-3 : Int32)) hx hb dX7_write_27 (by decide) ?_
        exact W.iret hx hb hr (fun t ht hW => ⟨⟨_, (z_text_length, z_text_letters), rfl, hV, ⟨by rw [ht]; exact hP, va_K.moved hW.alike hK, hD⟩⟩, hS.F ht⟩) hS.2.2 dX7_write_29 hlocks
    · have hV := hV.2 c2
      refine lv_iconst (v := (-1 : Int32)) hx hb dX7_write_12 (by decide) ?_
      exact W.iret hx hb hr (fun t ht hW => ⟨⟨_, (z_text_length, z_text_letters), rfl, hV, ⟨by rw [ht]; exact hP, va_K.moved hW.alike hK, hD⟩⟩, hS.F ht⟩) hS.2.2 dX7_write_13 hlocks

/-! StileCounts.wipe()I -/
abbrev qw_X7_wipe (cI cJ cC cG cW : ClassId) (a_this a_this_text a_this_reader a_this_laid a_this_draft a_this_way a_this_kept a_this_chances a_this_choice a_this_pairing a_this_text_letters : Nat) (z_keptWays : Int32) (z_text_length : Int32) : va_W := [(a_this, .inr (7, [.ref a_this_text, .ref a_this_reader, .ref a_this_laid, .ref a_this_draft, .ref a_this_way, .ref a_this_kept, .int z_keptWays, .ref a_this_chances, .ref a_this_choice, .ref a_this_pairing])), (a_this_text, .inr (5, [.ref a_this_text_letters, .int z_text_length]))]
theorem qi_X7_wipe_X7 : ∀ w ∈ wsX70, w ∈ wsX7_wipe := by decide +kernel
theorem ql_X7_wipe_10 : (.fieldLink RX7 10 "StileCounts" "text" "LStileCounts$Text;" : Cond) ∈ wsX7_wipe := by decide +kernel
theorem qi_X7_wipe_X5 : ∀ w ∈ wsX50, w ∈ wsX7_wipe := by decide +kernel
theorem ql_X7_wipe_89 : (.fieldLink RX7 89 "StileCounts$Text" "length" "I" : Cond) ∈ wsX7_wipe := by decide +kernel
def qv_X7_wipe (z_text_length : Int32) (Post : Int32 → (Int32) → Prop) : Prop := Post z_text_length (0 : Int32)
set_option maxHeartbeats 4000000 in
set_option maxRecDepth 100000 in
theorem qm_X7_wipe (l : Launch) (dC : Nat → ClassId) (dI : Nat → Nat → Nat) (cI cJ cC cG cW : ClassId) (a_this a_this_text a_this_reader a_this_laid a_this_draft a_this_way a_this_kept a_this_chances a_this_choice a_this_pairing a_this_text_letters : Nat) (z_keptWays : Int32) (z_text_length : Int32) (sz : Nat) (Post : Int32 → (Int32) → Prop) (hV : qv_X7_wipe z_text_length Post) : Met l yX7_wipe wsX7_wipe ({ frames := 0, cells := 0, slots := 0, locals := 0 } : Room) (va_Pc [.ref a_this] (prW (dC, dI) (qw_X7_wipe cI cJ cC cG cW a_this a_this_text a_this_reader a_this_laid a_this_draft a_this_way a_this_kept a_this_chances a_this_choice a_this_pairing a_this_text_letters z_keptWays z_text_length) (tyL cI cJ cC cG cW) sz)) (va_Qi (fun (r : Int32) (u : (Int32)) => Post r u) (fun u t => poW (dC, dI) (tyL cI cJ cC cG cW) (va_A (qw_X7_wipe cI cJ cC cG cW a_this a_this_text a_this_reader a_this_laid a_this_draft a_this_way a_this_kept a_this_chances a_this_choice a_this_pairing a_this_text_letters z_keptWays z_text_length) sz) (qw_X7_wipe cI cJ cC cG cW a_this a_this_text a_this_reader a_this_laid a_this_draft a_this_way a_this_kept a_this_chances a_this_choice a_this_pairing a_this_text_letters z_keptWays u) t) (va_A (qw_X7_wipe cI cJ cC cG cW a_this a_this_text a_this_reader a_this_laid a_this_draft a_this_way a_this_kept a_this_chances a_this_choice a_this_pairing a_this_text_letters z_keptWays z_text_length) sz)) 0 0 (va_A (qw_X7_wipe cI cJ cC cG cW a_this a_this_text a_this_reader a_this_laid a_this_draft a_this_way a_this_kept a_this_chances a_this_choice a_this_pairing a_this_text_letters z_keptWays z_text_length) sz) := by
  refine Met.ofM (Qc := fun A => va_Qi (fun (r : Int32) (u : (Int32)) => Post r u) (fun u t => poW (dC, dI) (tyL cI cJ cC cG cW) A (qw_X7_wipe cI cJ cC cG cW a_this a_this_text a_this_reader a_this_laid a_this_draft a_this_way a_this_kept a_this_chances a_this_choice a_this_pairing a_this_text_letters z_keptWays u) t) A) (nm := "wipe") (ds := "()I") (own := RX7) (maxL := 2) (cc := cX7_wipe) (ret := (some .int)) (by decide) rfl rfl (Nat.le_of_ble_eq_true rfl) (fun p e s m below meth c A C0 hin hK hN hA hP hD hS ls hl => ?_)
  obtain ⟨hx, hb, hr, hml, hown, hts, hlocks⟩ := id C0
  have hl : lv_has ls 2 [(0, .ref a_this)] := hl
  obtain ⟨H, hH⟩ : ∃ h : Heap, h = s.heap := ⟨_, rfl⟩
  obtain ⟨locs, hLc⟩ : ∃ L : List Loc, L = [] := ⟨_, rfl⟩
  have hS : va_S A s.heap H locs := by rw [hH, hLc]; exact hS
  rw [← hH] at hP
  rw [← hLc, ← hH]
  clear hH hLc
  refine lv_aload_n hx hb dX7_wipe_0 rfl (lv_at hl 0 rfl) ?_
  refine va_get (D := (dC, dI)) (ci := 7) (v := .ref a_this_text) (C := RX7) (T := TX7) (N := 10) hx hb hts qi_X7_wipe_X7 hown hK hP 0 rfl rfl 0 (by decide) (hts _ ql_X7_wipe_10) (fun _ h9 => h9) rfl dX7_wipe_1 ?_
  refine va_get (D := (dC, dI)) (ci := 5) (v := .int z_text_length) (C := RX5) (T := TX5) (N := 2) hx hb hts qi_X7_wipe_X5 hown hK hP 1 rfl rfl 1 (by decide) (hts _ ql_X7_wipe_89) (fun _ h9 => h9) rfl dX7_wipe_4 ?_
  refine lv_istore_n (lv' := [(1, .int z_text_length), (0, .ref a_this)]) hx hb dX7_wipe_7 rfl hl (by decide) rfl (fun ls hl => ?_)
  refine lv_aload_n hx hb dX7_wipe_8 rfl (lv_at hl 1 rfl) ?_
  refine va_get (D := (dC, dI)) (ci := 7) (v := .ref a_this_text) (C := RX7) (T := TX7) (N := 10) hx hb hts qi_X7_wipe_X7 hown hK hP 0 rfl rfl 0 (by decide) (hts _ ql_X7_wipe_10) (fun _ h9 => h9) rfl dX7_wipe_9 ?_
  refine lv_iconst (v := (0 : Int32)) hx hb dX7_wipe_12 (by decide) ?_
  refine va_put (D := (dC, dI)) (ci := 5) (v := .int (0 : Int32)) (ty := .int) (C := RX5) (T := TX5) (N := 2) hx hb hts qi_X7_wipe_X5 tyX5 tyX5_ok nmX5 hown hK hP hD hS 1 rfl rfl 1 (by decide) (hts _ ql_X7_wipe_89) (fun _ h9 => h9) rfl (by decide +kernel) rfl rfl (Nat.le_of_ble_eq_true rfl) dX7_wipe_13 (fun H locs hP hD hS => ?_)
  have hP : va_P (dC, dI) vwCl (qw_X7_wipe cI cJ cC cG cW a_this a_this_text a_this_reader a_this_laid a_this_draft a_this_way a_this_kept a_this_chances a_this_choice a_this_pairing a_this_text_letters z_keptWays (0 : Int32)) H := hP
  have hD : va_D A (qw_X7_wipe cI cJ cC cG cW a_this a_this_text a_this_reader a_this_laid a_this_draft a_this_way a_this_kept a_this_chances a_this_choice a_this_pairing a_this_text_letters z_keptWays (0 : Int32)) := hD
  refine lv_iload_n hx hb dX7_wipe_16 rfl (lv_at hl 0 rfl) ?_
  exact W.iret hx hb hr (fun t ht hW => ⟨⟨_, ((0 : Int32)), rfl, hV, ⟨by rw [ht]; exact hP, va_K.moved hW.alike hK, hD⟩⟩, hS.F ht⟩) hS.2.2 dX7_wipe_17 hlocks

/-! StileCounts.stretch(II)I -/
abbrev qw_X7_stretch (cI cJ cC cG cW : ClassId) (a_this a_this_text a_this_reader a_this_laid a_this_draft a_this_way a_this_kept a_this_chances a_this_choice a_this_pairing a_this_laid_minutes a_this_laid_lostBy a_this_laid_backBy a_this_laid_slips a_this_laid_takes a_this_laid_ties : Nat) (z_keptWays : Int32) (z_laid_stretches : Int32) (z_laid_costOn : Int32) (z_laid_costBack : Int32) (z_laid_foundBy : Int32) (z_laid_friends : Int32) (z_laid_minutes : Nat → Int32) (z_laid_lostBy : Nat → Int32) (z_laid_backBy : Nat → Int32) : va_W := [(a_this, .inr (7, [.ref a_this_text, .ref a_this_reader, .ref a_this_laid, .ref a_this_draft, .ref a_this_way, .ref a_this_kept, .int z_keptWays, .ref a_this_chances, .ref a_this_choice, .ref a_this_pairing])), (a_this_laid, .inr (2, [.int z_laid_stretches, .ref a_this_laid_minutes, .ref a_this_laid_lostBy, .ref a_this_laid_backBy, .ref a_this_laid_slips, .ref a_this_laid_takes, .int z_laid_costOn, .int z_laid_costBack, .int z_laid_foundBy, .int z_laid_friends, .ref a_this_laid_ties])), (a_this_laid_minutes, .inl (cI, 9, .inl z_laid_minutes)), (a_this_laid_lostBy, .inl (cI, 9, .inl z_laid_lostBy)), (a_this_laid_backBy, .inl (cI, 9, .inl z_laid_backBy))]
theorem qi_X7_stretch_X7 : ∀ w ∈ wsX70, w ∈ wsX7_stretch := by decide +kernel
theorem ql_X7_stretch_26 : (.fieldLink RX7 26 "StileCounts" "laid" "LStileCounts$Laid;" : Cond) ∈ wsX7_stretch := by decide +kernel
theorem qi_X7_stretch_X2 : ∀ w ∈ wsX20, w ∈ wsX7_stretch := by decide +kernel
theorem ql_X7_stretch_98 : (.fieldLink RX7 98 "StileCounts$Laid" "stretches" "I" : Cond) ∈ wsX7_stretch := by decide +kernel
theorem ql_X7_stretch_101 : (.fieldLink RX7 101 "StileCounts$Laid" "minutes" "[I" : Cond) ∈ wsX7_stretch := by decide +kernel
theorem ql_X7_stretch_105 : (.fieldLink RX7 105 "StileCounts$Laid" "lostBy" "[I" : Cond) ∈ wsX7_stretch := by decide +kernel
theorem ql_X7_stretch_108 : (.fieldLink RX7 108 "StileCounts$Laid" "backBy" "[I" : Cond) ∈ wsX7_stretch := by decide +kernel
def qv_X7_stretch (x1 : Int32) (x2 : Int32) (z_laid_stretches : Int32) (z_laid_minutes : Nat → Int32) (z_laid_lostBy : Nat → Int32) (z_laid_backBy : Nat → Int32) (Post : Int32 → Prop) : Prop := (x1 < (1 : Int32) → Post (-1 : Int32)) ∧ (¬ x1 < (1 : Int32) → (x1 ≤ z_laid_stretches → (x2 = (0 : Int32) → vp_in x1 9 ∧ (Post (z_laid_minutes x1.toNatClampNeg))) ∧ (x2 = (1 : Int32) → vp_in x1 9 ∧ (Post (z_laid_lostBy x1.toNatClampNeg))) ∧ (x2 = (2 : Int32) → vp_in x1 9 ∧ (Post (z_laid_backBy x1.toNatClampNeg))) ∧ (((x2).toInt < 0 ∨ 2 < (x2).toInt) → Post (-1 : Int32))) ∧ (¬ x1 ≤ z_laid_stretches → Post (-1 : Int32)))
set_option maxHeartbeats 4000000 in
set_option maxRecDepth 100000 in
theorem qm_X7_stretch (l : Launch) (dC : Nat → ClassId) (dI : Nat → Nat → Nat) (cI cJ cC cG cW : ClassId) (a_this a_this_text a_this_reader a_this_laid a_this_draft a_this_way a_this_kept a_this_chances a_this_choice a_this_pairing a_this_laid_minutes a_this_laid_lostBy a_this_laid_backBy a_this_laid_slips a_this_laid_takes a_this_laid_ties : Nat) (z_keptWays : Int32) (z_laid_stretches : Int32) (z_laid_costOn : Int32) (z_laid_costBack : Int32) (z_laid_foundBy : Int32) (z_laid_friends : Int32) (z_laid_minutes : Nat → Int32) (z_laid_lostBy : Nat → Int32) (z_laid_backBy : Nat → Int32) (x1 : Int32) (x2 : Int32) (Post : Int32 → Prop) (hV : qv_X7_stretch x1 x2 z_laid_stretches z_laid_minutes z_laid_lostBy z_laid_backBy Post) : Met l yX7_stretch wsX7_stretch ({ frames := 0, cells := 0, slots := 0, locals := 0 } : Room) (va_Pc [.ref a_this, .int x1, .int x2] (prR (dC, dI) (qw_X7_stretch cI cJ cC cG cW a_this a_this_text a_this_reader a_this_laid a_this_draft a_this_way a_this_kept a_this_chances a_this_choice a_this_pairing a_this_laid_minutes a_this_laid_lostBy a_this_laid_backBy a_this_laid_slips a_this_laid_takes a_this_laid_ties z_keptWays z_laid_stretches z_laid_costOn z_laid_costBack z_laid_foundBy z_laid_friends z_laid_minutes z_laid_lostBy z_laid_backBy) (tyL cI cJ cC cG cW))) (vp_Si Post) 0 0 (fun _ => False) := by
  refine Met.ofR (nm := "stretch") (ds := "(II)I") (own := RX7) (maxL := 3) (cc := cX7_stretch) (ret := (some .int)) (by decide) rfl rfl (Nat.le_of_ble_eq_true rfl) (fun p e s m below meth c C0 hK hN hP ls hl => ?_)
  obtain ⟨hx, hb, hr, hml, hown, hts, hlocks⟩ := id C0
  have hl : lv_has ls 3 [(0, .ref a_this), (1, .int x1), (2, .int x2)] := hl
  refine lv_iload_n hx hb dX7_stretch_0 rfl (lv_at hl 1 rfl) ?_
  refine lv_iconst (v := (1 : Int32)) hx hb dX7_stretch_1 (by decide) ?_
  refine lv_icmp_lt (tgt := 16) hx hb dX7_stretch_2 (by decide) (fun c1 => ?_) (fun c1 => ?_)
  · have hV := hV.1 c1
    refine lv_iconst (v := (-1 : Int32)) hx hb dX7_stretch_16 (by decide) ?_
    exact W.iret hx hb hr (fun t ht hW => ⟨_, rfl, hV, ht⟩) (fun q h => absurd h List.not_mem_nil) dX7_stretch_17 hlocks
  · have hV := hV.2 c1
    refine lv_iload_n hx hb dX7_stretch_5 rfl (lv_at hl 1 rfl) ?_
    refine lv_aload_n hx hb dX7_stretch_6 rfl (lv_at hl 0 rfl) ?_
    refine va_get (D := (dC, dI)) (ci := 7) (v := .ref a_this_laid) (C := RX7) (T := TX7) (N := 10) hx hb hts qi_X7_stretch_X7 hown hK hP 0 rfl rfl 2 (by decide) (hts _ ql_X7_stretch_26) (fun _ h9 => h9) rfl dX7_stretch_7 ?_
    refine va_get (D := (dC, dI)) (ci := 2) (v := .int z_laid_stretches) (C := RX2) (T := TX2) (N := 11) hx hb hts qi_X7_stretch_X2 hown hK hP 1 rfl rfl 0 (by decide) (hts _ ql_X7_stretch_98) (fun _ h9 => h9) rfl dX7_stretch_10 ?_
    refine lv_icmp_le (tgt := 18) hx hb dX7_stretch_13 (by decide) (fun c2 => ?_) (fun c2 => ?_)
    · have hV := hV.1 c2
      refine lv_iload_n hx hb dX7_stretch_18 rfl (lv_at hl 2 rfl) ?_
      rcases sw_3 x2 with c3 | c3 | c3 | c3
      · have hV := hV.1 c3
        refine lv_tableIn (off := 25) (tgt := 44) hx hb dX7_stretch_19 (by rw [c3]; decide) (by rw [c3]; decide) (by rw [c3]; rfl) (by decide) ?_
        refine lv_aload_n hx hb dX7_stretch_44 rfl (lv_at hl 0 rfl) ?_
        refine va_get (D := (dC, dI)) (ci := 7) (v := .ref a_this_laid) (C := RX7) (T := TX7) (N := 10) hx hb hts qi_X7_stretch_X7 hown hK hP 0 rfl rfl 2 (by decide) (hts _ ql_X7_stretch_26) (fun _ h9 => h9) rfl dX7_stretch_45 ?_
        refine va_get (D := (dC, dI)) (ci := 2) (v := .ref a_this_laid_minutes) (C := RX2) (T := TX2) (N := 11) hx hb hts qi_X7_stretch_X2 hown hK hP 1 rfl rfl 1 (by decide) (hts _ ql_X7_stretch_101) (fun _ h9 => h9) rfl dX7_stretch_48 ?_
        refine lv_iload_n hx hb dX7_stretch_51 rfl (lv_at hl 1 rfl) ?_
        obtain ⟨h4, hV⟩ := hV
        refine va_iald hx hb hK hP 2 0 rfl rfl h4 dX7_stretch_52 ?_
        exact W.iret hx hb hr (fun t ht hW => ⟨_, rfl, hV, ht⟩) (fun q h => absurd h List.not_mem_nil) dX7_stretch_53 hlocks
      · have hV := hV.2.1 c3
        refine lv_tableIn (off := 35) (tgt := 54) hx hb dX7_stretch_19 (by rw [c3]; decide) (by rw [c3]; decide) (by rw [c3]; rfl) (by decide) ?_
        refine lv_aload_n hx hb dX7_stretch_54 rfl (lv_at hl 0 rfl) ?_
        refine va_get (D := (dC, dI)) (ci := 7) (v := .ref a_this_laid) (C := RX7) (T := TX7) (N := 10) hx hb hts qi_X7_stretch_X7 hown hK hP 0 rfl rfl 2 (by decide) (hts _ ql_X7_stretch_26) (fun _ h9 => h9) rfl dX7_stretch_55 ?_
        refine va_get (D := (dC, dI)) (ci := 2) (v := .ref a_this_laid_lostBy) (C := RX2) (T := TX2) (N := 11) hx hb hts qi_X7_stretch_X2 hown hK hP 1 rfl rfl 2 (by decide) (hts _ ql_X7_stretch_105) (fun _ h9 => h9) rfl dX7_stretch_58 ?_
        refine lv_iload_n hx hb dX7_stretch_61 rfl (lv_at hl 1 rfl) ?_
        obtain ⟨h5, hV⟩ := hV
        refine va_iald hx hb hK hP 3 0 rfl rfl h5 dX7_stretch_62 ?_
        exact W.iret hx hb hr (fun t ht hW => ⟨_, rfl, hV, ht⟩) (fun q h => absurd h List.not_mem_nil) dX7_stretch_63 hlocks
      · have hV := hV.2.2.1 c3
        refine lv_tableIn (off := 45) (tgt := 64) hx hb dX7_stretch_19 (by rw [c3]; decide) (by rw [c3]; decide) (by rw [c3]; rfl) (by decide) ?_
        refine lv_aload_n hx hb dX7_stretch_64 rfl (lv_at hl 0 rfl) ?_
        refine va_get (D := (dC, dI)) (ci := 7) (v := .ref a_this_laid) (C := RX7) (T := TX7) (N := 10) hx hb hts qi_X7_stretch_X7 hown hK hP 0 rfl rfl 2 (by decide) (hts _ ql_X7_stretch_26) (fun _ h9 => h9) rfl dX7_stretch_65 ?_
        refine va_get (D := (dC, dI)) (ci := 2) (v := .ref a_this_laid_backBy) (C := RX2) (T := TX2) (N := 11) hx hb hts qi_X7_stretch_X2 hown hK hP 1 rfl rfl 3 (by decide) (hts _ ql_X7_stretch_108) (fun _ h9 => h9) rfl dX7_stretch_68 ?_
        refine lv_iload_n hx hb dX7_stretch_71 rfl (lv_at hl 1 rfl) ?_
        obtain ⟨h6, hV⟩ := hV
        refine va_iald hx hb hK hP 4 0 rfl rfl h6 dX7_stretch_72 ?_
        exact W.iret hx hb hr (fun t ht hW => ⟨_, rfl, hV, ht⟩) (fun q h => absurd h List.not_mem_nil) dX7_stretch_73 hlocks
      · have hV := hV.2.2.2 c3
        refine lv_tableOut (tgt := 74) hx hb dX7_stretch_19 c3 (by decide) ?_
        refine lv_iconst (v := (-1 : Int32)) hx hb dX7_stretch_74 (by decide) ?_
        exact W.iret hx hb hr (fun t ht hW => ⟨_, rfl, hV, ht⟩) (fun q h => absurd h List.not_mem_nil) dX7_stretch_75 hlocks
    · have hV := hV.2 c2
      refine lv_iconst (v := (-1 : Int32)) hx hb dX7_stretch_16 (by decide) ?_
      exact W.iret hx hb hr (fun t ht hW => ⟨_, rfl, hV, ht⟩) (fun q h => absurd h List.not_mem_nil) dX7_stretch_17 hlocks
