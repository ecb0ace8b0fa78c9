/-! StileCountsModel.m(I)I -/
abbrev qw_X8_m (cI cJ cC cG cW : ClassId) (a_this a_this_laid a_this_text a_this_read a_this_numbers a_this_where a_this_sorts a_this_tells a_this_undone a_this_parts a_this_goesWith a_this_with a_this_keeps : Nat) (z_letters : Int32) (z_at : Int32) (z_walked : Int32) (z_counts : Int32) (z_undos : Int32) (z_all : Int64) (z_planned : Int64) (z_scale : Int64) (z_least : Int32) (z_kept : Int32) (z_laid : Nat → Int32) : va_W := [(a_this, .inr (8, [.ref a_this_laid, .ref a_this_text, .int z_letters, .ref a_this_read, .int z_at, .ref a_this_numbers, .int z_walked, .int z_counts, .ref a_this_where, .ref a_this_sorts, .ref a_this_tells, .int z_undos, .ref a_this_undone, .ref a_this_parts, .long z_all, .long z_planned, .long z_scale, .ref a_this_goesWith, .int z_least, .ref a_this_with, .int z_kept, .ref a_this_keeps])), (a_this_laid, .inl (cI, 73, .inl z_laid))]
theorem qi_X8_m_X8 : ∀ w ∈ wsX80, w ∈ wsX8_m := by decide +kernel
theorem ql_X8_m_7 : (.fieldLink RX8 7 "StileCountsModel" "laid" "[I" : Cond) ∈ wsX8_m := by decide +kernel
def qv_X8_m (x1 : Int32) (z_laid : Nat → Int32) (Post : Int32 → Prop) : Prop := vp_in ((2 : Int32) + ((3 : Int32) * x1)) 73 ∧ (Post (z_laid ((2 : Int32) + ((3 : Int32) * x1)).toNatClampNeg))
set_option maxHeartbeats 4000000 in
set_option maxRecDepth 100000 in
theorem qm_X8_m (l : Launch) (dC : Nat → ClassId) (dI : Nat → Nat → Nat) (cI cJ cC cG cW : ClassId) (a_this a_this_laid a_this_text a_this_read a_this_numbers a_this_where a_this_sorts a_this_tells a_this_undone a_this_parts a_this_goesWith a_this_with a_this_keeps : Nat) (z_letters : Int32) (z_at : Int32) (z_walked : Int32) (z_counts : Int32) (z_undos : Int32) (z_all : Int64) (z_planned : Int64) (z_scale : Int64) (z_least : Int32) (z_kept : Int32) (z_laid : Nat → Int32) (x1 : Int32) (Post : Int32 → Prop) (hV : qv_X8_m x1 z_laid Post) : Met l yX8_m wsX8_m ({ frames := 0, cells := 0, slots := 0, locals := 0 } : Room) (va_Pc [.ref a_this, .int x1] (prR (dC, dI) (qw_X8_m cI cJ cC cG cW a_this a_this_laid a_this_text a_this_read a_this_numbers a_this_where a_this_sorts a_this_tells a_this_undone a_this_parts a_this_goesWith a_this_with a_this_keeps z_letters z_at z_walked z_counts z_undos z_all z_planned z_scale z_least z_kept z_laid) (tyL cI cJ cC cG cW))) (vp_Si Post) 0 0 (fun _ => False) := by
  refine Met.ofR (nm := "m") (ds := "(I)I") (own := RX8) (maxL := 2) (cc := cX8_m) (ret := (some .int)) (by decide) rfl rfl (Nat.le_of_ble_eq_true rfl) (fun p e s m below meth c C0 hK hN hP ls hl => ?_)
  obtain ⟨hx, hb, hr, hml, hown, hts, hlocks⟩ := id C0
  have hl : lv_has ls 2 [(0, .ref a_this), (1, .int x1)] := hl
  refine lv_aload_n hx hb dX8_m_0 rfl (lv_at hl 0 rfl) ?_
  refine va_get (D := (dC, dI)) (ci := 8) (v := .ref a_this_laid) (C := RX8) (T := TX8) (N := 22) hx hb hts qi_X8_m_X8 hown hK hP 0 rfl rfl 0 (by decide) (hts _ ql_X8_m_7) (fun _ h9 => h9) rfl dX8_m_1 ?_
  refine lv_iconst (v := (2 : Int32)) hx hb dX8_m_4 (by decide) ?_
  refine lv_iconst (v := (3 : Int32)) hx hb dX8_m_5 (by decide) ?_
  refine lv_iload_n hx hb dX8_m_6 rfl (lv_at hl 1 rfl) ?_
  refine lv_imul hx hb dX8_m_7 ?_
  refine lv_iadd hx hb dX8_m_8 ?_
  obtain ⟨h1, hV⟩ := hV
  refine va_iald hx hb hK hP 1 0 rfl rfl h1 dX8_m_9 ?_
  exact W.iret hx hb hr (fun t ht hW => ⟨_, rfl, hV, ht⟩) (fun q h => absurd h List.not_mem_nil) dX8_m_10 hlocks

/-! StileCountsModel.stretch(II)I -/
abbrev qw_X8_stretch (cI cJ cC cG cW : ClassId) (a_this a_this_laid a_this_text a_this_read a_this_numbers a_this_where a_this_sorts a_this_tells a_this_undone a_this_parts a_this_goesWith a_this_with a_this_keeps : Nat) (z_letters : Int32) (z_at : Int32) (z_walked : Int32) (z_counts : Int32) (z_undos : Int32) (z_all : Int64) (z_planned : Int64) (z_scale : Int64) (z_least : Int32) (z_kept : Int32) (z_laid : Nat → Int32) : va_W := [(a_this, .inr (8, [.ref a_this_laid, .ref a_this_text, .int z_letters, .ref a_this_read, .int z_at, .ref a_this_numbers, .int z_walked, .int z_counts, .ref a_this_where, .ref a_this_sorts, .ref a_this_tells, .int z_undos, .ref a_this_undone, .ref a_this_parts, .long z_all, .long z_planned, .long z_scale, .ref a_this_goesWith, .int z_least, .ref a_this_with, .int z_kept, .ref a_this_keeps])), (a_this_laid, .inl (cI, 73, .inl z_laid))]
theorem qi_X8_stretch_X8 : ∀ w ∈ wsX80, w ∈ wsX8_stretch := by decide +kernel
theorem ql_X8_stretch_7 : (.fieldLink RX8 7 "StileCountsModel" "laid" "[I" : Cond) ∈ wsX8_stretch := by decide +kernel
theorem ql_X8_stretch_82 : (.constantLong RX8 82 (2 : Int64) : Cond) ∈ wsX8_stretch := by decide +kernel
def qv_X8_stretch (x1 : Int32) (x2 : Int32) (z_laid : Nat → Int32) (Post : Int32 → Prop) : Prop := vp_in (0 : Int32) 73 ∧ (qv_X8_in (x1.toInt64) (1 : Int64) ((z_laid (0 : Int32).toNatClampNeg).toInt64) (fun r2 => (r2 = (0 : Int32) → Post (-1 : Int32)) ∧ (¬ r2 = (0 : Int32) → qv_X8_in (x2.toInt64) (0 : Int64) (2 : Int64) (fun r4 => (r4 = (0 : Int32) → Post (-1 : Int32)) ∧ (¬ r4 = (0 : Int32) → vp_in (((2 : Int32) + ((3 : Int32) * x1)) + x2) 73 ∧ (Post (z_laid (((2 : Int32) + ((3 : Int32) * x1)) + x2).toNatClampNeg)))))))
set_option maxHeartbeats 4000000 in
set_option maxRecDepth 100000 in
theorem qm_X8_stretch (l : Launch) (dC : Nat → ClassId) (dI : Nat → Nat → Nat) (cI cJ cC cG cW : ClassId) (a_this a_this_laid a_this_text a_this_read a_this_numbers a_this_where a_this_sorts a_this_tells a_this_undone a_this_parts a_this_goesWith a_this_with a_this_keeps : Nat) (z_letters : Int32) (z_at : Int32) (z_walked : Int32) (z_counts : Int32) (z_undos : Int32) (z_all : Int64) (z_planned : Int64) (z_scale : Int64) (z_least : Int32) (z_kept : Int32) (z_laid : Nat → Int32) (x1 : Int32) (x2 : Int32) (Post : Int32 → Prop) (hV : qv_X8_stretch x1 x2 z_laid Post) : Met l yX8_stretch wsX8_stretch ({ frames := 1, cells := 0, slots := 0, locals := 25 } : Room) (va_Pc [.ref a_this, .int x1, .int x2] (prR (dC, dI) (qw_X8_stretch cI cJ cC cG cW a_this a_this_laid a_this_text a_this_read a_this_numbers a_this_where a_this_sorts a_this_tells a_this_undone a_this_parts a_this_goesWith a_this_with a_this_keeps z_letters z_at z_walked z_counts z_undos z_all z_planned z_scale z_least z_kept z_laid) (tyL cI cJ cC cG cW))) (vp_Si Post) 0 0 (fun _ => False) := by
  refine Met.ofR (nm := "stretch") (ds := "(II)I") (own := RX8) (maxL := 3) (cc := cX8_stretch) (ret := (some .int)) (by decide) rfl rfl (Nat.le_of_ble_eq_true rfl) (fun p e s m below meth c C0 hK hN hP ls hl => ?_)
  obtain ⟨hx, hb, hr, hml, hown, hts, hlocks⟩ := id C0
  have hl : lv_has ls 3 [(0, .ref a_this), (1, .int x1), (2, .int x2)] := hl
  refine lv_iload_n hx hb dX8_stretch_0 rfl (lv_at hl 1 rfl) ?_
  refine lv_i2l hx hb dX8_stretch_1 rfl ?_
  refine lv_lconst (v := (1 : Int64)) hx hb dX8_stretch_2 (by decide) ?_
  refine lv_aload_n hx hb dX8_stretch_3 rfl (lv_at hl 0 rfl) ?_
  refine va_get (D := (dC, dI)) (ci := 8) (v := .ref a_this_laid) (C := RX8) (T := TX8) (N := 22) hx hb hts qi_X8_stretch_X8 hown hK hP 0 rfl rfl 0 (by decide) (hts _ ql_X8_stretch_7) (fun _ h9 => h9) rfl dX8_stretch_4 ?_
  refine lv_iconst (v := (0 : Int32)) hx hb dX8_stretch_7 (by decide) ?_
  obtain ⟨h1, hV⟩ := hV
  refine va_iald hx hb hK hP 1 0 rfl rfl h1 dX8_stretch_8 ?_
  refine lv_i2l hx hb dX8_stretch_9 rfl ?_
  refine vp_callSi (va_Run.run (va_runS (As := [.long (x1.toInt64), .long (1 : Int64), .long ((z_laid (0 : Int32).toNatClampNeg).toInt64)]) (rest := []) ⟨hx, hb, hml, hown, hts⟩ (qm_X8_in l dC dI cI cJ cC cG cW (x1.toInt64) (1 : Int64) ((z_laid (0 : Int32).toNatClampNeg).toInt64) _ hV) (va_cwS 3 hts gX8_stretch_X8_in rfl rfl rfl (by decide +kernel) ⟨Nat.le_of_ble_eq_true rfl, Nat.le_of_ble_eq_true rfl⟩) (preRS hK hN (show va_P (dC, dI) vwCl (qw_X8_in cI cJ cC cG cW) s.heap from fun k q h => by simp at h)) rfl rfl hl.1 rfl (lv_room (Nat.le_of_ble_eq_true rfl)) dX8_stretch_10 ⟨Nat.le_of_ble_eq_true rfl, Nat.le_of_ble_eq_true rfl⟩)) (fun r2 hV => ?_)
  refine lv_if_eq (tgt := 43) hx hb dX8_stretch_13 (by decide) (fun c3 => ?_) (fun c3 => ?_)
  · have hV := hV.1 c3
    refine lv_iconst (v := (-1 : Int32)) hx hb dX8_stretch_43 (by decide) ?_
    exact W.iret hx hb hr (fun t ht hW => ⟨_, rfl, hV, ht⟩) (fun q h => absurd h List.not_mem_nil) dX8_stretch_44 hlocks
  · have hV := hV.2 c3
    refine lv_iload_n hx hb dX8_stretch_16 rfl (lv_at hl 2 rfl) ?_
    refine lv_i2l hx hb dX8_stretch_17 rfl ?_
    refine lv_lconst (v := (0 : Int64)) hx hb dX8_stretch_18 (by decide) ?_
    refine lv_ldc2 (v := (2 : Int64)) hx hb hown (hts _ ql_X8_stretch_82) dX8_stretch_19 ?_
    refine vp_callSi (va_Run.run (va_runS (As := [.long (x2.toInt64), .long (0 : Int64), .long (2 : Int64)]) (rest := []) ⟨hx, hb, hml, hown, hts⟩ (qm_X8_in l dC dI cI cJ cC cG cW (x2.toInt64) (0 : Int64) (2 : Int64) _ hV) (va_cwS 3 hts gX8_stretch_X8_in rfl rfl rfl (by decide +kernel) ⟨Nat.le_of_ble_eq_true rfl, Nat.le_of_ble_eq_true rfl⟩) (preRS hK hN (show va_P (dC, dI) vwCl (qw_X8_in cI cJ cC cG cW) s.heap from fun k q h => by simp at h)) rfl rfl hl.1 rfl (lv_room (Nat.le_of_ble_eq_true rfl)) dX8_stretch_22 ⟨Nat.le_of_ble_eq_true rfl, Nat.le_of_ble_eq_true rfl⟩)) (fun r4 hV => ?_)
    refine lv_if_eq (tgt := 43) hx hb dX8_stretch_25 (by decide) (fun c5 => ?_) (fun c5 => ?_)
    · have hV := hV.1 c5
      refine lv_iconst (v := (-1 : Int32)) hx hb dX8_stretch_43 (by decide) ?_
      exact W.iret hx hb hr (fun t ht hW => ⟨_, rfl, hV, ht⟩) (fun q h => absurd h List.not_mem_nil) dX8_stretch_44 hlocks
    · have hV := hV.2 c5
      refine lv_aload_n hx hb dX8_stretch_28 rfl (lv_at hl 0 rfl) ?_
      refine va_get (D := (dC, dI)) (ci := 8) (v := .ref a_this_laid) (C := RX8) (T := TX8) (N := 22) hx hb hts qi_X8_stretch_X8 hown hK hP 0 rfl rfl 0 (by decide) (hts _ ql_X8_stretch_7) (fun _ h9 => h9) rfl dX8_stretch_29 ?_
      refine lv_iconst (v := (2 : Int32)) hx hb dX8_stretch_32 (by decide) ?_
      refine lv_iconst (v := (3 : Int32)) hx hb dX8_stretch_33 (by decide) ?_
      refine lv_iload_n hx hb dX8_stretch_34 rfl (lv_at hl 1 rfl) ?_
      refine lv_imul hx hb dX8_stretch_35 ?_
      refine lv_iadd hx hb dX8_stretch_36 ?_
      refine lv_iload_n hx hb dX8_stretch_37 rfl (lv_at hl 2 rfl) ?_
      refine lv_iadd hx hb dX8_stretch_38 ?_
      obtain ⟨h6, hV⟩ := hV
      refine va_iald hx hb hK hP 1 0 rfl rfl h6 dX8_stretch_39 ?_
      refine lv_goto (tgt := 44) hx hb dX8_stretch_40 (by decide) ?_
      exact W.iret hx hb hr (fun t ht hW => ⟨_, rfl, hV, ht⟩) (fun q h => absurd h List.not_mem_nil) dX8_stretch_44 hlocks

/-! StileCountsModel.sort(II)I -/
abbrev qw_X8_sort (cI cJ cC cG cW : ClassId) (a_this a_this_laid a_this_text a_this_read a_this_numbers a_this_where a_this_sorts a_this_tells a_this_undone a_this_parts a_this_goesWith a_this_with a_this_keeps : Nat) (z_letters : Int32) (z_at : Int32) (z_walked : Int32) (z_counts : Int32) (z_undos : Int32) (z_all : Int64) (z_planned : Int64) (z_scale : Int64) (z_least : Int32) (z_kept : Int32) (z_laid : Nat → Int32) : va_W := [(a_this, .inr (8, [.ref a_this_laid, .ref a_this_text, .int z_letters, .ref a_this_read, .int z_at, .ref a_this_numbers, .int z_walked, .int z_counts, .ref a_this_where, .ref a_this_sorts, .ref a_this_tells, .int z_undos, .ref a_this_undone, .ref a_this_parts, .long z_all, .long z_planned, .long z_scale, .ref a_this_goesWith, .int z_least, .ref a_this_with, .int z_kept, .ref a_this_keeps])), (a_this_laid, .inl (cI, 73, .inl z_laid))]
theorem ql_X8_sort_123 : (.constantLong RX8 123 (3 : Int64) : Cond) ∈ wsX8_sort := by decide +kernel
theorem qi_X8_sort_X8 : ∀ w ∈ wsX80, w ∈ wsX8_sort := by decide +kernel
theorem ql_X8_sort_7 : (.fieldLink RX8 7 "StileCountsModel" "laid" "[I" : Cond) ∈ wsX8_sort := by decide +kernel
def qv_X8_sort (x1 : Int32) (x2 : Int32) (z_laid : Nat → Int32) (Post : Int32 → Prop) : Prop := qv_X8_in (x1.toInt64) (0 : Int64) (3 : Int64) (fun r1 => (r1 = (0 : Int32) → Post (-1 : Int32)) ∧ (¬ r1 = (0 : Int32) → qv_X8_in (x2.toInt64) (0 : Int64) (1 : Int64) (fun r3 => (r3 = (0 : Int32) → Post (-1 : Int32)) ∧ (¬ r3 = (0 : Int32) → vp_in (((29 : Int32) + ((2 : Int32) * x1)) + x2) 73 ∧ (Post (z_laid (((29 : Int32) + ((2 : Int32) * x1)) + x2).toNatClampNeg))))))
set_option maxHeartbeats 4000000 in
set_option maxRecDepth 100000 in
theorem qm_X8_sort (l : Launch) (dC : Nat → ClassId) (dI : Nat → Nat → Nat) (cI cJ cC cG cW : ClassId) (a_this a_this_laid a_this_text a_this_read a_this_numbers a_this_where a_this_sorts a_this_tells a_this_undone a_this_parts a_this_goesWith a_this_with a_this_keeps : Nat) (z_letters : Int32) (z_at : Int32) (z_walked : Int32) (z_counts : Int32) (z_undos : Int32) (z_all : Int64) (z_planned : Int64) (z_scale : Int64) (z_least : Int32) (z_kept : Int32) (z_laid : Nat → Int32) (x1 : Int32) (x2 : Int32) (Post : Int32 → Prop) (hV : qv_X8_sort x1 x2 z_laid Post) : Met l yX8_sort wsX8_sort ({ frames := 1, cells := 0, slots := 0, locals := 25 } : Room) (va_Pc [.ref a_this, .int x1, .int x2] (prR (dC, dI) (qw_X8_sort cI cJ cC cG cW a_this a_this_laid a_this_text a_this_read a_this_numbers a_this_where a_this_sorts a_this_tells a_this_undone a_this_parts a_this_goesWith a_this_with a_this_keeps z_letters z_at z_walked z_counts z_undos z_all z_planned z_scale z_least z_kept z_laid) (tyL cI cJ cC cG cW))) (vp_Si Post) 0 0 (fun _ => False) := by
  refine Met.ofR (nm := "sort") (ds := "(II)I") (own := RX8) (maxL := 3) (cc := cX8_sort) (ret := (some .int)) (by decide) rfl rfl (Nat.le_of_ble_eq_true rfl) (fun p e s m below meth c C0 hK hN hP ls hl => ?_)
  obtain ⟨hx, hb, hr, hml, hown, hts, hlocks⟩ := id C0
  have hl : lv_has ls 3 [(0, .ref a_this), (1, .int x1), (2, .int x2)] := hl
  refine lv_iload_n hx hb dX8_sort_0 rfl (lv_at hl 1 rfl) ?_
  refine lv_i2l hx hb dX8_sort_1 rfl ?_
  refine lv_lconst (v := (0 : Int64)) hx hb dX8_sort_2 (by decide) ?_
  refine lv_ldc2 (v := (3 : Int64)) hx hb hown (hts _ ql_X8_sort_123) dX8_sort_3 ?_
  refine vp_callSi (va_Run.run (va_runS (As := [.long (x1.toInt64), .long (0 : Int64), .long (3 : Int64)]) (rest := []) ⟨hx, hb, hml, hown, hts⟩ (qm_X8_in l dC dI cI cJ cC cG cW (x1.toInt64) (0 : Int64) (3 : Int64) _ hV) (va_cwS 3 hts gX8_sort_X8_in rfl rfl rfl (by decide +kernel) ⟨Nat.le_of_ble_eq_true rfl, Nat.le_of_ble_eq_true rfl⟩) (preRS hK hN (show va_P (dC, dI) vwCl (qw_X8_in cI cJ cC cG cW) s.heap from fun k q h => by simp at h)) rfl rfl hl.1 rfl (lv_room (Nat.le_of_ble_eq_true rfl)) dX8_sort_6 ⟨Nat.le_of_ble_eq_true rfl, Nat.le_of_ble_eq_true rfl⟩)) (fun r1 hV => ?_)
  refine lv_if_eq (tgt := 38) hx hb dX8_sort_9 (by decide) (fun c2 => ?_) (fun c2 => ?_)
  · have hV := hV.1 c2
    refine lv_iconst (v := (-1 : Int32)) hx hb dX8_sort_38 (by decide) ?_
    exact W.iret hx hb hr (fun t ht hW => ⟨_, rfl, hV, ht⟩) (fun q h => absurd h List.not_mem_nil) dX8_sort_39 hlocks
  · have hV := hV.2 c2
    refine lv_iload_n hx hb dX8_sort_12 rfl (lv_at hl 2 rfl) ?_
    refine lv_i2l hx hb dX8_sort_13 rfl ?_
    refine lv_lconst (v := (0 : Int64)) hx hb dX8_sort_14 (by decide) ?_
    refine lv_lconst (v := (1 : Int64)) hx hb dX8_sort_15 (by decide) ?_
    refine vp_callSi (va_Run.run (va_runS (As := [.long (x2.toInt64), .long (0 : Int64), .long (1 : Int64)]) (rest := []) ⟨hx, hb, hml, hown, hts⟩ (qm_X8_in l dC dI cI cJ cC cG cW (x2.toInt64) (0 : Int64) (1 : Int64) _ hV) (va_cwS 3 hts gX8_sort_X8_in rfl rfl rfl (by decide +kernel) ⟨Nat.le_of_ble_eq_true rfl, Nat.le_of_ble_eq_true rfl⟩) (preRS hK hN (show va_P (dC, dI) vwCl (qw_X8_in cI cJ cC cG cW) s.heap from fun k q h => by simp at h)) rfl rfl hl.1 rfl (lv_room (Nat.le_of_ble_eq_true rfl)) dX8_sort_16 ⟨Nat.le_of_ble_eq_true rfl, Nat.le_of_ble_eq_true rfl⟩)) (fun r3 hV => ?_)
    refine lv_if_eq (tgt := 38) hx hb dX8_sort_19 (by decide) (fun c4 => ?_) (fun c4 => ?_)
    · have hV := hV.1 c4
      refine lv_iconst (v := (-1 : Int32)) hx hb dX8_sort_38 (by decide) ?_
      exact W.iret hx hb hr (fun t ht hW => ⟨_, rfl, hV, ht⟩) (fun q h => absurd h List.not_mem_nil) dX8_sort_39 hlocks
    · have hV := hV.2 c4
      refine lv_aload_n hx hb dX8_sort_22 rfl (lv_at hl 0 rfl) ?_
      refine va_get (D := (dC, dI)) (ci := 8) (v := .ref a_this_laid) (C := RX8) (T := TX8) (N := 22) hx hb hts qi_X8_sort_X8 hown hK hP 0 rfl rfl 0 (by decide) (hts _ ql_X8_sort_7) (fun _ h9 => h9) rfl dX8_sort_23 ?_
      refine lv_bipush (v := (29 : Int32)) hx hb dX8_sort_26 (by decide) ?_
      refine lv_iconst (v := (2 : Int32)) hx hb dX8_sort_28 (by decide) ?_
      refine lv_iload_n hx hb dX8_sort_29 rfl (lv_at hl 1 rfl) ?_
      refine lv_imul hx hb dX8_sort_30 ?_
      refine lv_iadd hx hb dX8_sort_31 ?_
      refine lv_iload_n hx hb dX8_sort_32 rfl (lv_at hl 2 rfl) ?_
      refine lv_iadd hx hb dX8_sort_33 ?_
      obtain ⟨h5, hV⟩ := hV
      refine va_iald hx hb hK hP 1 0 rfl rfl h5 dX8_sort_34 ?_
      refine lv_goto (tgt := 39) hx hb dX8_sort_35 (by decide) ?_
      exact W.iret hx hb hr (fun t ht hW => ⟨_, rfl, hV, ht⟩) (fun q h => absurd h List.not_mem_nil) dX8_sort_39 hlocks

/-! StileCountsModel.cost(I)I -/
abbrev qw_X8_cost (cI cJ cC cG cW : ClassId) (a_this a_this_laid a_this_text a_this_read a_this_numbers a_this_where a_this_sorts a_this_tells a_this_undone a_this_parts a_this_goesWith a_this_with a_this_keeps : Nat) (z_letters : Int32) (z_at : Int32) (z_walked : Int32) (z_counts : Int32) (z_undos : Int32) (z_all : Int64) (z_planned : Int64) (z_scale : Int64) (z_least : Int32) (z_kept : Int32) (z_laid : Nat → Int32) : va_W := [(a_this, .inr (8, [.ref a_this_laid, .ref a_this_text, .int z_letters, .ref a_this_read, .int z_at, .ref a_this_numbers, .int z_walked, .int z_counts, .ref a_this_where, .ref a_this_sorts, .ref a_this_tells, .int z_undos, .ref a_this_undone, .ref a_this_parts, .long z_all, .long z_planned, .long z_scale, .ref a_this_goesWith, .int z_least, .ref a_this_with, .int z_kept, .ref a_this_keeps])), (a_this_laid, .inl (cI, 73, .inl z_laid))]
theorem ql_X8_cost_82 : (.constantLong RX8 82 (2 : Int64) : Cond) ∈ wsX8_cost := by decide +kernel
theorem qi_X8_cost_X8 : ∀ w ∈ wsX80, w ∈ wsX8_cost := by decide +kernel
theorem ql_X8_cost_7 : (.fieldLink RX8 7 "StileCountsModel" "laid" "[I" : Cond) ∈ wsX8_cost := by decide +kernel
def qv_X8_cost (x1 : Int32) (z_laid : Nat → Int32) (Post : Int32 → Prop) : Prop := qv_X8_in (x1.toInt64) (0 : Int64) (2 : Int64) (fun r1 => (r1 = (0 : Int32) → Post (-1 : Int32)) ∧ (¬ r1 = (0 : Int32) → vp_in ((2 : Int32) + x1) 73 ∧ (Post (z_laid ((2 : Int32) + x1).toNatClampNeg))))
set_option maxHeartbeats 4000000 in
set_option maxRecDepth 100000 in
theorem qm_X8_cost (l : Launch) (dC : Nat → ClassId) (dI : Nat → Nat → Nat) (cI cJ cC cG cW : ClassId) (a_this a_this_laid a_this_text a_this_read a_this_numbers a_this_where a_this_sorts a_this_tells a_this_undone a_this_parts a_this_goesWith a_this_with a_this_keeps : Nat) (z_letters : Int32) (z_at : Int32) (z_walked : Int32) (z_counts : Int32) (z_undos : Int32) (z_all : Int64) (z_planned : Int64) (z_scale : Int64) (z_least : Int32) (z_kept : Int32) (z_laid : Nat → Int32) (x1 : Int32) (Post : Int32 → Prop) (hV : qv_X8_cost x1 z_laid Post) : Met l yX8_cost wsX8_cost ({ frames := 1, cells := 0, slots := 0, locals := 25 } : Room) (va_Pc [.ref a_this, .int x1] (prR (dC, dI) (qw_X8_cost cI cJ cC cG cW a_this a_this_laid a_this_text a_this_read a_this_numbers a_this_where a_this_sorts a_this_tells a_this_undone a_this_parts a_this_goesWith a_this_with a_this_keeps z_letters z_at z_walked z_counts z_undos z_all z_planned z_scale z_least z_kept z_laid) (tyL cI cJ cC cG cW))) (vp_Si Post) 0 0 (fun _ => False) := by
  refine Met.ofR (nm := "cost") (ds := "(I)I") (own := RX8) (maxL := 2) (cc := cX8_cost) (ret := (some .int)) (by decide) rfl rfl (Nat.le_of_ble_eq_true rfl) (fun p e s m below meth c C0 hK hN hP ls hl => ?_)
  obtain ⟨hx, hb, hr, hml, hown, hts, hlocks⟩ := id C0
  have hl : lv_has ls 2 [(0, .ref a_this), (1, .int x1)] := hl
  refine lv_iload_n hx hb dX8_cost_0 rfl (lv_at hl 1 rfl) ?_
  refine lv_i2l hx hb dX8_cost_1 rfl ?_
  refine lv_lconst (v := (0 : Int64)) hx hb dX8_cost_2 (by decide) ?_
  refine lv_ldc2 (v := (2 : Int64)) hx hb hown (hts _ ql_X8_cost_82) dX8_cost_3 ?_
  refine vp_callSi (va_Run.run (va_runS (As := [.long (x1.toInt64), .long (0 : Int64), .long (2 : Int64)]) (rest := []) ⟨hx, hb, hml, hown, hts⟩ (qm_X8_in l dC dI cI cJ cC cG cW (x1.toInt64) (0 : Int64) (2 : Int64) _ hV) (va_cwS 3 hts gX8_cost_X8_in rfl rfl rfl (by decide +kernel) ⟨Nat.le_of_ble_eq_true rfl, Nat.le_of_ble_eq_true rfl⟩) (preRS hK hN (show va_P (dC, dI) vwCl (qw_X8_in cI cJ cC cG cW) s.heap from fun k q h => by simp at h)) rfl rfl hl.1 rfl (lv_room (Nat.le_of_ble_eq_true rfl)) dX8_cost_6 ⟨Nat.le_of_ble_eq_true rfl, Nat.le_of_ble_eq_true rfl⟩)) (fun r1 hV => ?_)
  refine lv_if_eq (tgt := 23) hx hb dX8_cost_9 (by decide) (fun c2 => ?_) (fun c2 => ?_)
  · have hV := hV.1 c2
    refine lv_iconst (v := (-1 : Int32)) hx hb dX8_cost_23 (by decide) ?_
    exact W.iret hx hb hr (fun t ht hW => ⟨_, rfl, hV, ht⟩) (fun q h => absurd h List.not_mem_nil) dX8_cost_24 hlocks
  · have hV := hV.2 c2
    refine lv_aload_n hx hb dX8_cost_12 rfl (lv_at hl 0 rfl) ?_
    refine va_get (D := (dC, dI)) (ci := 8) (v := .ref a_this_laid) (C := RX8) (T := TX8) (N := 22) hx hb hts qi_X8_cost_X8 hown hK hP 0 rfl rfl 0 (by decide) (hts _ ql_X8_cost_7) (fun _ h9 => h9) rfl dX8_cost_13 ?_
    refine lv_iconst (v := (2 : Int32)) hx hb dX8_cost_16 (by decide) ?_
    refine lv_iload_n hx hb dX8_cost_17 rfl (lv_at hl 1 rfl) ?_
    refine lv_iadd hx hb dX8_cost_18 ?_
    obtain ⟨h3, hV⟩ := hV
    refine va_iald hx hb hK hP 1 0 rfl rfl h3 dX8_cost_19 ?_
    refine lv_goto (tgt := 24) hx hb dX8_cost_20 (by decide) ?_
    exact W.iret hx hb hr (fun t ht hW => ⟨_, rfl, hV, ht⟩) (fun q h => absurd h List.not_mem_nil) dX8_cost_24 hlocks

/-! StileCountsModel.isFriend(I)Z -/
abbrev qw_X8_isFriend (cI cJ cC cG cW : ClassId) (a_this a_this_laid a_this_text a_this_read a_this_numbers a_this_where a_this_sorts a_this_tells a_this_undone a_this_parts a_this_goesWith a_this_with a_this_keeps : Nat) (z_letters : Int32) (z_at : Int32) (z_walked : Int32) (z_counts : Int32) (z_undos : Int32) (z_all : Int64) (z_planned : Int64) (z_scale : Int64) (z_least : Int32) (z_kept : Int32) (z_laid : Nat → Int32) : va_W := [(a_this, .inr (8, [.ref a_this_laid, .ref a_this_text, .int z_letters, .ref a_this_read, .int z_at, .ref a_this_numbers, .int z_walked, .int z_counts, .ref a_this_where, .ref a_this_sorts, .ref a_this_tells, .int z_undos, .ref a_this_undone, .ref a_this_parts, .long z_all, .long z_planned, .long z_scale, .ref a_this_goesWith, .int z_least, .ref a_this_with, .int z_kept, .ref a_this_keeps])), (a_this_laid, .inl (cI, 73, .inl z_laid))]
theorem qi_X8_isFriend_X8 : ∀ w ∈ wsX80, w ∈ wsX8_isFriend := by decide +kernel
theorem ql_X8_isFriend_7 : (.fieldLink RX8 7 "StileCountsModel" "laid" "[I" : Cond) ∈ wsX8_isFriend := by decide +kernel
def qv_X8_isFriend (x1 : Int32) (z_laid : Nat → Int32) (Post : Int32 → Prop) : Prop := vp_in (1 : Int32) 73 ∧ (qv_X8_in (x1.toInt64) (0 : Int64) (((z_laid (1 : Int32).toNatClampNeg) - (1 : Int32)).toInt64) (fun r2 => narrow .boolean (.int r2) = .int r2 ∧ Post r2))
set_option maxHeartbeats 4000000 in
set_option maxRecDepth 100000 in
theorem qm_X8_isFriend (l : Launch) (dC : Nat → ClassId) (dI : Nat → Nat → Nat) (cI cJ cC cG cW : ClassId) (a_this a_this_laid a_this_text a_this_read a_this_numbers a_this_where a_this_sorts a_this_tells a_this_undone a_this_parts a_this_goesWith a_this_with a_this_keeps : Nat) (z_letters : Int32) (z_at : Int32) (z_walked : Int32) (z_counts : Int32) (z_undos : Int32) (z_all : Int64) (z_planned : Int64) (z_scale : Int64) (z_least : Int32) (z_kept : Int32) (z_laid : Nat → Int32) (x1 : Int32) (Post : Int32 → Prop) (hV : qv_X8_isFriend x1 z_laid Post) : Met l yX8_isFriend wsX8_isFriend ({ frames := 1, cells := 0, slots := 0, locals := 25 } : Room) (va_Pc [.ref a_this, .int x1] (prR (dC, dI) (qw_X8_isFriend cI cJ cC cG cW a_this a_this_laid a_this_text a_this_read a_this_numbers a_this_where a_this_sorts a_this_tells a_this_undone a_this_parts a_this_goesWith a_this_with a_this_keeps z_letters z_at z_walked z_counts z_undos z_all z_planned z_scale z_least z_kept z_laid) (tyL cI cJ cC cG cW))) (vp_Si Post) 0 0 (fun _ => False) := by
  refine Met.ofR (nm := "isFriend") (ds := "(I)Z") (own := RX8) (maxL := 2) (cc := cX8_isFriend) (ret := (some .boolean)) (by decide) rfl rfl (Nat.le_of_ble_eq_true rfl) (fun p e s m below meth c C0 hK hN hP ls hl => ?_)
  obtain ⟨hx, hb, hr, hml, hown, hts, hlocks⟩ := id C0
  have hl : lv_has ls 2 [(0, .ref a_this), (1, .int x1)] := hl
  refine lv_iload_n hx hb dX8_isFriend_0 rfl (lv_at hl 1 rfl) ?_
  refine lv_i2l hx hb dX8_isFriend_1 rfl ?_
  refine lv_lconst (v := (0 : Int64)) hx hb dX8_isFriend_2 (by decide) ?_
  refine lv_aload_n hx hb dX8_isFriend_3 rfl (lv_at hl 0 rfl) ?_
  refine va_get (D := (dC, dI)) (ci := 8) (v := .ref a_this_laid) (C := RX8) (T := TX8) (N := 22) hx hb hts qi_X8_isFriend_X8 hown hK hP 0 rfl rfl 0 (by decide) (hts _ ql_X8_isFriend_7) (fun _ h9 => h9) rfl dX8_isFriend_4 ?_
  refine lv_iconst (v := (1 : Int32)) hx hb dX8_isFriend_7 (by decide) ?_
  obtain ⟨h1, hV⟩ := hV
  refine va_iald hx hb hK hP 1 0 rfl rfl h1 dX8_isFriend_8 ?_
  refine lv_iconst (v := (1 : Int32)) hx hb dX8_isFriend_9 (by decide) ?_
  refine lv_isub hx hb dX8_isFriend_10 ?_
  refine lv_i2l hx hb dX8_isFriend_11 rfl ?_
  refine vp_callSi (va_Run.run (va_runS (As := [.long (x1.toInt64), .long (0 : Int64), .long (((z_laid (1 : Int32).toNatClampNeg) - (1 : Int32)).toInt64)]) (rest := []) ⟨hx, hb, hml, hown, hts⟩ (qm_X8_in l dC dI cI cJ cC cG cW (x1.toInt64) (0 : Int64) (((z_laid (1 : Int32).toNatClampNeg) - (1 : Int32)).toInt64) _ hV) (va_cwS 3 hts gX8_isFriend_X8_in rfl rfl rfl (by decide +kernel) ⟨Nat.le_of_ble_eq_true rfl, Nat.le_of_ble_eq_true rfl⟩) (preRS hK hN (show va_P (dC, dI) vwCl (qw_X8_in cI cJ cC cG cW) s.heap from fun k q h => by simp at h)) rfl rfl hl.1 rfl (lv_room (Nat.le_of_ble_eq_true rfl)) dX8_isFriend_12 ⟨Nat.le_of_ble_eq_true rfl, Nat.le_of_ble_eq_true rfl⟩)) (fun r2 hV => ?_)
  obtain ⟨hn3, hV⟩ := hV
  exact W.zret hx hb hr hn3 (fun t ht hW => ⟨_, rfl, hV, ht⟩) (fun q h => absurd h List.not_mem_nil) dX8_isFriend_15 hlocks

/-! StileCountsModel.tie(II)I -/
abbrev qw_X8_tie (cI cJ cC cG cW : ClassId) (a_this a_this_laid a_this_text a_this_read a_this_numbers a_this_where a_this_sorts a_this_tells a_this_undone a_this_parts a_this_goesWith a_this_with a_this_keeps : Nat) (z_letters : Int32) (z_at : Int32) (z_walked : Int32) (z_counts : Int32) (z_undos : Int32) (z_all : Int64) (z_planned : Int64) (z_scale : Int64) (z_least : Int32) (z_kept : Int32) (z_laid : Nat → Int32) : va_W := [(a_this, .inr (8, [.ref a_this_laid, .ref a_this_text, .int z_letters, .ref a_this_read, .int z_at, .ref a_this_numbers, .int z_walked, .int z_counts, .ref a_this_where, .ref a_this_sorts, .ref a_this_tells, .int z_undos, .ref a_this_undone, .ref a_this_parts, .long z_all, .long z_planned, .long z_scale, .ref a_this_goesWith, .int z_least, .ref a_this_with, .int z_kept, .ref a_this_keeps])), (a_this_laid, .inl (cI, 73, .inl z_laid))]
theorem qi_X8_tie_X8 : ∀ w ∈ wsX80, w ∈ wsX8_tie := by decide +kernel
theorem ql_X8_tie_7 : (.fieldLink RX8 7 "StileCountsModel" "laid" "[I" : Cond) ∈ wsX8_tie := by decide +kernel
def qv_X8_tie (x1 : Int32) (x2 : Int32) (z_laid : Nat → Int32) (Post : Int32 → Prop) : Prop := qv_X8_isFriend x1 z_laid (fun r1 => (r1 = (0 : Int32) → Post (-1 : Int32)) ∧ (¬ r1 = (0 : Int32) → qv_X8_isFriend x2 z_laid (fun r3 => (r3 = (0 : Int32) → Post (-1 : Int32)) ∧ (¬ r3 = (0 : Int32) → (x1 = x2 → Post (-1 : Int32)) ∧ (¬ x1 = x2 → vp_in (((37 : Int32) + ((6 : Int32) * x1)) + x2) 73 ∧ (Post (z_laid (((37 : Int32) + ((6 : Int32) * x1)) + x2).toNatClampNeg)))))))
set_option maxHeartbeats 4000000 in
set_option maxRecDepth 100000 in
theorem qm_X8_tie (l : Launch) (dC : Nat → ClassId) (dI : Nat → Nat → Nat) (cI cJ cC cG cW : ClassId) (a_this a_this_laid a_this_text a_this_read a_this_numbers a_this_where a_this_sorts a_this_tells a_this_undone a_this_parts a_this_goesWith a_this_with a_this_keeps : Nat) (z_letters : Int32) (z_at : Int32) (z_walked : Int32) (z_counts : Int32) (z_undos : Int32) (z_all : Int64) (z_planned : Int64) (z_scale : Int64) (z_least : Int32) (z_kept : Int32) (z_laid : Nat → Int32) (x1 : Int32) (x2 : Int32) (Post : Int32 → Prop) (hV : qv_X8_tie x1 x2 z_laid Post) : Met l yX8_tie wsX8_tie ({ frames := 2, cells := 0, slots := 0, locals := 46 } : Room) (va_Pc [.ref a_this, .int x1, .int x2] (prR (dC, dI) (qw_X8_tie cI cJ cC cG cW a_this a_this_laid a_this_text a_this_read a_this_numbers a_this_where a_this_sorts a_this_tells a_this_undone a_this_parts a_this_goesWith a_this_with a_this_keeps z_letters z_at z_walked z_counts z_undos z_all z_planned z_scale z_least z_kept z_laid) (tyL cI cJ cC cG cW))) (vp_Si Post) 0 0 (fun _ => False) := by
  refine Met.ofR (nm := "tie") (ds := "(II)I") (own := RX8) (maxL := 3) (cc := cX8_tie) (ret := (some .int)) (by decide) rfl rfl (Nat.le_of_ble_eq_true rfl) (fun p e s m below meth c C0 hK hN hP ls hl => ?_)
  obtain ⟨hx, hb, hr, hml, hown, hts, hlocks⟩ := id C0
  have hl : lv_has ls 3 [(0, .ref a_this), (1, .int x1), (2, .int x2)] := hl
  refine lv_aload_n hx hb dX8_tie_0 rfl (lv_at hl 0 rfl) ?_
  refine lv_iload_n hx hb dX8_tie_1 rfl (lv_at hl 1 rfl) ?_
  refine vp_callSi (va_Run.run (va_runV (As := [.int x1]) (rest := []) ⟨hx, hb, hml, hown, hts⟩ (qm_X8_isFriend l dC dI cI cJ cC cG cW a_this a_this_laid a_this_text a_this_read a_this_numbers a_this_where a_this_sorts a_this_tells a_this_undone a_this_parts a_this_goesWith a_this_with a_this_keeps z_letters z_at z_walked z_counts z_undos z_all z_planned z_scale z_least z_kept z_laid x1 _ hV) (cwV 1 hts gX8_tie_X8_isFriend rfl rfl rfl (by decide +kernel) ⟨Nat.le_of_ble_eq_true rfl, Nat.le_of_ble_eq_true rfl⟩) (preRV hK hN (show va_P (dC, dI) vwCl (qw_X8_isFriend cI cJ cC cG cW a_this a_this_laid a_this_text a_this_read a_this_numbers a_this_where a_this_sorts a_this_tells a_this_undone a_this_parts a_this_goesWith a_this_with a_this_keeps z_letters z_at z_walked z_counts z_undos z_all z_planned z_scale z_least z_kept z_laid) s.heap from hP) rfl rfl) rfl rfl hl.1 rfl (lv_room (Nat.le_of_ble_eq_true rfl)) dX8_tie_2 ⟨Nat.le_of_ble_eq_true rfl, Nat.le_of_ble_eq_true rfl⟩)) (fun r1 hV => ?_)
  refine lv_if_eq (tgt := 38) hx hb dX8_tie_5 (by decide) (fun c2 => ?_) (fun c2 => ?_)
  · have hV := hV.1 c2
    refine lv_iconst (v := (-1 : Int32)) hx hb dX8_tie_38 (by decide) ?_
    exact W.iret hx hb hr (fun t ht hW => ⟨_, rfl, hV, ht⟩) (fun q h => absurd h List.not_mem_nil) dX8_tie_39 hlocks
  · have hV := hV.2 c2
    refine lv_aload_n hx hb dX8_tie_8 rfl (lv_at hl 0 rfl) ?_
    refine lv_iload_n hx hb dX8_tie_9 rfl (lv_at hl 2 rfl) ?_
    refine vp_callSi (va_Run.run (va_runV (As := [.int x2]) (rest := []) ⟨hx, hb, hml, hown, hts⟩ (qm_X8_isFriend l dC dI cI cJ cC cG cW a_this a_this_laid a_this_text a_this_read a_this_numbers a_this_where a_this_sorts a_this_tells a_this_undone a_this_parts a_this_goesWith a_this_with a_this_keeps z_letters z_at z_walked z_counts z_undos z_all z_planned z_scale z_least z_kept z_laid x2 _ hV) (cwV 1 hts gX8_tie_X8_isFriend rfl rfl rfl (by decide +kernel) ⟨Nat.le_of_ble_eq_true rfl, Nat.le_of_ble_eq_true rfl⟩) (preRV hK hN (show va_P (dC, dI) vwCl (qw_X8_isFriend cI cJ cC cG cW a_this a_this_laid a_this_text a_this_read a_this_numbers a_this_where a_this_sorts a_this_tells a_this_undone a_this_parts a_this_goesWith a_this_with a_this_keeps z_letters z_at z_walked z_counts z_undos z_all z_planned z_scale z_least z_kept z_laid) s.heap from hP) rfl rfl) rfl rfl hl.1 rfl (lv_room (Nat.le_of_ble_eq_true rfl)) dX8_tie_10 ⟨Nat.le_of_ble_eq_true rfl, Nat.le_of_ble_eq_true rfl⟩)) (fun r3 hV => ?_)
    refine lv_if_eq (tgt := 38) hx hb dX8_tie_13 (by decide) (fun c4 => ?_) (fun c4 => ?_)
    · have hV := hV.1 c4
      refine lv_iconst (v := (-1 : Int32)) hx hb dX8_tie_38 (by decide) ?_
      exact W.iret hx hb hr (fun t ht hW => ⟨_, rfl, hV, ht⟩) (fun q h => absurd h List.not_mem_nil) dX8_tie_39 hlocks
    · have hV := hV.2 c4
      refine lv_iload_n hx hb dX8_tie_16 rfl (lv_at hl 1 rfl) ?_
      refine lv_iload_n hx hb dX8_tie_17 rfl (lv_at hl 2 rfl) ?_
      refine lv_icmp_eq (tgt := 38) hx hb dX8_tie_18 (by decide) (fun c5 => ?_) (fun c5 => ?_)
      · have hV := hV.1 c5
        refine lv_iconst (v := (-1 : Int32)) hx hb dX8_tie_38 (by decide) ?_
        exact W.iret hx hb hr (fun t ht hW => ⟨_, rfl, hV, ht⟩) (fun q h => absurd h List.not_mem_nil) dX8_tie_39 hlocks
      · have hV := hV.2 c5
        refine lv_aload_n hx hb dX8_tie_21 rfl (lv_at hl 0 rfl) ?_
        refine va_get (D := (dC, dI)) (ci := 8) (v := .ref a_this_laid) (C := RX8) (T := TX8) (N := 22) hx hb hts qi_X8_tie_X8 hown hK hP 0 rfl rfl 0 (by decide) (hts _ ql_X8_tie_7) (fun _ h9 => h9) rfl dX8_tie_22 ?_
        refine lv_bipush (v := (37 : Int32)) hx hb dX8_tie_25 (by decide) ?_
        refine lv_bipush (v := (6 : Int32)) hx hb dX8_tie_27 (by decide) ?_
        refine lv_iload_n hx hb dX8_tie_29 rfl (lv_at hl 1 rfl) ?_
        refine lv_imul hx hb dX8_tie_30 ?_
        refine lv_iadd hx hb dX8_tie_31 ?_
        refine lv_iload_n hx hb dX8_tie_32 rfl (lv_at hl 2 rfl) ?_
        refine lv_iadd hx hb dX8_tie_33 ?_
        obtain ⟨h6, hV⟩ := hV
        refine va_iald hx hb hK hP 1 0 rfl rfl h6 dX8_tie_34 ?_
        refine lv_goto (tgt := 39) hx hb dX8_tie_35 (by decide) ?_
        exact W.iret hx hb hr (fun t ht hW => ⟨_, rfl, hV, ht⟩) (fun q h => absurd h List.not_mem_nil) dX8_tie_39 hlocks

/-! StileCountsModel.notes(I)V -/
abbrev qw_X8_notes (cI cJ cC cG cW : ClassId) (a_this a_this_laid a_this_text a_this_read a_this_numbers a_this_where a_this_sorts a_this_tells a_this_undone a_this_parts a_this_goesWith a_this_with a_this_keeps : Nat) (z_letters : Int32) (z_at : Int32) (z_walked : Int32) (z_counts : Int32) (z_undos : Int32) (z_all : Int64) (z_planned : Int64) (z_scale : Int64) (z_least : Int32) (z_kept : Int32) (z_undone : Nat → Int32) : va_W := [(a_this, .inr (8, [.ref a_this_laid, .ref a_this_text, .int z_letters, .ref a_this_read, .int z_at, .ref a_this_numbers, .int z_walked, .int z_counts, .ref a_this_where, .ref a_this_sorts, .ref a_this_tells, .int z_undos, .ref a_this_undone, .ref a_this_parts, .long z_all, .long z_planned, .long z_scale, .ref a_this_goesWith, .int z_least, .ref a_this_with, .int z_kept, .ref a_this_keeps])), (a_this_undone, .inl (cI, 8, .inl z_undone))]
theorem qi_X8_notes_X8 : ∀ w ∈ wsX80, w ∈ wsX8_notes := by decide +kernel
theorem ql_X8_notes_117 : (.fieldLink RX8 117 "StileCountsModel" "undos" "I" : Cond) ∈ wsX8_notes := by decide +kernel
theorem ql_X8_notes_31 : (.fieldLink RX8 31 "StileCountsModel" "undone" "[I" : Cond) ∈ wsX8_notes := by decide +kernel
def qv_X8_notes_J43 (x1 : Int32) (z_undos : Int32) (z_undone : Nat → Int32) (Post : (Int32) → (Nat → Int32) → Prop) : Prop := vp_in z_undos 8 ∧ (Post (z_undos + (1 : Int32)) (upd z_undone z_undos.toNatClampNeg x1))
set_option maxHeartbeats 4000000 in
set_option maxRecDepth 100000 in
theorem qt_X8_notes_J43 {p : Program} {l : Launch} {e : Env} {s : State} {m : MethodId} {args : Array Value} {below : List Frame} {meth : Method} {c : Code} {dC : Nat → ClassId} {dI : Nat → Nat → Nat} {cI cJ cC cG cW : ClassId} {a_this a_this_laid a_this_text a_this_read a_this_numbers a_this_where a_this_sorts a_this_tells a_this_undone a_this_parts a_this_goesWith a_this_with a_this_keeps : Nat} {A : Nat → Prop} (C0 : MC cX8_notes 3 none RX8 wsX8_notes p s m args meth c) (hK : va_K (dC, dI) vwCl (tyL cI cJ cC cG cW) s) (hN : NW s) (hA : ∀ q, s.heap.size ≤ q → A q) (z_letters : Int32) (z_at : Int32) (z_walked : Int32) (z_counts : Int32) (z_undos : Int32) (z_all : Int64) (z_planned : Int64) (z_scale : Int64) (z_least : Int32) (z_kept : Int32) (z_undone : Nat → Int32) (x1 : Int32) (Post : (Int32) → (Nat → Int32) → Prop) (H : Heap) (locs : List Loc) (ls : Array Slot) (hV : qv_X8_notes_J43 x1 z_undos z_undone Post) (hP : va_P (dC, dI) vwCl (qw_X8_notes cI cJ cC cG cW a_this a_this_laid a_this_text a_this_read a_this_numbers a_this_where a_this_sorts a_this_tells a_this_undone a_this_parts a_this_goesWith a_this_with a_this_keeps z_letters z_at z_walked z_counts z_undos z_all z_planned z_scale z_least z_kept z_undone) H) (hD : va_D A (qw_X8_notes cI cJ cC cG cW a_this a_this_laid a_this_text a_this_read a_this_numbers a_this_where a_this_sorts a_this_tells a_this_undone a_this_parts a_this_goesWith a_this_with a_this_keeps z_letters z_at z_walked z_counts z_undos z_all z_planned z_scale z_least z_kept z_undone)) (hS : va_S A s.heap H locs) (hl : lv_has ls 3 [(0, .ref a_this), (1, .int x1)]) : W p l e ({ frames := 0, cells := 0, slots := 0, locals := 0 } : Room) s m args below meth c H locs 0 0 (MQ below (va_Qv (fun (u : (Int32) × (Nat → Int32)) => Post u.1 u.2) (fun u t => poW (dC, dI) (tyL cI cJ cC cG cW) A (qw_X8_notes cI cJ cC cG cW a_this a_this_laid a_this_text a_this_read a_this_numbers a_this_where a_this_sorts a_this_tells a_this_undone a_this_parts a_this_goesWith a_this_with a_this_keeps z_letters z_at z_walked z_counts u.1 z_all z_planned z_scale z_least z_kept u.2) t) A) args s 0 0 A) (F0 m 43 ls []) := by
  obtain ⟨hx, hb, hr, hml, hown, hts, hlocks⟩ := id C0
  refine lv_aload_n hx hb dX8_notes_43 rfl (lv_at hl 0 rfl) ?_
  refine va_get (D := (dC, dI)) (ci := 8) (v := .ref a_this_undone) (C := RX8) (T := TX8) (N := 22) hx hb hts qi_X8_notes_X8 hown hK hP 0 rfl rfl 12 (by decide) (hts _ ql_X8_notes_31) (fun _ h9 => h9) rfl dX8_notes_44 ?_
  refine lv_aload_n hx hb dX8_notes_47 rfl (lv_at hl 0 rfl) ?_
  refine va_get (D := (dC, dI)) (ci := 8) (v := .int z_undos) (C := RX8) (T := TX8) (N := 22) hx hb hts qi_X8_notes_X8 hown hK hP 0 rfl rfl 11 (by decide) (hts _ ql_X8_notes_117) (fun _ h9 => h9) rfl dX8_notes_48 ?_
  refine lv_iload_n hx hb dX8_notes_51 rfl (lv_at hl 1 rfl) ?_
  obtain ⟨h2, hV⟩ := hV
  refine va_iast hx hb hK hP hD hS 1 0 rfl rfl h2 dX8_notes_52 (fun H locs hP hD hS => ?_)
  have hP : va_P (dC, dI) vwCl (qw_X8_notes cI cJ cC cG cW a_this a_this_laid a_this_text a_this_read a_this_numbers a_this_where a_this_sorts a_this_tells a_this_undone a_this_parts a_this_goesWith a_this_with a_this_keeps z_letters z_at z_walked z_counts z_undos z_all z_planned z_scale z_least z_kept (upd z_undone z_undos.toNatClampNeg x1)) H := hP
  have hD : va_D A (qw_X8_notes cI cJ cC cG cW a_this a_this_laid a_this_text a_this_read a_this_numbers a_this_where a_this_sorts a_this_tells a_this_undone a_this_parts a_this_goesWith a_this_with a_this_keeps z_letters z_at z_walked z_counts z_undos z_all z_planned z_scale z_least z_kept (upd z_undone z_undos.toNatClampNeg x1)) := hD
  refine lv_aload_n hx hb dX8_notes_53 rfl (lv_at hl 0 rfl) ?_
  refine lv_dup hx hb dX8_notes_54 rfl ?_
  refine va_get (D := (dC, dI)) (ci := 8) (v := .int z_undos) (C := RX8) (T := TX8) (N := 22) hx hb hts qi_X8_notes_X8 hown hK hP 0 rfl rfl 11 (by decide) (hts _ ql_X8_notes_117) (fun _ h9 => h9) rfl dX8_notes_55 ?_
  refine lv_iconst (v := (1 : Int32)) hx hb dX8_notes_58 (by decide) ?_
  refine lv_iadd hx hb dX8_notes_59 ?_
  refine va_put (D := (dC, dI)) (ci := 8) (v := .int (z_undos + (1 : Int32))) (ty := .int) (C := RX8) (T := TX8) (N := 22) hx hb hts qi_X8_notes_X8 tyX8 tyX8_ok nmX8 hown hK hP hD hS 0 rfl rfl 11 (by decide) (hts _ ql_X8_notes_117) (fun _ h9 => h9) rfl (by decide +kernel) rfl rfl (Nat.le_of_ble_eq_true rfl) dX8_notes_60 (fun H locs hP hD hS => ?_)
  have hP : va_P (dC, dI) vwCl (qw_X8_notes cI cJ cC cG cW a_this a_this_laid a_this_text a_this_read a_this_numbers a_this_where a_this_sorts a_this_tells a_this_undone a_this_parts a_this_goesWith a_this_with a_this_keeps z_letters z_at z_walked z_counts (z_undos + (1 : Int32)) z_all z_planned z_scale z_least z_kept (upd z_undone z_undos.toNatClampNeg x1)) H := hP
  have hD : va_D A (qw_X8_notes cI cJ cC cG cW a_this a_this_laid a_this_text a_this_read a_this_numbers a_this_where a_this_sorts a_this_tells a_this_undone a_this_parts a_this_goesWith a_this_with a_this_keeps z_letters z_at z_walked z_counts (z_undos + (1 : Int32)) z_all z_planned z_scale z_least z_kept (upd z_undone z_undos.toNatClampNeg x1)) := hD
  exact W.vret hx hb hr (fun t ht hW => ⟨⟨((z_undos + (1 : Int32)), (upd z_undone z_undos.toNatClampNeg x1)), rfl, hV, ⟨by rw [ht]; exact hP, va_K.moved hW.alike hK, hD⟩⟩, hS.F ht⟩) hS.2.2 dX8_notes_63 hlocks
def qv_X8_notes_L11 (x1 : Int32) (z_undos : Int32) (Post : (Int32) → (Nat → Int32) → Prop) (E : (Nat → Int32) → Prop) : Nat → (Int32) → (Nat → Int32) → Prop
  | 0, _, _ => False
  | n + 1, x2, z_undone => ((8 : Int32) ≤ x2 → E z_undone) ∧ (¬ (8 : Int32) ≤ x2 → vp_in x2 8 ∧ (vp_in (x2 - (1 : Int32)) 8 ∧ (qv_X8_notes_L11 x1 z_undos Post E n (x2 + (1 : Int32)) (upd z_undone (x2 - (1 : Int32)).toNatClampNeg (z_undone x2.toNatClampNeg)))))
set_option maxHeartbeats 4000000 in
set_option maxRecDepth 100000 in
theorem qt_X8_notes_L11 {p : Program} {l : Launch} {e : Env} {s : State} {m : MethodId} {args : Array Value} {below : List Frame} {meth : Method} {c : Code} {dC : Nat → ClassId} {dI : Nat → Nat → Nat} {cI cJ cC cG cW : ClassId} {a_this a_this_laid a_this_text a_this_read a_this_numbers a_this_where a_this_sorts a_this_tells a_this_undone a_this_parts a_this_goesWith a_this_with a_this_keeps : Nat} {A : Nat → Prop} (C0 : MC cX8_notes 3 none RX8 wsX8_notes p s m args meth c) (hK : va_K (dC, dI) vwCl (tyL cI cJ cC cG cW) s) (hN : NW s) (hA : ∀ q, s.heap.size ≤ q → A q) (z_letters : Int32) (z_at : Int32) (z_walked : Int32) (z_counts : Int32) (z_undos : Int32) (z_all : Int64) (z_planned : Int64) (z_scale : Int64) (z_least : Int32) (z_kept : Int32) (x1 : Int32) (Post : (Int32) → (Nat → Int32) → Prop) (E : (Nat → Int32) → Prop) (hE : ∀ (z_undone : Nat → Int32) (H : Heap) (locs : List Loc) (ls : Array Slot), E z_undone → va_P (dC, dI) vwCl (qw_X8_notes cI cJ cC cG cW a_this a_this_laid a_this_text a_this_read a_this_numbers a_this_where a_this_sorts a_this_tells a_this_undone a_this_parts a_this_goesWith a_this_with a_this_keeps z_letters z_at z_walked z_counts z_undos z_all z_planned z_scale z_least z_kept z_undone) H → va_D A (qw_X8_notes cI cJ cC cG cW a_this a_this_laid a_this_text a_this_read a_this_numbers a_this_where a_this_sorts a_this_tells a_this_undone a_this_parts a_this_goesWith a_this_with a_this_keeps z_letters z_at z_walked z_counts z_undos z_all z_planned z_scale z_least z_kept z_undone) → va_S A s.heap H locs → lv_has ls 3 [(0, .ref a_this), (1, .int x1)] → W p l e ({ frames := 0, cells := 0, slots := 0, locals := 0 } : Room) s m args below meth c H locs 0 0 (MQ below (va_Qv (fun (u : (Int32) × (Nat → Int32)) => Post u.1 u.2) (fun u t => poW (dC, dI) (tyL cI cJ cC cG cW) A (qw_X8_notes cI cJ cC cG cW a_this a_this_laid a_this_text a_this_read a_this_numbers a_this_where a_this_sorts a_this_tells a_this_undone a_this_parts a_this_goesWith a_this_with a_this_keeps z_letters z_at z_walked z_counts u.1 z_all z_planned z_scale z_least z_kept u.2) t) A) args s 0 0 A) (F0 m 37 ls [])) : ∀ (n : Nat) (x2 : Int32) (z_undone : Nat → Int32) (H : Heap) (locs : List Loc) (ls : Array Slot), qv_X8_notes_L11 x1 z_undos Post E n x2 z_undone → va_P (dC, dI) vwCl (qw_X8_notes cI cJ cC cG cW a_this a_this_laid a_this_text a_this_read a_this_numbers a_this_where a_this_sorts a_this_tells a_this_undone a_this_parts a_this_goesWith a_this_with a_this_keeps z_letters z_at z_walked z_counts z_undos z_all z_planned z_scale z_least z_kept z_undone) H → va_D A (qw_X8_notes cI cJ cC cG cW a_this a_this_laid a_this_text a_this_read a_this_numbers a_this_where a_this_sorts a_this_tells a_this_undone a_this_parts a_this_goesWith a_this_with a_this_keeps z_letters z_at z_walked z_counts z_undos z_all z_planned z_scale z_least z_kept z_undone) → va_S A s.heap H locs → lv_has ls 3 [(0, .ref a_this), (1, .int x1), (2, .int x2)] → W p l e ({ frames := 0, cells := 0, slots := 0, locals := 0 } : Room) s m args below meth c H locs 0 0 (MQ below (va_Qv (fun (u : (Int32) × (Nat → Int32)) => Post u.1 u.2) (fun u t => poW (dC, dI) (tyL cI cJ cC cG cW) A (qw_X8_notes cI cJ cC cG cW a_this a_this_laid a_this_text a_this_read a_this_numbers a_this_where a_this_sorts a_this_tells a_this_undone a_this_parts a_this_goesWith a_this_with a_this_keeps z_letters z_at z_walked z_counts u.1 z_all z_planned z_scale z_least z_kept u.2) t) A) args s 0 0 A) (F0 m 11 ls []) := by
  obtain ⟨hx, hb, hr, hml, hown, hts, hlocks⟩ := id C0
  intro n
  induction n with
  | zero =>
    intro x2 z_undone H locs ls hV
    exact False.elim hV
  | succ n ih =>
    intro x2 z_undone H locs ls hV hP hD hS hl
    refine lv_iload_n hx hb dX8_notes_11 rfl (lv_at hl 2 rfl) ?_
    refine lv_bipush (v := (8 : Int32)) hx hb dX8_notes_12 (by decide) ?_
    refine lv_icmp_ge (tgt := 37) hx hb dX8_notes_14 (by decide) (fun c3 => ?_) (fun c3 => ?_)
    · have hV := hV.1 c3
      exact hE z_undone H locs ls hV hP hD hS (lv_sub hl [0, 1] rfl)
    · have hV := hV.2 c3
      refine lv_aload_n hx hb dX8_notes_17 rfl (lv_at hl 0 rfl) ?_
      refine va_get (D := (dC, dI)) (ci := 8) (v := .ref a_this_undone) (C := RX8) (T := TX8) (N := 22) hx hb hts qi_X8_notes_X8 hown hK hP 0 rfl rfl 12 (by decide) (hts _ ql_X8_notes_31) (fun _ h9 => h9) rfl dX8_notes_18 ?_
      refine lv_iload_n hx hb dX8_notes_21 rfl (lv_at hl 2 rfl) ?_
      refine lv_iconst (v := (1 : Int32)) hx hb dX8_notes_22 (by decide) ?_
      refine lv_isub hx hb dX8_notes_23 ?_
      refine lv_aload_n hx hb dX8_notes_24 rfl (lv_at hl 0 rfl) ?_
      refine va_get (D := (dC, dI)) (ci := 8) (v := .ref a_this_undone) (C := RX8) (T := TX8) (N := 22) hx hb hts qi_X8_notes_X8 hown hK hP 0 rfl rfl 12 (by decide) (hts _ ql_X8_notes_31) (fun _ h9 => h9) rfl dX8_notes_25 ?_
      refine lv_iload_n hx hb dX8_notes_28 rfl (lv_at hl 2 rfl) ?_
      obtain ⟨h4, hV⟩ := hV
      refine va_iald hx hb hK hP 1 0 rfl rfl h4 dX8_notes_29 ?_
      obtain ⟨h5, hV⟩ := hV
      refine va_iast hx hb hK hP hD hS 1 0 rfl rfl h5 dX8_notes_30 (fun H locs hP hD hS => ?_)
      have hP : va_P (dC, dI) vwCl (qw_X8_notes cI cJ cC cG cW a_this a_this_laid a_this_text a_this_read a_this_numbers a_this_where a_this_sorts a_this_tells a_this_undone a_this_parts a_this_goesWith a_this_with a_this_keeps z_letters z_at z_walked z_counts z_undos z_all z_planned z_scale z_least z_kept (upd z_undone (x2 - (1 : Int32)).toNatClampNeg (z_undone x2.toNatClampNeg))) H := hP
      have hD : va_D A (qw_X8_notes cI cJ cC cG cW a_this a_this_laid a_this_text a_this_read a_this_numbers a_this_where a_this_sorts a_this_tells a_this_undone a_this_parts a_this_goesWith a_this_with a_this_keeps z_letters z_at z_walked z_counts z_undos z_all z_planned z_scale z_least z_kept (upd z_undone (x2 - (1 : Int32)).toNatClampNeg (z_undone x2.toNatClampNeg))) := hD
      refine lv_iinc (v := (x2 + (1 : Int32))) (lv' := [(2, .int (x2 + (1 : Int32))), (0, .ref a_this), (1, .int x1)]) hx hb dX8_notes_31 hl (k := 2) rfl rfl (by decide) rfl (fun ls hl => ?_)
      refine lv_goto (tgt := 11) hx hb dX8_notes_34 (by decide) ?_
      exact ih (x2 + (1 : Int32)) (upd z_undone (x2 - (1 : Int32)).toNatClampNeg (z_undone x2.toNatClampNeg)) H locs ls hV hP hD hS (lv_sub hl [1, 2, 0] rfl)
def qv_X8_notes (x1 : Int32) (z_undos : Int32) (z_undone : Nat → Int32) (Post : (Int32) → (Nat → Int32) → Prop) : Prop := (z_undos = (8 : Int32) → ∃ n6, qv_X8_notes_L11 x1 z_undos Post (fun z_undone_6 => qv_X8_notes_J43 x1 (7 : Int32) z_undone_6 Post) n6 (1 : Int32) z_undone) ∧ (¬ z_undos = (8 : Int32) → qv_X8_notes_J43 x1 z_undos z_undone Post)
set_option maxHeartbeats 4000000 in
set_option maxRecDepth 100000 in
theorem qm_X8_notes (l : Launch) (dC : Nat → ClassId) (dI : Nat → Nat → Nat) (cI cJ cC cG cW : ClassId) (a_this a_this_laid a_this_text a_this_read a_this_numbers a_this_where a_this_sorts a_this_tells a_this_undone a_this_parts a_this_goesWith a_this_with a_this_keeps : Nat) (z_letters : Int32) (z_at : Int32) (z_walked : Int32) (z_counts : Int32) (z_undos : Int32) (z_all : Int64) (z_planned : Int64) (z_scale : Int64) (z_least : Int32) (z_kept : Int32) (z_undone : Nat → Int32) (sz : Nat) (x1 : Int32) (Post : (Int32) → (Nat → Int32) → Prop) (hV : qv_X8_notes x1 z_undos z_undone Post) : Met l yX8_notes wsX8_notes ({ frames := 0, cells := 0, slots := 0, locals := 0 } : Room) (va_Pc [.ref a_this, .int x1] (prW (dC, dI) (qw_X8_notes cI cJ cC cG cW a_this a_this_laid a_this_text a_this_read a_this_numbers a_this_where a_this_sorts a_this_tells a_this_undone a_this_parts a_this_goesWith a_this_with a_this_keeps z_letters z_at z_walked z_counts z_undos z_all z_planned z_scale z_least z_kept z_undone) (tyL cI cJ cC cG cW) sz)) (va_Qv (fun (u : (Int32) × (Nat → Int32)) => Post u.1 u.2) (fun u t => poW (dC, dI) (tyL cI cJ cC cG cW) (va_A (qw_X8_notes cI cJ cC cG cW a_this a_this_laid a_this_text a_this_read a_this_numbers a_this_where a_this_sorts a_this_tells a_this_undone a_this_parts a_this_goesWith a_this_with a_this_keeps z_letters z_at z_walked z_counts z_undos z_all z_planned z_scale z_least z_kept z_undone) sz) (qw_X8_notes cI cJ cC cG cW a_this a_this_laid a_this_text a_this_read a_this_numbers a_this_where a_this_sorts a_this_tells a_this_undone a_this_parts a_this_goesWith a_this_with a_this_keeps z_letters z_at z_walked z_counts u.1 z_all z_planned z_scale z_least z_kept u.2) t) (va_A (qw_X8_notes cI cJ cC cG cW a_this a_this_laid a_this_text a_this_read a_this_numbers a_this_where a_this_sorts a_this_tells a_this_undone a_this_parts a_this_goesWith a_this_with a_this_keeps z_letters z_at z_walked z_counts z_undos z_all z_planned z_scale z_least z_kept z_undone) sz)) 0 0 (va_A (qw_X8_notes cI cJ cC cG cW a_this a_this_laid a_this_text a_this_read a_this_numbers a_this_where a_this_sorts a_this_tells a_this_undone a_this_parts a_this_goesWith a_this_with a_this_keeps z_letters z_at z_walked z_counts z_undos z_all z_planned z_scale z_least z_kept z_undone) sz) := by
  refine Met.ofM (Qc := fun A => va_Qv (fun (u : (Int32) × (Nat → Int32)) => Post u.1 u.2) (fun u t => poW (dC, dI) (tyL cI cJ cC cG cW) A (qw_X8_notes cI cJ cC cG cW a_this a_this_laid a_this_text a_this_read a_this_numbers a_this_where a_this_sorts a_this_tells a_this_undone a_this_parts a_this_goesWith a_this_with a_this_keeps z_letters z_at z_walked z_counts u.1 z_all z_planned z_scale z_least z_kept u.2) t) A) (nm := "notes") (ds := "(I)V") (own := RX8) (maxL := 3) (cc := cX8_notes) (ret := none) (by decide) rfl rfl (Nat.le_of_ble_eq_true rfl) (fun p e s m below meth c A C0 hin hK hN hA hP hD hS ls hl => ?_)
  obtain ⟨hx, hb, hr, hml, hown, hts, hlocks⟩ := id C0
  have hl : lv_has ls 3 [(0, .ref a_this), (1, .int x1)] := hl
  obtain ⟨H, hH⟩ : ∃ h : Heap, h = s.heap := ⟨_, rfl⟩
  obtain ⟨locs, hLc⟩ : ∃ L : List Loc, L = [] := ⟨_, rfl⟩
  have hS : va_S A s.heap H locs := by rw [hH, hLc]; exact hS
  rw [← hH] at hP
  rw [← hLc, ← hH]
  clear hH hLc
  refine lv_aload_n hx hb dX8_notes_0 rfl (lv_at hl 0 rfl) ?_
  refine va_get (D := (dC, dI)) (ci := 8) (v := .int z_undos) (C := RX8) (T := TX8) (N := 22) hx hb hts qi_X8_notes_X8 hown hK hP 0 rfl rfl 11 (by decide) (hts _ ql_X8_notes_117) (fun _ h9 => h9) rfl dX8_notes_1 ?_
  refine lv_bipush (v := (8 : Int32)) hx hb dX8_notes_4 (by decide) ?_
  refine lv_icmp_ne (tgt := 43) hx hb dX8_notes_6 (by decide) (fun c1 => ?_) (fun c1 => ?_)
  · have hV := hV.2 c1
    exact qt_X8_notes_J43 C0 hK hN hA z_letters z_at z_walked z_counts z_undos z_all z_planned z_scale z_least z_kept z_undone x1 _ H locs ls hV hP hD hS (lv_sub hl [0, 1] rfl)
  · have hV := hV.1 c1
    refine lv_iconst (v := (1 : Int32)) hx hb dX8_notes_9 (by decide) ?_
    refine lv_istore_n (lv' := [(2, .int (1 : Int32)), (0, .ref a_this), (1, .int x1)]) hx hb dX8_notes_10 rfl hl (by decide) rfl (fun ls hl => ?_)
    obtain ⟨n6, hV⟩ := hV
    refine qt_X8_notes_L11 C0 hK hN hA z_letters z_at z_walked z_counts z_undos z_all z_planned z_scale z_least z_kept x1 _ _ (fun z_undone_6 H locs ls hV hP hD hS hl => ?_) n6 (1 : Int32) z_undone H locs ls hV hP hD hS (lv_sub hl [1, 2, 0] rfl)
    refine lv_aload_n hx hb dX8_notes_37 rfl (lv_at hl 0 rfl) ?_
    refine lv_bipush (v := (7 : Int32)) hx hb dX8_notes_38 (by decide) ?_
    refine va_put (D := (dC, dI)) (ci := 8) (v := .int (7 : Int32)) (ty := .int) (C := RX8) (T := TX8) (N := 22) hx hb hts qi_X8_notes_X8 tyX8 tyX8_ok nmX8 hown hK hP hD hS 0 rfl rfl 11 (by decide) (hts _ ql_X8_notes_117) (fun _ h9 => h9) rfl (by decide +kernel) rfl rfl (Nat.le_of_ble_eq_true rfl) dX8_notes_40 (fun H locs hP hD hS => ?_)
    have hP : va_P (dC, dI) vwCl (qw_X8_notes cI cJ cC cG cW a_this a_this_laid a_this_text a_this_read a_this_numbers a_this_where a_this_sorts a_this_tells a_this_undone a_this_parts a_this_goesWith a_this_with a_this_keeps z_letters z_at z_walked z_counts (7 : Int32) z_all z_planned z_scale z_least z_kept z_undone_6) H := hP
    have hD : va_D A (qw_X8_notes cI cJ cC cG cW a_this a_this_laid a_this_text a_this_read a_this_numbers a_this_where a_this_sorts a_this_tells a_this_undone a_this_parts a_this_goesWith a_this_with a_this_keeps z_letters z_at z_walked z_counts (7 : Int32) z_all z_planned z_scale z_least z_kept z_undone_6) := hD
    exact qt_X8_notes_J43 C0 hK hN hA z_letters z_at z_walked z_counts (7 : Int32) z_all z_planned z_scale z_least z_kept z_undone_6 x1 _ H locs ls hV hP hD hS (lv_sub hl [0, 1] rfl)

/-! StileCountsModel.walk()I -/
abbrev qw_X8_walk (cI cJ cC cG cW : ClassId) (a_this a_this_laid a_this_text a_this_read a_this_numbers a_this_where a_this_sorts a_this_tells a_this_undone a_this_parts a_this_goesWith a_this_with a_this_keeps : Nat) (z_letters : Int32) (z_at : Int32) (z_walked : Int32) (z_counts : Int32) (z_undos : Int32) (z_all : Int64) (z_planned : Int64) (z_scale : Int64) (z_least : Int32) (z_kept : Int32) (z_laid : Nat → Int32) (z_undone : Nat → Int32) : va_W := [(a_this, .inr (8, [.ref a_this_laid, .ref a_this_text, .int z_letters, .ref a_this_read, .int z_at, .ref a_this_numbers, .int z_walked, .int z_counts, .ref a_this_where, .ref a_this_sorts, .ref a_this_tells, .int z_undos, .ref a_this_undone, .ref a_this_parts, .long z_all, .long z_planned, .long z_scale, .ref a_this_goesWith, .int z_least, .ref a_this_with, .int z_kept, .ref a_this_keeps])), (a_this_laid, .inl (cI, 73, .inl z_laid)), (a_this_undone, .inl (cI, 8, .inl z_undone))]
theorem qi_X8_walk_X8 : ∀ w ∈ wsX80, w ∈ wsX8_walk := by decide +kernel
theorem ql_X8_walk_111 : (.fieldLink RX8 111 "StileCountsModel" "walked" "I" : Cond) ∈ wsX8_walk := by decide +kernel
theorem ql_X8_walk_7 : (.fieldLink RX8 7 "StileCountsModel" "laid" "[I" : Cond) ∈ wsX8_walk := by decide +kernel
def qv_X8_walk (z_walked : Int32) (z_undos : Int32) (z_laid : Nat → Int32) (z_undone : Nat → Int32) (Post : Int32 → (Int32) → (Int32) → (Nat → Int32) → Prop) : Prop := vp_in (0 : Int32) 73 ∧ ((z_walked = (z_laid (0 : Int32).toNatClampNeg) → Post (-2 : Int32) z_walked z_undos z_undone) ∧ (¬ z_walked = (z_laid (0 : Int32).toNatClampNeg) → qv_X8_notes (1 : Int32) z_undos z_undone (fun z_undos_3 z_undone_3 => Post (z_walked + (1 : Int32)) (z_walked + (1 : Int32)) z_undos_3 z_undone_3)))
set_option maxHeartbeats 4000000 in
set_option maxRecDepth 100000 in
theorem qm_X8_walk (l : Launch) (dC : Nat → ClassId) (dI : Nat → Nat → Nat) (cI cJ cC cG cW : ClassId) (a_this a_this_laid a_this_text a_this_read a_this_numbers a_this_where a_this_sorts a_this_tells a_this_undone a_this_parts a_this_goesWith a_this_with a_this_keeps : Nat) (z_letters : Int32) (z_at : Int32) (z_walked : Int32) (z_counts : Int32) (z_undos : Int32) (z_all : Int64) (z_planned : Int64) (z_scale : Int64) (z_least : Int32) (z_kept : Int32) (z_laid : Nat → Int32) (z_undone : Nat → Int32) (sz : Nat) (Post : Int32 → (Int32) → (Int32) → (Nat → Int32) → Prop) (hV : qv_X8_walk z_walked z_undos z_laid z_undone Post) : Met l yX8_walk wsX8_walk ({ frames := 1, cells := 0, slots := 0, locals := 22 } : Room) (va_Pc [.ref a_this] (prW (dC, dI) (qw_X8_walk cI cJ cC cG cW a_this a_this_laid a_this_text a_this_read a_this_numbers a_this_where a_this_sorts a_this_tells a_this_undone a_this_parts a_this_goesWith a_this_with a_this_keeps z_letters z_at z_walked z_counts z_undos z_all z_planned z_scale z_least z_kept z_laid z_undone) (tyL cI cJ cC cG cW) sz)) (va_Qi (fun (r : Int32) (u : (Int32) × (Int32) × (Nat → Int32)) => Post r u.1 u.2.1 u.2.2) (fun u t => poW (dC, dI) (tyL cI cJ cC cG cW) (va_A (qw_X8_walk cI cJ cC cG cW a_this a_this_laid a_this_text a_this_read a_this_numbers a_this_where a_this_sorts a_this_tells a_this_undone a_this_parts a_this_goesWith a_this_with a_this_keeps z_letters z_at z_walked z_counts z_undos z_all z_planned z_scale z_least z_kept z_laid z_undone) sz) (qw_X8_walk cI cJ cC cG cW a_this a_this_laid a_this_text a_this_read a_this_numbers a_this_where a_this_sorts a_this_tells a_this_undone a_this_parts a_this_goesWith a_this_with a_this_keeps z_letters z_at u.1 z_counts u.2.1 z_all z_planned z_scale z_least z_kept z_laid u.2.2) t) (va_A (qw_X8_walk cI cJ cC cG cW a_this a_this_laid a_this_text a_this_read a_this_numbers a_this_where a_this_sorts a_this_tells a_this_undone a_this_parts a_this_goesWith a_this_with a_this_keeps z_letters z_at z_walked z_counts z_undos z_all z_planned z_scale z_least z_kept z_laid z_undone) sz)) 0 0 (va_A (qw_X8_walk cI cJ cC cG cW a_this a_this_laid a_this_text a_this_read a_this_numbers a_this_where a_this_sorts a_this_tells a_this_undone a_this_parts a_this_goesWith a_this_with a_this_keeps z_letters z_at z_walked z_counts z_undos z_all z_planned z_scale z_least z_kept z_laid z_undone) sz) := by
  refine Met.ofM (Qc := fun A => va_Qi (fun (r : Int32) (u : (Int32) × (Int32) × (Nat → Int32)) => Post r u.1 u.2.1 u.2.2) (fun u t => poW (dC, dI) (tyL cI cJ cC cG cW) A (qw_X8_walk cI cJ cC cG cW a_this a_this_laid a_this_text a_this_read a_this_numbers a_this_where a_this_sorts a_this_tells a_this_undone a_this_parts a_this_goesWith a_this_with a_this_keeps z_letters z_at u.1 z_counts u.2.1 z_all z_planned z_scale z_least z_kept z_laid u.2.2) t) A) (nm := "walk") (ds := "()I") (own := RX8) (maxL := 1) (cc := cX8_walk) (ret := (some .int)) (by decide) rfl rfl (Nat.le_of_ble_eq_true rfl) (fun p e s m below meth c A C0 hin hK hN hA hP hD hS ls hl => ?_)
  obtain ⟨hx, hb, hr, hml, hown, hts, hlocks⟩ := id C0
  have hl : lv_has ls 1 [(0, .ref a_this)] := hl
  obtain ⟨H, hH⟩ : ∃ h : Heap, h = s.heap := ⟨_, rfl⟩
  obtain ⟨locs, hLc⟩ : ∃ L : List Loc, L = [] := ⟨_, rfl⟩
  have hS : va_S A s.heap H locs := by rw [hH, hLc]; exact hS
  rw [← hH] at hP
  rw [← hLc, ← hH]
  clear hH hLc
  refine lv_aload_n hx hb dX8_walk_0 rfl (lv_at hl 0 rfl) ?_
  refine va_get (D := (dC, dI)) (ci := 8) (v := .int z_walked) (C := RX8) (T := TX8) (N := 22) hx hb hts qi_X8_walk_X8 hown hK hP 0 rfl rfl 6 (by decide) (hts _ ql_X8_walk_111) (fun _ h9 => h9) rfl dX8_walk_1 ?_
  refine lv_aload_n hx hb dX8_walk_4 rfl (lv_at hl 0 rfl) ?_
  refine va_get (D := (dC, dI)) (ci := 8) (v := .ref a_this_laid) (C := RX8) (T := TX8) (N := 22) hx hb hts qi_X8_walk_X8 hown hK hP 0 rfl rfl 0 (by decide) (hts _ ql_X8_walk_7) (fun _ h9 => h9) rfl dX8_walk_5 ?_
  refine lv_iconst (v := (0 : Int32)) hx hb dX8_walk_8 (by decide) ?_
  obtain ⟨h1, hV⟩ := hV
  refine va_iald hx hb hK hP 1 0 rfl rfl h1 dX8_walk_9 ?_
  refine lv_icmp_ne (tgt := 16) hx hb dX8_walk_10 (by decide) (fun c2 => ?_) (fun c2 => ?_)
  · have hV := hV.2 c2
    refine lv_aload_n hx hb dX8_walk_16 rfl (lv_at hl 0 rfl) ?_
    refine lv_dup hx hb dX8_walk_17 rfl ?_
    refine va_get (D := (dC, dI)) (ci := 8) (v := .int z_walked) (C := RX8) (T := TX8) (N := 22) hx hb hts qi_X8_walk_X8 hown hK hP 0 rfl rfl 6 (by decide) (hts _ ql_X8_walk_111) (fun _ h9 => h9) rfl dX8_walk_18 ?_
    refine lv_iconst (v := (1 : Int32)) hx hb dX8_walk_21 (by decide) ?_
    refine lv_iadd hx hb dX8_walk_22 ?_
    refine va_put (D := (dC, dI)) (ci := 8) (v := .int (z_walked + (1 : Int32))) (ty := .int) (C := RX8) (T := TX8) (N := 22) hx hb hts qi_X8_walk_X8 tyX8 tyX8_ok nmX8 hown hK hP hD hS 0 rfl rfl 6 (by decide) (hts _ ql_X8_walk_111) (fun _ h9 => h9) rfl (by decide +kernel) rfl rfl (Nat.le_of_ble_eq_true rfl) dX8_walk_23 (fun H locs hP hD hS => ?_)
    have hP : va_P (dC, dI) vwCl (qw_X8_walk cI cJ cC cG cW a_this a_this_laid a_this_text a_this_read a_this_numbers a_this_where a_this_sorts a_this_tells a_this_undone a_this_parts a_this_goesWith a_this_with a_this_keeps z_letters z_at (z_walked + (1 : Int32)) z_counts z_undos z_all z_planned z_scale z_least z_kept z_laid z_undone) H := hP
    have hD : va_D A (qw_X8_walk cI cJ cC cG cW a_this a_this_laid a_this_text a_this_read a_this_numbers a_this_where a_this_sorts a_this_tells a_this_undone a_this_parts a_this_goesWith a_this_with a_this_keeps z_letters z_at (z_walked + (1 : Int32)) z_counts z_undos z_all z_planned z_scale z_least z_kept z_laid z_undone) := hD
    refine lv_aload_n hx hb dX8_walk_26 rfl (lv_at hl 0 rfl) ?_
    refine lv_iconst (v := (1 : Int32)) hx hb dX8_walk_27 (by decide) ?_
    refine kW_v (wc := (qw_X8_notes cI cJ cC cG cW a_this a_this_laid a_this_text a_this_read a_this_numbers a_this_where a_this_sorts a_this_tells a_this_undone a_this_parts a_this_goesWith a_this_with a_this_keeps z_letters z_at (z_walked + (1 : Int32)) z_counts z_undos z_all z_planned z_scale z_least z_kept z_undone)) (wr := List.filterMap (fun (i : Nat) => (qw_X8_walk cI cJ cC cG cW a_this a_this_laid a_this_text a_this_read a_this_numbers a_this_where a_this_sorts a_this_tells a_this_undone a_this_parts a_this_goesWith a_this_with a_this_keeps z_letters z_at (z_walked + (1 : Int32)) z_counts z_undos z_all z_planned z_scale z_least z_kept z_laid z_undone)[i]?) [1]) (w1 := fun (u : (Int32) × (Nat → Int32)) => (qw_X8_notes cI cJ cC cG cW a_this a_this_laid a_this_text a_this_read a_this_numbers a_this_where a_this_sorts a_this_tells a_this_undone a_this_parts a_this_goesWith a_this_with a_this_keeps z_letters z_at (z_walked + (1 : Int32)) z_counts u.1 z_all z_planned z_scale z_least z_kept u.2)) (va_runV (As := [.int (1 : Int32)]) (rest := []) ⟨hx, hb, hml, hown, hts⟩ (qm_X8_notes l dC dI cI cJ cC cG cW a_this a_this_laid a_this_text a_this_read a_this_numbers a_this_where a_this_sorts a_this_tells a_this_undone a_this_parts a_this_goesWith a_this_with a_this_keeps z_letters z_at (z_walked + (1 : Int32)) z_counts z_undos z_all z_planned z_scale z_least z_kept z_undone H.size (1 : Int32) _ hV) (cwV 1 hts gX8_walk_X8_notes rfl rfl rfl (by decide +kernel) ⟨Nat.le_of_ble_eq_true rfl, Nat.le_of_ble_eq_true rfl⟩) (preWV hK hN (hP.sub (ws' := (qw_X8_notes cI cJ cC cG cW a_this a_this_laid a_this_text a_this_read a_this_numbers a_this_where a_this_sorts a_this_tells a_this_undone a_this_parts a_this_goesWith a_this_with a_this_keeps z_letters z_at (z_walked + (1 : Int32)) z_counts z_undos z_all z_planned z_scale z_least z_kept z_undone)) [0, 2] rfl) (hD.sub (ws' := (qw_X8_notes cI cJ cC cG cW a_this a_this_laid a_this_text a_this_read a_this_numbers a_this_where a_this_sorts a_this_tells a_this_undone a_this_parts a_this_goesWith a_this_with a_this_keeps z_letters z_at (z_walked + (1 : Int32)) z_counts z_undos z_all z_planned z_scale z_least z_kept z_undone)) [0, 2] (by decide) rfl) rfl rfl) rfl rfl hl.1 rfl (lv_room (Nat.le_of_ble_eq_true rfl)) dX8_walk_28 ⟨Nat.le_of_ble_eq_true rfl, Nat.le_of_ble_eq_true rfl⟩) hP hD hS hA [0, 2] [1] rfl rfl (by decide) (by decide) (fun u H locs hV hP hD hS => ?_)
    obtain ⟨z_undos_3, z_undone_3⟩ := u
    try dsimp only at hV
    have hP := hP.sub (ws' := (qw_X8_walk cI cJ cC cG cW a_this a_this_laid a_this_text a_this_read a_this_numbers a_this_where a_this_sorts a_this_tells a_this_undone a_this_parts a_this_goesWith a_this_with a_this_keeps z_letters z_at (z_walked + (1 : Int32)) z_counts z_undos_3 z_all z_planned z_scale z_least z_kept z_laid z_undone_3)) [1, 0, 2] rfl
    have hD := hD.sub (ws' := (qw_X8_walk cI cJ cC cG cW a_this a_this_laid a_this_text a_this_read a_this_numbers a_this_where a_this_sorts a_this_tells a_this_undone a_this_parts a_this_goesWith a_this_with a_this_keeps z_letters z_at (z_walked + (1 : Int32)) z_counts z_undos_3 z_all z_planned z_scale z_least z_kept z_laid z_undone_3)) [1, 0, 2] (by decide) rfl
    refine lv_aload_n hx hb dX8_walk_31 rfl (lv_at hl 0 rfl) ?_
    refine va_get (D := (dC, dI)) (ci := 8) (v := .int (z_walked + (1 : Int32))) (C := RX8) (T := TX8) (N := 22) hx hb hts qi_X8_walk_X8 hown hK hP 0 rfl rfl 6 (by decide) (hts _ ql_X8_walk_111) (fun _ h9 => h9) rfl dX8_walk_32 ?_
    exact W.iret hx hb hr (fun t ht hW => ⟨⟨_, ((z_walked + (1 : Int32)), z_undos_3, z_undone_3), rfl, hV, ⟨by rw [ht]; exact hP, va_K.moved hW.alike hK, hD⟩⟩, hS.F ht⟩) hS.2.2 dX8_walk_35 hlocks
  · have hV := hV.1 c2
    refine lv_bipush (v := (-2 : Int32)) hx hb dX8_walk_13 (by decide) ?_
    exact W.iret hx hb hr (fun t ht hW => ⟨⟨_, (z_walked, z_undos, z_undone), rfl, hV, ⟨by rw [ht]; exact hP, va_K.moved hW.alike hK, hD⟩⟩, hS.F ht⟩) hS.2.2 dX8_walk_15 hlocks

/-! StileCountsModel.count(II)I -/
abbrev qw_X8_count (cI cJ cC cG cW : ClassId) (a_this a_this_laid a_this_text a_this_read a_this_numbers a_this_where a_this_sorts a_this_tells a_this_undone a_this_parts a_this_goesWith a_this_with a_this_keeps : Nat) (z_letters : Int32) (z_at : Int32) (z_walked : Int32) (z_counts : Int32) (z_undos : Int32) (z_all : Int64) (z_planned : Int64) (z_scale : Int64) (z_least : Int32) (z_kept : Int32) (z_where : Nat → Int32) (z_sorts : Nat → Int32) (z_tells : Nat → Int32) (z_undone : Nat → Int32) : va_W := [(a_this, .inr (8, [.ref a_this_laid, .ref a_this_text, .int z_letters, .ref a_this_read, .int z_at, .ref a_this_numbers, .int z_walked, .int z_counts, .ref a_this_where, .ref a_this_sorts, .ref a_this_tells, .int z_undos, .ref a_this_undone, .ref a_this_parts, .long z_all, .long z_planned, .long z_scale, .ref a_this_goesWith, .int z_least, .ref a_this_with, .int z_kept, .ref a_this_keeps])), (a_this_where, .inl (cI, 6, .inl z_where)), (a_this_sorts, .inl (cI, 6, .inl z_sorts)), (a_this_tells, .inl (cI, 6, .inl z_tells)), (a_this_undone, .inl (cI, 8, .inl z_undone))]
theorem ql_X8_count_123 : (.constantLong RX8 123 (3 : Int64) : Cond) ∈ wsX8_count := by decide +kernel
theorem ql_X8_count_132 : (.constantLong RX8 132 (-2 : Int64) : Cond) ∈ wsX8_count := by decide +kernel
theorem qi_X8_count_X8 : ∀ w ∈ wsX80, w ∈ wsX8_count := by decide +kernel
theorem ql_X8_count_114 : (.fieldLink RX8 114 "StileCountsModel" "counts" "I" : Cond) ∈ wsX8_count := by decide +kernel
theorem ql_X8_count_22 : (.fieldLink RX8 22 "StileCountsModel" "where" "[I" : Cond) ∈ wsX8_count := by decide +kernel
theorem ql_X8_count_111 : (.fieldLink RX8 111 "StileCountsModel" "walked" "I" : Cond) ∈ wsX8_count := by decide +kernel
theorem ql_X8_count_25 : (.fieldLink RX8 25 "StileCountsModel" "sorts" "[I" : Cond) ∈ wsX8_count := by decide +kernel
theorem ql_X8_count_28 : (.fieldLink RX8 28 "StileCountsModel" "tells" "[I" : Cond) ∈ wsX8_count := by decide +kernel
def qv_X8_count (x1 : Int32) (x2 : Int32) (z_walked : Int32) (z_counts : Int32) (z_undos : Int32) (z_where : Nat → Int32) (z_sorts : Nat → Int32) (z_tells : Nat → Int32) (z_undone : Nat → Int32) (Post : Int32 → (Int32) → (Int32) → (Nat → Int32) → (Nat → Int32) → (Nat → Int32) → (Nat → Int32) → Prop) : Prop := qv_X8_in (x1.toInt64) (0 : Int64) (3 : Int64) (fun r1 => (r1 = (0 : Int32) → Post (-1 : Int32) z_counts z_undos z_where z_sorts z_tells z_undone) ∧ (¬ r1 = (0 : Int32) → qv_X8_in (x2.toInt64) (-2 : Int64) (1 : Int64) (fun r3 => (r3 = (0 : Int32) → Post (-1 : Int32) z_counts z_undos z_where z_sorts z_tells z_undone) ∧ (¬ r3 = (0 : Int32) → (z_counts = (6 : Int32) → Post (-3 : Int32) z_counts z_undos z_where z_sorts z_tells z_undone) ∧ (¬ z_counts = (6 : Int32) → vp_in z_counts 6 ∧ (vp_in z_counts 6 ∧ (vp_in z_counts 6 ∧ (qv_X8_notes (2 : Int32) z_undos z_undone (fun z_undos_9 z_undone_9 => Post (z_counts + (1 : Int32)) (z_counts + (1 : Int32)) z_undos_9 (upd z_where z_counts.toNatClampNeg z_walked) (upd z_sorts z_counts.toNatClampNeg x1) (upd z_tells z_counts.toNatClampNeg x2) z_undone_9)))))))))
set_option maxHeartbeats 4000000 in
set_option maxRecDepth 100000 in
theorem qm_X8_count (l : Launch) (dC : Nat → ClassId) (dI : Nat → Nat → Nat) (cI cJ cC cG cW : ClassId) (a_this a_this_laid a_this_text a_this_read a_this_numbers a_this_where a_this_sorts a_this_tells a_this_undone a_this_parts a_this_goesWith a_this_with a_this_keeps : Nat) (z_letters : Int32) (z_at : Int32) (z_walked : Int32) (z_counts : Int32) (z_undos : Int32) (z_all : Int64) (z_planned : Int64) (z_scale : Int64) (z_least : Int32) (z_kept : Int32) (z_where : Nat → Int32) (z_sorts : Nat → Int32) (z_tells : Nat → Int32) (z_undone : Nat → Int32) (sz : Nat) (x1 : Int32) (x2 : Int32) (Post : Int32 → (Int32) → (Int32) → (Nat → Int32) → (Nat → Int32) → (Nat → Int32) → (Nat → Int32) → Prop) (hV : qv_X8_count x1 x2 z_walked z_counts z_undos z_where z_sorts z_tells z_undone Post) : Met l yX8_count wsX8_count ({ frames := 1, cells := 0, slots := 0, locals := 25 } : Room) (va_Pc [.ref a_this, .int x1, .int x2] (prW (dC, dI) (qw_X8_count cI cJ cC cG cW a_this a_this_laid a_this_text a_this_read a_this_numbers a_this_where a_this_sorts a_this_tells a_this_undone a_this_parts a_this_goesWith a_this_with a_this_keeps z_letters z_at z_walked z_counts z_undos z_all z_planned z_scale z_least z_kept z_where z_sorts z_tells z_undone) (tyL cI cJ cC cG cW) sz)) (va_Qi (fun (r : Int32) (u : (Int32) × (Int32) × (Nat → Int32) × (Nat → Int32) × (Nat → Int32) × (Nat → Int32)) => Post r u.1 u.2.1 u.2.2.1 u.2.2.2.1 u.2.2.2.2.1 u.2.2.2.2.2) (fun u t => poW (dC, dI) (tyL cI cJ cC cG cW) (va_A (qw_X8_count cI cJ cC cG cW a_this a_this_laid a_this_text a_this_read a_this_numbers a_this_where a_this_sorts a_this_tells a_this_undone a_this_parts a_this_goesWith a_this_with a_this_keeps z_letters z_at z_walked z_counts z_undos z_all z_planned z_scale z_least z_kept z_where z_sorts z_tells z_undone) sz) (qw_X8_count cI cJ cC cG cW a_this a_this_laid a_this_text a_this_read a_this_numbers a_this_where a_this_sorts a_this_tells a_this_undone a_this_parts a_this_goesWith a_this_with a_this_keeps z_letters z_at z_walked u.1 u.2.1 z_all z_planned z_scale z_least z_kept u.2.2.1 u.2.2.2.1 u.2.2.2.2.1 u.2.2.2.2.2) t) (va_A (qw_X8_count cI cJ cC cG cW a_this a_this_laid a_this_text a_this_read a_this_numbers a_this_where a_this_sorts a_this_tells a_this_undone a_this_parts a_this_goesWith a_this_with a_this_keeps z_letters z_at z_walked z_counts z_undos z_all z_planned z_scale z_least z_kept z_where z_sorts z_tells z_undone) sz)) 0 0 (va_A (qw_X8_count cI cJ cC cG cW a_this a_this_laid a_this_text a_this_read a_this_numbers a_this_where a_this_sorts a_this_tells a_this_undone a_this_parts a_this_goesWith a_this_with a_this_keeps z_letters z_at z_walked z_counts z_undos z_all z_planned z_scale z_least z_kept z_where z_sorts z_tells z_undone) sz) := by
  refine Met.ofM (Qc := fun A => va_Qi (fun (r : Int32) (u : (Int32) × (Int32) × (Nat → Int32) × (Nat → Int32) × (Nat → Int32) × (Nat → Int32)) => Post r u.1 u.2.1 u.2.2.1 u.2.2.2.1 u.2.2.2.2.1 u.2.2.2.2.2) (fun u t => poW (dC, dI) (tyL cI cJ cC cG cW) A (qw_X8_count cI cJ cC cG cW a_this a_this_laid a_this_text a_this_read a_this_numbers a_this_where a_this_sorts a_this_tells a_this_undone a_this_parts a_this_goesWith a_this_with a_this_keeps z_letters z_at z_walked u.1 u.2.1 z_all z_planned z_scale z_least z_kept u.2.2.1 u.2.2.2.1 u.2.2.2.2.1 u.2.2.2.2.2) t) A) (nm := "count") (ds := "(II)I") (own := RX8) (maxL := 3) (cc := cX8_count) (ret := (some .int)) (by decide) rfl rfl (Nat.le_of_ble_eq_true rfl) (fun p e s m below meth c A C0 hin hK hN hA hP hD hS ls hl => ?_)
  obtain ⟨hx, hb, hr, hml, hown, hts, hlocks⟩ := id C0
  have hl : lv_has ls 3 [(0, .ref a_this), (1, .int x1), (2, .int x2)] := hl
  obtain ⟨H, hH⟩ : ∃ h : Heap, h = s.heap := ⟨_, rfl⟩
  obtain ⟨locs, hLc⟩ : ∃ L : List Loc, L = [] := ⟨_, rfl⟩
  have hS : va_S A s.heap H locs := by rw [hH, hLc]; exact hS
  rw [← hH] at hP
  rw [← hLc, ← hH]
  clear hH hLc
  refine lv_iload_n hx hb dX8_count_0 rfl (lv_at hl 1 rfl) ?_
  refine lv_i2l hx hb dX8_count_1 rfl ?_
  refine lv_lconst (v := (0 : Int64)) hx hb dX8_count_2 (by decide) ?_
  refine lv_ldc2 (v := (3 : Int64)) hx hb hown (hts _ ql_X8_count_123) dX8_count_3 ?_
  refine vp_callSi (va_Run.run (va_runS (As := [.long (x1.toInt64), .long (0 : Int64), .long (3 : Int64)]) (rest := []) ⟨hx, hb, hml, hown, hts⟩ (qm_X8_in l dC dI cI cJ cC cG cW (x1.toInt64) (0 : Int64) (3 : Int64) _ hV) (va_cwS 3 hts gX8_count_X8_in rfl rfl rfl (by decide +kernel) ⟨Nat.le_of_ble_eq_true rfl, Nat.le_of_ble_eq_true rfl⟩) (preRS hK hN (show va_P (dC, dI) vwCl (qw_X8_in cI cJ cC cG cW) H from fun k q h => by simp at h)) rfl rfl hl.1 rfl (lv_room (Nat.le_of_ble_eq_true rfl)) dX8_count_6 ⟨Nat.le_of_ble_eq_true rfl, Nat.le_of_ble_eq_true rfl⟩)) (fun r1 hV => ?_)
  refine lv_if_eq (tgt := 24) hx hb dX8_count_9 (by decide) (fun c2 => ?_) (fun c2 => ?_)
  · have hV := hV.1 c2
    refine lv_iconst (v := (-1 : Int32)) hx hb dX8_count_24 (by decide) ?_
    exact W.iret hx hb hr (fun t ht hW => ⟨⟨_, (z_counts, z_undos, z_where, z_sorts, z_tells, z_undone), rfl, hV, ⟨by rw [ht]; exact hP, va_K.moved hW.alike hK, hD⟩⟩, hS.F ht⟩) hS.2.2 dX8_count_25 hlocks
  · have hV := hV.2 c2
    refine lv_iload_n hx hb dX8_count_12 rfl (lv_at hl 2 rfl) ?_
    refine lv_i2l hx hb dX8_count_13 rfl ?_
    refine lv_ldc2 (v := (-2 : Int64)) hx hb hown (hts _ ql_X8_count_132) dX8_count_14 ?_
    refine lv_lconst (v := (1 : Int64)) hx hb dX8_count_17 (by decide) ?_
    refine vp_callSi (va_Run.run (va_runS (As := [.long (x2.toInt64), .long (-2 : Int64), .long (1 : Int64)]) (rest := []) ⟨hx, hb, hml, hown, hts⟩ (qm_X8_in l dC dI cI cJ cC cG cW (x2.toInt64) (-2 : Int64) (1 : Int64) _ hV) (va_cwS 3 hts gX8_count_X8_in rfl rfl rfl (by decide +kernel) ⟨Nat.le_of_ble_eq_true rfl, Nat.le_of_ble_eq_true rfl⟩) (preRS hK hN (show va_P (dC, dI) vwCl (qw_X8_in cI cJ cC cG cW) H from fun k q h => by simp at h)) rfl rfl hl.1 rfl (lv_room (Nat.le_of_ble_eq_true rfl)) dX8_count_18 ⟨Nat.le_of_ble_eq_true rfl, Nat.le_of_ble_eq_true rfl⟩)) (fun r3 hV => ?_)
    refine lv_if_ne (tgt := 26) hx hb dX8_count_21 (by decide) (fun c4 => ?_) (fun c4 => ?_)
    · have hV := hV.2 c4
      refine lv_aload_n hx hb dX8_count_26 rfl (lv_at hl 0 rfl) ?_
      refine va_get (D := (dC, dI)) (ci := 8) (v := .int z_counts) (C := RX8) (T := TX8) (N := 22) hx hb hts qi_X8_count_X8 hown hK hP 0 rfl rfl 7 (by decide) (hts _ ql_X8_count_114) (fun _ h9 => h9) rfl dX8_count_27 ?_
      refine lv_bipush (v := (6 : Int32)) hx hb dX8_count_30 (by decide) ?_
      refine lv_icmp_ne (tgt := 38) hx hb dX8_count_32 (by decide) (fun c5 => ?_) (fun c5 => ?_)
      · have hV := hV.2 c5
        refine lv_aload_n hx hb dX8_count_38 rfl (lv_at hl 0 rfl) ?_
        refine va_get (D := (dC, dI)) (ci := 8) (v := .ref a_this_where) (C := RX8) (T := TX8) (N := 22) hx hb hts qi_X8_count_X8 hown hK hP 0 rfl rfl 8 (by decide) (hts _ ql_X8_count_22) (fun _ h9 => h9) rfl dX8_count_39 ?_
        refine lv_aload_n hx hb dX8_count_42 rfl (lv_at hl 0 rfl) ?_
        refine va_get (D := (dC, dI)) (ci := 8) (v := .int z_counts) (C := RX8) (T := TX8) (N := 22) hx hb hts qi_X8_count_X8 hown hK hP 0 rfl rfl 7 (by decide) (hts _ ql_X8_count_114) (fun _ h9 => h9) rfl dX8_count_43 ?_
        refine lv_aload_n hx hb dX8_count_46 rfl (lv_at hl 0 rfl) ?_
        refine va_get (D := (dC, dI)) (ci := 8) (v := .int z_walked) (C := RX8) (T := TX8) (N := 22) hx hb hts qi_X8_count_X8 hown hK hP 0 rfl rfl 6 (by decide) (hts _ ql_X8_count_111) (fun _ h9 => h9) rfl dX8_count_47 ?_
        obtain ⟨h6, hV⟩ := hV
        refine va_iast hx hb hK hP hD hS 1 0 rfl rfl h6 dX8_count_50 (fun H locs hP hD hS => ?_)
        have hP : va_P (dC, dI) vwCl (qw_X8_count cI cJ cC cG cW a_this a_this_laid a_this_text a_this_read a_this_numbers a_this_where a_this_sorts a_this_tells a_this_undone a_this_parts a_this_goesWith a_this_with a_this_keeps z_letters z_at z_walked z_counts z_undos z_all z_planned z_scale z_least z_kept (upd z_where z_counts.toNatClampNeg z_walked) z_sorts z_tells z_undone) H := hP
        have hD : va_D A (qw_X8_count cI cJ cC cG cW a_this a_this_laid a_this_text a_this_read a_this_numbers a_this_where a_this_sorts a_this_tells a_this_undone a_this_parts a_this_goesWith a_this_with a_this_keeps z_letters z_at z_walked z_counts z_undos z_all z_planned z_scale z_least z_kept (upd z_where z_counts.toNatClampNeg z_walked) z_sorts z_tells z_undone) := hD
        refine lv_aload_n hx hb dX8_count_51 rfl (lv_at hl 0 rfl) ?_
        refine va_get (D := (dC, dI)) (ci := 8) (v := .ref a_this_sorts) (C := RX8) (T := TX8) (N := 22) hx hb hts qi_X8_count_X8 hown hK hP 0 rfl rfl 9 (by decide) (hts _ ql_X8_count_25) (fun _ h9 => h9) rfl dX8_count_52 ?_
        refine lv_aload_n hx hb dX8_count_55 rfl (lv_at hl 0 rfl) ?_
        refine va_get (D := (dC, dI)) (ci := 8) (v := .int z_counts) (C := RX8) (T := TX8) (N := 22) hx hb hts qi_X8_count_X8 hown hK hP 0 rfl rfl 7 (by decide) (hts _ ql_X8_count_114) (fun _ h9 => h9) rfl dX8_count_56 ?_
        refine lv_iload_n hx hb dX8_count_59 rfl (lv_at hl 1 rfl) ?_
        obtain ⟨h7, hV⟩ := hV
        refine va_iast hx hb hK hP hD hS 2 0 rfl rfl h7 dX8_count_60 (fun H locs hP hD hS => ?_)
        have hP : va_P (dC, dI) vwCl (qw_X8_count cI cJ cC cG cW a_this a_this_laid a_this_text a_this_read a_this_numbers a_this_where a_this_sorts a_this_tells a_this_undone a_this_parts a_this_goesWith a_this_with a_this_keeps z_letters z_at z_walked z_counts z_undos z_all z_planned z_scale z_least z_kept (upd z_where z_counts.toNatClampNeg z_walked) (upd z_sorts z_counts.toNatClampNeg x1) z_tells z_undone) H := hP
        have hD : va_D A (qw_X8_count cI cJ cC cG cW a_this a_this_laid a_this_text a_this_read a_this_numbers a_this_where a_this_sorts a_this_tells a_this_undone a_this_parts a_this_goesWith a_this_with a_this_keeps z_letters z_at z_walked z_counts z_undos z_all z_planned z_scale z_least z_kept (upd z_where z_counts.toNatClampNeg z_walked) (upd z_sorts z_counts.toNatClampNeg x1) z_tells z_undone) := hD
        refine lv_aload_n hx hb dX8_count_61 rfl (lv_at hl 0 rfl) ?_
        refine va_get (D := (dC, dI)) (ci := 8) (v := .ref a_this_tells) (C := RX8) (T := TX8) (N := 22) hx hb hts qi_X8_count_X8 hown hK hP 0 rfl rfl 10 (by decide) (hts _ ql_X8_count_28) (fun _ h9 => h9) rfl dX8_count_62 ?_
        refine lv_aload_n hx hb dX8_count_65 rfl (lv_at hl 0 rfl) ?_
        refine va_get (D := (dC, dI)) (ci := 8) (v := .int z_counts) (C := RX8) (T := TX8) (N := 22) hx hb hts qi_X8_count_X8 hown hK hP 0 rfl rfl 7 (by decide) (hts _ ql_X8_count_114) (fun _ h9 => h9) rfl dX8_count_66 ?_
        refine lv_iload_n hx hb dX8_count_69 rfl (lv_at hl 2 rfl) ?_
        obtain ⟨h8, hV⟩ := hV
        refine va_iast hx hb hK hP hD hS 3 0 rfl rfl h8 dX8_count_70 (fun H locs hP hD hS => ?_)
        have hP : va_P (dC, dI) vwCl (qw_X8_count cI cJ cC cG cW a_this a_this_laid a_this_text a_this_read a_this_numbers a_this_where a_this_sorts a_this_tells a_this_undone a_this_parts a_this_goesWith a_this_with a_this_keeps z_letters z_at z_walked z_counts z_undos z_all z_planned z_scale z_least z_kept (upd z_where z_counts.toNatClampNeg z_walked) (upd z_sorts z_counts.toNatClampNeg x1) (upd z_tells z_counts.toNatClampNeg x2) z_undone) H := hP
        have hD : va_D A (qw_X8_count cI cJ cC cG cW a_this a_this_laid a_this_text a_this_read a_this_numbers a_this_where a_this_sorts a_this_tells a_this_undone a_this_parts a_this_goesWith a_this_with a_this_keeps z_letters z_at z_walked z_counts z_undos z_all z_planned z_scale z_least z_kept (upd z_where z_counts.toNatClampNeg z_walked) (upd z_sorts z_counts.toNatClampNeg x1) (upd z_tells z_counts.toNatClampNeg x2) z_undone) := hD
        refine lv_aload_n hx hb dX8_count_71 rfl (lv_at hl 0 rfl) ?_
        refine lv_dup hx hb dX8_count_72 rfl ?_
        refine va_get (D := (dC, dI)) (ci := 8) (v := .int z_counts) (C := RX8) (T := TX8) (N := 22) hx hb hts qi_X8_count_X8 hown hK hP 0 rfl rfl 7 (by decide) (hts _ ql_X8_count_114) (fun _ h9 => h9) rfl dX8_count_73 ?_
        refine lv_iconst (v := (1 : Int32)) hx hb dX8_count_76 (by decide) ?_
        refine lv_iadd hx hb dX8_count_77 ?_
        refine va_put (D := (dC, dI)) (ci := 8) (v := .int (z_counts + (1 : Int32))) (ty := .int) (C := RX8) (T := TX8) (N := 22) hx hb hts qi_X8_count_X8 tyX8 tyX8_ok nmX8 hown hK hP hD hS 0 rfl rfl 7 (by decide) (hts _ ql_X8_count_114) (fun _ h9 => h9) rfl (by decide +kernel) rfl rfl (Nat.le_of_ble_eq_true rfl) dX8_count_78 (fun H locs hP hD hS => ?_)
        have hP : va_P (dC, dI) vwCl (qw_X8_count cI cJ cC cG cW a_this a_this_laid a_this_text a_this_read a_this_numbers a_this_where a_this_sorts a_this_tells a_this_undone a_this_parts a_this_goesWith a_this_with a_this_keeps z_letters z_at z_walked (z_counts + (1 : Int32)) z_undos z_all z_planned z_scale z_least z_kept (upd z_where z_counts.toNatClampNeg z_walked) (upd z_sorts z_counts.toNatClampNeg x1) (upd z_tells z_counts.toNatClampNeg x2) z_undone) H := hP
        have hD : va_D A (qw_X8_count cI cJ cC cG cW a_this a_this_laid a_this_text a_this_read a_this_numbers a_this_where a_this_sorts a_this_tells a_this_undone a_this_parts a_this_goesWith a_this_with a_this_keeps z_letters z_at z_walked (z_counts + (1 : Int32)) z_undos z_all z_planned z_scale z_least z_kept (upd z_where z_counts.toNatClampNeg z_walked) (upd z_sorts z_counts.toNatClampNeg x1) (upd z_tells z_counts.toNatClampNeg x2) z_undone) := hD
        refine lv_aload_n hx hb dX8_count_81 rfl (lv_at hl 0 rfl) ?_
        refine lv_iconst (v := (2 : Int32)) hx hb dX8_count_82 (by decide) ?_
        refine kW_v (wc := (qw_X8_notes cI cJ cC cG cW a_this a_this_laid a_this_text a_this_read a_this_numbers a_this_where a_this_sorts a_this_tells a_this_undone a_this_parts a_this_goesWith a_this_with a_this_keeps z_letters z_at z_walked (z_counts + (1 : Int32)) z_undos z_all z_planned z_scale z_least z_kept z_undone)) (wr := List.filterMap (fun (i : Nat) => (qw_X8_count cI cJ cC cG cW a_this a_this_laid a_this_text a_this_read a_this_numbers a_this_where a_this_sorts a_this_tells a_this_undone a_this_parts a_this_goesWith a_this_with a_this_keeps z_letters z_at z_walked (z_counts + (1 : Int32)) z_undos z_all z_planned z_scale z_least z_kept (upd z_where z_counts.toNatClampNeg z_walked) (upd z_sorts z_counts.toNatClampNeg x1) (upd z_tells z_counts.toNatClampNeg x2) z_undone)[i]?) [1, 2, 3]) (w1 := fun (u : (Int32) × (Nat → Int32)) => (qw_X8_notes cI cJ cC cG cW a_this a_this_laid a_this_text a_this_read a_this_numbers a_this_where a_this_sorts a_this_tells a_this_undone a_this_parts a_this_goesWith a_this_with a_this_keeps z_letters z_at z_walked (z_counts + (1 : Int32)) u.1 z_all z_planned z_scale z_least z_kept u.2)) (va_runV (As := [.int (2 : Int32)]) (rest := []) ⟨hx, hb, hml, hown, hts⟩ (qm_X8_notes l dC dI cI cJ cC cG cW a_this a_this_laid a_this_text a_this_read a_this_numbers a_this_where a_this_sorts a_this_tells a_this_undone a_this_parts a_this_goesWith a_this_with a_this_keeps z_letters z_at z_walked (z_counts + (1 : Int32)) z_undos z_all z_planned z_scale z_least z_kept z_undone H.size (2 : Int32) _ hV) (cwV 1 hts gX8_count_X8_notes rfl rfl rfl (by decide +kernel) ⟨Nat.le_of_ble_eq_true rfl, Nat.le_of_ble_eq_true rfl⟩) (preWV hK hN (hP.sub (ws' := (qw_X8_notes cI cJ cC cG cW a_this a_this_laid a_this_text a_this_read a_this_numbers a_this_where a_this_sorts a_this_tells a_this_undone a_this_parts a_this_goesWith a_this_with a_this_keeps z_letters z_at z_walked (z_counts + (1 : Int32)) z_undos z_all z_planned z_scale z_least z_kept z_undone)) [0, 4] rfl) (hD.sub (ws' := (qw_X8_notes cI cJ cC cG cW a_this a_this_laid a_this_text a_this_read a_this_numbers a_this_where a_this_sorts a_this_tells a_this_undone a_this_parts a_this_goesWith a_this_with a_this_keeps z_letters z_at z_walked (z_counts + (1 : Int32)) z_undos z_all z_planned z_scale z_least z_kept z_undone)) [0, 4] (by decide) rfl) rfl rfl) rfl rfl hl.1 rfl (lv_room (Nat.le_of_ble_eq_true rfl)) dX8_count_83 ⟨Nat.le_of_ble_eq_true rfl, Nat.le_of_ble_eq_true rfl⟩) hP hD hS hA [0, 4] [1, 2, 3] rfl rfl (by decide) (by decide) (fun u H locs hV hP hD hS => ?_)
        obtain ⟨z_undos_9, z_undone_9⟩ := u
        try dsimp only at hV
        have hP := hP.sub (ws' := (qw_X8_count cI cJ cC cG cW a_this a_this_laid a_this_text a_this_read a_this_numbers a_this_where a_this_sorts a_this_tells a_this_undone a_this_parts a_this_goesWith a_this_with a_this_keeps z_letters z_at z_walked (z_counts + (1 : Int32)) z_undos_9 z_all z_planned z_scale z_least z_kept (upd z_where z_counts.toNatClampNeg z_walked) (upd z_sorts z_counts.toNatClampNeg x1) (upd z_tells z_counts.toNatClampNeg x2) z_undone_9)) [3, 0, 1, 2, 4] rfl
        have hD := hD.sub (ws' := (qw_X8_count cI cJ cC cG cW a_this a_this_laid a_this_text a_this_read a_this_numbers a_this_where a_this_sorts a_this_tells a_this_undone a_this_parts a_this_goesWith a_this_with a_this_keeps z_letters z_at z_walked (z_counts + (1 : Int32)) z_undos_9 z_all z_planned z_scale z_least z_kept (upd z_where z_counts.toNatClampNeg z_walked) (upd z_sorts z_counts.toNatClampNeg x1) (upd z_tells z_counts.toNatClampNeg x2) z_undone_9)) [3, 0, 1, 2, 4] (by decide) rfl
        refine lv_aload_n hx hb dX8_count_86 rfl (lv_at hl 0 rfl) ?_
        refine va_get (D := (dC, dI)) (ci := 8) (v := .int (z_counts + (1 : Int32))) (C := RX8) (T := TX8) (N := 22) hx hb hts qi_X8_count_X8 hown hK hP 0 rfl rfl 7 (by decide) (hts _ ql_X8_count_114) (fun _ h9 => h9) rfl dX8_count_87 ?_
        exact W.iret hx hb hr (fun t ht hW => ⟨⟨_, ((z_counts + (1 : Int32)), z_undos_9, (upd z_where z_counts.toNatClampNeg z_walked), (upd z_sorts z_counts.toNatClampNeg x1), (upd z_tells z_counts.toNatClampNeg x2), z_undone_9), rfl, hV, ⟨by rw [ht]; exact hP, va_K.moved hW.alike hK, hD⟩⟩, hS.F ht⟩) hS.2.2 dX8_count_90 hlocks
      · have hV := hV.1 c5
        refine lv_bipush (v := (-3 : Int32)) hx hb dX8_count_35 (by decide) ?_
        exact W.iret hx hb hr (fun t ht hW => ⟨⟨_, (z_counts, z_undos, z_where, z_sorts, z_tells, z_undone), rfl, hV, ⟨by rw [ht]; exact hP, va_K.moved hW.alike hK, hD⟩⟩, hS.F ht⟩) hS.2.2 dX8_count_37 hlocks
    · have hV := hV.1 c4
      refine lv_iconst (v := (-1 : Int32)) hx hb dX8_count_24 (by decide) ?_
      exact W.iret hx hb hr (fun t ht hW => ⟨⟨_, (z_counts, z_undos, z_where, z_sorts, z_tells, z_undone), rfl, hV, ⟨by rw [ht]; exact hP, va_K.moved hW.alike hK, hD⟩⟩, hS.F ht⟩) hS.2.2 dX8_count_25 hlocks

/-! StileCountsModel.told(II)I -/
abbrev qw_X8_told (cI cJ cC cG cW : ClassId) (a_this a_this_laid a_this_text a_this_read a_this_numbers a_this_where a_this_sorts a_this_tells a_this_undone a_this_parts a_this_goesWith a_this_with a_this_keeps : Nat) (z_letters : Int32) (z_at : Int32) (z_walked : Int32) (z_counts : Int32) (z_undos : Int32) (z_all : Int64) (z_planned : Int64) (z_scale : Int64) (z_least : Int32) (z_kept : Int32) (z_where : Nat → Int32) (z_sorts : Nat → Int32) (z_tells : Nat → Int32) : va_W := [(a_this, .inr (8, [.ref a_this_laid, .ref a_this_text, .int z_letters, .ref a_this_read, .int z_at, .ref a_this_numbers, .int z_walked, .int z_counts, .ref a_this_where, .ref a_this_sorts, .ref a_this_tells, .int z_undos, .ref a_this_undone, .ref a_this_parts, .long z_all, .long z_planned, .long z_scale, .ref a_this_goesWith, .int z_least, .ref a_this_with, .int z_kept, .ref a_this_keeps])), (a_this_where, .inl (cI, 6, .inl z_where)), (a_this_sorts, .inl (cI, 6, .inl z_sorts)), (a_this_tells, .inl (cI, 6, .inl z_tells))]
theorem qi_X8_told_X8 : ∀ w ∈ wsX80, w ∈ wsX8_told := by decide +kernel
theorem ql_X8_told_114 : (.fieldLink RX8 114 "StileCountsModel" "counts" "I" : Cond) ∈ wsX8_told := by decide +kernel
theorem ql_X8_told_82 : (.constantLong RX8 82 (2 : Int64) : Cond) ∈ wsX8_told := by decide +kernel
theorem ql_X8_told_28 : (.fieldLink RX8 28 "StileCountsModel" "tells" "[I" : Cond) ∈ wsX8_told := by decide +kernel
theorem ql_X8_told_25 : (.fieldLink RX8 25 "StileCountsModel" "sorts" "[I" : Cond) ∈ wsX8_told := by decide +kernel
theorem ql_X8_told_22 : (.fieldLink RX8 22 "StileCountsModel" "where" "[I" : Cond) ∈ wsX8_told := by decide +kernel
def qv_X8_told (x1 : Int32) (x2 : Int32) (z_counts : Int32) (z_where : Nat → Int32) (z_sorts : Nat → Int32) (z_tells : Nat → Int32) (Post : Int32 → Prop) : Prop := qv_X8_in (x1.toInt64) (0 : Int64) ((z_counts - (1 : Int32)).toInt64) (fun r1 => (r1 = (0 : Int32) → Post (-1 : Int32)) ∧ (¬ r1 = (0 : Int32) → qv_X8_in (x2.toInt64) (0 : Int64) (2 : Int64) (fun r3 => (r3 = (0 : Int32) → Post (-1 : Int32)) ∧ (¬ r3 = (0 : Int32) → (x2 = (0 : Int32) → vp_in x1 6 ∧ (Post (z_where x1.toNatClampNeg))) ∧ (¬ x2 = (0 : Int32) → (x2 = (1 : Int32) → vp_in x1 6 ∧ (Post (z_sorts x1.toNatClampNeg))) ∧ (¬ x2 = (1 : Int32) → vp_in x1 6 ∧ (Post ((z_tells x1.toNatClampNeg) + (2 : Int32)))))))))
set_option maxHeartbeats 4000000 in
set_option maxRecDepth 100000 in
theorem qm_X8_told (l : Launch) (dC : Nat → ClassId) (dI : Nat → Nat → Nat) (cI cJ cC cG cW : ClassId) (a_this a_this_laid a_this_text a_this_read a_this_numbers a_this_where a_this_sorts a_this_tells a_this_undone a_this_parts a_this_goesWith a_this_with a_this_keeps : Nat) (z_letters : Int32) (z_at : Int32) (z_walked : Int32) (z_counts : Int32) (z_undos : Int32) (z_all : Int64) (z_planned : Int64) (z_scale : Int64) (z_least : Int32) (z_kept : Int32) (z_where : Nat → Int32) (z_sorts : Nat → Int32) (z_tells : Nat → Int32) (x1 : Int32) (x2 : Int32) (Post : Int32 → Prop) (hV : qv_X8_told x1 x2 z_counts z_where z_sorts z_tells Post) : Met l yX8_told wsX8_told ({ frames := 1, cells := 0, slots := 0, locals := 25 } : Room) (va_Pc [.ref a_this, .int x1, .int x2] (prR (dC, dI) (qw_X8_told cI cJ cC cG cW a_this a_this_laid a_this_text a_this_read a_this_numbers a_this_where a_this_sorts a_this_tells a_this_undone a_this_parts a_this_goesWith a_this_with a_this_keeps z_letters z_at z_walked z_counts z_undos z_all z_planned z_scale z_least z_kept z_where z_sorts z_tells) (tyL cI cJ cC cG cW))) (vp_Si Post) 0 0 (fun _ => False) := by
  refine Met.ofR (nm := "told") (ds := "(II)I") (own := RX8) (maxL := 3) (cc := cX8_told) (ret := (some .int)) (by decide) rfl rfl (Nat.le_of_ble_eq_true rfl) (fun p e s m below meth c C0 hK hN hP ls hl => ?_)
  obtain ⟨hx, hb, hr, hml, hown, hts, hlocks⟩ := id C0
  have hl : lv_has ls 3 [(0, .ref a_this), (1, .int x1), (2, .int x2)] := hl
  refine lv_iload_n hx hb dX8_told_0 rfl (lv_at hl 1 rfl) ?_
  refine lv_i2l hx hb dX8_told_1 rfl ?_
  refine lv_lconst (v := (0 : Int64)) hx hb dX8_told_2 (by decide) ?_
  refine lv_aload_n hx hb dX8_told_3 rfl (lv_at hl 0 rfl) ?_
  refine va_get (D := (dC, dI)) (ci := 8) (v := .int z_counts) (C := RX8) (T := TX8) (N := 22) hx hb hts qi_X8_told_X8 hown hK hP 0 rfl rfl 7 (by decide) (hts _ ql_X8_told_114) (fun _ h9 => h9) rfl dX8_told_4 ?_
  refine lv_iconst (v := (1 : Int32)) hx hb dX8_told_7 (by decide) ?_
  refine lv_isub hx hb dX8_told_8 ?_
  refine lv_i2l hx hb dX8_told_9 rfl ?_
  refine vp_callSi (va_Run.run (va_runS (As := [.long (x1.toInt64), .long (0 : Int64), .long ((z_counts - (1 : Int32)).toInt64)]) (rest := []) ⟨hx, hb, hml, hown, hts⟩ (qm_X8_in l dC dI cI cJ cC cG cW (x1.toInt64) (0 : Int64) ((z_counts - (1 : Int32)).toInt64) _ hV) (va_cwS 3 hts gX8_told_X8_in rfl rfl rfl (by decide +kernel) ⟨Nat.le_of_ble_eq_true rfl, Nat.le_of_ble_eq_true rfl⟩) (preRS hK hN (show va_P (dC, dI) vwCl (qw_X8_in cI cJ cC cG cW) s.heap from fun k q h => by simp at h)) rfl rfl hl.1 rfl (lv_room (Nat.le_of_ble_eq_true rfl)) dX8_told_10 ⟨Nat.le_of_ble_eq_true rfl, Nat.le_of_ble_eq_true rfl⟩)) (fun r1 hV => ?_)
  refine lv_if_eq (tgt := 28) hx hb dX8_told_13 (by decide) (fun c2 => ?_) (fun c2 => ?_)
  · have hV := hV.1 c2
    refine lv_iconst (v := (-1 : Int32)) hx hb dX8_told_28 (by decide) ?_
    exact W.iret hx hb hr (fun t ht hW => ⟨_, rfl, hV, ht⟩) (fun q h => absurd h List.not_mem_nil) dX8_told_29 hlocks
  · have hV := hV.2 c2
    refine lv_iload_n hx hb dX8_told_16 rfl (lv_at hl 2 rfl) ?_
    refine lv_i2l hx hb dX8_told_17 rfl ?_
    refine lv_lconst (v := (0 : Int64)) hx hb dX8_told_18 (by decide) ?_
    refine lv_ldc2 (v := (2 : Int64)) hx hb hown (hts _ ql_X8_told_82) dX8_told_19 ?_
    refine vp_callSi (va_Run.run (va_runS (As := [.long (x2.toInt64), .long (0 : Int64), .long (2 : Int64)]) (rest := []) ⟨hx, hb, hml, hown, hts⟩ (qm_X8_in l dC dI cI cJ cC cG cW (x2.toInt64) (0 : Int64) (2 : Int64) _ hV) (va_cwS 3 hts gX8_told_X8_in rfl rfl rfl (by decide +kernel) ⟨Nat.le_of_ble_eq_true rfl, Nat.le_of_ble_eq_true rfl⟩) (preRS hK hN (show va_P (dC, dI) vwCl (qw_X8_in cI cJ cC cG cW) s.heap from fun k q h => by simp at h)) rfl rfl hl.1 rfl (lv_room (Nat.le_of_ble_eq_true rfl)) dX8_told_22 ⟨Nat.le_of_ble_eq_true rfl, Nat.le_of_ble_eq_true rfl⟩)) (fun r3 hV => ?_)
    refine lv_if_ne (tgt := 30) hx hb dX8_told_25 (by decide) (fun c4 => ?_) (fun c4 => ?_)
    · have hV := hV.2 c4
      refine lv_iload_n hx hb dX8_told_30 rfl (lv_at hl 2 rfl) ?_
      refine lv_if_ne (tgt := 43) hx hb dX8_told_31 (by decide) (fun c5 => ?_) (fun c5 => ?_)
      · have hV := hV.2 c5
        refine lv_iload_n hx hb dX8_told_43 rfl (lv_at hl 2 rfl) ?_
        refine lv_iconst (v := (1 : Int32)) hx hb dX8_told_44 (by decide) ?_
        refine lv_icmp_ne (tgt := 57) hx hb dX8_told_45 (by decide) (fun c6 => ?_) (fun c6 => ?_)
        · have hV := hV.2 c6
          refine lv_aload_n hx hb dX8_told_57 rfl (lv_at hl 0 rfl) ?_
          refine va_get (D := (dC, dI)) (ci := 8) (v := .ref a_this_tells) (C := RX8) (T := TX8) (N := 22) hx hb hts qi_X8_told_X8 hown hK hP 0 rfl rfl 10 (by decide) (hts _ ql_X8_told_28) (fun _ h9 => h9) rfl dX8_told_58 ?_
          refine lv_iload_n hx hb dX8_told_61 rfl (lv_at hl 1 rfl) ?_
          obtain ⟨h7, hV⟩ := hV
          refine va_iald hx hb hK hP 3 0 rfl rfl h7 dX8_told_62 ?_
          refine lv_iconst (v := (2 : Int32)) hx hb dX8_told_63 (by decide) ?_
          refine lv_iadd hx hb dX8_told_64 ?_
          exact W.iret hx hb hr (fun t ht hW => ⟨_, rfl, hV, ht⟩) (fun q h => absurd h List.not_mem_nil) dX8_told_65 hlocks
        · have hV := hV.1 c6
          refine lv_aload_n hx hb dX8_told_48 rfl (lv_at hl 0 rfl) ?_
          refine va_get (D := (dC, dI)) (ci := 8) (v := .ref a_this_sorts) (C := RX8) (T := TX8) (N := 22) hx hb hts qi_X8_told_X8 hown hK hP 0 rfl rfl 9 (by decide) (hts _ ql_X8_told_25) (fun _ h9 => h9) rfl dX8_told_49 ?_
          refine lv_iload_n hx hb dX8_told_52 rfl (lv_at hl 1 rfl) ?_
          obtain ⟨h8, hV⟩ := hV
          refine va_iald hx hb hK hP 2 0 rfl rfl h8 dX8_told_53 ?_
          refine lv_goto (tgt := 65) hx hb dX8_told_54 (by decide) ?_
          exact W.iret hx hb hr (fun t ht hW => ⟨_, rfl, hV, ht⟩) (fun q h => absurd h List.not_mem_nil) dX8_told_65 hlocks
      · have hV := hV.1 c5
        refine lv_aload_n hx hb dX8_told_34 rfl (lv_at hl 0 rfl) ?_
        refine va_get (D := (dC, dI)) (ci := 8) (v := .ref a_this_where) (C := RX8) (T := TX8) (N := 22) hx hb hts qi_X8_told_X8 hown hK hP 0 rfl rfl 8 (by decide) (hts _ ql_X8_told_22) (fun _ h9 => h9) rfl dX8_told_35 ?_
        refine lv_iload_n hx hb dX8_told_38 rfl (lv_at hl 1 rfl) ?_
        obtain ⟨h9, hV⟩ := hV
        refine va_iald hx hb hK hP 1 0 rfl rfl h9 dX8_told_39 ?_
        refine lv_goto (tgt := 65) hx hb dX8_told_40 (by decide) ?_
        exact W.iret hx hb hr (fun t ht hW => ⟨_, rfl, hV, ht⟩) (fun q h => absurd h List.not_mem_nil) dX8_told_65 hlocks
    · have hV := hV.1 c4
      refine lv_iconst (v := (-1 : Int32)) hx hb dX8_told_28 (by decide) ?_
      exact W.iret hx hb hr (fun t ht hW => ⟨_, rfl, hV, ht⟩) (fun q h => absurd h List.not_mem_nil) dX8_told_29 hlocks

/-! StileCountsModel.undo()I -/
abbrev qw_X8_undo (cI cJ cC cG cW : ClassId) (a_this a_this_laid a_this_text a_this_read a_this_numbers a_this_where a_this_sorts a_this_tells a_this_undone a_this_parts a_this_goesWith a_this_with a_this_keeps : Nat) (z_letters : Int32) (z_at : Int32) (z_walked : Int32) (z_counts : Int32) (z_undos : Int32) (z_all : Int64) (z_planned : Int64) (z_scale : Int64) (z_least : Int32) (z_kept : Int32) (z_undone : Nat → Int32) : va_W := [(a_this, .inr (8, [.ref a_this_laid, .ref a_this_text, .int z_letters, .ref a_this_read, .int z_at, .ref a_this_numbers, .int z_walked, .int z_counts, .ref a_this_where, .ref a_this_sorts, .ref a_this_tells, .int z_undos, .ref a_this_undone, .ref a_this_parts, .long z_all, .long z_planned, .long z_scale, .ref a_this_goesWith, .int z_least, .ref a_this_with, .int z_kept, .ref a_this_keeps])), (a_this_undone, .inl (cI, 8, .inl z_undone))]
theorem qi_X8_undo_X8 : ∀ w ∈ wsX80, w ∈ wsX8_undo := by decide +kernel
theorem ql_X8_undo_117 : (.fieldLink RX8 117 "StileCountsModel" "undos" "I" : Cond) ∈ wsX8_undo := by decide +kernel
theorem ql_X8_undo_111 : (.fieldLink RX8 111 "StileCountsModel" "walked" "I" : Cond) ∈ wsX8_undo := by decide +kernel
theorem ql_X8_undo_31 : (.fieldLink RX8 31 "StileCountsModel" "undone" "[I" : Cond) ∈ wsX8_undo := by decide +kernel
theorem ql_X8_undo_114 : (.fieldLink RX8 114 "StileCountsModel" "counts" "I" : Cond) ∈ wsX8_undo := by decide +kernel
def qv_X8_undo_J43 (k1 : Int32) (k2 : Int32) (z_walked : Int32) (z_counts : Int32) (z_undos : Int32) (z_undone : Nat → Int32) (Post : Int32 → (Int32) → (Int32) → (Int32) → Prop) : Prop := vp_in z_undos 8 ∧ (((z_undone z_undos.toNatClampNeg) = (2 : Int32) → Post z_undos (k1 - k2) (z_counts - (1 : Int32)) z_undos) ∧ (¬ (z_undone z_undos.toNatClampNeg) = (2 : Int32) → Post z_undos (k1 - k2) (z_counts - (0 : Int32)) z_undos))
set_option maxHeartbeats 4000000 in
set_option maxRecDepth 100000 in
theorem qt_X8_undo_J43 {p : Program} {l : Launch} {e : Env} {s : State} {m : MethodId} {args : Array Value} {below : List Frame} {meth : Method} {c : Code} {dC : Nat → ClassId} {dI : Nat → Nat → Nat} {cI cJ cC cG cW : ClassId} {a_this a_this_laid a_this_text a_this_read a_this_numbers a_this_where a_this_sorts a_this_tells a_this_undone a_this_parts a_this_goesWith a_this_with a_this_keeps : Nat} {A : Nat → Prop} (C0 : MC cX8_undo 1 (some .int) RX8 wsX8_undo p s m args meth c) (hK : va_K (dC, dI) vwCl (tyL cI cJ cC cG cW) s) (hN : NW s) (hA : ∀ q, s.heap.size ≤ q → A q) (z_letters : Int32) (z_at : Int32) (z_walked : Int32) (z_counts : Int32) (z_undos : Int32) (z_all : Int64) (z_planned : Int64) (z_scale : Int64) (z_least : Int32) (z_kept : Int32) (z_undone : Nat → Int32) (k1 : Int32) (k2 : Int32) (Post : Int32 → (Int32) → (Int32) → (Int32) → Prop) (H : Heap) (locs : List Loc) (ls : Array Slot) (hV : qv_X8_undo_J43 k1 k2 z_walked z_counts z_undos z_undone Post) (hP : va_P (dC, dI) vwCl (qw_X8_undo cI cJ cC cG cW a_this a_this_laid a_this_text a_this_read a_this_numbers a_this_where a_this_sorts a_this_tells a_this_undone a_this_parts a_this_goesWith a_this_with a_this_keeps z_letters z_at z_walked z_counts z_undos z_all z_planned z_scale z_least z_kept z_undone) H) (hD : va_D A (qw_X8_undo cI cJ cC cG cW a_this a_this_laid a_this_text a_this_read a_this_numbers a_this_where a_this_sorts a_this_tells a_this_undone a_this_parts a_this_goesWith a_this_with a_this_keeps z_letters z_at z_walked z_counts z_undos z_all z_planned z_scale z_least z_kept z_undone)) (hS : va_S A s.heap H locs) (hl : lv_has ls 1 [(0, .ref a_this)]) : W p l e ({ frames := 0, cells := 0, slots := 0, locals := 0 } : Room) s m args below meth c H locs 0 0 (MQ below (va_Qi (fun (r : Int32) (u : (Int32) × (Int32) × (Int32)) => Post r u.1 u.2.1 u.2.2) (fun u t => poW (dC, dI) (tyL cI cJ cC cG cW) A (qw_X8_undo cI cJ cC cG cW a_this a_this_laid a_this_text a_this_read a_this_numbers a_this_where a_this_sorts a_this_tells a_this_undone a_this_parts a_this_goesWith a_this_with a_this_keeps z_letters z_at u.1 u.2.1 u.2.2 z_all z_planned z_scale z_least z_kept z_undone) t) A) args s 0 0 A) (F0 m 43 ls [.int k2, .int k1, .ref a_this]) := by
  obtain ⟨hx, hb, hr, hml, hown, hts, hlocks⟩ := id C0
  refine lv_isub hx hb dX8_undo_43 ?_
  refine va_put (D := (dC, dI)) (ci := 8) (v := .int (k1 - k2)) (ty := .int) (C := RX8) (T := TX8) (N := 22) hx hb hts qi_X8_undo_X8 tyX8 tyX8_ok nmX8 hown hK hP hD hS 0 rfl rfl 6 (by decide) (hts _ ql_X8_undo_111) (fun _ h9 => h9) rfl (by decide +kernel) rfl rfl (Nat.le_of_ble_eq_true rfl) dX8_undo_44 (fun H locs hP hD hS => ?_)
  have hP : va_P (dC, dI) vwCl (qw_X8_undo cI cJ cC cG cW a_this a_this_laid a_this_text a_this_read a_this_numbers a_this_where a_this_sorts a_this_tells a_this_undone a_this_parts a_this_goesWith a_this_with a_this_keeps z_letters z_at (k1 - k2) z_counts z_undos z_all z_planned z_scale z_least z_kept z_undone) H := hP
  have hD : va_D A (qw_X8_undo cI cJ cC cG cW a_this a_this_laid a_this_text a_this_read a_this_numbers a_this_where a_this_sorts a_this_tells a_this_undone a_this_parts a_this_goesWith a_this_with a_this_keeps z_letters z_at (k1 - k2) z_counts z_undos z_all z_planned z_scale z_least z_kept z_undone) := hD
  refine lv_aload_n hx hb dX8_undo_47 rfl (lv_at hl 0 rfl) ?_
  refine lv_dup hx hb dX8_undo_48 rfl ?_
  refine va_get (D := (dC, dI)) (ci := 8) (v := .int z_counts) (C := RX8) (T := TX8) (N := 22) hx hb hts qi_X8_undo_X8 hown hK hP 0 rfl rfl 7 (by decide) (hts _ ql_X8_undo_114) (fun _ h9 => h9) rfl dX8_undo_49 ?_
  refine lv_aload_n hx hb dX8_undo_52 rfl (lv_at hl 0 rfl) ?_
  refine va_get (D := (dC, dI)) (ci := 8) (v := .ref a_this_undone) (C := RX8) (T := TX8) (N := 22) hx hb hts qi_X8_undo_X8 hown hK hP 0 rfl rfl 12 (by decide) (hts _ ql_X8_undo_31) (fun _ h9 => h9) rfl dX8_undo_53 ?_
  refine lv_aload_n hx hb dX8_undo_56 rfl (lv_at hl 0 rfl) ?_
  refine va_get (D := (dC, dI)) (ci := 8) (v := .int z_undos) (C := RX8) (T := TX8) (N := 22) hx hb hts qi_X8_undo_X8 hown hK hP 0 rfl rfl 11 (by decide) (hts _ ql_X8_undo_117) (fun _ h9 => h9) rfl dX8_undo_57 ?_
  obtain ⟨h4, hV⟩ := hV
  refine va_iald hx hb hK hP 1 0 rfl rfl h4 dX8_undo_60 ?_
  refine lv_iconst (v := (2 : Int32)) hx hb dX8_undo_61 (by decide) ?_
  refine lv_icmp_ne (tgt := 69) hx hb dX8_undo_62 (by decide) (fun c5 => ?_) (fun c5 => ?_)
  · have hV := hV.2 c5
    refine lv_iconst (v := (0 : Int32)) hx hb dX8_undo_69 (by decide) ?_
    refine lv_isub hx hb dX8_undo_70 ?_
    refine va_put (D := (dC, dI)) (ci := 8) (v := .int (z_counts - (0 : Int32))) (ty := .int) (C := RX8) (T := TX8) (N := 22) hx hb hts qi_X8_undo_X8 tyX8 tyX8_ok nmX8 hown hK hP hD hS 0 rfl rfl 7 (by decide) (hts _ ql_X8_undo_114) (fun _ h9 => h9) rfl (by decide +kernel) rfl rfl (Nat.le_of_ble_eq_true rfl) dX8_undo_71 (fun H locs hP hD hS => ?_)
    have hP : va_P (dC, dI) vwCl (qw_X8_undo cI cJ cC cG cW a_this a_this_laid a_this_text a_this_read a_this_numbers a_this_where a_this_sorts a_this_tells a_this_undone a_this_parts a_this_goesWith a_this_with a_this_keeps z_letters z_at (k1 - k2) (z_counts - (0 : Int32)) z_undos z_all z_planned z_scale z_least z_kept z_undone) H := hP
    have hD : va_D A (qw_X8_undo cI cJ cC cG cW a_this a_this_laid a_this_text a_this_read a_this_numbers a_this_where a_this_sorts a_this_tells a_this_undone a_this_parts a_this_goesWith a_this_with a_this_keeps z_letters z_at (k1 - k2) (z_counts - (0 : Int32)) z_undos z_all z_planned z_scale z_least z_kept z_undone) := hD
    refine lv_aload_n hx hb dX8_undo_74 rfl (lv_at hl 0 rfl) ?_
    refine va_get (D := (dC, dI)) (ci := 8) (v := .int z_undos) (C := RX8) (T := TX8) (N := 22) hx hb hts qi_X8_undo_X8 hown hK hP 0 rfl rfl 11 (by decide) (hts _ ql_X8_undo_117) (fun _ h9 => h9) rfl dX8_undo_75 ?_
    exact W.iret hx hb hr (fun t ht hW => ⟨⟨_, ((k1 - k2), (z_counts - (0 : Int32)), z_undos), rfl, hV, ⟨by rw [ht]; exact hP, va_K.moved hW.alike hK, hD⟩⟩, hS.F ht⟩) hS.2.2 dX8_undo_78 hlocks
  · have hV := hV.1 c5
    refine lv_iconst (v := (1 : Int32)) hx hb dX8_undo_65 (by decide) ?_
    refine lv_goto (tgt := 70) hx hb dX8_undo_66 (by decide) ?_
    refine lv_isub hx hb dX8_undo_70 ?_
    refine va_put (D := (dC, dI)) (ci := 8) (v := .int (z_counts - (1 : Int32))) (ty := .int) (C := RX8) (T := TX8) (N := 22) hx hb hts qi_X8_undo_X8 tyX8 tyX8_ok nmX8 hown hK hP hD hS 0 rfl rfl 7 (by decide) (hts _ ql_X8_undo_114) (fun _ h9 => h9) rfl (by decide +kernel) rfl rfl (Nat.le_of_ble_eq_true rfl) dX8_undo_71 (fun H locs hP hD hS => ?_)
    have hP : va_P (dC, dI) vwCl (qw_X8_undo cI cJ cC cG cW a_this a_this_laid a_this_text a_this_read a_this_numbers a_this_where a_this_sorts a_this_tells a_this_undone a_this_parts a_this_goesWith a_this_with a_this_keeps z_letters z_at (k1 - k2) (z_counts - (1 : Int32)) z_undos z_all z_planned z_scale z_least z_kept z_undone) H := hP
    have hD : va_D A (qw_X8_undo cI cJ cC cG cW a_this a_this_laid a_this_text a_this_read a_this_numbers a_this_where a_this_sorts a_this_tells a_this_undone a_this_parts a_this_goesWith a_this_with a_this_keeps z_letters z_at (k1 - k2) (z_counts - (1 : Int32)) z_undos z_all z_planned z_scale z_least z_kept z_undone) := hD
    refine lv_aload_n hx hb dX8_undo_74 rfl (lv_at hl 0 rfl) ?_
    refine va_get (D := (dC, dI)) (ci := 8) (v := .int z_undos) (C := RX8) (T := TX8) (N := 22) hx hb hts qi_X8_undo_X8 hown hK hP 0 rfl rfl 11 (by decide) (hts _ ql_X8_undo_117) (fun _ h9 => h9) rfl dX8_undo_75 ?_
    exact W.iret hx hb hr (fun t ht hW => ⟨⟨_, ((k1 - k2), (z_counts - (1 : Int32)), z_undos), rfl, hV, ⟨by rw [ht]; exact hP, va_K.moved hW.alike hK, hD⟩⟩, hS.F ht⟩) hS.2.2 dX8_undo_78 hlocks
def qv_X8_undo (z_walked : Int32) (z_counts : Int32) (z_undos : Int32) (z_undone : Nat → Int32) (Post : Int32 → (Int32) → (Int32) → (Int32) → Prop) : Prop := (z_undos = (0 : Int32) → Post (-2 : Int32) z_walked z_counts z_undos) ∧ (¬ z_undos = (0 : Int32) → vp_in (z_undos - (1 : Int32)) 8 ∧ (((z_undone (z_undos - (1 : Int32)).toNatClampNeg) = (1 : Int32) → qv_X8_undo_J43 z_walked (1 : Int32) z_walked z_counts (z_undos - (1 : Int32)) z_undone Post) ∧ (¬ (z_undone (z_undos - (1 : Int32)).toNatClampNeg) = (1 : Int32) → qv_X8_undo_J43 z_walked (0 : Int32) z_walked z_counts (z_undos - (1 : Int32)) z_undone Post)))
set_option maxHeartbeats 4000000 in
set_option maxRecDepth 100000 in
theorem qm_X8_undo (l : Launch) (dC : Nat → ClassId) (dI : Nat → Nat → Nat) (cI cJ cC cG cW : ClassId) (a_this a_this_laid a_this_text a_this_read a_this_numbers a_this_where a_this_sorts a_this_tells a_this_undone a_this_parts a_this_goesWith a_this_with a_this_keeps : Nat) (z_letters : Int32) (z_at : Int32) (z_walked : Int32) (z_counts : Int32) (z_undos : Int32) (z_all : Int64) (z_planned : Int64) (z_scale : Int64) (z_least : Int32) (z_kept : Int32) (z_undone : Nat → Int32) (sz : Nat) (Post : Int32 → (Int32) → (Int32) → (Int32) → Prop) (hV : qv_X8_undo z_walked z_counts z_undos z_undone Post) : Met l yX8_undo wsX8_undo ({ frames := 0, cells := 0, slots := 0, locals := 0 } : Room) (va_Pc [.ref a_this] (prW (dC, dI) (qw_X8_undo cI cJ cC cG cW a_this a_this_laid a_this_text a_this_read a_this_numbers a_this_where a_this_sorts a_this_tells a_this_undone a_this_parts a_this_goesWith a_this_with a_this_keeps z_letters z_at z_walked z_counts z_undos z_all z_planned z_scale z_least z_kept z_undone) (tyL cI cJ cC cG cW) sz)) (va_Qi (fun (r : Int32) (u : (Int32) × (Int32) × (Int32)) => Post r u.1 u.2.1 u.2.2) (fun u t => poW (dC, dI) (tyL cI cJ cC cG cW) (va_A (qw_X8_undo cI cJ cC cG cW a_this a_this_laid a_this_text a_this_read a_this_numbers a_this_where a_this_sorts a_this_tells a_this_undone a_this_parts a_this_goesWith a_this_with a_this_keeps z_letters z_at z_walked z_counts z_undos z_all z_planned z_scale z_least z_kept z_undone) sz) (qw_X8_undo cI cJ cC cG cW a_this a_this_laid a_this_text a_this_read a_this_numbers a_this_where a_this_sorts a_this_tells a_this_undone a_this_parts a_this_goesWith a_this_with a_this_keeps z_letters z_at u.1 u.2.1 u.2.2 z_all z_planned z_scale z_least z_kept z_undone) t) (va_A (qw_X8_undo cI cJ cC cG cW a_this a_this_laid a_this_text a_this_read a_this_numbers a_this_where a_this_sorts a_this_tells a_this_undone a_this_parts a_this_goesWith a_this_with a_this_keeps z_letters z_at z_walked z_counts z_undos z_all z_planned z_scale z_least z_kept z_undone) sz)) 0 0 (va_A (qw_X8_undo cI cJ cC cG cW a_this a_this_laid a_this_text a_this_read a_this_numbers a_this_where a_this_sorts a_this_tells a_this_undone a_this_parts a_this_goesWith a_this_with a_this_keeps z_letters z_at z_walked z_counts z_undos z_all z_planned z_scale z_least z_kept z_undone) sz) := by
  refine Met.ofM (Qc := fun A => va_Qi (fun (r : Int32) (u : (Int32) × (Int32) × (Int32)) => Post r u.1 u.2.1 u.2.2) (fun u t => poW (dC, dI) (tyL cI cJ cC cG cW) A (qw_X8_undo cI cJ cC cG cW a_this a_this_laid a_this_text a_this_read a_this_numbers a_this_where a_this_sorts a_this_tells a_this_undone a_this_parts a_this_goesWith a_this_with a_this_keeps z_letters z_at u.1 u.2.1 u.2.2 z_all z_planned z_scale z_least z_kept z_undone) t) A) (nm := "undo") (ds := "()I") (own := RX8) (maxL := 1) (cc := cX8_undo) (ret := (some .int)) (by decide) rfl rfl (Nat.le_of_ble_eq_true rfl) (fun p e s m below meth c A C0 hin hK hN hA hP hD hS ls hl => ?_)
  obtain ⟨hx, hb, hr, hml, hown, hts, hlocks⟩ := id C0
  have hl : lv_has ls 1 [(0, .ref a_this)] := hl
  obtain ⟨H, hH⟩ : ∃ h : Heap, h = s.heap := ⟨_, rfl⟩
  obtain ⟨locs, hLc⟩ : ∃ L : List Loc, L = [] := ⟨_, rfl⟩
  have hS : va_S A s.heap H locs := by rw [hH, hLc]; exact hS
  rw [← hH] at hP
  rw [← hLc, ← hH]
  clear hH hLc
  refine lv_aload_n hx hb dX8_undo_0 rfl (lv_at hl 0 rfl) ?_
  refine va_get (D := (dC, dI)) (ci := 8) (v := .int z_undos) (C := RX8) (T := TX8) (N := 22) hx hb hts qi_X8_undo_X8 hown hK hP 0 rfl rfl 11 (by decide) (hts _ ql_X8_undo_117) (fun _ h9 => h9) rfl dX8_undo_1 ?_
  refine lv_if_ne (tgt := 10) hx hb dX8_undo_4 (by decide) (fun c1 => ?_) (fun c1 => ?_)
  · have hV := hV.2 c1
    refine lv_aload_n hx hb dX8_undo_10 rfl (lv_at hl 0 rfl) ?_
    refine lv_dup hx hb dX8_undo_11 rfl ?_
    refine va_get (D := (dC, dI)) (ci := 8) (v := .int z_undos) (C := RX8) (T := TX8) (N := 22) hx hb hts qi_X8_undo_X8 hown hK hP 0 rfl rfl 11 (by decide) (hts _ ql_X8_undo_117) (fun _ h9 => h9) rfl dX8_undo_12 ?_
    refine lv_iconst (v := (1 : Int32)) hx hb dX8_undo_15 (by decide) ?_
    refine lv_isub hx hb dX8_undo_16 ?_
    refine va_put (D := (dC, dI)) (ci := 8) (v := .int (z_undos - (1 : Int32))) (ty := .int) (C := RX8) (T := TX8) (N := 22) hx hb hts qi_X8_undo_X8 tyX8 tyX8_ok nmX8 hown hK hP hD hS 0 rfl rfl 11 (by decide) (hts _ ql_X8_undo_117) (fun _ h9 => h9) rfl (by decide +kernel) rfl rfl (Nat.le_of_ble_eq_true rfl) dX8_undo_17 (fun H locs hP hD hS => ?_)
    have hP : va_P (dC, dI) vwCl (qw_X8_undo cI cJ cC cG cW a_this a_this_laid a_this_text a_this_read a_this_numbers a_this_where a_this_sorts a_this_tells a_this_undone a_this_parts a_this_goesWith a_this_with a_this_keeps z_letters z_at z_walked z_counts (z_undos - (1 : Int32)) z_all z_planned z_scale z_least z_kept z_undone) H := hP
    have hD : va_D A (qw_X8_undo cI cJ cC cG cW a_this a_this_laid a_this_text a_this_read a_this_numbers a_this_where a_this_sorts a_this_tells a_this_undone a_this_parts a_this_goesWith a_this_with a_this_keeps z_letters z_at z_walked z_counts (z_undos - (1 : Int32)) z_all z_planned z_scale z_least z_kept z_undone) := hD
    refine lv_aload_n hx hb dX8_undo_20 rfl (lv_at hl 0 rfl) ?_
    refine lv_dup hx hb dX8_undo_21 rfl ?_
    refine va_get (D := (dC, dI)) (ci := 8) (v := .int z_walked) (C := RX8) (T := TX8) (N := 22) hx hb hts qi_X8_undo_X8 hown hK hP 0 rfl rfl 6 (by decide) (hts _ ql_X8_undo_111) (fun _ h9 => h9) rfl dX8_undo_22 ?_
    refine lv_aload_n hx hb dX8_undo_25 rfl (lv_at hl 0 rfl) ?_
    refine va_get (D := (dC, dI)) (ci := 8) (v := .ref a_this_undone) (C := RX8) (T := TX8) (N := 22) hx hb hts qi_X8_undo_X8 hown hK hP 0 rfl rfl 12 (by decide) (hts _ ql_X8_undo_31) (fun _ h9 => h9) rfl dX8_undo_26 ?_
    refine lv_aload_n hx hb dX8_undo_29 rfl (lv_at hl 0 rfl) ?_
    refine va_get (D := (dC, dI)) (ci := 8) (v := .int (z_undos - (1 : Int32))) (C := RX8) (T := TX8) (N := 22) hx hb hts qi_X8_undo_X8 hown hK hP 0 rfl rfl 11 (by decide) (hts _ ql_X8_undo_117) (fun _ h9 => h9) rfl dX8_undo_30 ?_
    obtain ⟨h2, hV⟩ := hV
    refine va_iald hx hb hK hP 1 0 rfl rfl h2 dX8_undo_33 ?_
    refine lv_iconst (v := (1 : Int32)) hx hb dX8_undo_34 (by decide) ?_
    refine lv_icmp_ne (tgt := 42) hx hb dX8_undo_35 (by decide) (fun c3 => ?_) (fun c3 => ?_)
    · have hV := hV.2 c3
      refine lv_iconst (v := (0 : Int32)) hx hb dX8_undo_42 (by decide) ?_
      exact qt_X8_undo_J43 C0 hK hN hA z_letters z_at z_walked z_counts (z_undos - (1 : Int32)) z_all z_planned z_scale z_least z_kept z_undone z_walked (0 : Int32) _ H locs ls hV hP hD hS (lv_sub hl [0] rfl)
    · have hV := hV.1 c3
      refine lv_iconst (v := (1 : Int32)) hx hb dX8_undo_38 (by decide) ?_
      refine lv_goto (tgt := 43) hx hb dX8_undo_39 (by decide) ?_
      exact qt_X8_undo_J43 C0 hK hN hA z_letters z_at z_walked z_counts (z_undos - (1 : Int32)) z_all z_planned z_scale z_least z_kept z_undone z_walked (1 : Int32) _ H locs ls hV hP hD hS (lv_sub hl [0] rfl)
  · have hV := hV.1 c1
    refine lv_bipush (v := (-2 : Int32)) hx hb dX8_undo_7 (by decide) ?_
    exact W.iret hx hb hr (fun t ht hW => ⟨⟨_, (z_walked, z_counts, z_undos), rfl, hV, ⟨by rw [ht]; exact hP, va_K.moved hW.alike hK, hD⟩⟩, hS.F ht⟩) hS.2.2 dX8_undo_9 hlocks

/-! StileCountsModel.common(JJ)J -/
abbrev qw_X8_common (cI cJ cC cG cW : ClassId) : va_W := []
def qv_X8_common_L6 (Post : Int64 → Prop) (E : (Int64) → Prop) : Nat → (Int64) → (Int64) → Prop
  | 0, _, _ => False
  | n + 1, x4, x6 => (x6 = (0 : Int64) → E x4) ∧ (¬ x6 = (0 : Int64) → (¬ x6 = (0 : Int64)) ∧ (qv_X8_common_L6 Post E n x6 (x4 - x4 / x6 * x6)))
set_option maxHeartbeats 4000000 in
set_option maxRecDepth 100000 in
theorem qt_X8_common_L6 {p : Program} {l : Launch} {e : Env} {s : State} {m : MethodId} {args : Array Value} {below : List Frame} {meth : Method} {c : Code} {dC : Nat → ClassId} {dI : Nat → Nat → Nat} {cI cJ cC cG cW : ClassId} (C0 : MC cX8_common 10 (some .long) RX8 wsX8_common p s m args meth c) (hK : va_K (dC, dI) vwCl (tyL cI cJ cC cG cW) s) (hN : NW s) (hP : va_P (dC, dI) vwCl (qw_X8_common cI cJ cC cG cW) s.heap) (Post : Int64 → Prop) (E : (Int64) → Prop) (hE : ∀ (x4 : Int64) (ls : Array Slot), E x4 → lv_has ls 10 [(4, .long x4)] → W p l e ({ frames := 0, cells := 0, slots := 0, locals := 0 } : Room) s m args below meth c s.heap [] 0 0 (MQ below (vp_Sl Post) args s 0 0 (fun _ => False)) (F0 m 31 ls [])) : ∀ (n : Nat) (x4 : Int64) (x6 : Int64) (ls : Array Slot), qv_X8_common_L6 Post E n x4 x6 → lv_has ls 10 [(4, .long x4), (6, .long x6)] → W p l e ({ frames := 0, cells := 0, slots := 0, locals := 0 } : Room) s m args below meth c s.heap [] 0 0 (MQ below (vp_Sl Post) args s 0 0 (fun _ => False)) (F0 m 6 ls []) := by
  obtain ⟨hx, hb, hr, hml, hown, hts, hlocks⟩ := id C0
  intro n
  induction n with
  | zero =>
    intro x4 x6 ls hV
    exact False.elim hV
  | succ n ih =>
    intro x4 x6 ls hV hl
    refine lv_lload hx hb dX8_common_6 (lv_at hl 1 rfl) ?_
    refine lv_lconst (v := (0 : Int64)) hx hb dX8_common_8 (by decide) ?_
    refine W.lcmp hx hb dX8_common_9 ?_
    refine lv_if_eq (tgt := 31) hx hb dX8_common_10 (by decide) (fun c1 => ?_) (fun c1 => ?_)
    · have c1 := (lg_cmp_eq _ _).mp c1
      have hV := hV.1 c1
      exact hE x4 ls hV (lv_sub hl [0] rfl)
    · have c1 := fun h => c1 ((lg_cmp_eq _ _).mpr h)
      have hV := hV.2 c1
      refine lv_lload hx hb dX8_common_13 (lv_at hl 0 rfl) ?_
      refine lv_lload hx hb dX8_common_15 (lv_at hl 1 rfl) ?_
      obtain ⟨hz2, hV⟩ := hV
      refine lv_lrem hx hb dX8_common_17 hz2 ?_
      refine lv_lstore (lv' := [(8, .long (x4 - x4 / x6 * x6)), (4, .long x4), (6, .long x6)]) hx hb dX8_common_18 hl (by decide) rfl (fun ls hl => ?_)
      refine lv_lload hx hb dX8_common_20 (lv_at hl 2 rfl) ?_
      refine lv_lstore (lv' := [(4, .long x6), (8, .long (x4 - x4 / x6 * x6)), (6, .long x6)]) hx hb dX8_common_22 hl (by decide) rfl (fun ls hl => ?_)
      refine lv_lload hx hb dX8_common_24 (lv_at hl 1 rfl) ?_
      refine lv_lstore (lv' := [(6, .long (x4 - x4 / x6 * x6)), (4, .long x6), (8, .long (x4 - x4 / x6 * x6))]) hx hb dX8_common_26 hl (by decide) rfl (fun ls hl => ?_)
      refine lv_goto (tgt := 6) hx hb dX8_common_28 (by decide) ?_
      exact ih x6 (x4 - x4 / x6 * x6) ls hV (lv_sub hl [1, 0] rfl)
def qv_X8_common (x0 : Int64) (x2 : Int64) (Post : Int64 → Prop) : Prop := ∃ n3, qv_X8_common_L6 Post (fun x4_3 => Post x4_3) n3 x0 x2
set_option maxHeartbeats 4000000 in
set_option maxRecDepth 100000 in
theorem qm_X8_common (l : Launch) (dC : Nat → ClassId) (dI : Nat → Nat → Nat) (cI cJ cC cG cW : ClassId) (x0 : Int64) (x2 : Int64) (Post : Int64 → Prop) (hV : qv_X8_common x0 x2 Post) : Met l yX8_common wsX8_common ({ frames := 0, cells := 0, slots := 0, locals := 0 } : Room) (va_Pc [.long x0, .long x2] (prR (dC, dI) (qw_X8_common cI cJ cC cG cW) (tyL cI cJ cC cG cW))) (vp_Sl Post) 0 0 (fun _ => False) := by
  refine Met.ofR (nm := "common") (ds := "(JJ)J") (own := RX8) (maxL := 10) (cc := cX8_common) (ret := (some .long)) (by decide) rfl rfl (Nat.le_of_ble_eq_true rfl) (fun p e s m below meth c C0 hK hN hP ls hl => ?_)
  obtain ⟨hx, hb, hr, hml, hown, hts, hlocks⟩ := id C0
  have hl : lv_has ls 10 [(0, .long x0), (2, .long x2)] := hl
  refine lv_lload_n hx hb dX8_common_0 rfl (lv_at hl 0 rfl) ?_
  refine lv_lstore (lv' := [(4, .long x0), (0, .long x0), (2, .long x2)]) hx hb dX8_common_1 hl (by decide) rfl (fun ls hl => ?_)
  refine lv_lload_n hx hb dX8_common_3 rfl (lv_at hl 2 rfl) ?_
  refine lv_lstore (lv' := [(6, .long x2), (4, .long x0), (0, .long x0), (2, .long x2)]) hx hb dX8_common_4 hl (by decide) rfl (fun ls hl => ?_)
  obtain ⟨n3, hV⟩ := hV
  refine qt_X8_common_L6 C0 hK hN hP _ _ (fun x4_3 ls hV hl => ?_) n3 x0 x2 ls hV (lv_sub hl [1, 0] rfl)
  refine lv_lload hx hb dX8_common_31 (lv_at hl 0 rfl) ?_
  exact W.lret hx hb hr (fun t ht hW => ⟨_, rfl, hV, ht⟩) (fun q h => absurd h List.not_mem_nil) dX8_common_33 hlocks

/-! StileCountsModel.lessens()V -/
abbrev qw_X8_lessens (cI cJ cC cG cW : ClassId) (a_this a_this_laid a_this_text a_this_read a_this_numbers a_this_where a_this_sorts a_this_tells a_this_undone a_this_parts a_this_goesWith a_this_with a_this_keeps : Nat) (z_letters : Int32) (z_at : Int32) (z_walked : Int32) (z_counts : Int32) (z_undos : Int32) (z_all : Int64) (z_planned : Int64) (z_scale : Int64) (z_least : Int32) (z_kept : Int32) (z_parts : Nat → Int64) : va_W := [(a_this, .inr (8, [.ref a_this_laid, .ref a_this_text, .int z_letters, .ref a_this_read, .int z_at, .ref a_this_numbers, .int z_walked, .int z_counts, .ref a_this_where, .ref a_this_sorts, .ref a_this_tells, .int z_undos, .ref a_this_undone, .ref a_this_parts, .long z_all, .long z_planned, .long z_scale, .ref a_this_goesWith, .int z_least, .ref a_this_with, .int z_kept, .ref a_this_keeps])), (a_this_parts, .inl (cJ, 9, .inr (.inl z_parts)))]
theorem qi_X8_lessens_X8 : ∀ w ∈ wsX80, w ∈ wsX8_lessens := by decide +kernel
theorem ql_X8_lessens_34 : (.fieldLink RX8 34 "StileCountsModel" "parts" "[J" : Cond) ∈ wsX8_lessens := by decide +kernel
theorem ql_X8_lessens_138 : (.fieldLink RX8 138 "StileCountsModel" "all" "J" : Cond) ∈ wsX8_lessens := by decide +kernel
def qv_X8_lessens_L4 (z_all : Int64) (z_parts : Nat → Int64) (Post : (Int64) → (Nat → Int64) → Prop) (E : (Int64) → Prop) : Nat → (Int64) → (Int32) → Prop
  | 0, _, _ => False
  | n + 1, x1, x3 => ((9 : Int32) ≤ x3 → E x1) ∧ (¬ (9 : Int32) ≤ x3 → vp_in x3 9 ∧ (qv_X8_common x1 (z_parts x3.toNatClampNeg) (fun r3 => qv_X8_lessens_L4 z_all z_parts Post E n r3 (x3 + (1 : Int32)))))
set_option maxHeartbeats 4000000 in
set_option maxRecDepth 100000 in
theorem qt_X8_lessens_L4 {p : Program} {l : Launch} {e : Env} {s : State} {m : MethodId} {args : Array Value} {below : List Frame} {meth : Method} {c : Code} {dC : Nat → ClassId} {dI : Nat → Nat → Nat} {cI cJ cC cG cW : ClassId} {a_this a_this_laid a_this_text a_this_read a_this_numbers a_this_where a_this_sorts a_this_tells a_this_undone a_this_parts a_this_goesWith a_this_with a_this_keeps : Nat} {A : Nat → Prop} (C0 : MC cX8_lessens 4 none RX8 wsX8_lessens p s m args meth c) (hK : va_K (dC, dI) vwCl (tyL cI cJ cC cG cW) s) (hN : NW s) (hA : ∀ q, s.heap.size ≤ q → A q) (z_letters : Int32) (z_at : Int32) (z_walked : Int32) (z_counts : Int32) (z_undos : Int32) (z_all : Int64) (z_planned : Int64) (z_scale : Int64) (z_least : Int32) (z_kept : Int32) (z_parts : Nat → Int64) (Post : (Int64) → (Nat → Int64) → Prop) (E : (Int64) → Prop) (hE : ∀ (x1 : Int64) (H : Heap) (locs : List Loc) (ls : Array Slot), E x1 → va_P (dC, dI) vwCl (qw_X8_lessens cI cJ cC cG cW a_this a_this_laid a_this_text a_this_read a_this_numbers a_this_where a_this_sorts a_this_tells a_this_undone a_this_parts a_this_goesWith a_this_with a_this_keeps z_letters z_at z_walked z_counts z_undos z_all z_planned z_scale z_least z_kept z_parts) H → va_D A (qw_X8_lessens cI cJ cC cG cW a_this a_this_laid a_this_text a_this_read a_this_numbers a_this_where a_this_sorts a_this_tells a_this_undone a_this_parts a_this_goesWith a_this_with a_this_keeps z_letters z_at z_walked z_counts z_undos z_all z_planned z_scale z_least z_kept z_parts) → va_S A s.heap H locs → lv_has ls 4 [(0, .ref a_this), (1, .long x1)] → W p l e ({ frames := 1, cells := 0, slots := 0, locals := 29 } : Room) s m args below meth c H locs 0 0 (MQ below (va_Qv (fun (u : (Int64) × (Nat → Int64)) => Post u.1 u.2) (fun u t => poW (dC, dI) (tyL cI cJ cC cG cW) A (qw_X8_lessens cI cJ cC cG cW a_this a_this_laid a_this_text a_this_read a_this_numbers a_this_where a_this_sorts a_this_tells a_this_undone a_this_parts a_this_goesWith a_this_with a_this_keeps z_letters z_at z_walked z_counts z_undos u.1 z_planned z_scale z_least z_kept u.2) t) A) args s 0 0 A) (F0 m 27 ls [])) : ∀ (n : Nat) (x1 : Int64) (x3 : Int32) (H : Heap) (locs : List Loc) (ls : Array Slot), qv_X8_lessens_L4 z_all z_parts Post E n x1 x3 → va_P (dC, dI) vwCl (qw_X8_lessens cI cJ cC cG cW a_this a_this_laid a_this_text a_this_read a_this_numbers a_this_where a_this_sorts a_this_tells a_this_undone a_this_parts a_this_goesWith a_this_with a_this_keeps z_letters z_at z_walked z_counts z_undos z_all z_planned z_scale z_least z_kept z_parts) H → va_D A (qw_X8_lessens cI cJ cC cG cW a_this a_this_laid a_this_text a_this_read a_this_numbers a_this_where a_this_sorts a_this_tells a_this_undone a_this_parts a_this_goesWith a_this_with a_this_keeps z_letters z_at z_walked z_counts z_undos z_all z_planned z_scale z_least z_kept z_parts) → va_S A s.heap H locs → lv_has ls 4 [(0, .ref a_this), (1, .long x1), (3, .int x3)] → W p l e ({ frames := 1, cells := 0, slots := 0, locals := 29 } : Room) s m args below meth c H locs 0 0 (MQ below (va_Qv (fun (u : (Int64) × (Nat → Int64)) => Post u.1 u.2) (fun u t => poW (dC, dI) (tyL cI cJ cC cG cW) A (qw_X8_lessens cI cJ cC cG cW a_this a_this_laid a_this_text a_this_read a_this_numbers a_this_where a_this_sorts a_this_tells a_this_undone a_this_parts a_this_goesWith a_this_with a_this_keeps z_letters z_at z_walked z_counts z_undos u.1 z_planned z_scale z_least z_kept u.2) t) A) args s 0 0 A) (F0 m 4 ls []) := by
  obtain ⟨hx, hb, hr, hml, hown, hts, hlocks⟩ := id C0
  intro n
  induction n with
  | zero =>
    intro x1 x3 H locs ls hV
    exact False.elim hV
  | succ n ih =>
    intro x1 x3 H locs ls hV hP hD hS hl
    refine lv_iload_n hx hb dX8_lessens_4 rfl (lv_at hl 2 rfl) ?_
    refine lv_bipush (v := (9 : Int32)) hx hb dX8_lessens_5 (by decide) ?_
    refine lv_icmp_ge (tgt := 27) hx hb dX8_lessens_7 (by decide) (fun c1 => ?_) (fun c1 => ?_)
    · have hV := hV.1 c1
      exact hE x1 H locs ls hV hP hD hS (lv_sub hl [0, 1] rfl)
    · have hV := hV.2 c1
      refine lv_lload_n hx hb dX8_lessens_10 rfl (lv_at hl 1 rfl) ?_
      refine lv_aload_n hx hb dX8_lessens_11 rfl (lv_at hl 0 rfl) ?_
      refine va_get (D := (dC, dI)) (ci := 8) (v := .ref a_this_parts) (C := RX8) (T := TX8) (N := 22) hx hb hts qi_X8_lessens_X8 hown hK hP 0 rfl rfl 13 (by decide) (hts _ ql_X8_lessens_34) (fun _ h9 => h9) rfl dX8_lessens_12 ?_
      refine lv_iload_n hx hb dX8_lessens_15 rfl (lv_at hl 2 rfl) ?_
      obtain ⟨h2, hV⟩ := hV
      refine va_lald hx hb hK hP 1 1 rfl rfl h2 dX8_lessens_16 ?_
      refine vp_callSl (va_Run.run (va_runS (As := [.long x1, .long (z_parts x3.toNatClampNeg)]) (rest := []) ⟨hx, hb, hml, hown, hts⟩ (qm_X8_common l dC dI cI cJ cC cG cW x1 (z_parts x3.toNatClampNeg) _ hV) (va_cwS 2 hts gX8_lessens_X8_common rfl rfl rfl (by decide +kernel) ⟨Nat.le_of_ble_eq_true rfl, Nat.le_of_ble_eq_true rfl⟩) (preRS hK hN (show va_P (dC, dI) vwCl (qw_X8_common cI cJ cC cG cW) H from fun k q h => by simp at h)) rfl rfl hl.1 rfl (lv_room (Nat.le_of_ble_eq_true rfl)) dX8_lessens_17 ⟨Nat.le_of_ble_eq_true rfl, Nat.le_of_ble_eq_true rfl⟩)) (fun r3 hV => ?_)
      refine lv_lstore_n (lv' := [(1, .long r3), (0, .ref a_this), (3, .int x3)]) hx hb dX8_lessens_20 rfl hl (by decide) rfl (fun ls hl => ?_)
      refine lv_iinc (v := (x3 + (1 : Int32))) (lv' := [(3, .int (x3 + (1 : Int32))), (1, .long r3), (0, .ref a_this)]) hx hb dX8_lessens_21 hl (k := 2) rfl rfl (by decide) rfl (fun ls hl => ?_)
      refine lv_goto (tgt := 4) hx hb dX8_lessens_24 (by decide) ?_
      exact ih r3 (x3 + (1 : Int32)) H locs ls hV hP hD hS (lv_sub hl [2, 1, 0] rfl)
def qv_X8_lessens_J63 (k1 : Int32) (k2 : Int64) (x1 : Int64) (x3 : Int32) (z_all : Int64) (z_parts : Nat → Int64) (Post : (Int64) → (Nat → Int64) → Prop) (K : (Int32) → (Int64) → (Nat → Int64) → Prop) (E : (Int64) → (Nat → Int64) → Prop) : Prop := vp_in k1 9 ∧ (vp_in x3 9 ∧ (K (x3 + (1 : Int32)) (z_all + ((vp_updL z_parts k1.toNatClampNeg k2) x3.toNatClampNeg)) (vp_updL z_parts k1.toNatClampNeg k2)))
set_option maxHeartbeats 4000000 in
set_option maxRecDepth 100000 in
theorem qt_X8_lessens_J63 {p : Program} {l : Launch} {e : Env} {s : State} {m : MethodId} {args : Array Value} {below : List Frame} {meth : Method} {c : Code} {dC : Nat → ClassId} {dI : Nat → Nat → Nat} {cI cJ cC cG cW : ClassId} {a_this a_this_laid a_this_text a_this_read a_this_numbers a_this_where a_this_sorts a_this_tells a_this_undone a_this_parts a_this_goesWith a_this_with a_this_keeps : Nat} {A : Nat → Prop} (C0 : MC cX8_lessens 4 none RX8 wsX8_lessens p s m args meth c) (hK : va_K (dC, dI) vwCl (tyL cI cJ cC cG cW) s) (hN : NW s) (hA : ∀ q, s.heap.size ≤ q → A q) (z_letters : Int32) (z_at : Int32) (z_walked : Int32) (z_counts : Int32) (z_undos : Int32) (z_all : Int64) (z_planned : Int64) (z_scale : Int64) (z_least : Int32) (z_kept : Int32) (z_parts : Nat → Int64) (k1 : Int32) (k2 : Int64) (x1 : Int64) (x3 : Int32) (Post : (Int64) → (Nat → Int64) → Prop) (K : (Int32) → (Int64) → (Nat → Int64) → Prop) (E : (Int64) → (Nat → Int64) → Prop) (hKb : ∀ (x3 : Int32) (z_all : Int64) (z_parts : Nat → Int64) (H : Heap) (locs : List Loc) (ls : Array Slot), K x3 z_all z_parts → va_P (dC, dI) vwCl (qw_X8_lessens cI cJ cC cG cW a_this a_this_laid a_this_text a_this_read a_this_numbers a_this_where a_this_sorts a_this_tells a_this_undone a_this_parts a_this_goesWith a_this_with a_this_keeps z_letters z_at z_walked z_counts z_undos z_all z_planned z_scale z_least z_kept z_parts) H → va_D A (qw_X8_lessens cI cJ cC cG cW a_this a_this_laid a_this_text a_this_read a_this_numbers a_this_where a_this_sorts a_this_tells a_this_undone a_this_parts a_this_goesWith a_this_with a_this_keeps z_letters z_at z_walked z_counts z_undos z_all z_planned z_scale z_least z_kept z_parts) → va_S A s.heap H locs → lv_has ls 4 [(0, .ref a_this), (1, .long x1), (3, .int x3)] → W p l e ({ frames := 1, cells := 0, slots := 0, locals := 29 } : Room) s m args below meth c H locs 0 0 (MQ below (va_Qv (fun (u : (Int64) × (Nat → Int64)) => Post u.1 u.2) (fun u t => poW (dC, dI) (tyL cI cJ cC cG cW) A (qw_X8_lessens cI cJ cC cG cW a_this a_this_laid a_this_text a_this_read a_this_numbers a_this_where a_this_sorts a_this_tells a_this_undone a_this_parts a_this_goesWith a_this_with a_this_keeps z_letters z_at z_walked z_counts z_undos u.1 z_planned z_scale z_least z_kept u.2) t) A) args s 0 0 A) (F0 m 34 ls [])) (hE : ∀ (z_all : Int64) (z_parts : Nat → Int64) (H : Heap) (locs : List Loc) (ls : Array Slot), E z_all z_parts → va_P (dC, dI) vwCl (qw_X8_lessens cI cJ cC cG cW a_this a_this_laid a_this_text a_this_read a_this_numbers a_this_where a_this_sorts a_this_tells a_this_undone a_this_parts a_this_goesWith a_this_with a_this_keeps z_letters z_at z_walked z_counts z_undos z_all z_planned z_scale z_least z_kept z_parts) H → va_D A (qw_X8_lessens cI cJ cC cG cW a_this a_this_laid a_this_text a_this_read a_this_numbers a_this_where a_this_sorts a_this_tells a_this_undone a_this_parts a_this_goesWith a_this_with a_this_keeps z_letters z_at z_walked z_counts z_undos z_all z_planned z_scale z_least z_kept z_parts) → va_S A s.heap H locs → lv_has ls 4 [] → W p l e ({ frames := 1, cells := 0, slots := 0, locals := 29 } : Room) s m args below meth c H locs 0 0 (MQ below (va_Qv (fun (u : (Int64) × (Nat → Int64)) => Post u.1 u.2) (fun u t => poW (dC, dI) (tyL cI cJ cC cG cW) A (qw_X8_lessens cI cJ cC cG cW a_this a_this_laid a_this_text a_this_read a_this_numbers a_this_where a_this_sorts a_this_tells a_this_undone a_this_parts a_this_goesWith a_this_with a_this_keeps z_letters z_at z_walked z_counts z_undos u.1 z_planned z_scale z_least z_kept u.2) t) A) args s 0 0 A) (F0 m 85 ls [])) (H : Heap) (locs : List Loc) (ls : Array Slot) (hV : qv_X8_lessens_J63 k1 k2 x1 x3 z_all z_parts Post K E) (hP : va_P (dC, dI) vwCl (qw_X8_lessens cI cJ cC cG cW a_this a_this_laid a_this_text a_this_read a_this_numbers a_this_where a_this_sorts a_this_tells a_this_undone a_this_parts a_this_goesWith a_this_with a_this_keeps z_letters z_at z_walked z_counts z_undos z_all z_planned z_scale z_least z_kept z_parts) H) (hD : va_D A (qw_X8_lessens cI cJ cC cG cW a_this a_this_laid a_this_text a_this_read a_this_numbers a_this_where a_this_sorts a_this_tells a_this_undone a_this_parts a_this_goesWith a_this_with a_this_keeps z_letters z_at z_walked z_counts z_undos z_all z_planned z_scale z_least z_kept z_parts)) (hS : va_S A s.heap H locs) (hl : lv_has ls 4 [(0, .ref a_this), (1, .long x1), (3, .int x3)]) : W p l e ({ frames := 1, cells := 0, slots := 0, locals := 29 } : Room) s m args below meth c H locs 0 0 (MQ below (va_Qv (fun (u : (Int64) × (Nat → Int64)) => Post u.1 u.2) (fun u t => poW (dC, dI) (tyL cI cJ cC cG cW) A (qw_X8_lessens cI cJ cC cG cW a_this a_this_laid a_this_text a_this_read a_this_numbers a_this_where a_this_sorts a_this_tells a_this_undone a_this_parts a_this_goesWith a_this_with a_this_keeps z_letters z_at z_walked z_counts z_undos u.1 z_planned z_scale z_least z_kept u.2) t) A) args s 0 0 A) (F0 m 63 ls [.long k2, .int k1, .ref a_this_parts]) := by
  obtain ⟨hx, hb, hr, hml, hown, hts, hlocks⟩ := id C0
  obtain ⟨h9, hV⟩ := hV
  refine va_last hx hb hK hP hD hS 1 1 rfl rfl h9 dX8_lessens_63 (fun H locs hP hD hS => ?_)
  have hP : va_P (dC, dI) vwCl (qw_X8_lessens cI cJ cC cG cW a_this a_this_laid a_this_text a_this_read a_this_numbers a_this_where a_this_sorts a_this_tells a_this_undone a_this_parts a_this_goesWith a_this_with a_this_keeps z_letters z_at z_walked z_counts z_undos z_all z_planned z_scale z_least z_kept (vp_updL z_parts k1.toNatClampNeg k2)) H := hP
  have hD : va_D A (qw_X8_lessens cI cJ cC cG cW a_this a_this_laid a_this_text a_this_read a_this_numbers a_this_where a_this_sorts a_this_tells a_this_undone a_this_parts a_this_goesWith a_this_with a_this_keeps z_letters z_at z_walked z_counts z_undos z_all z_planned z_scale z_least z_kept (vp_updL z_parts k1.toNatClampNeg k2)) := hD
  refine lv_aload_n hx hb dX8_lessens_64 rfl (lv_at hl 0 rfl) ?_
  refine lv_dup hx hb dX8_lessens_65 rfl ?_
  refine va_get (D := (dC, dI)) (ci := 8) (v := .long z_all) (C := RX8) (T := TX8) (N := 22) hx hb hts qi_X8_lessens_X8 hown hK hP 0 rfl rfl 14 (by decide) (hts _ ql_X8_lessens_138) (fun _ h9 => h9) rfl dX8_lessens_66 ?_
  refine lv_aload_n hx hb dX8_lessens_69 rfl (lv_at hl 0 rfl) ?_
  refine va_get (D := (dC, dI)) (ci := 8) (v := .ref a_this_parts) (C := RX8) (T := TX8) (N := 22) hx hb hts qi_X8_lessens_X8 hown hK hP 0 rfl rfl 13 (by decide) (hts _ ql_X8_lessens_34) (fun _ h9 => h9) rfl dX8_lessens_70 ?_
  refine lv_iload_n hx hb dX8_lessens_73 rfl (lv_at hl 2 rfl) ?_
  obtain ⟨h10, hV⟩ := hV
  refine va_lald hx hb hK hP 1 1 rfl rfl h10 dX8_lessens_74 ?_
  refine lv_ladd hx hb dX8_lessens_75 ?_
  refine va_put (D := (dC, dI)) (ci := 8) (v := .long (z_all + ((vp_updL z_parts k1.toNatClampNeg k2) x3.toNatClampNeg))) (ty := .long) (C := RX8) (T := TX8) (N := 22) hx hb hts qi_X8_lessens_X8 tyX8 tyX8_ok nmX8 hown hK hP hD hS 0 rfl rfl 14 (by decide) (hts _ ql_X8_lessens_138) (fun _ h9 => h9) rfl (by decide +kernel) rfl rfl (Nat.le_of_ble_eq_true rfl) dX8_lessens_76 (fun H locs hP hD hS => ?_)
  have hP : va_P (dC, dI) vwCl (qw_X8_lessens cI cJ cC cG cW a_this a_this_laid a_this_text a_this_read a_this_numbers a_this_where a_this_sorts a_this_tells a_this_undone a_this_parts a_this_goesWith a_this_with a_this_keeps z_letters z_at z_walked z_counts z_undos (z_all + ((vp_updL z_parts k1.toNatClampNeg k2) x3.toNatClampNeg)) z_planned z_scale z_least z_kept (vp_updL z_parts k1.toNatClampNeg k2)) H := hP
  have hD : va_D A (qw_X8_lessens cI cJ cC cG cW a_this a_this_laid a_this_text a_this_read a_this_numbers a_this_where a_this_sorts a_this_tells a_this_undone a_this_parts a_this_goesWith a_this_with a_this_keeps z_letters z_at z_walked z_counts z_undos (z_all + ((vp_updL z_parts k1.toNatClampNeg k2) x3.toNatClampNeg)) z_planned z_scale z_least z_kept (vp_updL z_parts k1.toNatClampNeg k2)) := hD
  refine lv_iinc (v := (x3 + (1 : Int32))) (lv' := [(3, .int (x3 + (1 : Int32))), (0, .ref a_this), (1, .long x1)]) hx hb dX8_lessens_79 hl (k := 2) rfl rfl (by decide) rfl (fun ls hl => ?_)
  refine lv_goto (tgt := 34) hx hb dX8_lessens_82 (by decide) ?_
  exact hKb (x3 + (1 : Int32)) (z_all + ((vp_updL z_parts k1.toNatClampNeg k2) x3.toNatClampNeg)) (vp_updL z_parts k1.toNatClampNeg k2) H locs ls hV hP hD hS (lv_sub hl [1, 2, 0] rfl)
def qv_X8_lessens_L34 (x1 : Int64) (Post : (Int64) → (Nat → Int64) → Prop) (E : (Int64) → (Nat → Int64) → Prop) : Nat → (Int32) → (Int64) → (Nat → Int64) → Prop
  | 0, _, _, _ => False
  | n + 1, x3, z_all, z_parts => ((9 : Int32) ≤ x3 → E z_all z_parts) ∧ (¬ (9 : Int32) ≤ x3 → (x1 = (0 : Int64) → qv_X8_lessens_J63 x3 (0 : Int64) x1 x3 z_all z_parts Post (qv_X8_lessens_L34 x1 Post E n) E) ∧ (¬ x1 = (0 : Int64) → vp_in x3 9 ∧ ((¬ x1 = (0 : Int64)) ∧ (qv_X8_lessens_J63 x3 ((z_parts x3.toNatClampNeg) / x1) x1 x3 z_all z_parts Post (qv_X8_lessens_L34 x1 Post E n) E))))
set_option maxHeartbeats 4000000 in
set_option maxRecDepth 100000 in
theorem qt_X8_lessens_L34 {p : Program} {l : Launch} {e : Env} {s : State} {m : MethodId} {args : Array Value} {below : List Frame} {meth : Method} {c : Code} {dC : Nat → ClassId} {dI : Nat → Nat → Nat} {cI cJ cC cG cW : ClassId} {a_this a_this_laid a_this_text a_this_read a_this_numbers a_this_where a_this_sorts a_this_tells a_this_undone a_this_parts a_this_goesWith a_this_with a_this_keeps : Nat} {A : Nat → Prop} (C0 : MC cX8_lessens 4 none RX8 wsX8_lessens p s m args meth c) (hK : va_K (dC, dI) vwCl (tyL cI cJ cC cG cW) s) (hN : NW s) (hA : ∀ q, s.heap.size ≤ q → A q) (z_letters : Int32) (z_at : Int32) (z_walked : Int32) (z_counts : Int32) (z_undos : Int32) (z_planned : Int64) (z_scale : Int64) (z_least : Int32) (z_kept : Int32) (x1 : Int64) (Post : (Int64) → (Nat → Int64) → Prop) (E : (Int64) → (Nat → Int64) → Prop) (hE : ∀ (z_all : Int64) (z_parts : Nat → Int64) (H : Heap) (locs : List Loc) (ls : Array Slot), E z_all z_parts → va_P (dC, dI) vwCl (qw_X8_lessens cI cJ cC cG cW a_this a_this_laid a_this_text a_this_read a_this_numbers a_this_where a_this_sorts a_this_tells a_this_undone a_this_parts a_this_goesWith a_this_with a_this_keeps z_letters z_at z_walked z_counts z_undos z_all z_planned z_scale z_least z_kept z_parts) H → va_D A (qw_X8_lessens cI cJ cC cG cW a_this a_this_laid a_this_text a_this_read a_this_numbers a_this_where a_this_sorts a_this_tells a_this_undone a_this_parts a_this_goesWith a_this_with a_this_keeps z_letters z_at z_walked z_counts z_undos z_all z_planned z_scale z_least z_kept z_parts) → va_S A s.heap H locs → lv_has ls 4 [] → W p l e ({ frames := 1, cells := 0, slots := 0, locals := 29 } : Room) s m args below meth c H locs 0 0 (MQ below (va_Qv (fun (u : (Int64) × (Nat → Int64)) => Post u.1 u.2) (fun u t => poW (dC, dI) (tyL cI cJ cC cG cW) A (qw_X8_lessens cI cJ cC cG cW a_this a_this_laid a_this_text a_this_read a_this_numbers a_this_where a_this_sorts a_this_tells a_this_undone a_this_parts a_this_goesWith a_this_with a_this_keeps z_letters z_at z_walked z_counts z_undos u.1 z_planned z_scale z_least z_kept u.2) t) A) args s 0 0 A) (F0 m 85 ls [])) : ∀ (n : Nat) (x3 : Int32) (z_all : Int64) (z_parts : Nat → Int64) (H : Heap) (locs : List Loc) (ls : Array Slot), qv_X8_lessens_L34 x1 Post E n x3 z_all z_parts → va_P (dC, dI) vwCl (qw_X8_lessens cI cJ cC cG cW a_this a_this_laid a_this_text a_this_read a_this_numbers a_this_where a_this_sorts a_this_tells a_this_undone a_this_parts a_this_goesWith a_this_with a_this_keeps z_letters z_at z_walked z_counts z_undos z_all z_planned z_scale z_least z_kept z_parts) H → va_D A (qw_X8_lessens cI cJ cC cG cW a_this a_this_laid a_this_text a_this_read a_this_numbers a_this_where a_this_sorts a_this_tells a_this_undone a_this_parts a_this_goesWith a_this_with a_this_keeps z_letters z_at z_walked z_counts z_undos z_all z_planned z_scale z_least z_kept z_parts) → va_S A s.heap H locs → lv_has ls 4 [(0, .ref a_this), (1, .long x1), (3, .int x3)] → W p l e ({ frames := 1, cells := 0, slots := 0, locals := 29 } : Room) s m args below meth c H locs 0 0 (MQ below (va_Qv (fun (u : (Int64) × (Nat → Int64)) => Post u.1 u.2) (fun u t => poW (dC, dI) (tyL cI cJ cC cG cW) A (qw_X8_lessens cI cJ cC cG cW a_this a_this_laid a_this_text a_this_read a_this_numbers a_this_where a_this_sorts a_this_tells a_this_undone a_this_parts a_this_goesWith a_this_with a_this_keeps z_letters z_at z_walked z_counts z_undos u.1 z_planned z_scale z_least z_kept u.2) t) A) args s 0 0 A) (F0 m 34 ls []) := by
  obtain ⟨hx, hb, hr, hml, hown, hts, hlocks⟩ := id C0
  intro n
  induction n with
  | zero =>
    intro x3 z_all z_parts H locs ls hV
    exact False.elim hV
  | succ n ih =>
    intro x3 z_all z_parts H locs ls hV hP hD hS hl
    refine lv_iload_n hx hb dX8_lessens_34 rfl (lv_at hl 2 rfl) ?_
    refine lv_bipush (v := (9 : Int32)) hx hb dX8_lessens_35 (by decide) ?_
    refine lv_icmp_ge (tgt := 85) hx hb dX8_lessens_37 (by decide) (fun c5 => ?_) (fun c5 => ?_)
    · have hV := hV.1 c5
      exact hE z_all z_parts H locs ls hV hP hD hS (lv_sub hl [] rfl)
    · have hV := hV.2 c5
      refine lv_aload_n hx hb dX8_lessens_40 rfl (lv_at hl 0 rfl) ?_
      refine va_get (D := (dC, dI)) (ci := 8) (v := .ref a_this_parts) (C := RX8) (T := TX8) (N := 22) hx hb hts qi_X8_lessens_X8 hown hK hP 0 rfl rfl 13 (by decide) (hts _ ql_X8_lessens_34) (fun _ h9 => h9) rfl dX8_lessens_41 ?_
      refine lv_iload_n hx hb dX8_lessens_44 rfl (lv_at hl 2 rfl) ?_
      refine lv_lload_n hx hb dX8_lessens_45 rfl (lv_at hl 1 rfl) ?_
      refine lv_lconst (v := (0 : Int64)) hx hb dX8_lessens_46 (by decide) ?_
      refine W.lcmp hx hb dX8_lessens_47 ?_
      refine lv_if_ne (tgt := 55) hx hb dX8_lessens_48 (by decide) (fun c6 => ?_) (fun c6 => ?_)
      · have c6 := fun h => c6 ((lg_cmp_eq _ _).mpr h)
        have hV := hV.2 c6
        refine lv_aload_n hx hb dX8_lessens_55 rfl (lv_at hl 0 rfl) ?_
        refine va_get (D := (dC, dI)) (ci := 8) (v := .ref a_this_parts) (C := RX8) (T := TX8) (N := 22) hx hb hts qi_X8_lessens_X8 hown hK hP 0 rfl rfl 13 (by decide) (hts _ ql_X8_lessens_34) (fun _ h9 => h9) rfl dX8_lessens_56 ?_
        refine lv_iload_n hx hb dX8_lessens_59 rfl (lv_at hl 2 rfl) ?_
        obtain ⟨h7, hV⟩ := hV
        refine va_lald hx hb hK hP 1 1 rfl rfl h7 dX8_lessens_60 ?_
        refine lv_lload_n hx hb dX8_lessens_61 rfl (lv_at hl 1 rfl) ?_
        obtain ⟨hz8, hV⟩ := hV
        refine lv_ldiv hx hb dX8_lessens_62 hz8 ?_
        exact qt_X8_lessens_J63 C0 hK hN hA z_letters z_at z_walked z_counts z_undos z_all z_planned z_scale z_least z_kept z_parts x3 ((z_parts x3.toNatClampNeg) / x1) x1 x3 _ _ _ ih hE H locs ls hV hP hD hS (lv_sub hl [0, 1, 2] rfl)
      · have c6 := (lg_cmp_eq _ _).mp c6
        have hV := hV.1 c6
        refine lv_lconst (v := (0 : Int64)) hx hb dX8_lessens_51 (by decide) ?_
        refine lv_goto (tgt := 63) hx hb dX8_lessens_52 (by decide) ?_
        exact qt_X8_lessens_J63 C0 hK hN hA z_letters z_at z_walked z_counts z_undos z_all z_planned z_scale z_least z_kept z_parts x3 (0 : Int64) x1 x3 _ _ _ ih hE H locs ls hV hP hD hS (lv_sub hl [0, 1, 2] rfl)
def qv_X8_lessens (z_all : Int64) (z_parts : Nat → Int64) (Post : (Int64) → (Nat → Int64) → Prop) : Prop := ∃ n4, qv_X8_lessens_L4 z_all z_parts Post (fun x1_4 => ∃ n11, qv_X8_lessens_L34 x1_4 Post (fun z_all_11 z_parts_11 => Post z_all_11 z_parts_11) n11 (0 : Int32) (0 : Int64) z_parts) n4 (0 : Int64) (0 : Int32)
set_option maxHeartbeats 4000000 in
set_option maxRecDepth 100000 in
theorem qm_X8_lessens (l : Launch) (dC : Nat → ClassId) (dI : Nat → Nat → Nat) (cI cJ cC cG cW : ClassId) (a_this a_this_laid a_this_text a_this_read a_this_numbers a_this_where a_this_sorts a_this_tells a_this_undone a_this_parts a_this_goesWith a_this_with a_this_keeps : Nat) (z_letters : Int32) (z_at : Int32) (z_walked : Int32) (z_counts : Int32) (z_undos : Int32) (z_all : Int64) (z_planned : Int64) (z_scale : Int64) (z_least : Int32) (z_kept : Int32) (z_parts : Nat → Int64) (sz : Nat) (Post : (Int64) → (Nat → Int64) → Prop) (hV : qv_X8_lessens z_all z_parts Post) : Met l yX8_lessens wsX8_lessens ({ frames := 1, cells := 0, slots := 0, locals := 29 } : Room) (va_Pc [.ref a_this] (prW (dC, dI) (qw_X8_lessens cI cJ cC cG cW a_this a_this_laid a_this_text a_this_read a_this_numbers a_this_where a_this_sorts a_this_tells a_this_undone a_this_parts a_this_goesWith a_this_with a_this_keeps z_letters z_at z_walked z_counts z_undos z_all z_planned z_scale z_least z_kept z_parts) (tyL cI cJ cC cG cW) sz)) (va_Qv (fun (u : (Int64) × (Nat → Int64)) => Post u.1 u.2) (fun u t => poW (dC, dI) (tyL cI cJ cC cG cW) (va_A (qw_X8_lessens cI cJ cC cG cW a_this a_this_laid a_this_text a_this_read a_this_numbers a_this_where a_this_sorts a_this_tells a_this_undone a_this_parts a_this_goesWith a_this_with a_this_keeps z_letters z_at z_walked z_counts z_undos z_all z_planned z_scale z_least z_kept z_parts) sz) (qw_X8_lessens cI cJ cC cG cW a_this a_this_laid a_this_text a_this_read a_this_numbers a_this_where a_this_sorts a_this_tells a_this_undone a_this_parts a_this_goesWith a_this_with a_this_keeps z_letters z_at z_walked z_counts z_undos u.1 z_planned z_scale z_least z_kept u.2) t) (va_A (qw_X8_lessens cI cJ cC cG cW a_this a_this_laid a_this_text a_this_read a_this_numbers a_this_where a_this_sorts a_this_tells a_this_undone a_this_parts a_this_goesWith a_this_with a_this_keeps z_letters z_at z_walked z_counts z_undos z_all z_planned z_scale z_least z_kept z_parts) sz)) 0 0 (va_A (qw_X8_lessens cI cJ cC cG cW a_this a_this_laid a_this_text a_this_read a_this_numbers a_this_where a_this_sorts a_this_tells a_this_undone a_this_parts a_this_goesWith a_this_with a_this_keeps z_letters z_at z_walked z_counts z_undos z_all z_planned z_scale z_least z_kept z_parts) sz) := by
  refine Met.ofM (Qc := fun A => va_Qv (fun (u : (Int64) × (Nat → Int64)) => Post u.1 u.2) (fun u t => poW (dC, dI) (tyL cI cJ cC cG cW) A (qw_X8_lessens cI cJ cC cG cW a_this a_this_laid a_this_text a_this_read a_this_numbers a_this_where a_this_sorts a_this_tells a_this_undone a_this_parts a_this_goesWith a_this_with a_this_keeps z_letters z_at z_walked z_counts z_undos u.1 z_planned z_scale z_least z_kept u.2) t) A) (nm := "lessens") (ds := "()V") (own := RX8) (maxL := 4) (cc := cX8_lessens) (ret := none) (by decide) rfl rfl (Nat.le_of_ble_eq_true rfl) (fun p e s m below meth c A C0 hin hK hN hA hP hD hS ls hl => ?_)
  obtain ⟨hx, hb, hr, hml, hown, hts, hlocks⟩ := id C0
  have hl : lv_has ls 4 [(0, .ref a_this)] := hl
  obtain ⟨H, hH⟩ : ∃ h : Heap, h = s.heap := ⟨_, rfl⟩
  obtain ⟨locs, hLc⟩ : ∃ L : List Loc, L = [] := ⟨_, rfl⟩
  have hS : va_S A s.heap H locs := by rw [hH, hLc]; exact hS
  rw [← hH] at hP
  rw [← hLc, ← hH]
  clear hH hLc
  refine lv_lconst (v := (0 : Int64)) hx hb dX8_lessens_0 (by decide) ?_
  refine lv_lstore_n (lv' := [(1, .long (0 : Int64)), (0, .ref a_this)]) hx hb dX8_lessens_1 rfl hl (by decide) rfl (fun ls hl => ?_)
  refine lv_iconst (v := (0 : Int32)) hx hb dX8_lessens_2 (by decide) ?_
  refine lv_istore_n (lv' := [(3, .int (0 : Int32)), (1, .long (0 : Int64)), (0, .ref a_this)]) hx hb dX8_lessens_3 rfl hl (by decide) rfl (fun ls hl => ?_)
  obtain ⟨n4, hV⟩ := hV
  refine qt_X8_lessens_L4 C0 hK hN hA z_letters z_at z_walked z_counts z_undos z_all z_planned z_scale z_least z_kept z_parts _ _ (fun x1_4 H locs ls hV hP hD hS hl => ?_) n4 (0 : Int64) (0 : Int32) H locs ls hV hP hD hS (lv_sub hl [2, 1, 0] rfl)
  refine lv_aload_n hx hb dX8_lessens_27 rfl (lv_at hl 0 rfl) ?_
  refine lv_lconst (v := (0 : Int64)) hx hb dX8_lessens_28 (by decide) ?_
  refine va_put (D := (dC, dI)) (ci := 8) (v := .long (0 : Int64)) (ty := .long) (C := RX8) (T := TX8) (N := 22) hx hb hts qi_X8_lessens_X8 tyX8 tyX8_ok nmX8 hown hK hP hD hS 0 rfl rfl 14 (by decide) (hts _ ql_X8_lessens_138) (fun _ h9 => h9) rfl (by decide +kernel) rfl rfl (Nat.le_of_ble_eq_true rfl) dX8_lessens_29 (fun H locs hP hD hS => ?_)
  have hP : va_P (dC, dI) vwCl (qw_X8_lessens cI cJ cC cG cW a_this a_this_laid a_this_text a_this_read a_this_numbers a_this_where a_this_sorts a_this_tells a_this_undone a_this_parts a_this_goesWith a_this_with a_this_keeps z_letters z_at z_walked z_counts z_undos (0 : Int64) z_planned z_scale z_least z_kept z_parts) H := hP
  have hD : va_D A (qw_X8_lessens cI cJ cC cG cW a_this a_this_laid a_this_text a_this_read a_this_numbers a_this_where a_this_sorts a_this_tells a_this_undone a_this_parts a_this_goesWith a_this_with a_this_keeps z_letters z_at z_walked z_counts z_undos (0 : Int64) z_planned z_scale z_least z_kept z_parts) := hD
  refine lv_iconst (v := (0 : Int32)) hx hb dX8_lessens_32 (by decide) ?_
  refine lv_istore_n (lv' := [(3, .int (0 : Int32)), (0, .ref a_this), (1, .long x1_4)]) hx hb dX8_lessens_33 rfl hl (by decide) rfl (fun ls hl => ?_)
  obtain ⟨n11, hV⟩ := hV
  refine qt_X8_lessens_L34 C0 hK hN hA z_letters z_at z_walked z_counts z_undos z_planned z_scale z_least z_kept x1_4 _ _ (fun z_all_11 z_parts_11 H locs ls hV hP hD hS hl => ?_) n11 (0 : Int32) (0 : Int64) z_parts H locs ls hV hP hD hS (lv_sub hl [1, 2, 0] rfl)
  exact W.vret hx hb hr (fun t ht hW => ⟨⟨(z_all_11, z_parts_11), rfl, hV, ⟨by rw [ht]; exact hP, va_K.moved hW.alike hK, hD⟩⟩, hS.F ht⟩) hS.2.2 dX8_lessens_85 hlocks

/-! StileCountsModel.walks(I)V -/
abbrev qw_X8_walks (cI cJ cC cG cW : ClassId) (a_this a_this_laid a_this_text a_this_read a_this_numbers a_this_where a_this_sorts a_this_tells a_this_undone a_this_parts a_this_goesWith a_this_with a_this_keeps : Nat) (z_letters : Int32) (z_at : Int32) (z_walked : Int32) (z_counts : Int32) (z_undos : Int32) (z_all : Int64) (z_planned : Int64) (z_scale : Int64) (z_least : Int32) (z_kept : Int32) (z_laid : Nat → Int32) (z_parts : Nat → Int64) : va_W := [(a_this, .inr (8, [.ref a_this_laid, .ref a_this_text, .int z_letters, .ref a_this_read, .int z_at, .ref a_this_numbers, .int z_walked, .int z_counts, .ref a_this_where, .ref a_this_sorts, .ref a_this_tells, .int z_undos, .ref a_this_undone, .ref a_this_parts, .long z_all, .long z_planned, .long z_scale, .ref a_this_goesWith, .int z_least, .ref a_this_with, .int z_kept, .ref a_this_keeps])), (a_this_laid, .inl (cI, 73, .inl z_laid)), (a_this_parts, .inl (cJ, 9, .inr (.inl z_parts)))]
theorem qi_X8_walks_X8 : ∀ w ∈ wsX80, w ∈ wsX8_walks := by decide +kernel
theorem ql_X8_walks_7 : (.fieldLink RX8 7 "StileCountsModel" "laid" "[I" : Cond) ∈ wsX8_walks := by decide +kernel
theorem ql_X8_walks_34 : (.fieldLink RX8 34 "StileCountsModel" "parts" "[J" : Cond) ∈ wsX8_walks := by decide +kernel
def qv_X8_walks_L50 (x1 : Int32) (x3 : Int32) (x6 : Int64) (z_all : Int64) (z_laid : Nat → Int32) (Post : (Int64) → (Nat → Int64) → Prop) (E : (Int64) → (Nat → Int64) → Prop) : Nat → (Int64) → (Int32) → (Nat → Int64) → Prop
  | 0, _, _, _ => False
  | n + 1, x4, x8, z_parts => ((9 : Int32) ≤ x8 → E x4 z_parts) ∧ (¬ (9 : Int32) ≤ x8 → vp_in x8 9 ∧ (vp_in x8 9 ∧ (vp_in x8 9 ∧ (qv_X8_walks_L50 x1 x3 x6 z_all z_laid Post E n (x4 + ((z_parts x8.toNatClampNeg) * (x3.toInt64))) (x8 + (1 : Int32)) (vp_updL z_parts x8.toNatClampNeg ((z_parts x8.toNatClampNeg) * (((10 : Int32) - x3).toInt64)))))))
set_option maxHeartbeats 4000000 in
set_option maxRecDepth 100000 in
theorem qt_X8_walks_L50 {p : Program} {l : Launch} {e : Env} {s : State} {m : MethodId} {args : Array Value} {below : List Frame} {meth : Method} {c : Code} {dC : Nat → ClassId} {dI : Nat → Nat → Nat} {cI cJ cC cG cW : ClassId} {a_this a_this_laid a_this_text a_this_read a_this_numbers a_this_where a_this_sorts a_this_tells a_this_undone a_this_parts a_this_goesWith a_this_with a_this_keeps : Nat} {A : Nat → Prop} (C0 : MC cX8_walks 9 none RX8 wsX8_walks p s m args meth c) (hK : va_K (dC, dI) vwCl (tyL cI cJ cC cG cW) s) (hN : NW s) (hA : ∀ q, s.heap.size ≤ q → A q) (z_letters : Int32) (z_at : Int32) (z_walked : Int32) (z_counts : Int32) (z_undos : Int32) (z_all : Int64) (z_planned : Int64) (z_scale : Int64) (z_least : Int32) (z_kept : Int32) (z_laid : Nat → Int32) (x1 : Int32) (x3 : Int32) (x6 : Int64) (Post : (Int64) → (Nat → Int64) → Prop) (E : (Int64) → (Nat → Int64) → Prop) (hE : ∀ (x4 : Int64) (z_parts : Nat → Int64) (H : Heap) (locs : List Loc) (ls : Array Slot), E x4 z_parts → va_P (dC, dI) vwCl (qw_X8_walks cI cJ cC cG cW a_this a_this_laid a_this_text a_this_read a_this_numbers a_this_where a_this_sorts a_this_tells a_this_undone a_this_parts a_this_goesWith a_this_with a_this_keeps z_letters z_at z_walked z_counts z_undos z_all z_planned z_scale z_least z_kept z_laid z_parts) H → va_D A (qw_X8_walks cI cJ cC cG cW a_this a_this_laid a_this_text a_this_read a_this_numbers a_this_where a_this_sorts a_this_tells a_this_undone a_this_parts a_this_goesWith a_this_with a_this_keeps z_letters z_at z_walked z_counts z_undos z_all z_planned z_scale z_least z_kept z_laid z_parts) → va_S A s.heap H locs → lv_has ls 9 [(0, .ref a_this), (1, .int x1), (4, .long x4), (6, .long x6)] → W p l e ({ frames := 2, cells := 0, slots := 0, locals := 52 } : Room) s m args below meth c H locs 0 0 (MQ below (va_Qv (fun (u : (Int64) × (Nat → Int64)) => Post u.1 u.2) (fun u t => poW (dC, dI) (tyL cI cJ cC cG cW) A (qw_X8_walks cI cJ cC cG cW a_this a_this_laid a_this_text a_this_read a_this_numbers a_this_where a_this_sorts a_this_tells a_this_undone a_this_parts a_this_goesWith a_this_with a_this_keeps z_letters z_at z_walked z_counts z_undos u.1 z_planned z_scale z_least z_kept z_laid u.2) t) A) args s 0 0 A) (F0 m 93 ls [])) : ∀ (n : Nat) (x4 : Int64) (x8 : Int32) (z_parts : Nat → Int64) (H : Heap) (locs : List Loc) (ls : Array Slot), qv_X8_walks_L50 x1 x3 x6 z_all z_laid Post E n x4 x8 z_parts → va_P (dC, dI) vwCl (qw_X8_walks cI cJ cC cG cW a_this a_this_laid a_this_text a_this_read a_this_numbers a_this_where a_this_sorts a_this_tells a_this_undone a_this_parts a_this_goesWith a_this_with a_this_keeps z_letters z_at z_walked z_counts z_undos z_all z_planned z_scale z_least z_kept z_laid z_parts) H → va_D A (qw_X8_walks cI cJ cC cG cW a_this a_this_laid a_this_text a_this_read a_this_numbers a_this_where a_this_sorts a_this_tells a_this_undone a_this_parts a_this_goesWith a_this_with a_this_keeps z_letters z_at z_walked z_counts z_undos z_all z_planned z_scale z_least z_kept z_laid z_parts) → va_S A s.heap H locs → lv_has ls 9 [(0, .ref a_this), (1, .int x1), (3, .int x3), (4, .long x4), (6, .long x6), (8, .int x8)] → W p l e ({ frames := 2, cells := 0, slots := 0, locals := 52 } : Room) s m args below meth c H locs 0 0 (MQ below (va_Qv (fun (u : (Int64) × (Nat → Int64)) => Post u.1 u.2) (fun u t => poW (dC, dI) (tyL cI cJ cC cG cW) A (qw_X8_walks cI cJ cC cG cW a_this a_this_laid a_this_text a_this_read a_this_numbers a_this_where a_this_sorts a_this_tells a_this_undone a_this_parts a_this_goesWith a_this_with a_this_keeps z_letters z_at z_walked z_counts z_undos u.1 z_planned z_scale z_least z_kept z_laid u.2) t) A) args s 0 0 A) (F0 m 50 ls []) := by
  obtain ⟨hx, hb, hr, hml, hown, hts, hlocks⟩ := id C0
  intro n
  induction n with
  | zero =>
    intro x4 x8 z_parts H locs ls hV
    exact False.elim hV
  | succ n ih =>
    intro x4 x8 z_parts H locs ls hV hP hD hS hl
    refine lv_iload hx hb dX8_walks_50 (lv_at hl 5 rfl) ?_
    refine lv_bipush (v := (9 : Int32)) hx hb dX8_walks_52 (by decide) ?_
    refine lv_icmp_ge (tgt := 93) hx hb dX8_walks_54 (by decide) (fun c5 => ?_) (fun c5 => ?_)
    · have hV := hV.1 c5
      exact hE x4 z_parts H locs ls hV hP hD hS (lv_sub hl [0, 1, 3, 4] rfl)
    · have hV := hV.2 c5
      refine lv_lload hx hb dX8_walks_57 (lv_at hl 3 rfl) ?_
      refine lv_aload_n hx hb dX8_walks_59 rfl (lv_at hl 0 rfl) ?_
      refine va_get (D := (dC, dI)) (ci := 8) (v := .ref a_this_parts) (C := RX8) (T := TX8) (N := 22) hx hb hts qi_X8_walks_X8 hown hK hP 0 rfl rfl 13 (by decide) (hts _ ql_X8_walks_34) (fun _ h9 => h9) rfl dX8_walks_60 ?_
      refine lv_iload hx hb dX8_walks_63 (lv_at hl 5 rfl) ?_
      obtain ⟨h6, hV⟩ := hV
      refine va_lald hx hb hK hP 2 1 rfl rfl h6 dX8_walks_65 ?_
      refine lv_iload_n hx hb dX8_walks_66 rfl (lv_at hl 2 rfl) ?_
      refine lv_i2l hx hb dX8_walks_67 rfl ?_
      refine lv_lmul hx hb dX8_walks_68 ?_
      refine lv_ladd hx hb dX8_walks_69 ?_
      refine lv_lstore (lv' := [(4, .long (x4 + ((z_parts x8.toNatClampNeg) * (x3.toInt64)))), (0, .ref a_this), (1, .int x1), (3, .int x3), (6, .long x6), (8, .int x8)]) hx hb dX8_walks_70 hl (by decide) rfl (fun ls hl => ?_)
      refine lv_aload_n hx hb dX8_walks_72 rfl (lv_at hl 1 rfl) ?_
      refine va_get (D := (dC, dI)) (ci := 8) (v := .ref a_this_parts) (C := RX8) (T := TX8) (N := 22) hx hb hts qi_X8_walks_X8 hown hK hP 0 rfl rfl 13 (by decide) (hts _ ql_X8_walks_34) (fun _ h9 => h9) rfl dX8_walks_73 ?_
      refine lv_iload hx hb dX8_walks_76 (lv_at hl 5 rfl) ?_
      refine lv_dup2_11 hx hb dX8_walks_78 rfl rfl ?_
      obtain ⟨h7, hV⟩ := hV
      refine va_lald hx hb hK hP 2 1 rfl rfl h7 dX8_walks_79 ?_
      refine lv_bipush (v := (10 : Int32)) hx hb dX8_walks_80 (by decide) ?_
      refine lv_iload_n hx hb dX8_walks_82 rfl (lv_at hl 3 rfl) ?_
      refine lv_isub hx hb dX8_walks_83 ?_
      refine lv_i2l hx hb dX8_walks_84 rfl ?_
      refine lv_lmul hx hb dX8_walks_85 ?_
      obtain ⟨h8, hV⟩ := hV
      refine va_last hx hb hK hP hD hS 2 1 rfl rfl h8 dX8_walks_86 (fun H locs hP hD hS => ?_)
      have hP : va_P (dC, dI) vwCl (qw_X8_walks cI cJ cC cG cW a_this a_this_laid a_this_text a_this_read a_this_numbers a_this_where a_this_sorts a_this_tells a_this_undone a_this_parts a_this_goesWith a_this_with a_this_keeps z_letters z_at z_walked z_counts z_undos z_all z_planned z_scale z_least z_kept z_laid (vp_updL z_parts x8.toNatClampNeg ((z_parts x8.toNatClampNeg) * (((10 : Int32) - x3).toInt64)))) H := hP
      have hD : va_D A (qw_X8_walks cI cJ cC cG cW a_this a_this_laid a_this_text a_this_read a_this_numbers a_this_where a_this_sorts a_this_tells a_this_undone a_this_parts a_this_goesWith a_this_with a_this_keeps z_letters z_at z_walked z_counts z_undos z_all z_planned z_scale z_least z_kept z_laid (vp_updL z_parts x8.toNatClampNeg ((z_parts x8.toNatClampNeg) * (((10 : Int32) - x3).toInt64)))) := hD
      refine lv_iinc (v := (x8 + (1 : Int32))) (lv' := [(8, .int (x8 + (1 : Int32))), (4, .long (x4 + ((z_parts x8.toNatClampNeg) * (x3.toInt64)))), (0, .ref a_this), (1, .int x1), (3, .int x3), (6, .long x6)]) hx hb dX8_walks_87 hl (k := 5) rfl rfl (by decide) rfl (fun ls hl => ?_)
      refine lv_goto (tgt := 50) hx hb dX8_walks_90 (by decide) ?_
      exact ih (x4 + ((z_parts x8.toNatClampNeg) * (x3.toInt64))) (x8 + (1 : Int32)) (vp_updL z_parts x8.toNatClampNeg ((z_parts x8.toNatClampNeg) * (((10 : Int32) - x3).toInt64))) H locs ls hV hP hD hS (lv_sub hl [2, 3, 4, 1, 5, 0] rfl)
def qv_X8_walks (x1 : Int32) (z_all : Int64) (z_laid : Nat → Int32) (z_parts : Nat → Int64) (Post : (Int64) → (Nat → Int64) → Prop) : Prop := vp_in ((3 : Int32) + ((3 : Int32) * x1)) 73 ∧ (vp_in ((4 : Int32) + ((3 : Int32) * x1)) 73 ∧ (vp_in (0 : Int32) 9 ∧ (vp_in (0 : Int32) 9 ∧ (∃ n9, qv_X8_walks_L50 x1 (z_laid ((4 : Int32) + ((3 : Int32) * x1)).toNatClampNeg) ((z_parts (0 : Int32).toNatClampNeg) * ((z_laid ((3 : Int32) + ((3 : Int32) * x1)).toNatClampNeg).toInt64)) z_all z_laid Post (fun x4_9 z_parts_9 => vp_in (0 : Int32) 9 ∧ (vp_in x1 9 ∧ (vp_in x1 9 ∧ (qv_X8_lessens z_all (vp_updL (vp_updL z_parts_9 (0 : Int32).toNatClampNeg x4_9) x1.toNatClampNeg (((vp_updL z_parts_9 (0 : Int32).toNatClampNeg x4_9) x1.toNatClampNeg) + ((z_parts (0 : Int32).toNatClampNeg) * ((z_laid ((3 : Int32) + ((3 : Int32) * x1)).toNatClampNeg).toInt64)))) (fun z_all_13 z_parts_13 => Post z_all_13 z_parts_13))))) n9 ((z_parts (0 : Int32).toNatClampNeg) * (((10 : Int32) - (z_laid ((3 : Int32) + ((3 : Int32) * x1)).toNatClampNeg)).toInt64)) (1 : Int32) z_parts))))
set_option maxHeartbeats 4000000 in
set_option maxRecDepth 100000 in
theorem qm_X8_walks (l : Launch) (dC : Nat → ClassId) (dI : Nat → Nat → Nat) (cI cJ cC cG cW : ClassId) (a_this a_this_laid a_this_text a_this_read a_this_numbers a_this_where a_this_sorts a_this_tells a_this_undone a_this_parts a_this_goesWith a_this_with a_this_keeps : Nat) (z_letters : Int32) (z_at : Int32) (z_walked : Int32) (z_counts : Int32) (z_undos : Int32) (z_all : Int64) (z_planned : Int64) (z_scale : Int64) (z_least : Int32) (z_kept : Int32) (z_laid : Nat → Int32) (z_parts : Nat → Int64) (sz : Nat) (x1 : Int32) (Post : (Int64) → (Nat → Int64) → Prop) (hV : qv_X8_walks x1 z_all z_laid z_parts Post) : Met l yX8_walks wsX8_walks ({ frames := 2, cells := 0, slots := 0, locals := 52 } : Room) (va_Pc [.ref a_this, .int x1] (prW (dC, dI) (qw_X8_walks cI cJ cC cG cW a_this a_this_laid a_this_text a_this_read a_this_numbers a_this_where a_this_sorts a_this_tells a_this_undone a_this_parts a_this_goesWith a_this_with a_this_keeps z_letters z_at z_walked z_counts z_undos z_all z_planned z_scale z_least z_kept z_laid z_parts) (tyL cI cJ cC cG cW) sz)) (va_Qv (fun (u : (Int64) × (Nat → Int64)) => Post u.1 u.2) (fun u t => poW (dC, dI) (tyL cI cJ cC cG cW) (va_A (qw_X8_walks cI cJ cC cG cW a_this a_this_laid a_this_text a_this_read a_this_numbers a_this_where a_this_sorts a_this_tells a_this_undone a_this_parts a_this_goesWith a_this_with a_this_keeps z_letters z_at z_walked z_counts z_undos z_all z_planned z_scale z_least z_kept z_laid z_parts) sz) (qw_X8_walks cI cJ cC cG cW a_this a_this_laid a_this_text a_this_read a_this_numbers a_this_where a_this_sorts a_this_tells a_this_undone a_this_parts a_this_goesWith a_this_with a_this_keeps z_letters z_at z_walked z_counts z_undos u.1 z_planned z_scale z_least z_kept z_laid u.2) t) (va_A (qw_X8_walks cI cJ cC cG cW a_this a_this_laid a_this_text a_this_read a_this_numbers a_this_where a_this_sorts a_this_tells a_this_undone a_this_parts a_this_goesWith a_this_with a_this_keeps z_letters z_at z_walked z_counts z_undos z_all z_planned z_scale z_least z_kept z_laid z_parts) sz)) 0 0 (va_A (qw_X8_walks cI cJ cC cG cW a_this a_this_laid a_this_text a_this_read a_this_numbers a_this_where a_this_sorts a_this_tells a_this_undone a_this_parts a_this_goesWith a_this_with a_this_keeps z_letters z_at z_walked z_counts z_undos z_all z_planned z_scale z_least z_kept z_laid z_parts) sz) := by
  refine Met.ofM (Qc := fun A => va_Qv (fun (u : (Int64) × (Nat → Int64)) => Post u.1 u.2) (fun u t => poW (dC, dI) (tyL cI cJ cC cG cW) A (qw_X8_walks cI cJ cC cG cW a_this a_this_laid a_this_text a_this_read a_this_numbers a_this_where a_this_sorts a_this_tells a_this_undone a_this_parts a_this_goesWith a_this_with a_this_keeps z_letters z_at z_walked z_counts z_undos u.1 z_planned z_scale z_least z_kept z_laid u.2) t) A) (nm := "walks") (ds := "(I)V") (own := RX8) (maxL := 9) (cc := cX8_walks) (ret := none) (by decide) rfl rfl (Nat.le_of_ble_eq_true rfl) (fun p e s m below meth c A C0 hin hK hN hA hP hD hS ls hl => ?_)
  obtain ⟨hx, hb, hr, hml, hown, hts, hlocks⟩ := id C0
  have hl : lv_has ls 9 [(0, .ref a_this), (1, .int x1)] := hl
  obtain ⟨H, hH⟩ : ∃ h : Heap, h = s.heap := ⟨_, rfl⟩
  obtain ⟨locs, hLc⟩ : ∃ L : List Loc, L = [] := ⟨_, rfl⟩
  have hS : va_S A s.heap H locs := by rw [hH, hLc]; exact hS
  rw [← hH] at hP
  rw [← hLc, ← hH]
  clear hH hLc
  refine lv_aload_n hx hb dX8_walks_0 rfl (lv_at hl 0 rfl) ?_
  refine va_get (D := (dC, dI)) (ci := 8) (v := .ref a_this_laid) (C := RX8) (T := TX8) (N := 22) hx hb hts qi_X8_walks_X8 hown hK hP 0 rfl rfl 0 (by decide) (hts _ ql_X8_walks_7) (fun _ h9 => h9) rfl dX8_walks_1 ?_
  refine lv_iconst (v := (3 : Int32)) hx hb dX8_walks_4 (by decide) ?_
  refine lv_iconst (v := (3 : Int32)) hx hb dX8_walks_5 (by decide) ?_
  refine lv_iload_n hx hb dX8_walks_6 rfl (lv_at hl 1 rfl) ?_
  refine lv_imul hx hb dX8_walks_7 ?_
  refine lv_iadd hx hb dX8_walks_8 ?_
  obtain ⟨h1, hV⟩ := hV
  refine va_iald hx hb hK hP 1 0 rfl rfl h1 dX8_walks_9 ?_
  refine lv_istore_n (lv' := [(2, .int (z_laid ((3 : Int32) + ((3 : Int32) * x1)).toNatClampNeg)), (0, .ref a_this), (1, .int x1)]) hx hb dX8_walks_10 rfl hl (by decide) rfl (fun ls hl => ?_)
  refine lv_aload_n hx hb dX8_walks_11 rfl (lv_at hl 1 rfl) ?_
  refine va_get (D := (dC, dI)) (ci := 8) (v := .ref a_this_laid) (C := RX8) (T := TX8) (N := 22) hx hb hts qi_X8_walks_X8 hown hK hP 0 rfl rfl 0 (by decide) (hts _ ql_X8_walks_7) (fun _ h9 => h9) rfl dX8_walks_12 ?_
  refine lv_iconst (v := (4 : Int32)) hx hb dX8_walks_15 (by decide) ?_
  refine lv_iconst (v := (3 : Int32)) hx hb dX8_walks_16 (by decide) ?_
  refine lv_iload_n hx hb dX8_walks_17 rfl (lv_at hl 2 rfl) ?_
  refine lv_imul hx hb dX8_walks_18 ?_
  refine lv_iadd hx hb dX8_walks_19 ?_
  obtain ⟨h2, hV⟩ := hV
  refine va_iald hx hb hK hP 1 0 rfl rfl h2 dX8_walks_20 ?_
  refine lv_istore_n (lv' := [(3, .int (z_laid ((4 : Int32) + ((3 : Int32) * x1)).toNatClampNeg)), (2, .int (z_laid ((3 : Int32) + ((3 : Int32) * x1)).toNatClampNeg)), (0, .ref a_this), (1, .int x1)]) hx hb dX8_walks_21 rfl hl (by decide) rfl (fun ls hl => ?_)
  refine lv_aload_n hx hb dX8_walks_22 rfl (lv_at hl 2 rfl) ?_
  refine va_get (D := (dC, dI)) (ci := 8) (v := .ref a_this_parts) (C := RX8) (T := TX8) (N := 22) hx hb hts qi_X8_walks_X8 hown hK hP 0 rfl rfl 13 (by decide) (hts _ ql_X8_walks_34) (fun _ h9 => h9) rfl dX8_walks_23 ?_
  refine lv_iconst (v := (0 : Int32)) hx hb dX8_walks_26 (by decide) ?_
  obtain ⟨h3, hV⟩ := hV
  refine va_lald hx hb hK hP 2 1 rfl rfl h3 dX8_walks_27 ?_
  refine lv_bipush (v := (10 : Int32)) hx hb dX8_walks_28 (by decide) ?_
  refine lv_iload_n hx hb dX8_walks_30 rfl (lv_at hl 1 rfl) ?_
  refine lv_isub hx hb dX8_walks_31 ?_
  refine lv_i2l hx hb dX8_walks_32 rfl ?_
  refine lv_lmul hx hb dX8_walks_33 ?_
  refine lv_lstore (lv' := [(4, .long ((z_parts (0 : Int32).toNatClampNeg) * (((10 : Int32) - (z_laid ((3 : Int32) + ((3 : Int32) * x1)).toNatClampNeg)).toInt64))), (3, .int (z_laid ((4 : Int32) + ((3 : Int32) * x1)).toNatClampNeg)), (2, .int (z_laid ((3 : Int32) + ((3 : Int32) * x1)).toNatClampNeg)), (0, .ref a_this), (1, .int x1)]) hx hb dX8_walks_34 hl (by decide) rfl (fun ls hl => ?_)
  refine lv_aload_n hx hb dX8_walks_36 rfl (lv_at hl 3 rfl) ?_
  refine va_get (D := (dC, dI)) (ci := 8) (v := .ref a_this_parts) (C := RX8) (T := TX8) (N := 22) hx hb hts qi_X8_walks_X8 hown hK hP 0 rfl rfl 13 (by decide) (hts _ ql_X8_walks_34) (fun _ h9 => h9) rfl dX8_walks_37 ?_
  refine lv_iconst (v := (0 : Int32)) hx hb dX8_walks_40 (by decide) ?_
  obtain ⟨h4, hV⟩ := hV
  refine va_lald hx hb hK hP 2 1 rfl rfl h4 dX8_walks_41 ?_
  refine lv_iload_n hx hb dX8_walks_42 rfl (lv_at hl 2 rfl) ?_
  refine lv_i2l hx hb dX8_walks_43 rfl ?_
  refine lv_lmul hx hb dX8_walks_44 ?_
  refine lv_lstore (lv' := [(6, .long ((z_parts (0 : Int32).toNatClampNeg) * ((z_laid ((3 : Int32) + ((3 : Int32) * x1)).toNatClampNeg).toInt64))), (4, .long ((z_parts (0 : Int32).toNatClampNeg) * (((10 : Int32) - (z_laid ((3 : Int32) + ((3 : Int32) * x1)).toNatClampNeg)).toInt64))), (3, .int (z_laid ((4 : Int32) + ((3 : Int32) * x1)).toNatClampNeg)), (2, .int (z_laid ((3 : Int32) + ((3 : Int32) * x1)).toNatClampNeg)), (0, .ref a_this), (1, .int x1)]) hx hb dX8_walks_45 hl (by decide) rfl (fun ls hl => ?_)
  refine lv_iconst (v := (1 : Int32)) hx hb dX8_walks_47 (by decide) ?_
  refine lv_istore (lv' := [(8, .int (1 : Int32)), (6, .long ((z_parts (0 : Int32).toNatClampNeg) * ((z_laid ((3 : Int32) + ((3 : Int32) * x1)).toNatClampNeg).toInt64))), (4, .long ((z_parts (0 : Int32).toNatClampNeg) * (((10 : Int32) - (z_laid ((3 : Int32) + ((3 : Int32) * x1)).toNatClampNeg)).toInt64))), (3, .int (z_laid ((4 : Int32) + ((3 : Int32) * x1)).toNatClampNeg)), (2, .int (z_laid ((3 : Int32) + ((3 : Int32) * x1)).toNatClampNeg)), (0, .ref a_this), (1, .int x1)]) hx hb dX8_walks_48 hl (by decide) rfl (fun ls hl => ?_)
  obtain ⟨n9, hV⟩ := hV
  refine qt_X8_walks_L50 C0 hK hN hA z_letters z_at z_walked z_counts z_undos z_all z_planned z_scale z_least z_kept z_laid x1 (z_laid ((4 : Int32) + ((3 : Int32) * x1)).toNatClampNeg) ((z_parts (0 : Int32).toNatClampNeg) * ((z_laid ((3 : Int32) + ((3 : Int32) * x1)).toNatClampNeg).toInt64)) _ _ (fun x4_9 z_parts_9 H locs ls hV hP hD hS hl => ?_) n9 ((z_parts (0 : Int32).toNatClampNeg) * (((10 : Int32) - (z_laid ((3 : Int32) + ((3 : Int32) * x1)).toNatClampNeg)).toInt64)) (1 : Int32) z_parts H locs ls hV hP hD hS (lv_sub hl [5, 6, 3, 2, 1, 0] rfl)
  refine lv_aload_n hx hb dX8_walks_93 rfl (lv_at hl 0 rfl) ?_
  refine va_get (D := (dC, dI)) (ci := 8) (v := .ref a_this_parts) (C := RX8) (T := TX8) (N := 22) hx hb hts qi_X8_walks_X8 hown hK hP 0 rfl rfl 13 (by decide) (hts _ ql_X8_walks_34) (fun _ h9 => h9) rfl dX8_walks_94 ?_
  refine lv_iconst (v := (0 : Int32)) hx hb dX8_walks_97 (by decide) ?_
  refine lv_lload hx hb dX8_walks_98 (lv_at hl 2 rfl) ?_
  obtain ⟨h10, hV⟩ := hV
  refine va_last hx hb hK hP hD hS 2 1 rfl rfl h10 dX8_walks_100 (fun H locs hP hD hS => ?_)
  have hP : va_P (dC, dI) vwCl (qw_X8_walks cI cJ cC cG cW a_this a_this_laid a_this_text a_this_read a_this_numbers a_this_where a_this_sorts a_this_tells a_this_undone a_this_parts a_this_goesWith a_this_with a_this_keeps z_letters z_at z_walked z_counts z_undos z_all z_planned z_scale z_least z_kept z_laid (vp_updL z_parts_9 (0 : Int32).toNatClampNeg x4_9)) H := hP
  have hD : va_D A (qw_X8_walks cI cJ cC cG cW a_this a_this_laid a_this_text a_this_read a_this_numbers a_this_where a_this_sorts a_this_tells a_this_undone a_this_parts a_this_goesWith a_this_with a_this_keeps z_letters z_at z_walked z_counts z_undos z_all z_planned z_scale z_least z_kept z_laid (vp_updL z_parts_9 (0 : Int32).toNatClampNeg x4_9)) := hD
  refine lv_aload_n hx hb dX8_walks_101 rfl (lv_at hl 0 rfl) ?_
  refine va_get (D := (dC, dI)) (ci := 8) (v := .ref a_this_parts) (C := RX8) (T := TX8) (N := 22) hx hb hts qi_X8_walks_X8 hown hK hP 0 rfl rfl 13 (by decide) (hts _ ql_X8_walks_34) (fun _ h9 => h9) rfl dX8_walks_102 ?_
  refine lv_iload_n hx hb dX8_walks_105 rfl (lv_at hl 1 rfl) ?_
  refine lv_dup2_11 hx hb dX8_walks_106 rfl rfl ?_
  obtain ⟨h11, hV⟩ := hV
  refine va_lald hx hb hK hP 2 1 rfl rfl h11 dX8_walks_107 ?_
  refine lv_lload hx hb dX8_walks_108 (lv_at hl 3 rfl) ?_
  refine lv_ladd hx hb dX8_walks_110 ?_
  obtain ⟨h12, hV⟩ := hV
  refine va_last hx hb hK hP hD hS 2 1 rfl rfl h12 dX8_walks_111 (fun H locs hP hD hS => ?_)
  have hP : va_P (dC, dI) vwCl (qw_X8_walks cI cJ cC cG cW a_this a_this_laid a_this_text a_this_read a_this_numbers a_this_where a_this_sorts a_this_tells a_this_undone a_this_parts a_this_goesWith a_this_with a_this_keeps z_letters z_at z_walked z_counts z_undos z_all z_planned z_scale z_least z_kept z_laid (vp_updL (vp_updL z_parts_9 (0 : Int32).toNatClampNeg x4_9) x1.toNatClampNeg (((vp_updL z_parts_9 (0 : Int32).toNatClampNeg x4_9) x1.toNatClampNeg) + ((z_parts (0 : Int32).toNatClampNeg) * ((z_laid ((3 : Int32) + ((3 : Int32) * x1)).toNatClampNeg).toInt64))))) H := hP
  have hD : va_D A (qw_X8_walks cI cJ cC cG cW a_this a_this_laid a_this_text a_this_read a_this_numbers a_this_where a_this_sorts a_this_tells a_this_undone a_this_parts a_this_goesWith a_this_with a_this_keeps z_letters z_at z_walked z_counts z_undos z_all z_planned z_scale z_least z_kept z_laid (vp_updL (vp_updL z_parts_9 (0 : Int32).toNatClampNeg x4_9) x1.toNatClampNeg (((vp_updL z_parts_9 (0 : Int32).toNatClampNeg x4_9) x1.toNatClampNeg) + ((z_parts (0 : Int32).toNatClampNeg) * ((z_laid ((3 : Int32) + ((3 : Int32) * x1)).toNatClampNeg).toInt64))))) := hD
  refine lv_aload_n hx hb dX8_walks_112 rfl (lv_at hl 0 rfl) ?_
  refine kW_v (wc := (qw_X8_lessens cI cJ cC cG cW a_this a_this_laid a_this_text a_this_read a_this_numbers a_this_where a_this_sorts a_this_tells a_this_undone a_this_parts a_this_goesWith a_this_with a_this_keeps z_letters z_at z_walked z_counts z_undos z_all z_planned z_scale z_least z_kept (vp_updL (vp_updL z_parts_9 (0 : Int32).toNatClampNeg x4_9) x1.toNatClampNeg (((vp_updL z_parts_9 (0 : Int32).toNatClampNeg x4_9) x1.toNatClampNeg) + ((z_parts (0 : Int32).toNatClampNeg) * ((z_laid ((3 : Int32) + ((3 : Int32) * x1)).toNatClampNeg).toInt64)))))) (wr := List.filterMap (fun (i : Nat) => (qw_X8_walks cI cJ cC cG cW a_this a_this_laid a_this_text a_this_read a_this_numbers a_this_where a_this_sorts a_this_tells a_this_undone a_this_parts a_this_goesWith a_this_with a_this_keeps z_letters z_at z_walked z_counts z_undos z_all z_planned z_scale z_least z_kept z_laid (vp_updL (vp_updL z_parts_9 (0 : Int32).toNatClampNeg x4_9) x1.toNatClampNeg (((vp_updL z_parts_9 (0 : Int32).toNatClampNeg x4_9) x1.toNatClampNeg) + ((z_parts (0 : Int32).toNatClampNeg) * ((z_laid ((3 : Int32) + ((3 : Int32) * x1)).toNatClampNeg).toInt64)))))[i]?) [1]) (w1 := fun (u : (Int64) × (Nat → Int64)) => (qw_X8_lessens cI cJ cC cG cW a_this a_this_laid a_this_text a_this_read a_this_numbers a_this_where a_this_sorts a_this_tells a_this_undone a_this_parts a_this_goesWith a_this_with a_this_keeps z_letters z_at z_walked z_counts z_undos u.1 z_planned z_scale z_least z_kept u.2)) (va_runV (As := []) (rest := []) ⟨hx, hb, hml, hown, hts⟩ (qm_X8_lessens l dC dI cI cJ cC cG cW a_this a_this_laid a_this_text a_this_read a_this_numbers a_this_where a_this_sorts a_this_tells a_this_undone a_this_parts a_this_goesWith a_this_with a_this_keeps z_letters z_at z_walked z_counts z_undos z_all z_planned z_scale z_least z_kept (vp_updL (vp_updL z_parts_9 (0 : Int32).toNatClampNeg x4_9) x1.toNatClampNeg (((vp_updL z_parts_9 (0 : Int32).toNatClampNeg x4_9) x1.toNatClampNeg) + ((z_parts (0 : Int32).toNatClampNeg) * ((z_laid ((3 : Int32) + ((3 : Int32) * x1)).toNatClampNeg).toInt64)))) H.size _ hV) (cwV 0 hts gX8_walks_X8_lessens rfl rfl rfl (by decide +kernel) ⟨Nat.le_of_ble_eq_true rfl, Nat.le_of_ble_eq_true rfl⟩) (preWV hK hN (hP.sub (ws' := (qw_X8_lessens cI cJ cC cG cW a_this a_this_laid a_this_text a_this_read a_this_numbers a_this_where a_this_sorts a_this_tells a_this_undone a_this_parts a_this_goesWith a_this_with a_this_keeps z_letters z_at z_walked z_counts z_undos z_all z_planned z_scale z_least z_kept (vp_updL (vp_updL z_parts_9 (0 : Int32).toNatClampNeg x4_9) x1.toNatClampNeg (((vp_updL z_parts_9 (0 : Int32).toNatClampNeg x4_9) x1.toNatClampNeg) + ((z_parts (0 : Int32).toNatClampNeg) * ((z_laid ((3 : Int32) + ((3 : Int32) * x1)).toNatClampNeg).toInt64)))))) [0, 2] rfl) (hD.sub (ws' := (qw_X8_lessens cI cJ cC cG cW a_this a_this_laid a_this_text a_this_read a_this_numbers a_this_where a_this_sorts a_this_tells a_this_undone a_this_parts a_this_goesWith a_this_with a_this_keeps z_letters z_at z_walked z_counts z_undos z_all z_planned z_scale z_least z_kept (vp_updL (vp_updL z_parts_9 (0 : Int32).toNatClampNeg x4_9) x1.toNatClampNeg (((vp_updL z_parts_9 (0 : Int32).toNatClampNeg x4_9) x1.toNatClampNeg) + ((z_parts (0 : Int32).toNatClampNeg) * ((z_laid ((3 : Int32) + ((3 : Int32) * x1)).toNatClampNeg).toInt64)))))) [0, 2] (by decide) rfl) rfl rfl) rfl rfl hl.1 rfl (lv_room (Nat.le_of_ble_eq_true rfl)) dX8_walks_113 ⟨Nat.le_of_ble_eq_true rfl, Nat.le_of_ble_eq_true rfl⟩) hP hD hS hA [0, 2] [1] rfl rfl (by decide) (by decide) (fun u H locs hV hP hD hS => ?_)
  obtain ⟨z_all_13, z_parts_13⟩ := u
  try dsimp only at hV
  have hP := hP.sub (ws' := (qw_X8_walks cI cJ cC cG cW a_this a_this_laid a_this_text a_this_read a_this_numbers a_this_where a_this_sorts a_this_tells a_this_undone a_this_parts a_this_goesWith a_this_with a_this_keeps z_letters z_at z_walked z_counts z_undos z_all_13 z_planned z_scale z_least z_kept z_laid z_parts_13)) [1, 0, 2] rfl
  have hD := hD.sub (ws' := (qw_X8_walks cI cJ cC cG cW a_this a_this_laid a_this_text a_this_read a_this_numbers a_this_where a_this_sorts a_this_tells a_this_undone a_this_parts a_this_goesWith a_this_with a_this_keeps z_letters z_at z_walked z_counts z_undos z_all_13 z_planned z_scale z_least z_kept z_laid z_parts_13)) [1, 0, 2] (by decide) rfl
  exact W.vret hx hb hr (fun t ht hW => ⟨⟨(z_all_13, z_parts_13), rfl, hV, ⟨by rw [ht]; exact hP, va_K.moved hW.alike hK, hD⟩⟩, hS.F ht⟩) hS.2.2 dX8_walks_116 hlocks
