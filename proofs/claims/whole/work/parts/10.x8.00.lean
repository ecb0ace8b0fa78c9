/-! StileCountsModel.in(JJJ)Z -/
abbrev qw_X8_in (cI cJ cC cG cW : ClassId) : va_W := []
def qv_X8_in (x0 : Int64) (x2 : Int64) (x4 : Int64) (Post : Int32 → Prop) : Prop := (x0 < x2 → Post (0 : Int32)) ∧ (¬ x0 < x2 → (x4 < x0 → Post (0 : Int32)) ∧ (¬ x4 < x0 → Post (1 : Int32)))
set_option maxHeartbeats 4000000 in
set_option maxRecDepth 100000 in
theorem qm_X8_in (l : Launch) (dC : Nat → ClassId) (dI : Nat → Nat → Nat) (cI cJ cC cG cW : ClassId) (x0 : Int64) (x2 : Int64) (x4 : Int64) (Post : Int32 → Prop) (hV : qv_X8_in x0 x2 x4 Post) : Met l yX8_in wsX8_in ({ frames := 0, cells := 0, slots := 0, locals := 0 } : Room) (va_Pc [.long x0, .long x2, .long x4] (prR (dC, dI) (qw_X8_in cI cJ cC cG cW) (tyL cI cJ cC cG cW))) (vp_Si Post) 0 0 (fun _ => False) := by
  refine Met.ofR (nm := "in") (ds := "(JJJ)Z") (own := RX8) (maxL := 6) (cc := cX8_in) (ret := (some .boolean)) (by decide) rfl rfl (Nat.le_of_ble_eq_true rfl) (fun p e s m below meth c C0 hK hN hP ls hl => ?_)
  obtain ⟨hx, hb, hr, hml, hown, hts, hlocks⟩ := id C0
  have hl : lv_has ls 6 [(0, .long x0), (2, .long x2), (4, .long x4)] := hl
  refine lv_lload_n hx hb dX8_in_0 rfl (lv_at hl 0 rfl) ?_
  refine lv_lload_n hx hb dX8_in_1 rfl (lv_at hl 1 rfl) ?_
  refine W.lcmp hx hb dX8_in_2 ?_
  refine lv_if_lt (tgt := 17) hx hb dX8_in_3 (by decide) (fun c1 => ?_) (fun c1 => ?_)
  · have c1 := (lg_cmp_lt _ _).mp c1
    have hV := hV.1 c1
    refine lv_iconst (v := (0 : Int32)) hx hb dX8_in_17 (by decide) ?_
    exact W.zret hx hb hr rfl (fun t ht hW => ⟨_, rfl, hV, ht⟩) (fun q h => absurd h List.not_mem_nil) dX8_in_18 hlocks
  · have c1 := fun h => c1 ((lg_cmp_lt _ _).mpr h)
    have hV := hV.2 c1
    refine lv_lload_n hx hb dX8_in_6 rfl (lv_at hl 0 rfl) ?_
    refine lv_lload hx hb dX8_in_7 (lv_at hl 2 rfl) ?_
    refine W.lcmp hx hb dX8_in_9 ?_
    refine lv_if_gt (tgt := 17) hx hb dX8_in_10 (by decide) (fun c2 => ?_) (fun c2 => ?_)
    · have c2 := (lg_cmp_gt _ _).mp c2
      have hV := hV.1 c2
      refine lv_iconst (v := (0 : Int32)) hx hb dX8_in_17 (by decide) ?_
      exact W.zret hx hb hr rfl (fun t ht hW => ⟨_, rfl, hV, ht⟩) (fun q h => absurd h List.not_mem_nil) dX8_in_18 hlocks
    · have c2 := fun h => c2 ((lg_cmp_gt _ _).mpr h)
      have hV := hV.2 c2
      refine lv_iconst (v := (1 : Int32)) hx hb dX8_in_13 (by decide) ?_
      refine lv_goto (tgt := 18) hx hb dX8_in_14 (by decide) ?_
      exact W.zret hx hb hr rfl (fun t ht hW => ⟨_, rfl, hV, ht⟩) (fun q h => absurd h List.not_mem_nil) dX8_in_18 hlocks

/-! StileCountsModel.stretches(IIII)V -/
abbrev qw_X8_stretches (cI cJ cC cG cW : ClassId) (a_this a_this_laid a_this_text a_this_read a_this_numbers a_this_where a_this_sorts a_this_tells a_this_undone a_this_parts a_this_goesWith a_this_with a_this_keeps : Nat) (z_letters : Int32) (z_at : Int32) (z_walked : Int32) (z_counts : Int32) (z_undos : Int32) (z_all : Int64) (z_planned : Int64) (z_scale : Int64) (z_least : Int32) (z_kept : Int32) (z_laid : Nat → Int32) : va_W := [(a_this, .inr (8, [.ref a_this_laid, .ref a_this_text, .int z_letters, .ref a_this_read, .int z_at, .ref a_this_numbers, .int z_walked, .int z_counts, .ref a_this_where, .ref a_this_sorts, .ref a_this_tells, .int z_undos, .ref a_this_undone, .ref a_this_parts, .long z_all, .long z_planned, .long z_scale, .ref a_this_goesWith, .int z_least, .ref a_this_with, .int z_kept, .ref a_this_keeps])), (a_this_laid, .inl (cI, 73, .inl z_laid))]
theorem qi_X8_stretches_X8 : ∀ w ∈ wsX80, w ∈ wsX8_stretches := by decide +kernel
theorem ql_X8_stretches_7 : (.fieldLink RX8 7 "StileCountsModel" "laid" "[I" : Cond) ∈ wsX8_stretches := by decide +kernel
def qv_X8_stretches (x1 : Int32) (x2 : Int32) (x3 : Int32) (x4 : Int32) (z_laid : Nat → Int32) (Post : (Nat → Int32) → Prop) : Prop := vp_in x1 73 ∧ (vp_in (x1 + (1 : Int32)) 73 ∧ (vp_in (x1 + (2 : Int32)) 73 ∧ (Post (upd (upd (upd z_laid x1.toNatClampNeg x2) (x1 + (1 : Int32)).toNatClampNeg x3) (x1 + (2 : Int32)).toNatClampNeg x4))))
set_option maxHeartbeats 4000000 in
set_option maxRecDepth 100000 in
theorem qm_X8_stretches (l : Launch) (dC : Nat → ClassId) (dI : Nat → Nat → Nat) (cI cJ cC cG cW : ClassId) (a_this a_this_laid a_this_text a_this_read a_this_numbers a_this_where a_this_sorts a_this_tells a_this_undone a_this_parts a_this_goesWith a_this_with a_this_keeps : Nat) (z_letters : Int32) (z_at : Int32) (z_walked : Int32) (z_counts : Int32) (z_undos : Int32) (z_all : Int64) (z_planned : Int64) (z_scale : Int64) (z_least : Int32) (z_kept : Int32) (z_laid : Nat → Int32) (sz : Nat) (x1 : Int32) (x2 : Int32) (x3 : Int32) (x4 : Int32) (Post : (Nat → Int32) → Prop) (hV : qv_X8_stretches x1 x2 x3 x4 z_laid Post) : Met l yX8_stretches wsX8_stretches ({ frames := 0, cells := 0, slots := 0, locals := 0 } : Room) (va_Pc [.ref a_this, .int x1, .int x2, .int x3, .int x4] (prW (dC, dI) (qw_X8_stretches cI cJ cC cG cW a_this a_this_laid a_this_text a_this_read a_this_numbers a_this_where a_this_sorts a_this_tells a_this_undone a_this_parts a_this_goesWith a_this_with a_this_keeps z_letters z_at z_walked z_counts z_undos z_all z_planned z_scale z_least z_kept z_laid) (tyL cI cJ cC cG cW) sz)) (va_Qv (fun (u : (Nat → Int32)) => Post u) (fun u t => poW (dC, dI) (tyL cI cJ cC cG cW) (va_A (qw_X8_stretches cI cJ cC cG cW a_this a_this_laid a_this_text a_this_read a_this_numbers a_this_where a_this_sorts a_this_tells a_this_undone a_this_parts a_this_goesWith a_this_with a_this_keeps z_letters z_at z_walked z_counts z_undos z_all z_planned z_scale z_least z_kept z_laid) sz) (qw_X8_stretches cI cJ cC cG cW a_this a_this_laid a_this_text a_this_read a_this_numbers a_this_where a_this_sorts a_this_tells a_this_undone a_this_parts a_this_goesWith a_this_with a_this_keeps z_letters z_at z_walked z_counts z_undos z_all z_planned z_scale z_least z_kept u) t) (va_A (qw_X8_stretches cI cJ cC cG cW a_this a_this_laid a_this_text a_this_read a_this_numbers a_this_where a_this_sorts a_this_tells a_this_undone a_this_parts a_this_goesWith a_this_with a_this_keeps z_letters z_at z_walked z_counts z_undos z_all z_planned z_scale z_least z_kept z_laid) sz)) 0 0 (va_A (qw_X8_stretches cI cJ cC cG cW a_this a_this_laid a_this_text a_this_read a_this_numbers a_this_where a_this_sorts a_this_tells a_this_undone a_this_parts a_this_goesWith a_this_with a_this_keeps z_letters z_at z_walked z_counts z_undos z_all z_planned z_scale z_least z_kept z_laid) sz) := by
  refine Met.ofM (Qc := fun A => va_Qv (fun (u : (Nat → Int32)) => Post u) (fun u t => poW (dC, dI) (tyL cI cJ cC cG cW) A (qw_X8_stretches cI cJ cC cG cW a_this a_this_laid a_this_text a_this_read a_this_numbers a_this_where a_this_sorts a_this_tells a_this_undone a_this_parts a_this_goesWith a_this_with a_this_keeps z_letters z_at z_walked z_counts z_undos z_all z_planned z_scale z_least z_kept u) t) A) (nm := "stretches") (ds := "(IIII)V") (own := RX8) (maxL := 5) (cc := cX8_stretches) (ret := none) (by decide) rfl rfl (Nat.le_of_ble_eq_true rfl) (fun p e s m below meth c A C0 hin hK hN hA hP hD hS ls hl => ?_)
  obtain ⟨hx, hb, hr, hml, hown, hts, hlocks⟩ := id C0
  have hl : lv_has ls 5 [(0, .ref a_this), (1, .int x1), (2, .int x2), (3, .int x3), (4, .int x4)] := hl
  obtain ⟨H, hH⟩ : ∃ h : Heap, h = s.heap := ⟨_, rfl⟩
  obtain ⟨locs, hLc⟩ : ∃ L : List Loc, L = [] := ⟨_, rfl⟩
  have hS : va_S A s.heap H locs := by rw [hH, hLc]; exact hS
  rw [← hH] at hP
  rw [← hLc, ← hH]
  clear hH hLc
  refine lv_aload_n hx hb dX8_stretches_0 rfl (lv_at hl 0 rfl) ?_
  refine va_get (D := (dC, dI)) (ci := 8) (v := .ref a_this_laid) (C := RX8) (T := TX8) (N := 22) hx hb hts qi_X8_stretches_X8 hown hK hP 0 rfl rfl 0 (by decide) (hts _ ql_X8_stretches_7) (fun _ h9 => h9) rfl dX8_stretches_1 ?_
  refine lv_iload_n hx hb dX8_stretches_4 rfl (lv_at hl 1 rfl) ?_
  refine lv_iload_n hx hb dX8_stretches_5 rfl (lv_at hl 2 rfl) ?_
  obtain ⟨h1, hV⟩ := hV
  refine va_iast hx hb hK hP hD hS 1 0 rfl rfl h1 dX8_stretches_6 (fun H locs hP hD hS => ?_)
  have hP : va_P (dC, dI) vwCl (qw_X8_stretches cI cJ cC cG cW a_this a_this_laid a_this_text a_this_read a_this_numbers a_this_where a_this_sorts a_this_tells a_this_undone a_this_parts a_this_goesWith a_this_with a_this_keeps z_letters z_at z_walked z_counts z_undos z_all z_planned z_scale z_least z_kept (upd z_laid x1.toNatClampNeg x2)) H := hP
  have hD : va_D A (qw_X8_stretches cI cJ cC cG cW a_this a_this_laid a_this_text a_this_read a_this_numbers a_this_where a_this_sorts a_this_tells a_this_undone a_this_parts a_this_goesWith a_this_with a_this_keeps z_letters z_at z_walked z_counts z_undos z_all z_planned z_scale z_least z_kept (upd z_laid x1.toNatClampNeg x2)) := hD
  refine lv_aload_n hx hb dX8_stretches_7 rfl (lv_at hl 0 rfl) ?_
  refine va_get (D := (dC, dI)) (ci := 8) (v := .ref a_this_laid) (C := RX8) (T := TX8) (N := 22) hx hb hts qi_X8_stretches_X8 hown hK hP 0 rfl rfl 0 (by decide) (hts _ ql_X8_stretches_7) (fun _ h9 => h9) rfl dX8_stretches_8 ?_
  refine lv_iload_n hx hb dX8_stretches_11 rfl (lv_at hl 1 rfl) ?_
  refine lv_iconst (v := (1 : Int32)) hx hb dX8_stretches_12 (by decide) ?_
  refine lv_iadd hx hb dX8_stretches_13 ?_
  refine lv_iload_n hx hb dX8_stretches_14 rfl (lv_at hl 3 rfl) ?_
  obtain ⟨h2, hV⟩ := hV
  refine va_iast hx hb hK hP hD hS 1 0 rfl rfl h2 dX8_stretches_15 (fun H locs hP hD hS => ?_)
  have hP : va_P (dC, dI) vwCl (qw_X8_stretches cI cJ cC cG cW a_this a_this_laid a_this_text a_this_read a_this_numbers a_this_where a_this_sorts a_this_tells a_this_undone a_this_parts a_this_goesWith a_this_with a_this_keeps z_letters z_at z_walked z_counts z_undos z_all z_planned z_scale z_least z_kept (upd (upd z_laid x1.toNatClampNeg x2) (x1 + (1 : Int32)).toNatClampNeg x3)) H := hP
  have hD : va_D A (qw_X8_stretches cI cJ cC cG cW a_this a_this_laid a_this_text a_this_read a_this_numbers a_this_where a_this_sorts a_this_tells a_this_undone a_this_parts a_this_goesWith a_this_with a_this_keeps z_letters z_at z_walked z_counts z_undos z_all z_planned z_scale z_least z_kept (upd (upd z_laid x1.toNatClampNeg x2) (x1 + (1 : Int32)).toNatClampNeg x3)) := hD
  refine lv_aload_n hx hb dX8_stretches_16 rfl (lv_at hl 0 rfl) ?_
  refine va_get (D := (dC, dI)) (ci := 8) (v := .ref a_this_laid) (C := RX8) (T := TX8) (N := 22) hx hb hts qi_X8_stretches_X8 hown hK hP 0 rfl rfl 0 (by decide) (hts _ ql_X8_stretches_7) (fun _ h9 => h9) rfl dX8_stretches_17 ?_
  refine lv_iload_n hx hb dX8_stretches_20 rfl (lv_at hl 1 rfl) ?_
  refine lv_iconst (v := (2 : Int32)) hx hb dX8_stretches_21 (by decide) ?_
  refine lv_iadd hx hb dX8_stretches_22 ?_
  refine lv_iload hx hb dX8_stretches_23 (lv_at hl 4 rfl) ?_
  obtain ⟨h3, hV⟩ := hV
  refine va_iast hx hb hK hP hD hS 1 0 rfl rfl h3 dX8_stretches_25 (fun H locs hP hD hS => ?_)
  have hP : va_P (dC, dI) vwCl (qw_X8_stretches cI cJ cC cG cW a_this a_this_laid a_this_text a_this_read a_this_numbers a_this_where a_this_sorts a_this_tells a_this_undone a_this_parts a_this_goesWith a_this_with a_this_keeps z_letters z_at z_walked z_counts z_undos z_all z_planned z_scale z_least z_kept (upd (upd (upd z_laid x1.toNatClampNeg x2) (x1 + (1 : Int32)).toNatClampNeg x3) (x1 + (2 : Int32)).toNatClampNeg x4)) H := hP
  have hD : va_D A (qw_X8_stretches cI cJ cC cG cW a_this a_this_laid a_this_text a_this_read a_this_numbers a_this_where a_this_sorts a_this_tells a_this_undone a_this_parts a_this_goesWith a_this_with a_this_keeps z_letters z_at z_walked z_counts z_undos z_all z_planned z_scale z_least z_kept (upd (upd (upd z_laid x1.toNatClampNeg x2) (x1 + (1 : Int32)).toNatClampNeg x3) (x1 + (2 : Int32)).toNatClampNeg x4)) := hD
  exact W.vret hx hb hr (fun t ht hW => ⟨⟨((upd (upd (upd z_laid x1.toNatClampNeg x2) (x1 + (1 : Int32)).toNatClampNeg x3) (x1 + (2 : Int32)).toNatClampNeg x4)), rfl, hV, ⟨by rw [ht]; exact hP, va_K.moved hW.alike hK, hD⟩⟩, hS.F ht⟩) hS.2.2 dX8_stretches_26 hlocks

/-! StileCountsModel.ties([IIII)V -/
abbrev qw_X8_ties (cI cJ cC cG cW : ClassId) (a_p0 : Nat) (z_p0 : Nat → Int32) : va_W := [(a_p0, .inl (cI, 73, .inl z_p0))]
def qv_X8_ties (x1 : Int32) (x2 : Int32) (x3 : Int32) (z_p0 : Nat → Int32) (Post : (Nat → Int32) → Prop) : Prop := vp_in (((37 : Int32) + ((6 : Int32) * x1)) + x2) 73 ∧ (vp_in (((37 : Int32) + ((6 : Int32) * x2)) + x1) 73 ∧ (Post (upd (upd z_p0 (((37 : Int32) + ((6 : Int32) * x1)) + x2).toNatClampNeg x3) (((37 : Int32) + ((6 : Int32) * x2)) + x1).toNatClampNeg x3)))
set_option maxHeartbeats 4000000 in
set_option maxRecDepth 100000 in
theorem qm_X8_ties (l : Launch) (dC : Nat → ClassId) (dI : Nat → Nat → Nat) (cI cJ cC cG cW : ClassId) (a_p0 : Nat) (z_p0 : Nat → Int32) (sz : Nat) (x1 : Int32) (x2 : Int32) (x3 : Int32) (Post : (Nat → Int32) → Prop) (hV : qv_X8_ties x1 x2 x3 z_p0 Post) : Met l yX8_ties wsX8_ties ({ frames := 0, cells := 0, slots := 0, locals := 0 } : Room) (va_Pc [.ref a_p0, .int x1, .int x2, .int x3] (prW (dC, dI) (qw_X8_ties cI cJ cC cG cW a_p0 z_p0) (tyL cI cJ cC cG cW) sz)) (va_Qv (fun (u : (Nat → Int32)) => Post u) (fun u t => poW (dC, dI) (tyL cI cJ cC cG cW) (va_A (qw_X8_ties cI cJ cC cG cW a_p0 z_p0) sz) (qw_X8_ties cI cJ cC cG cW a_p0 u) t) (va_A (qw_X8_ties cI cJ cC cG cW a_p0 z_p0) sz)) 0 0 (va_A (qw_X8_ties cI cJ cC cG cW a_p0 z_p0) sz) := by
  refine Met.ofM (Qc := fun A => va_Qv (fun (u : (Nat → Int32)) => Post u) (fun u t => poW (dC, dI) (tyL cI cJ cC cG cW) A (qw_X8_ties cI cJ cC cG cW a_p0 u) t) A) (nm := "ties") (ds := "([IIII)V") (own := RX8) (maxL := 4) (cc := cX8_ties) (ret := none) (by decide) rfl rfl (Nat.le_of_ble_eq_true rfl) (fun p e s m below meth c A C0 hin hK hN hA hP hD hS ls hl => ?_)
  obtain ⟨hx, hb, hr, hml, hown, hts, hlocks⟩ := id C0
  have hl : lv_has ls 4 [(0, .ref a_p0), (1, .int x1), (2, .int x2), (3, .int x3)] := hl
  obtain ⟨H, hH⟩ : ∃ h : Heap, h = s.heap := ⟨_, rfl⟩
  obtain ⟨locs, hLc⟩ : ∃ L : List Loc, L = [] := ⟨_, rfl⟩
  have hS : va_S A s.heap H locs := by rw [hH, hLc]; exact hS
  rw [← hH] at hP
  rw [← hLc, ← hH]
  clear hH hLc
  refine lv_aload_n hx hb dX8_ties_0 rfl (lv_at hl 0 rfl) ?_
  refine lv_bipush (v := (37 : Int32)) hx hb dX8_ties_1 (by decide) ?_
  refine lv_bipush (v := (6 : Int32)) hx hb dX8_ties_3 (by decide) ?_
  refine lv_iload_n hx hb dX8_ties_5 rfl (lv_at hl 1 rfl) ?_
  refine lv_imul hx hb dX8_ties_6 ?_
  refine lv_iadd hx hb dX8_ties_7 ?_
  refine lv_iload_n hx hb dX8_ties_8 rfl (lv_at hl 2 rfl) ?_
  refine lv_iadd hx hb dX8_ties_9 ?_
  refine lv_iload_n hx hb dX8_ties_10 rfl (lv_at hl 3 rfl) ?_
  obtain ⟨h1, hV⟩ := hV
  refine va_iast hx hb hK hP hD hS 0 0 rfl rfl h1 dX8_ties_11 (fun H locs hP hD hS => ?_)
  have hP : va_P (dC, dI) vwCl (qw_X8_ties cI cJ cC cG cW a_p0 (upd z_p0 (((37 : Int32) + ((6 : Int32) * x1)) + x2).toNatClampNeg x3)) H := hP
  have hD : va_D A (qw_X8_ties cI cJ cC cG cW a_p0 (upd z_p0 (((37 : Int32) + ((6 : Int32) * x1)) + x2).toNatClampNeg x3)) := hD
  refine lv_aload_n hx hb dX8_ties_12 rfl (lv_at hl 0 rfl) ?_
  refine lv_bipush (v := (37 : Int32)) hx hb dX8_ties_13 (by decide) ?_
  refine lv_bipush (v := (6 : Int32)) hx hb dX8_ties_15 (by decide) ?_
  refine lv_iload_n hx hb dX8_ties_17 rfl (lv_at hl 2 rfl) ?_
  refine lv_imul hx hb dX8_ties_18 ?_
  refine lv_iadd hx hb dX8_ties_19 ?_
  refine lv_iload_n hx hb dX8_ties_20 rfl (lv_at hl 1 rfl) ?_
  refine lv_iadd hx hb dX8_ties_21 ?_
  refine lv_iload_n hx hb dX8_ties_22 rfl (lv_at hl 3 rfl) ?_
  obtain ⟨h2, hV⟩ := hV
  refine va_iast hx hb hK hP hD hS 0 0 rfl rfl h2 dX8_ties_23 (fun H locs hP hD hS => ?_)
  have hP : va_P (dC, dI) vwCl (qw_X8_ties cI cJ cC cG cW a_p0 (upd (upd z_p0 (((37 : Int32) + ((6 : Int32) * x1)) + x2).toNatClampNeg x3) (((37 : Int32) + ((6 : Int32) * x2)) + x1).toNatClampNeg x3)) H := hP
  have hD : va_D A (qw_X8_ties cI cJ cC cG cW a_p0 (upd (upd z_p0 (((37 : Int32) + ((6 : Int32) * x1)) + x2).toNatClampNeg x3) (((37 : Int32) + ((6 : Int32) * x2)) + x1).toNatClampNeg x3)) := hD
  exact W.vret hx hb hr (fun t ht hW => ⟨⟨((upd (upd z_p0 (((37 : Int32) + ((6 : Int32) * x1)) + x2).toNatClampNeg x3) (((37 : Int32) + ((6 : Int32) * x2)) + x1).toNatClampNeg x3)), rfl, hV, ⟨by rw [ht]; exact hP, va_K.moved hW.alike hK, hD⟩⟩, hS.F ht⟩) hS.2.2 dX8_ties_24 hlocks

/-! StileCountsModel.plain([I)V -/
abbrev qw_X8_plain (cI cJ cC cG cW : ClassId) (a_p0 : Nat) (z_p0 : Nat → Int32) : va_W := [(a_p0, .inl (cI, 73, .inl z_p0))]
def qv_X8_plain_L2 (Post : (Nat → Int32) → Prop) (E : (Nat → Int32) → Prop) : Nat → (Int32) → (Nat → Int32) → Prop
  | 0, _, _ => False
  | n + 1, x1, z_p0 => ((73 : Int32) ≤ x1 → E z_p0) ∧ (¬ (73 : Int32) ≤ x1 → vp_in x1 73 ∧ (qv_X8_plain_L2 Post E n (x1 + (1 : Int32)) (upd z_p0 x1.toNatClampNeg (0 : Int32))))
set_option maxHeartbeats 4000000 in
set_option maxRecDepth 100000 in
theorem qt_X8_plain_L2 {p : Program} {l : Launch} {e : Env} {s : State} {m : MethodId} {args : Array Value} {below : List Frame} {meth : Method} {c : Code} {dC : Nat → ClassId} {dI : Nat → Nat → Nat} {cI cJ cC cG cW : ClassId} {a_p0 : Nat} {A : Nat → Prop} (C0 : MC cX8_plain 2 none RX8 wsX8_plain p s m args meth c) (hK : va_K (dC, dI) vwCl (tyL cI cJ cC cG cW) s) (hN : NW s) (hA : ∀ q, s.heap.size ≤ q → A q) (Post : (Nat → Int32) → Prop) (E : (Nat → Int32) → Prop) (hE : ∀ (z_p0 : Nat → Int32) (H : Heap) (locs : List Loc) (ls : Array Slot), E z_p0 → va_P (dC, dI) vwCl (qw_X8_plain cI cJ cC cG cW a_p0 z_p0) H → va_D A (qw_X8_plain cI cJ cC cG cW a_p0 z_p0) → va_S A s.heap H locs → lv_has ls 2 [(0, .ref a_p0)] → W p l e ({ frames := 0, cells := 0, slots := 0, locals := 0 } : Room) s m args below meth c H locs 0 0 (MQ below (va_Qv (fun (u : (Nat → Int32)) => Post u) (fun u t => poW (dC, dI) (tyL cI cJ cC cG cW) A (qw_X8_plain cI cJ cC cG cW a_p0 u) t) A) args s 0 0 A) (F0 m 18 ls [])) : ∀ (n : Nat) (x1 : Int32) (z_p0 : Nat → Int32) (H : Heap) (locs : List Loc) (ls : Array Slot), qv_X8_plain_L2 Post E n x1 z_p0 → va_P (dC, dI) vwCl (qw_X8_plain cI cJ cC cG cW a_p0 z_p0) H → va_D A (qw_X8_plain cI cJ cC cG cW a_p0 z_p0) → va_S A s.heap H locs → lv_has ls 2 [(0, .ref a_p0), (1, .int x1)] → W p l e ({ frames := 0, cells := 0, slots := 0, locals := 0 } : Room) s m args below meth c H locs 0 0 (MQ below (va_Qv (fun (u : (Nat → Int32)) => Post u) (fun u t => poW (dC, dI) (tyL cI cJ cC cG cW) A (qw_X8_plain cI cJ cC cG cW a_p0 u) t) A) args s 0 0 A) (F0 m 2 ls []) := by
  obtain ⟨hx, hb, hr, hml, hown, hts, hlocks⟩ := id C0
  intro n
  induction n with
  | zero =>
    intro x1 z_p0 H locs ls hV
    exact False.elim hV
  | succ n ih =>
    intro x1 z_p0 H locs ls hV hP hD hS hl
    refine lv_iload_n hx hb dX8_plain_2 rfl (lv_at hl 1 rfl) ?_
    refine lv_bipush (v := (73 : Int32)) hx hb dX8_plain_3 (by decide) ?_
    refine lv_icmp_ge (tgt := 18) hx hb dX8_plain_5 (by decide) (fun c1 => ?_) (fun c1 => ?_)
    · have hV := hV.1 c1
      exact hE z_p0 H locs ls hV hP hD hS (lv_sub hl [0] rfl)
    · have hV := hV.2 c1
      refine lv_aload_n hx hb dX8_plain_8 rfl (lv_at hl 0 rfl) ?_
      refine lv_iload_n hx hb dX8_plain_9 rfl (lv_at hl 1 rfl) ?_
      refine lv_iconst (v := (0 : Int32)) hx hb dX8_plain_10 (by decide) ?_
      obtain ⟨h2, hV⟩ := hV
      refine va_iast hx hb hK hP hD hS 0 0 rfl rfl h2 dX8_plain_11 (fun H locs hP hD hS => ?_)
      have hP : va_P (dC, dI) vwCl (qw_X8_plain cI cJ cC cG cW a_p0 (upd z_p0 x1.toNatClampNeg (0 : Int32))) H := hP
      have hD : va_D A (qw_X8_plain cI cJ cC cG cW a_p0 (upd z_p0 x1.toNatClampNeg (0 : Int32))) := hD
      refine lv_iinc (v := (x1 + (1 : Int32))) (lv' := [(1, .int (x1 + (1 : Int32))), (0, .ref a_p0)]) hx hb dX8_plain_12 hl (k := 1) rfl rfl (by decide) rfl (fun ls hl => ?_)
      refine lv_goto (tgt := 2) hx hb dX8_plain_15 (by decide) ?_
      exact ih (x1 + (1 : Int32)) (upd z_p0 x1.toNatClampNeg (0 : Int32)) H locs ls hV hP hD hS (lv_sub hl [1, 0] rfl)
def qv_X8_plain_L39 (Post : (Nat → Int32) → Prop) (E : (Nat → Int32) → Prop) : Nat → (Int32) → (Nat → Int32) → Prop
  | 0, _, _ => False
  | n + 1, x1, z_p0 => ((4 : Int32) ≤ x1 → E z_p0) ∧ (¬ (4 : Int32) ≤ x1 → vp_in ((29 : Int32) + ((2 : Int32) * x1)) 73 ∧ (vp_in (((29 : Int32) + ((2 : Int32) * x1)) + (1 : Int32)) 73 ∧ (qv_X8_plain_L39 Post E n (x1 + (1 : Int32)) (upd (upd z_p0 ((29 : Int32) + ((2 : Int32) * x1)).toNatClampNeg (1 : Int32)) (((29 : Int32) + ((2 : Int32) * x1)) + (1 : Int32)).toNatClampNeg (2 : Int32)))))
set_option maxHeartbeats 4000000 in
set_option maxRecDepth 100000 in
theorem qt_X8_plain_L39 {p : Program} {l : Launch} {e : Env} {s : State} {m : MethodId} {args : Array Value} {below : List Frame} {meth : Method} {c : Code} {dC : Nat → ClassId} {dI : Nat → Nat → Nat} {cI cJ cC cG cW : ClassId} {a_p0 : Nat} {A : Nat → Prop} (C0 : MC cX8_plain 2 none RX8 wsX8_plain p s m args meth c) (hK : va_K (dC, dI) vwCl (tyL cI cJ cC cG cW) s) (hN : NW s) (hA : ∀ q, s.heap.size ≤ q → A q) (Post : (Nat → Int32) → Prop) (E : (Nat → Int32) → Prop) (hE : ∀ (z_p0 : Nat → Int32) (H : Heap) (locs : List Loc) (ls : Array Slot), E z_p0 → va_P (dC, dI) vwCl (qw_X8_plain cI cJ cC cG cW a_p0 z_p0) H → va_D A (qw_X8_plain cI cJ cC cG cW a_p0 z_p0) → va_S A s.heap H locs → lv_has ls 2 [] → W p l e ({ frames := 0, cells := 0, slots := 0, locals := 0 } : Room) s m args below meth c H locs 0 0 (MQ below (va_Qv (fun (u : (Nat → Int32)) => Post u) (fun u t => poW (dC, dI) (tyL cI cJ cC cG cW) A (qw_X8_plain cI cJ cC cG cW a_p0 u) t) A) args s 0 0 A) (F0 m 70 ls [])) : ∀ (n : Nat) (x1 : Int32) (z_p0 : Nat → Int32) (H : Heap) (locs : List Loc) (ls : Array Slot), qv_X8_plain_L39 Post E n x1 z_p0 → va_P (dC, dI) vwCl (qw_X8_plain cI cJ cC cG cW a_p0 z_p0) H → va_D A (qw_X8_plain cI cJ cC cG cW a_p0 z_p0) → va_S A s.heap H locs → lv_has ls 2 [(0, .ref a_p0), (1, .int x1)] → W p l e ({ frames := 0, cells := 0, slots := 0, locals := 0 } : Room) s m args below meth c H locs 0 0 (MQ below (va_Qv (fun (u : (Nat → Int32)) => Post u) (fun u t => poW (dC, dI) (tyL cI cJ cC cG cW) A (qw_X8_plain cI cJ cC cG cW a_p0 u) t) A) args s 0 0 A) (F0 m 39 ls []) := by
  obtain ⟨hx, hb, hr, hml, hown, hts, hlocks⟩ := id C0
  intro n
  induction n with
  | zero =>
    intro x1 z_p0 H locs ls hV
    exact False.elim hV
  | succ n ih =>
    intro x1 z_p0 H locs ls hV hP hD hS hl
    refine lv_iload_n hx hb dX8_plain_39 rfl (lv_at hl 1 rfl) ?_
    refine lv_iconst (v := (4 : Int32)) hx hb dX8_plain_40 (by decide) ?_
    refine lv_icmp_ge (tgt := 70) hx hb dX8_plain_41 (by decide) (fun c8 => ?_) (fun c8 => ?_)
    · have hV := hV.1 c8
      exact hE z_p0 H locs ls hV hP hD hS (lv_sub hl [] rfl)
    · have hV := hV.2 c8
      refine lv_aload_n hx hb dX8_plain_44 rfl (lv_at hl 0 rfl) ?_
      refine lv_bipush (v := (29 : Int32)) hx hb dX8_plain_45 (by decide) ?_
      refine lv_iconst (v := (2 : Int32)) hx hb dX8_plain_47 (by decide) ?_
      refine lv_iload_n hx hb dX8_plain_48 rfl (lv_at hl 1 rfl) ?_
      refine lv_imul hx hb dX8_plain_49 ?_
      refine lv_iadd hx hb dX8_plain_50 ?_
      refine lv_iconst (v := (1 : Int32)) hx hb dX8_plain_51 (by decide) ?_
      obtain ⟨h9, hV⟩ := hV
      refine va_iast hx hb hK hP hD hS 0 0 rfl rfl h9 dX8_plain_52 (fun H locs hP hD hS => ?_)
      have hP : va_P (dC, dI) vwCl (qw_X8_plain cI cJ cC cG cW a_p0 (upd z_p0 ((29 : Int32) + ((2 : Int32) * x1)).toNatClampNeg (1 : Int32))) H := hP
      have hD : va_D A (qw_X8_plain cI cJ cC cG cW a_p0 (upd z_p0 ((29 : Int32) + ((2 : Int32) * x1)).toNatClampNeg (1 : Int32))) := hD
      refine lv_aload_n hx hb dX8_plain_53 rfl (lv_at hl 0 rfl) ?_
      refine lv_bipush (v := (29 : Int32)) hx hb dX8_plain_54 (by decide) ?_
      refine lv_iconst (v := (2 : Int32)) hx hb dX8_plain_56 (by decide) ?_
      refine lv_iload_n hx hb dX8_plain_57 rfl (lv_at hl 1 rfl) ?_
      refine lv_imul hx hb dX8_plain_58 ?_
      refine lv_iadd hx hb dX8_plain_59 ?_
      refine lv_iconst (v := (1 : Int32)) hx hb dX8_plain_60 (by decide) ?_
      refine lv_iadd hx hb dX8_plain_61 ?_
      refine lv_iconst (v := (2 : Int32)) hx hb dX8_plain_62 (by decide) ?_
      obtain ⟨h10, hV⟩ := hV
      refine va_iast hx hb hK hP hD hS 0 0 rfl rfl h10 dX8_plain_63 (fun H locs hP hD hS => ?_)
      have hP : va_P (dC, dI) vwCl (qw_X8_plain cI cJ cC cG cW a_p0 (upd (upd z_p0 ((29 : Int32) + ((2 : Int32) * x1)).toNatClampNeg (1 : Int32)) (((29 : Int32) + ((2 : Int32) * x1)) + (1 : Int32)).toNatClampNeg (2 : Int32))) H := hP
      have hD : va_D A (qw_X8_plain cI cJ cC cG cW a_p0 (upd (upd z_p0 ((29 : Int32) + ((2 : Int32) * x1)).toNatClampNeg (1 : Int32)) (((29 : Int32) + ((2 : Int32) * x1)) + (1 : Int32)).toNatClampNeg (2 : Int32))) := hD
      refine lv_iinc (v := (x1 + (1 : Int32))) (lv' := [(1, .int (x1 + (1 : Int32))), (0, .ref a_p0)]) hx hb dX8_plain_64 hl (k := 1) rfl rfl (by decide) rfl (fun ls hl => ?_)
      refine lv_goto (tgt := 39) hx hb dX8_plain_67 (by decide) ?_
      exact ih (x1 + (1 : Int32)) (upd (upd z_p0 ((29 : Int32) + ((2 : Int32) * x1)).toNatClampNeg (1 : Int32)) (((29 : Int32) + ((2 : Int32) * x1)) + (1 : Int32)).toNatClampNeg (2 : Int32)) H locs ls hV hP hD hS (lv_sub hl [1, 0] rfl)
def qv_X8_plain (z_p0 : Nat → Int32) (Post : (Nat → Int32) → Prop) : Prop := ∃ n3, qv_X8_plain_L2 Post (fun z_p0_3 => vp_in (1 : Int32) 73 ∧ (vp_in (2 : Int32) 73 ∧ (vp_in (3 : Int32) 73 ∧ (vp_in (4 : Int32) 73 ∧ (∃ n11, qv_X8_plain_L39 Post (fun z_p0_11 => Post z_p0_11) n11 (0 : Int32) (upd (upd (upd (upd z_p0_3 (1 : Int32).toNatClampNeg (4 : Int32)) (2 : Int32).toNatClampNeg (60 : Int32)) (3 : Int32).toNatClampNeg (10 : Int32)) (4 : Int32).toNatClampNeg (8 : Int32))))))) n3 (0 : Int32) z_p0
set_option maxHeartbeats 4000000 in
set_option maxRecDepth 100000 in
theorem qm_X8_plain (l : Launch) (dC : Nat → ClassId) (dI : Nat → Nat → Nat) (cI cJ cC cG cW : ClassId) (a_p0 : Nat) (z_p0 : Nat → Int32) (sz : Nat) (Post : (Nat → Int32) → Prop) (hV : qv_X8_plain z_p0 Post) : Met l yX8_plain wsX8_plain ({ frames := 0, cells := 0, slots := 0, locals := 0 } : Room) (va_Pc [.ref a_p0] (prW (dC, dI) (qw_X8_plain cI cJ cC cG cW a_p0 z_p0) (tyL cI cJ cC cG cW) sz)) (va_Qv (fun (u : (Nat → Int32)) => Post u) (fun u t => poW (dC, dI) (tyL cI cJ cC cG cW) (va_A (qw_X8_plain cI cJ cC cG cW a_p0 z_p0) sz) (qw_X8_plain cI cJ cC cG cW a_p0 u) t) (va_A (qw_X8_plain cI cJ cC cG cW a_p0 z_p0) sz)) 0 0 (va_A (qw_X8_plain cI cJ cC cG cW a_p0 z_p0) sz) := by
  refine Met.ofM (Qc := fun A => va_Qv (fun (u : (Nat → Int32)) => Post u) (fun u t => poW (dC, dI) (tyL cI cJ cC cG cW) A (qw_X8_plain cI cJ cC cG cW a_p0 u) t) A) (nm := "plain") (ds := "([I)V") (own := RX8) (maxL := 2) (cc := cX8_plain) (ret := none) (by decide) rfl rfl (Nat.le_of_ble_eq_true rfl) (fun p e s m below meth c A C0 hin hK hN hA hP hD hS ls hl => ?_)
  obtain ⟨hx, hb, hr, hml, hown, hts, hlocks⟩ := id C0
  have hl : lv_has ls 2 [(0, .ref a_p0)] := hl
  obtain ⟨H, hH⟩ : ∃ h : Heap, h = s.heap := ⟨_, rfl⟩
  obtain ⟨locs, hLc⟩ : ∃ L : List Loc, L = [] := ⟨_, rfl⟩
  have hS : va_S A s.heap H locs := by rw [hH, hLc]; exact hS
  rw [← hH] at hP
  rw [← hLc, ← hH]
  clear hH hLc
  refine lv_iconst (v := (0 : Int32)) hx hb dX8_plain_0 (by decide) ?_
  refine lv_istore_n (lv' := [(1, .int (0 : Int32)), (0, .ref a_p0)]) hx hb dX8_plain_1 rfl hl (by decide) rfl (fun ls hl => ?_)
  obtain ⟨n3, hV⟩ := hV
  refine qt_X8_plain_L2 C0 hK hN hA _ _ (fun z_p0_3 H locs ls hV hP hD hS hl => ?_) n3 (0 : Int32) z_p0 H locs ls hV hP hD hS (lv_sub hl [1, 0] rfl)
  refine lv_aload_n hx hb dX8_plain_18 rfl (lv_at hl 0 rfl) ?_
  refine lv_iconst (v := (1 : Int32)) hx hb dX8_plain_19 (by decide) ?_
  refine lv_iconst (v := (4 : Int32)) hx hb dX8_plain_20 (by decide) ?_
  obtain ⟨h4, hV⟩ := hV
  refine va_iast hx hb hK hP hD hS 0 0 rfl rfl h4 dX8_plain_21 (fun H locs hP hD hS => ?_)
  have hP : va_P (dC, dI) vwCl (qw_X8_plain cI cJ cC cG cW a_p0 (upd z_p0_3 (1 : Int32).toNatClampNeg (4 : Int32))) H := hP
  have hD : va_D A (qw_X8_plain cI cJ cC cG cW a_p0 (upd z_p0_3 (1 : Int32).toNatClampNeg (4 : Int32))) := hD
  refine lv_aload_n hx hb dX8_plain_22 rfl (lv_at hl 0 rfl) ?_
  refine lv_iconst (v := (2 : Int32)) hx hb dX8_plain_23 (by decide) ?_
  refine lv_bipush (v := (60 : Int32)) hx hb dX8_plain_24 (by decide) ?_
  obtain ⟨h5, hV⟩ := hV
  refine va_iast hx hb hK hP hD hS 0 0 rfl rfl h5 dX8_plain_26 (fun H locs hP hD hS => ?_)
  have hP : va_P (dC, dI) vwCl (qw_X8_plain cI cJ cC cG cW a_p0 (upd (upd z_p0_3 (1 : Int32).toNatClampNeg (4 : Int32)) (2 : Int32).toNatClampNeg (60 : Int32))) H := hP
  have hD : va_D A (qw_X8_plain cI cJ cC cG cW a_p0 (upd (upd z_p0_3 (1 : Int32).toNatClampNeg (4 : Int32)) (2 : Int32).toNatClampNeg (60 : Int32))) := hD
  refine lv_aload_n hx hb dX8_plain_27 rfl (lv_at hl 0 rfl) ?_
  refine lv_iconst (v := (3 : Int32)) hx hb dX8_plain_28 (by decide) ?_
  refine lv_bipush (v := (10 : Int32)) hx hb dX8_plain_29 (by decide) ?_
  obtain ⟨h6, hV⟩ := hV
  refine va_iast hx hb hK hP hD hS 0 0 rfl rfl h6 dX8_plain_31 (fun H locs hP hD hS => ?_)
  have hP : va_P (dC, dI) vwCl (qw_X8_plain cI cJ cC cG cW a_p0 (upd (upd (upd z_p0_3 (1 : Int32).toNatClampNeg (4 : Int32)) (2 : Int32).toNatClampNeg (60 : Int32)) (3 : Int32).toNatClampNeg (10 : Int32))) H := hP
  have hD : va_D A (qw_X8_plain cI cJ cC cG cW a_p0 (upd (upd (upd z_p0_3 (1 : Int32).toNatClampNeg (4 : Int32)) (2 : Int32).toNatClampNeg (60 : Int32)) (3 : Int32).toNatClampNeg (10 : Int32))) := hD
  refine lv_aload_n hx hb dX8_plain_32 rfl (lv_at hl 0 rfl) ?_
  refine lv_iconst (v := (4 : Int32)) hx hb dX8_plain_33 (by decide) ?_
  refine lv_bipush (v := (8 : Int32)) hx hb dX8_plain_34 (by decide) ?_
  obtain ⟨h7, hV⟩ := hV
  refine va_iast hx hb hK hP hD hS 0 0 rfl rfl h7 dX8_plain_36 (fun H locs hP hD hS => ?_)
  have hP : va_P (dC, dI) vwCl (qw_X8_plain cI cJ cC cG cW a_p0 (upd (upd (upd (upd z_p0_3 (1 : Int32).toNatClampNeg (4 : Int32)) (2 : Int32).toNatClampNeg (60 : Int32)) (3 : Int32).toNatClampNeg (10 : Int32)) (4 : Int32).toNatClampNeg (8 : Int32))) H := hP
  have hD : va_D A (qw_X8_plain cI cJ cC cG cW a_p0 (upd (upd (upd (upd z_p0_3 (1 : Int32).toNatClampNeg (4 : Int32)) (2 : Int32).toNatClampNeg (60 : Int32)) (3 : Int32).toNatClampNeg (10 : Int32)) (4 : Int32).toNatClampNeg (8 : Int32))) := hD
  refine lv_iconst (v := (0 : Int32)) hx hb dX8_plain_37 (by decide) ?_
  refine lv_istore_n (lv' := [(1, .int (0 : Int32)), (0, .ref a_p0)]) hx hb dX8_plain_38 rfl hl (by decide) rfl (fun ls hl => ?_)
  obtain ⟨n11, hV⟩ := hV
  refine qt_X8_plain_L39 C0 hK hN hA _ _ (fun z_p0_11 H locs ls hV hP hD hS hl => ?_) n11 (0 : Int32) (upd (upd (upd (upd z_p0_3 (1 : Int32).toNatClampNeg (4 : Int32)) (2 : Int32).toNatClampNeg (60 : Int32)) (3 : Int32).toNatClampNeg (10 : Int32)) (4 : Int32).toNatClampNeg (8 : Int32)) H locs ls hV hP hD hS (lv_sub hl [1, 0] rfl)
  exact W.vret hx hb hr (fun t ht hW => ⟨⟨(z_p0_11), rfl, hV, ⟨by rw [ht]; exact hP, va_K.moved hW.alike hK, hD⟩⟩, hS.F ht⟩) hS.2.2 dX8_plain_70 hlocks

/-! StileCountsModel.write(I)I -/
abbrev qw_X8_write (cI cJ cC cG cW : ClassId) (a_this a_this_laid a_this_text a_this_read a_this_numbers a_this_where a_this_sorts a_this_tells a_this_undone a_this_parts a_this_goesWith a_this_with a_this_keeps : Nat) (z_letters : Int32) (z_at : Int32) (z_walked : Int32) (z_counts : Int32) (z_undos : Int32) (z_all : Int64) (z_planned : Int64) (z_scale : Int64) (z_least : Int32) (z_kept : Int32) (z_text : Nat → Int32) : va_W := [(a_this, .inr (8, [.ref a_this_laid, .ref a_this_text, .int z_letters, .ref a_this_read, .int z_at, .ref a_this_numbers, .int z_walked, .int z_counts, .ref a_this_where, .ref a_this_sorts, .ref a_this_tells, .int z_undos, .ref a_this_undone, .ref a_this_parts, .long z_all, .long z_planned, .long z_scale, .ref a_this_goesWith, .int z_least, .ref a_this_with, .int z_kept, .ref a_this_keeps])), (a_this_text, .inl (cI, 200, .inl z_text))]
theorem ql_X8_write_59 : (.constantLong RX8 59 (32 : Int64) : Cond) ∈ wsX8_write := by decide +kernel
theorem ql_X8_write_61 : (.constantLong RX8 61 (126 : Int64) : Cond) ∈ wsX8_write := by decide +kernel
theorem qi_X8_write_X8 : ∀ w ∈ wsX80, w ∈ wsX8_write := by decide +kernel
theorem ql_X8_write_67 : (.fieldLink RX8 67 "StileCountsModel" "letters" "I" : Cond) ∈ wsX8_write := by decide +kernel
theorem ql_X8_write_13 : (.fieldLink RX8 13 "StileCountsModel" "text" "[I" : Cond) ∈ wsX8_write := by decide +kernel
def qv_X8_write (x1 : Int32) (z_letters : Int32) (z_text : Nat → Int32) (Post : Int32 → (Int32) → (Nat → Int32) → Prop) : Prop := qv_X8_in (x1.toInt64) (32 : Int64) (126 : Int64) (fun r1 => (r1 = (0 : Int32) → Post (-1 : Int32) z_letters z_text) ∧ (¬ r1 = (0 : Int32) → (z_letters = (200 : Int32) → Post (-3 : Int32) z_letters z_text) ∧ (¬ z_letters = (200 : Int32) → vp_in z_letters 200 ∧ (Post (z_letters + (1 : Int32)) (z_letters + (1 : Int32)) (upd z_text z_letters.toNatClampNeg x1)))))
set_option maxHeartbeats 4000000 in
set_option maxRecDepth 100000 in
theorem qm_X8_write (l : Launch) (dC : Nat → ClassId) (dI : Nat → Nat → Nat) (cI cJ cC cG cW : ClassId) (a_this a_this_laid a_this_text a_this_read a_this_numbers a_this_where a_this_sorts a_this_tells a_this_undone a_this_parts a_this_goesWith a_this_with a_this_keeps : Nat) (z_letters : Int32) (z_at : Int32) (z_walked : Int32) (z_counts : Int32) (z_undos : Int32) (z_all : Int64) (z_planned : Int64) (z_scale : Int64) (z_least : Int32) (z_kept : Int32) (z_text : Nat → Int32) (sz : Nat) (x1 : Int32) (Post : Int32 → (Int32) → (Nat → Int32) → Prop) (hV : qv_X8_write x1 z_letters z_text Post) : Met l yX8_write wsX8_write ({ frames := 1, cells := 0, slots := 0, locals := 25 } : Room) (va_Pc [.ref a_this, .int x1] (prW (dC, dI) (qw_X8_write cI cJ cC cG cW a_this a_this_laid a_this_text a_this_read a_this_numbers a_this_where a_this_sorts a_this_tells a_this_undone a_this_parts a_this_goesWith a_this_with a_this_keeps z_letters z_at z_walked z_counts z_undos z_all z_planned z_scale z_least z_kept z_text) (tyL cI cJ cC cG cW) sz)) (va_Qi (fun (r : Int32) (u : (Int32) × (Nat → Int32)) => Post r u.1 u.2) (fun u t => poW (dC, dI) (tyL cI cJ cC cG cW) (va_A (qw_X8_write cI cJ cC cG cW a_this a_this_laid a_this_text a_this_read a_this_numbers a_this_where a_this_sorts a_this_tells a_this_undone a_this_parts a_this_goesWith a_this_with a_this_keeps z_letters z_at z_walked z_counts z_undos z_all z_planned z_scale z_least z_kept z_text) sz) (qw_X8_write cI cJ cC cG cW a_this a_this_laid a_this_text a_this_read a_this_numbers a_this_where a_this_sorts a_this_tells a_this_undone a_this_parts a_this_goesWith a_this_with a_this_keeps u.1 z_at z_walked z_counts z_undos z_all z_planned z_scale z_least z_kept u.2) t) (va_A (qw_X8_write cI cJ cC cG cW a_this a_this_laid a_this_text a_this_read a_this_numbers a_this_where a_this_sorts a_this_tells a_this_undone a_this_parts a_this_goesWith a_this_with a_this_keeps z_letters z_at z_walked z_counts z_undos z_all z_planned z_scale z_least z_kept z_text) sz)) 0 0 (va_A (qw_X8_write cI cJ cC cG cW a_this a_this_laid a_this_text a_this_read a_this_numbers a_this_where a_this_sorts a_this_tells a_this_undone a_this_parts a_this_goesWith a_this_with a_this_keeps z_letters z_at z_walked z_counts z_undos z_all z_planned z_scale z_least z_kept z_text) sz) := by
  refine Met.ofM (Qc := fun A => va_Qi (fun (r : Int32) (u : (Int32) × (Nat → Int32)) => Post r u.1 u.2) (fun u t => poW (dC, dI) (tyL cI cJ cC cG cW) A (qw_X8_write cI cJ cC cG cW a_this a_this_laid a_this_text a_this_read a_this_numbers a_this_where a_this_sorts a_this_tells a_this_undone a_this_parts a_this_goesWith a_this_with a_this_keeps u.1 z_at z_walked z_counts z_undos z_all z_planned z_scale z_least z_kept u.2) t) A) (nm := "write") (ds := "(I)I") (own := RX8) (maxL := 2) (cc := cX8_write) (ret := (some .int)) (by decide) rfl rfl (Nat.le_of_ble_eq_true rfl) (fun p e s m below meth c A C0 hin hK hN hA hP hD hS ls hl => ?_)
  obtain ⟨hx, hb, hr, hml, hown, hts, hlocks⟩ := id C0
  have hl : lv_has ls 2 [(0, .ref a_this), (1, .int x1)] := hl
  obtain ⟨H, hH⟩ : ∃ h : Heap, h = s.heap := ⟨_, rfl⟩
  obtain ⟨locs, hLc⟩ : ∃ L : List Loc, L = [] := ⟨_, rfl⟩
  have hS : va_S A s.heap H locs := by rw [hH, hLc]; exact hS
  rw [← hH] at hP
  rw [← hLc, ← hH]
  clear hH hLc
  refine lv_iload_n hx hb dX8_write_0 rfl (lv_at hl 1 rfl) ?_
  refine lv_i2l hx hb dX8_write_1 rfl ?_
  refine lv_ldc2 (v := (32 : Int64)) hx hb hown (hts _ ql_X8_write_59) dX8_write_2 ?_
  refine lv_ldc2 (v := (126 : Int64)) hx hb hown (hts _ ql_X8_write_61) dX8_write_5 ?_
  refine vp_callSi (va_Run.run (va_runS (As := [.long (x1.toInt64), .long (32 : Int64), .long (126 : Int64)]) (rest := []) ⟨hx, hb, hml, hown, hts⟩ (qm_X8_in l dC dI cI cJ cC cG cW (x1.toInt64) (32 : Int64) (126 : Int64) _ hV) (va_cwS 3 hts gX8_write_X8_in rfl rfl rfl (by decide +kernel) ⟨Nat.le_of_ble_eq_true rfl, Nat.le_of_ble_eq_true rfl⟩) (preRS hK hN (show va_P (dC, dI) vwCl (qw_X8_in cI cJ cC cG cW) H from fun k q h => by simp at h)) rfl rfl hl.1 rfl (lv_room (Nat.le_of_ble_eq_true rfl)) dX8_write_8 ⟨Nat.le_of_ble_eq_true rfl, Nat.le_of_ble_eq_true rfl⟩)) (fun r1 hV => ?_)
  refine lv_if_ne (tgt := 16) hx hb dX8_write_11 (by decide) (fun c2 => ?_) (fun c2 => ?_)
  · have hV := hV.2 c2
    refine lv_aload_n hx hb dX8_write_16 rfl (lv_at hl 0 rfl) ?_
    refine va_get (D := (dC, dI)) (ci := 8) (v := .int z_letters) (C := RX8) (T := TX8) (N := 22) hx hb hts qi_X8_write_X8 hown hK hP 0 rfl rfl 2 (by decide) (hts _ ql_X8_write_67) (fun _ h9 => h9) rfl dX8_write_17 ?_
    refine lv_sipush (v := (200 : Int32)) hx hb dX8_write_20 (by decide) ?_
    refine lv_icmp_ne (tgt := 29) hx hb dX8_write_23 (by decide) (fun c3 => ?_) (fun c3 => ?_)
    · have hV := hV.2 c3
      refine lv_aload_n hx hb dX8_write_29 rfl (lv_at hl 0 rfl) ?_
      refine va_get (D := (dC, dI)) (ci := 8) (v := .ref a_this_text) (C := RX8) (T := TX8) (N := 22) hx hb hts qi_X8_write_X8 hown hK hP 0 rfl rfl 1 (by decide) (hts _ ql_X8_write_13) (fun _ h9 => h9) rfl dX8_write_30 ?_
      refine lv_aload_n hx hb dX8_write_33 rfl (lv_at hl 0 rfl) ?_
      refine va_get (D := (dC, dI)) (ci := 8) (v := .int z_letters) (C := RX8) (T := TX8) (N := 22) hx hb hts qi_X8_write_X8 hown hK hP 0 rfl rfl 2 (by decide) (hts _ ql_X8_write_67) (fun _ h9 => h9) rfl dX8_write_34 ?_
      refine lv_iload_n hx hb dX8_write_37 rfl (lv_at hl 1 rfl) ?_
      obtain ⟨h4, hV⟩ := hV
      refine va_iast hx hb hK hP hD hS 1 0 rfl rfl h4 dX8_write_38 (fun H locs hP hD hS => ?_)
      have hP : va_P (dC, dI) vwCl (qw_X8_write cI cJ cC cG cW a_this a_this_laid a_this_text a_this_read a_this_numbers a_this_where a_this_sorts a_this_tells a_this_undone a_this_parts a_this_goesWith a_this_with a_this_keeps z_letters z_at z_walked z_counts z_undos z_all z_planned z_scale z_least z_kept (upd z_text z_letters.toNatClampNeg x1)) H := hP
      have hD : va_D A (qw_X8_write cI cJ cC cG cW a_this a_this_laid a_this_text a_this_read a_this_numbers a_this_where a_this_sorts a_this_tells a_this_undone a_this_parts a_this_goesWith a_this_with a_this_keeps z_letters z_at z_walked z_counts z_undos z_all z_planned z_scale z_least z_kept (upd z_text z_letters.toNatClampNeg x1)) := hD
      refine lv_aload_n hx hb dX8_write_39 rfl (lv_at hl 0 rfl) ?_
      refine lv_dup hx hb dX8_write_40 rfl ?_
      refine va_get (D := (dC, dI)) (ci := 8) (v := .int z_letters) (C := RX8) (T := TX8) (N := 22) hx hb hts qi_X8_write_X8 hown hK hP 0 rfl rfl 2 (by decide) (hts _ ql_X8_write_67) (fun _ h9 => h9) rfl dX8_write_41 ?_
      refine lv_iconst (v := (1 : Int32)) hx hb dX8_write_44 (by decide) ?_
      refine lv_iadd hx hb dX8_write_45 ?_
      refine va_put (D := (dC, dI)) (ci := 8) (v := .int (z_letters + (1 : Int32))) (ty := .int) (C := RX8) (T := TX8) (N := 22) hx hb hts qi_X8_write_X8 tyX8 tyX8_ok nmX8 hown hK hP hD hS 0 rfl rfl 2 (by decide) (hts _ ql_X8_write_67) (fun _ h9 => h9) rfl (by decide +kernel) rfl rfl (Nat.le_of_ble_eq_true rfl) dX8_write_46 (fun H locs hP hD hS => ?_)
      have hP : va_P (dC, dI) vwCl (qw_X8_write cI cJ cC cG cW a_this a_this_laid a_this_text a_this_read a_this_numbers a_this_where a_this_sorts a_this_tells a_this_undone a_this_parts a_this_goesWith a_this_with a_this_keeps (z_letters + (1 : Int32)) z_at z_walked z_counts z_undos z_all z_planned z_scale z_least z_kept (upd z_text z_letters.toNatClampNeg x1)) H := hP
      have hD : va_D A (qw_X8_write cI cJ cC cG cW a_this a_this_laid a_this_text a_this_read a_this_numbers a_this_where a_this_sorts a_this_tells a_this_undone a_this_parts a_this_goesWith a_this_with a_this_keeps (z_letters + (1 : Int32)) z_at z_walked z_counts z_undos z_all z_planned z_scale z_least z_kept (upd z_text z_letters.toNatClampNeg x1)) := hD
      refine lv_aload_n hx hb dX8_write_49 rfl (lv_at hl 0 rfl) ?_
      refine va_get (D := (dC, dI)) (ci := 8) (v := .int (z_letters + (1 : Int32))) (C := RX8) (T := TX8) (N := 22) hx hb hts qi_X8_write_X8 hown hK hP 0 rfl rfl 2 (by decide) (hts _ ql_X8_write_67) (fun _ h9 => h9) rfl dX8_write_50 ?_
      exact W.iret hx hb hr (fun t ht hW => ⟨⟨_, ((z_letters + (1 : Int32)), (upd z_text z_letters.toNatClampNeg x1)), rfl, hV, ⟨by rw [ht]; exact hP, va_K.moved hW.alike hK, hD⟩⟩, hS.F ht⟩) hS.2.2 dX8_write_53 hlocks
    · have hV := hV.1 c3
      refine lv_bipush (v := (-3 : Int32)) hx hb dX8_write_26 (by decide) ?_
      exact W.iret hx hb hr (fun t ht hW => ⟨⟨_, (z_letters, z_text), rfl, hV, ⟨by rw [ht]; exact hP, va_K.moved hW.alike hK, hD⟩⟩, hS.F ht⟩) hS.2.2 dX8_write_28 hlocks
  · have hV := hV.1 c2
    refine lv_iconst (v := (-1 : Int32)) hx hb dX8_write_14 (by decide) ?_
    exact W.iret hx hb hr (fun t ht hW => ⟨⟨_, (z_letters, z_text), rfl, hV, ⟨by rw [ht]; exact hP, va_K.moved hW.alike hK, hD⟩⟩, hS.F ht⟩) hS.2.2 dX8_write_15 hlocks

/-! StileCountsModel.wipe()I -/
abbrev qw_X8_wipe (cI cJ cC cG cW : ClassId) (a_this a_this_laid a_this_text a_this_read a_this_numbers a_this_where a_this_sorts a_this_tells a_this_undone a_this_parts a_this_goesWith a_this_with a_this_keeps : Nat) (z_letters : Int32) (z_at : Int32) (z_walked : Int32) (z_counts : Int32) (z_undos : Int32) (z_all : Int64) (z_planned : Int64) (z_scale : Int64) (z_least : Int32) (z_kept : Int32) : va_W := [(a_this, .inr (8, [.ref a_this_laid, .ref a_this_text, .int z_letters, .ref a_this_read, .int z_at, .ref a_this_numbers, .int z_walked, .int z_counts, .ref a_this_where, .ref a_this_sorts, .ref a_this_tells, .int z_undos, .ref a_this_undone, .ref a_this_parts, .long z_all, .long z_planned, .long z_scale, .ref a_this_goesWith, .int z_least, .ref a_this_with, .int z_kept, .ref a_this_keeps]))]
theorem qi_X8_wipe_X8 : ∀ w ∈ wsX80, w ∈ wsX8_wipe := by decide +kernel
theorem ql_X8_wipe_67 : (.fieldLink RX8 67 "StileCountsModel" "letters" "I" : Cond) ∈ wsX8_wipe := by decide +kernel
def qv_X8_wipe (z_letters : Int32) (Post : Int32 → (Int32) → Prop) : Prop := Post z_letters (0 : Int32)
set_option maxHeartbeats 4000000 in
set_option maxRecDepth 100000 in
theorem qm_X8_wipe (l : Launch) (dC : Nat → ClassId) (dI : Nat → Nat → Nat) (cI cJ cC cG cW : ClassId) (a_this a_this_laid a_this_text a_this_read a_this_numbers a_this_where a_this_sorts a_this_tells a_this_undone a_this_parts a_this_goesWith a_this_with a_this_keeps : Nat) (z_letters : Int32) (z_at : Int32) (z_walked : Int32) (z_counts : Int32) (z_undos : Int32) (z_all : Int64) (z_planned : Int64) (z_scale : Int64) (z_least : Int32) (z_kept : Int32) (sz : Nat) (Post : Int32 → (Int32) → Prop) (hV : qv_X8_wipe z_letters Post) : Met l yX8_wipe wsX8_wipe ({ frames := 0, cells := 0, slots := 0, locals := 0 } : Room) (va_Pc [.ref a_this] (prW (dC, dI) (qw_X8_wipe cI cJ cC cG cW a_this a_this_laid a_this_text a_this_read a_this_numbers a_this_where a_this_sorts a_this_tells a_this_undone a_this_parts a_this_goesWith a_this_with a_this_keeps z_letters z_at z_walked z_counts z_undos z_all z_planned z_scale z_least z_kept) (tyL cI cJ cC cG cW) sz)) (va_Qi (fun (r : Int32) (u : (Int32)) => Post r u) (fun u t => poW (dC, dI) (tyL cI cJ cC cG cW) (va_A (qw_X8_wipe cI cJ cC cG cW a_this a_this_laid a_this_text a_this_read a_this_numbers a_this_where a_this_sorts a_this_tells a_this_undone a_this_parts a_this_goesWith a_this_with a_this_keeps z_letters z_at z_walked z_counts z_undos z_all z_planned z_scale z_least z_kept) sz) (qw_X8_wipe cI cJ cC cG cW a_this a_this_laid a_this_text a_this_read a_this_numbers a_this_where a_this_sorts a_this_tells a_this_undone a_this_parts a_this_goesWith a_this_with a_this_keeps u z_at z_walked z_counts z_undos z_all z_planned z_scale z_least z_kept) t) (va_A (qw_X8_wipe cI cJ cC cG cW a_this a_this_laid a_this_text a_this_read a_this_numbers a_this_where a_this_sorts a_this_tells a_this_undone a_this_parts a_this_goesWith a_this_with a_this_keeps z_letters z_at z_walked z_counts z_undos z_all z_planned z_scale z_least z_kept) sz)) 0 0 (va_A (qw_X8_wipe cI cJ cC cG cW a_this a_this_laid a_this_text a_this_read a_this_numbers a_this_where a_this_sorts a_this_tells a_this_undone a_this_parts a_this_goesWith a_this_with a_this_keeps z_letters z_at z_walked z_counts z_undos z_all z_planned z_scale z_least z_kept) sz) := by
  refine Met.ofM (Qc := fun A => va_Qi (fun (r : Int32) (u : (Int32)) => Post r u) (fun u t => poW (dC, dI) (tyL cI cJ cC cG cW) A (qw_X8_wipe cI cJ cC cG cW a_this a_this_laid a_this_text a_this_read a_this_numbers a_this_where a_this_sorts a_this_tells a_this_undone a_this_parts a_this_goesWith a_this_with a_this_keeps u z_at z_walked z_counts z_undos z_all z_planned z_scale z_least z_kept) t) A) (nm := "wipe") (ds := "()I") (own := RX8) (maxL := 2) (cc := cX8_wipe) (ret := (some .int)) (by decide) rfl rfl (Nat.le_of_ble_eq_true rfl) (fun p e s m below meth c A C0 hin hK hN hA hP hD hS ls hl => ?_)
  obtain ⟨hx, hb, hr, hml, hown, hts, hlocks⟩ := id C0
  have hl : lv_has ls 2 [(0, .ref a_this)] := hl
  obtain ⟨H, hH⟩ : ∃ h : Heap, h = s.heap := ⟨_, rfl⟩
  obtain ⟨locs, hLc⟩ : ∃ L : List Loc, L = [] := ⟨_, rfl⟩
  have hS : va_S A s.heap H locs := by rw [hH, hLc]; exact hS
  rw [← hH] at hP
  rw [← hLc, ← hH]
  clear hH hLc
  refine lv_aload_n hx hb dX8_wipe_0 rfl (lv_at hl 0 rfl) ?_
  refine va_get (D := (dC, dI)) (ci := 8) (v := .int z_letters) (C := RX8) (T := TX8) (N := 22) hx hb hts qi_X8_wipe_X8 hown hK hP 0 rfl rfl 2 (by decide) (hts _ ql_X8_wipe_67) (fun _ h9 => h9) rfl dX8_wipe_1 ?_
  refine lv_istore_n (lv' := [(1, .int z_letters), (0, .ref a_this)]) hx hb dX8_wipe_4 rfl hl (by decide) rfl (fun ls hl => ?_)
  refine lv_aload_n hx hb dX8_wipe_5 rfl (lv_at hl 1 rfl) ?_
  refine lv_iconst (v := (0 : Int32)) hx hb dX8_wipe_6 (by decide) ?_
  refine va_put (D := (dC, dI)) (ci := 8) (v := .int (0 : Int32)) (ty := .int) (C := RX8) (T := TX8) (N := 22) hx hb hts qi_X8_wipe_X8 tyX8 tyX8_ok nmX8 hown hK hP hD hS 0 rfl rfl 2 (by decide) (hts _ ql_X8_wipe_67) (fun _ h9 => h9) rfl (by decide +kernel) rfl rfl (Nat.le_of_ble_eq_true rfl) dX8_wipe_7 (fun H locs hP hD hS => ?_)
  have hP : va_P (dC, dI) vwCl (qw_X8_wipe cI cJ cC cG cW a_this a_this_laid a_this_text a_this_read a_this_numbers a_this_where a_this_sorts a_this_tells a_this_undone a_this_parts a_this_goesWith a_this_with a_this_keeps (0 : Int32) z_at z_walked z_counts z_undos z_all z_planned z_scale z_least z_kept) H := hP
  have hD : va_D A (qw_X8_wipe cI cJ cC cG cW a_this a_this_laid a_this_text a_this_read a_this_numbers a_this_where a_this_sorts a_this_tells a_this_undone a_this_parts a_this_goesWith a_this_with a_this_keeps (0 : Int32) z_at z_walked z_counts z_undos z_all z_planned z_scale z_least z_kept) := hD
  refine lv_iload_n hx hb dX8_wipe_10 rfl (lv_at hl 0 rfl) ?_
  exact W.iret hx hb hr (fun t ht hW => ⟨⟨_, ((0 : Int32)), rfl, hV, ⟨by rw [ht]; exact hP, va_K.moved hW.alike hK, hD⟩⟩, hS.F ht⟩) hS.2.2 dX8_wipe_11 hlocks

/-! StileCountsModel.isFigure(I)Z -/
abbrev qw_X8_isFigure (cI cJ cC cG cW : ClassId) (a_this a_this_laid a_this_text a_this_read a_this_numbers a_this_where a_this_sorts a_this_tells a_this_undone a_this_parts a_this_goesWith a_this_with a_this_keeps : Nat) (z_letters : Int32) (z_at : Int32) (z_walked : Int32) (z_counts : Int32) (z_undos : Int32) (z_all : Int64) (z_planned : Int64) (z_scale : Int64) (z_least : Int32) (z_kept : Int32) (z_text : Nat → Int32) : va_W := [(a_this, .inr (8, [.ref a_this_laid, .ref a_this_text, .int z_letters, .ref a_this_read, .int z_at, .ref a_this_numbers, .int z_walked, .int z_counts, .ref a_this_where, .ref a_this_sorts, .ref a_this_tells, .int z_undos, .ref a_this_undone, .ref a_this_parts, .long z_all, .long z_planned, .long z_scale, .ref a_this_goesWith, .int z_least, .ref a_this_with, .int z_kept, .ref a_this_keeps])), (a_this_text, .inl (cI, 200, .inl z_text))]
theorem qi_X8_isFigure_X8 : ∀ w ∈ wsX80, w ∈ wsX8_isFigure := by decide +kernel
theorem ql_X8_isFigure_67 : (.fieldLink RX8 67 "StileCountsModel" "letters" "I" : Cond) ∈ wsX8_isFigure := by decide +kernel
theorem ql_X8_isFigure_13 : (.fieldLink RX8 13 "StileCountsModel" "text" "[I" : Cond) ∈ wsX8_isFigure := by decide +kernel
theorem ql_X8_isFigure_71 : (.constantLong RX8 71 (48 : Int64) : Cond) ∈ wsX8_isFigure := by decide +kernel
theorem ql_X8_isFigure_73 : (.constantLong RX8 73 (57 : Int64) : Cond) ∈ wsX8_isFigure := by decide +kernel
def qv_X8_isFigure (x1 : Int32) (z_letters : Int32) (z_text : Nat → Int32) (Post : Int32 → Prop) : Prop := (z_letters ≤ x1 → Post (0 : Int32)) ∧ (¬ z_letters ≤ x1 → vp_in x1 200 ∧ (qv_X8_in ((z_text x1.toNatClampNeg).toInt64) (48 : Int64) (57 : Int64) (fun r3 => (r3 = (0 : Int32) → Post (0 : Int32)) ∧ (¬ r3 = (0 : Int32) → Post (1 : Int32)))))
set_option maxHeartbeats 4000000 in
set_option maxRecDepth 100000 in
theorem qm_X8_isFigure (l : Launch) (dC : Nat → ClassId) (dI : Nat → Nat → Nat) (cI cJ cC cG cW : ClassId) (a_this a_this_laid a_this_text a_this_read a_this_numbers a_this_where a_this_sorts a_this_tells a_this_undone a_this_parts a_this_goesWith a_this_with a_this_keeps : Nat) (z_letters : Int32) (z_at : Int32) (z_walked : Int32) (z_counts : Int32) (z_undos : Int32) (z_all : Int64) (z_planned : Int64) (z_scale : Int64) (z_least : Int32) (z_kept : Int32) (z_text : Nat → Int32) (x1 : Int32) (Post : Int32 → Prop) (hV : qv_X8_isFigure x1 z_letters z_text Post) : Met l yX8_isFigure wsX8_isFigure ({ frames := 1, cells := 0, slots := 0, locals := 25 } : Room) (va_Pc [.ref a_this, .int x1] (prR (dC, dI) (qw_X8_isFigure cI cJ cC cG cW a_this a_this_laid a_this_text a_this_read a_this_numbers a_this_where a_this_sorts a_this_tells a_this_undone a_this_parts a_this_goesWith a_this_with a_this_keeps z_letters z_at z_walked z_counts z_undos z_all z_planned z_scale z_least z_kept z_text) (tyL cI cJ cC cG cW))) (vp_Si Post) 0 0 (fun _ => False) := by
  refine Met.ofR (nm := "isFigure") (ds := "(I)Z") (own := RX8) (maxL := 2) (cc := cX8_isFigure) (ret := (some .boolean)) (by decide) rfl rfl (Nat.le_of_ble_eq_true rfl) (fun p e s m below meth c C0 hK hN hP ls hl => ?_)
  obtain ⟨hx, hb, hr, hml, hown, hts, hlocks⟩ := id C0
  have hl : lv_has ls 2 [(0, .ref a_this), (1, .int x1)] := hl
  refine lv_iload_n hx hb dX8_isFigure_0 rfl (lv_at hl 1 rfl) ?_
  refine lv_aload_n hx hb dX8_isFigure_1 rfl (lv_at hl 0 rfl) ?_
  refine va_get (D := (dC, dI)) (ci := 8) (v := .int z_letters) (C := RX8) (T := TX8) (N := 22) hx hb hts qi_X8_isFigure_X8 hown hK hP 0 rfl rfl 2 (by decide) (hts _ ql_X8_isFigure_67) (fun _ h9 => h9) rfl dX8_isFigure_2 ?_
  refine lv_icmp_ge (tgt := 31) hx hb dX8_isFigure_5 (by decide) (fun c1 => ?_) (fun c1 => ?_)
  · have hV := hV.1 c1
    refine lv_iconst (v := (0 : Int32)) hx hb dX8_isFigure_31 (by decide) ?_
    exact W.zret hx hb hr rfl (fun t ht hW => ⟨_, rfl, hV, ht⟩) (fun q h => absurd h List.not_mem_nil) dX8_isFigure_32 hlocks
  · have hV := hV.2 c1
    refine lv_aload_n hx hb dX8_isFigure_8 rfl (lv_at hl 0 rfl) ?_
    refine va_get (D := (dC, dI)) (ci := 8) (v := .ref a_this_text) (C := RX8) (T := TX8) (N := 22) hx hb hts qi_X8_isFigure_X8 hown hK hP 0 rfl rfl 1 (by decide) (hts _ ql_X8_isFigure_13) (fun _ h9 => h9) rfl dX8_isFigure_9 ?_
    refine lv_iload_n hx hb dX8_isFigure_12 rfl (lv_at hl 1 rfl) ?_
    obtain ⟨h2, hV⟩ := hV
    refine va_iald hx hb hK hP 1 0 rfl rfl h2 dX8_isFigure_13 ?_
    refine lv_i2l hx hb dX8_isFigure_14 rfl ?_
    refine lv_ldc2 (v := (48 : Int64)) hx hb hown (hts _ ql_X8_isFigure_71) dX8_isFigure_15 ?_
    refine lv_ldc2 (v := (57 : Int64)) hx hb hown (hts _ ql_X8_isFigure_73) dX8_isFigure_18 ?_
    refine vp_callSi (va_Run.run (va_runS (As := [.long ((z_text x1.toNatClampNeg).toInt64), .long (48 : Int64), .long (57 : Int64)]) (rest := []) ⟨hx, hb, hml, hown, hts⟩ (qm_X8_in l dC dI cI cJ cC cG cW ((z_text x1.toNatClampNeg).toInt64) (48 : Int64) (57 : Int64) _ hV) (va_cwS 3 hts gX8_isFigure_X8_in rfl rfl rfl (by decide +kernel) ⟨Nat.le_of_ble_eq_true rfl, Nat.le_of_ble_eq_true rfl⟩) (preRS hK hN (show va_P (dC, dI) vwCl (qw_X8_in cI cJ cC cG cW) s.heap from fun k q h => by simp at h)) rfl rfl hl.1 rfl (lv_room (Nat.le_of_ble_eq_true rfl)) dX8_isFigure_21 ⟨Nat.le_of_ble_eq_true rfl, Nat.le_of_ble_eq_true rfl⟩)) (fun r3 hV => ?_)
    refine lv_if_eq (tgt := 31) hx hb dX8_isFigure_24 (by decide) (fun c4 => ?_) (fun c4 => ?_)
    · have hV := hV.1 c4
      refine lv_iconst (v := (0 : Int32)) hx hb dX8_isFigure_31 (by decide) ?_
      exact W.zret hx hb hr rfl (fun t ht hW => ⟨_, rfl, hV, ht⟩) (fun q h => absurd h List.not_mem_nil) dX8_isFigure_32 hlocks
    · have hV := hV.2 c4
      refine lv_iconst (v := (1 : Int32)) hx hb dX8_isFigure_27 (by decide) ?_
      refine lv_goto (tgt := 32) hx hb dX8_isFigure_28 (by decide) ?_
      exact W.zret hx hb hr rfl (fun t ht hW => ⟨_, rfl, hV, ht⟩) (fun q h => absurd h List.not_mem_nil) dX8_isFigure_32 hlocks

/-! StileCountsModel.readsNumbers(I)Z -/
abbrev qw_X8_readsNumbers (cI cJ cC cG cW : ClassId) (a_this a_this_laid a_this_text a_this_read a_this_numbers a_this_where a_this_sorts a_this_tells a_this_undone a_this_parts a_this_goesWith a_this_with a_this_keeps : Nat) (z_letters : Int32) (z_at : Int32) (z_walked : Int32) (z_counts : Int32) (z_undos : Int32) (z_all : Int64) (z_planned : Int64) (z_scale : Int64) (z_least : Int32) (z_kept : Int32) (z_text : Nat → Int32) (z_numbers : Nat → Int32) : va_W := [(a_this, .inr (8, [.ref a_this_laid, .ref a_this_text, .int z_letters, .ref a_this_read, .int z_at, .ref a_this_numbers, .int z_walked, .int z_counts, .ref a_this_where, .ref a_this_sorts, .ref a_this_tells, .int z_undos, .ref a_this_undone, .ref a_this_parts, .long z_all, .long z_planned, .long z_scale, .ref a_this_goesWith, .int z_least, .ref a_this_with, .int z_kept, .ref a_this_keeps])), (a_this_text, .inl (cI, 200, .inl z_text)), (a_this_numbers, .inl (cI, 3, .inl z_numbers))]
theorem qi_X8_readsNumbers_X8 : ∀ w ∈ wsX80, w ∈ wsX8_readsNumbers := by decide +kernel
theorem ql_X8_readsNumbers_75 : (.fieldLink RX8 75 "StileCountsModel" "at" "I" : Cond) ∈ wsX8_readsNumbers := by decide +kernel
theorem ql_X8_readsNumbers_13 : (.fieldLink RX8 13 "StileCountsModel" "text" "[I" : Cond) ∈ wsX8_readsNumbers := by decide +kernel
theorem ql_X8_readsNumbers_19 : (.fieldLink RX8 19 "StileCountsModel" "numbers" "[I" : Cond) ∈ wsX8_readsNumbers := by decide +kernel
theorem ql_X8_readsNumbers_82 : (.constantLong RX8 82 (2 : Int64) : Cond) ∈ wsX8_readsNumbers := by decide +kernel
theorem ql_X8_readsNumbers_67 : (.fieldLink RX8 67 "StileCountsModel" "letters" "I" : Cond) ∈ wsX8_readsNumbers := by decide +kernel
def qv_X8_readsNumbers_L22 (x1 : Int32) (x3 : Int32) (x4 : Int32) (z_letters : Int32) (z_text : Nat → Int32) (z_numbers : Nat → Int32) (Post : Int32 → (Int32) → (Nat → Int32) → Prop) (E : (Int32) → (Int32) → Prop) : Nat → (Int32) → (Int32) → Prop
  | 0, _, _ => False
  | n + 1, x5, z_at => qv_X8_isFigure z_at z_letters z_text (fun r3 => (r3 = (0 : Int32) → E x5 z_at) ∧ (¬ r3 = (0 : Int32) → ((3 : Int32) ≤ (z_at - x4) → E x5 z_at) ∧ (¬ (3 : Int32) ≤ (z_at - x4) → vp_in z_at 200 ∧ (qv_X8_readsNumbers_L22 x1 x3 x4 z_letters z_text z_numbers Post E n ((((10 : Int32) * x5) + (z_text z_at.toNatClampNeg)) - (48 : Int32)) (z_at + (1 : Int32))))))
set_option maxHeartbeats 4000000 in
set_option maxRecDepth 100000 in
theorem qt_X8_readsNumbers_L22 {p : Program} {l : Launch} {e : Env} {s : State} {m : MethodId} {args : Array Value} {below : List Frame} {meth : Method} {c : Code} {dC : Nat → ClassId} {dI : Nat → Nat → Nat} {cI cJ cC cG cW : ClassId} {a_this a_this_laid a_this_text a_this_read a_this_numbers a_this_where a_this_sorts a_this_tells a_this_undone a_this_parts a_this_goesWith a_this_with a_this_keeps : Nat} {A : Nat → Prop} (C0 : MC cX8_readsNumbers 6 (some .boolean) RX8 wsX8_readsNumbers p s m args meth c) (hK : va_K (dC, dI) vwCl (tyL cI cJ cC cG cW) s) (hN : NW s) (hA : ∀ q, s.heap.size ≤ q → A q) (z_letters : Int32) (z_walked : Int32) (z_counts : Int32) (z_undos : Int32) (z_all : Int64) (z_planned : Int64) (z_scale : Int64) (z_least : Int32) (z_kept : Int32) (z_text : Nat → Int32) (z_numbers : Nat → Int32) (x1 : Int32) (x3 : Int32) (x4 : Int32) (Post : Int32 → (Int32) → (Nat → Int32) → Prop) (E : (Int32) → (Int32) → Prop) (hE : ∀ (x5 : Int32) (z_at : Int32) (H : Heap) (locs : List Loc) (ls : Array Slot), E x5 z_at → va_P (dC, dI) vwCl (qw_X8_readsNumbers cI cJ cC cG cW a_this a_this_laid a_this_text a_this_read a_this_numbers a_this_where a_this_sorts a_this_tells a_this_undone a_this_parts a_this_goesWith a_this_with a_this_keeps z_letters z_at z_walked z_counts z_undos z_all z_planned z_scale z_least z_kept z_text z_numbers) H → va_D A (qw_X8_readsNumbers cI cJ cC cG cW a_this a_this_laid a_this_text a_this_read a_this_numbers a_this_where a_this_sorts a_this_tells a_this_undone a_this_parts a_this_goesWith a_this_with a_this_keeps z_letters z_at z_walked z_counts z_undos z_all z_planned z_scale z_least z_kept z_text z_numbers) → va_S A s.heap H locs → lv_has ls 6 [(0, .ref a_this), (1, .int x1), (3, .int x3), (4, .int x4), (5, .int x5)] → W p l e ({ frames := 2, cells := 0, slots := 0, locals := 46 } : Room) s m args below meth c H locs 0 0 (MQ below (va_Qi (fun (r : Int32) (u : (Int32) × (Nat → Int32)) => Post r u.1 u.2) (fun u t => poW (dC, dI) (tyL cI cJ cC cG cW) A (qw_X8_readsNumbers cI cJ cC cG cW a_this a_this_laid a_this_text a_this_read a_this_numbers a_this_where a_this_sorts a_this_tells a_this_undone a_this_parts a_this_goesWith a_this_with a_this_keeps z_letters u.1 z_walked z_counts z_undos z_all z_planned z_scale z_least z_kept z_text u.2) t) A) args s 0 0 A) (F0 m 77 ls [])) : ∀ (n : Nat) (x5 : Int32) (z_at : Int32) (H : Heap) (locs : List Loc) (ls : Array Slot), qv_X8_readsNumbers_L22 x1 x3 x4 z_letters z_text z_numbers Post E n x5 z_at → va_P (dC, dI) vwCl (qw_X8_readsNumbers cI cJ cC cG cW a_this a_this_laid a_this_text a_this_read a_this_numbers a_this_where a_this_sorts a_this_tells a_this_undone a_this_parts a_this_goesWith a_this_with a_this_keeps z_letters z_at z_walked z_counts z_undos z_all z_planned z_scale z_least z_kept z_text z_numbers) H → va_D A (qw_X8_readsNumbers cI cJ cC cG cW a_this a_this_laid a_this_text a_this_read a_this_numbers a_this_where a_this_sorts a_this_tells a_this_undone a_this_parts a_this_goesWith a_this_with a_this_keeps z_letters z_at z_walked z_counts z_undos z_all z_planned z_scale z_least z_kept z_text z_numbers) → va_S A s.heap H locs → lv_has ls 6 [(0, .ref a_this), (1, .int x1), (3, .int x3), (4, .int x4), (5, .int x5)] → W p l e ({ frames := 2, cells := 0, slots := 0, locals := 46 } : Room) s m args below meth c H locs 0 0 (MQ below (va_Qi (fun (r : Int32) (u : (Int32) × (Nat → Int32)) => Post r u.1 u.2) (fun u t => poW (dC, dI) (tyL cI cJ cC cG cW) A (qw_X8_readsNumbers cI cJ cC cG cW a_this a_this_laid a_this_text a_this_read a_this_numbers a_this_where a_this_sorts a_this_tells a_this_undone a_this_parts a_this_goesWith a_this_with a_this_keeps z_letters u.1 z_walked z_counts z_undos z_all z_planned z_scale z_least z_kept z_text u.2) t) A) args s 0 0 A) (F0 m 22 ls []) := by
  obtain ⟨hx, hb, hr, hml, hown, hts, hlocks⟩ := id C0
  intro n
  induction n with
  | zero =>
    intro x5 z_at H locs ls hV
    exact False.elim hV
  | succ n ih =>
    intro x5 z_at H locs ls hV hP hD hS hl
    refine lv_aload_n hx hb dX8_readsNumbers_22 rfl (lv_at hl 0 rfl) ?_
    refine lv_aload_n hx hb dX8_readsNumbers_23 rfl (lv_at hl 0 rfl) ?_
    refine va_get (D := (dC, dI)) (ci := 8) (v := .int z_at) (C := RX8) (T := TX8) (N := 22) hx hb hts qi_X8_readsNumbers_X8 hown hK hP 0 rfl rfl 4 (by decide) (hts _ ql_X8_readsNumbers_75) (fun _ h9 => h9) rfl dX8_readsNumbers_24 ?_
    refine vp_callSi (va_Run.run (va_runV (As := [.int z_at]) (rest := []) ⟨hx, hb, hml, hown, hts⟩ (qm_X8_isFigure l dC dI cI cJ cC cG cW a_this a_this_laid a_this_text a_this_read a_this_numbers a_this_where a_this_sorts a_this_tells a_this_undone a_this_parts a_this_goesWith a_this_with a_this_keeps z_letters z_at z_walked z_counts z_undos z_all z_planned z_scale z_least z_kept z_text z_at _ hV) (cwV 1 hts gX8_readsNumbers_X8_isFigure rfl rfl rfl (by decide +kernel) ⟨Nat.le_of_ble_eq_true rfl, Nat.le_of_ble_eq_true rfl⟩) (preRV hK hN (hP.sub (ws' := (qw_X8_isFigure cI cJ cC cG cW a_this a_this_laid a_this_text a_this_read a_this_numbers a_this_where a_this_sorts a_this_tells a_this_undone a_this_parts a_this_goesWith a_this_with a_this_keeps z_letters z_at z_walked z_counts z_undos z_all z_planned z_scale z_least z_kept z_text)) [0, 1] rfl) rfl rfl) rfl rfl hl.1 rfl (lv_room (Nat.le_of_ble_eq_true rfl)) dX8_readsNumbers_27 ⟨Nat.le_of_ble_eq_true rfl, Nat.le_of_ble_eq_true rfl⟩)) (fun r3 hV => ?_)
    refine lv_if_eq (tgt := 77) hx hb dX8_readsNumbers_30 (by decide) (fun c4 => ?_) (fun c4 => ?_)
    · have hV := hV.1 c4
      exact hE x5 z_at H locs ls hV hP hD hS (lv_sub hl [0, 1, 2, 3, 4] rfl)
    · have hV := hV.2 c4
      refine lv_aload_n hx hb dX8_readsNumbers_33 rfl (lv_at hl 0 rfl) ?_
      refine va_get (D := (dC, dI)) (ci := 8) (v := .int z_at) (C := RX8) (T := TX8) (N := 22) hx hb hts qi_X8_readsNumbers_X8 hown hK hP 0 rfl rfl 4 (by decide) (hts _ ql_X8_readsNumbers_75) (fun _ h9 => h9) rfl dX8_readsNumbers_34 ?_
      refine lv_iload hx hb dX8_readsNumbers_37 (lv_at hl 3 rfl) ?_
      refine lv_isub hx hb dX8_readsNumbers_39 ?_
      refine lv_iconst (v := (3 : Int32)) hx hb dX8_readsNumbers_40 (by decide) ?_
      refine lv_icmp_ge (tgt := 77) hx hb dX8_readsNumbers_41 (by decide) (fun c5 => ?_) (fun c5 => ?_)
      · have hV := hV.1 c5
        exact hE x5 z_at H locs ls hV hP hD hS (lv_sub hl [0, 1, 2, 3, 4] rfl)
      · have hV := hV.2 c5
        refine lv_bipush (v := (10 : Int32)) hx hb dX8_readsNumbers_44 (by decide) ?_
        refine lv_iload hx hb dX8_readsNumbers_46 (lv_at hl 4 rfl) ?_
        refine lv_imul hx hb dX8_readsNumbers_48 ?_
        refine lv_aload_n hx hb dX8_readsNumbers_49 rfl (lv_at hl 0 rfl) ?_
        refine va_get (D := (dC, dI)) (ci := 8) (v := .ref a_this_text) (C := RX8) (T := TX8) (N := 22) hx hb hts qi_X8_readsNumbers_X8 hown hK hP 0 rfl rfl 1 (by decide) (hts _ ql_X8_readsNumbers_13) (fun _ h9 => h9) rfl dX8_readsNumbers_50 ?_
        refine lv_aload_n hx hb dX8_readsNumbers_53 rfl (lv_at hl 0 rfl) ?_
        refine va_get (D := (dC, dI)) (ci := 8) (v := .int z_at) (C := RX8) (T := TX8) (N := 22) hx hb hts qi_X8_readsNumbers_X8 hown hK hP 0 rfl rfl 4 (by decide) (hts _ ql_X8_readsNumbers_75) (fun _ h9 => h9) rfl dX8_readsNumbers_54 ?_
        obtain ⟨h6, hV⟩ := hV
        refine va_iald hx hb hK hP 1 0 rfl rfl h6 dX8_readsNumbers_57 ?_
        refine lv_iadd hx hb dX8_readsNumbers_58 ?_
        refine lv_bipush (v := (48 : Int32)) hx hb dX8_readsNumbers_59 (by decide) ?_
        refine lv_isub hx hb dX8_readsNumbers_61 ?_
        refine lv_istore (lv' := [(5, .int ((((10 : Int32) * x5) + (z_text z_at.toNatClampNeg)) - (48 : Int32))), (0, .ref a_this), (1, .int x1), (3, .int x3), (4, .int x4)]) hx hb dX8_readsNumbers_62 hl (by decide) rfl (fun ls hl => ?_)
        refine lv_aload_n hx hb dX8_readsNumbers_64 rfl (lv_at hl 1 rfl) ?_
        refine lv_dup hx hb dX8_readsNumbers_65 rfl ?_
        refine va_get (D := (dC, dI)) (ci := 8) (v := .int z_at) (C := RX8) (T := TX8) (N := 22) hx hb hts qi_X8_readsNumbers_X8 hown hK hP 0 rfl rfl 4 (by decide) (hts _ ql_X8_readsNumbers_75) (fun _ h9 => h9) rfl dX8_readsNumbers_66 ?_
        refine lv_iconst (v := (1 : Int32)) hx hb dX8_readsNumbers_69 (by decide) ?_
        refine lv_iadd hx hb dX8_readsNumbers_70 ?_
        refine va_put (D := (dC, dI)) (ci := 8) (v := .int (z_at + (1 : Int32))) (ty := .int) (C := RX8) (T := TX8) (N := 22) hx hb hts qi_X8_readsNumbers_X8 tyX8 tyX8_ok nmX8 hown hK hP hD hS 0 rfl rfl 4 (by decide) (hts _ ql_X8_readsNumbers_75) (fun _ h9 => h9) rfl (by decide +kernel) rfl rfl (Nat.le_of_ble_eq_true rfl) dX8_readsNumbers_71 (fun H locs hP hD hS => ?_)
        have hP : va_P (dC, dI) vwCl (qw_X8_readsNumbers cI cJ cC cG cW a_this a_this_laid a_this_text a_this_read a_this_numbers a_this_where a_this_sorts a_this_tells a_this_undone a_this_parts a_this_goesWith a_this_with a_this_keeps z_letters (z_at + (1 : Int32)) z_walked z_counts z_undos z_all z_planned z_scale z_least z_kept z_text z_numbers) H := hP
        have hD : va_D A (qw_X8_readsNumbers cI cJ cC cG cW a_this a_this_laid a_this_text a_this_read a_this_numbers a_this_where a_this_sorts a_this_tells a_this_undone a_this_parts a_this_goesWith a_this_with a_this_keeps z_letters (z_at + (1 : Int32)) z_walked z_counts z_undos z_all z_planned z_scale z_least z_kept z_text z_numbers) := hD
        refine lv_goto (tgt := 22) hx hb dX8_readsNumbers_74 (by decide) ?_
        exact ih ((((10 : Int32) * x5) + (z_text z_at.toNatClampNeg)) - (48 : Int32)) (z_at + (1 : Int32)) H locs ls hV hP hD hS (lv_sub hl [1, 2, 3, 4, 0] rfl)
def qv_X8_readsNumbers_J145 (k0 : Int32) (x1 : Int32) (x3 : Int32) (z_letters : Int32) (z_at : Int32) (z_text : Nat → Int32) (z_numbers : Nat → Int32) (Post : Int32 → (Int32) → (Nat → Int32) → Prop) (K : (Int32) → (Int32) → (Int32) → (Nat → Int32) → Prop) (E : (Int32) → (Int32) → (Nat → Int32) → Prop) : Prop := K k0 (x3 + (1 : Int32)) (z_at + (1 : Int32)) z_numbers
set_option maxHeartbeats 4000000 in
set_option maxRecDepth 100000 in
theorem qt_X8_readsNumbers_J145 {p : Program} {l : Launch} {e : Env} {s : State} {m : MethodId} {args : Array Value} {below : List Frame} {meth : Method} {c : Code} {dC : Nat → ClassId} {dI : Nat → Nat → Nat} {cI cJ cC cG cW : ClassId} {a_this a_this_laid a_this_text a_this_read a_this_numbers a_this_where a_this_sorts a_this_tells a_this_undone a_this_parts a_this_goesWith a_this_with a_this_keeps : Nat} {A : Nat → Prop} (C0 : MC cX8_readsNumbers 6 (some .boolean) RX8 wsX8_readsNumbers p s m args meth c) (hK : va_K (dC, dI) vwCl (tyL cI cJ cC cG cW) s) (hN : NW s) (hA : ∀ q, s.heap.size ≤ q → A q) (z_letters : Int32) (z_at : Int32) (z_walked : Int32) (z_counts : Int32) (z_undos : Int32) (z_all : Int64) (z_planned : Int64) (z_scale : Int64) (z_least : Int32) (z_kept : Int32) (z_text : Nat → Int32) (z_numbers : Nat → Int32) (k0 : Int32) (x1 : Int32) (x3 : Int32) (Post : Int32 → (Int32) → (Nat → Int32) → Prop) (K : (Int32) → (Int32) → (Int32) → (Nat → Int32) → Prop) (E : (Int32) → (Int32) → (Nat → Int32) → Prop) (hKb : ∀ (x2 : Int32) (x3 : Int32) (z_at : Int32) (z_numbers : Nat → Int32) (H : Heap) (locs : List Loc) (ls : Array Slot), K x2 x3 z_at z_numbers → va_P (dC, dI) vwCl (qw_X8_readsNumbers cI cJ cC cG cW a_this a_this_laid a_this_text a_this_read a_this_numbers a_this_where a_this_sorts a_this_tells a_this_undone a_this_parts a_this_goesWith a_this_with a_this_keeps z_letters z_at z_walked z_counts z_undos z_all z_planned z_scale z_least z_kept z_text z_numbers) H → va_D A (qw_X8_readsNumbers cI cJ cC cG cW a_this a_this_laid a_this_text a_this_read a_this_numbers a_this_where a_this_sorts a_this_tells a_this_undone a_this_parts a_this_goesWith a_this_with a_this_keeps z_letters z_at z_walked z_counts z_undos z_all z_planned z_scale z_least z_kept z_text z_numbers) → va_S A s.heap H locs → lv_has ls 6 [(0, .ref a_this), (1, .int x1), (2, .int x2), (3, .int x3)] → W p l e ({ frames := 2, cells := 0, slots := 0, locals := 46 } : Room) s m args below meth c H locs 0 0 (MQ below (va_Qi (fun (r : Int32) (u : (Int32) × (Nat → Int32)) => Post r u.1 u.2) (fun u t => poW (dC, dI) (tyL cI cJ cC cG cW) A (qw_X8_readsNumbers cI cJ cC cG cW a_this a_this_laid a_this_text a_this_read a_this_numbers a_this_where a_this_sorts a_this_tells a_this_undone a_this_parts a_this_goesWith a_this_with a_this_keeps z_letters u.1 z_walked z_counts z_undos z_all z_planned z_scale z_least z_kept z_text u.2) t) A) args s 0 0 A) (F0 m 4 ls [])) (hE : ∀ (x2 : Int32) (z_at : Int32) (z_numbers : Nat → Int32) (H : Heap) (locs : List Loc) (ls : Array Slot), E x2 z_at z_numbers → va_P (dC, dI) vwCl (qw_X8_readsNumbers cI cJ cC cG cW a_this a_this_laid a_this_text a_this_read a_this_numbers a_this_where a_this_sorts a_this_tells a_this_undone a_this_parts a_this_goesWith a_this_with a_this_keeps z_letters z_at z_walked z_counts z_undos z_all z_planned z_scale z_least z_kept z_text z_numbers) H → va_D A (qw_X8_readsNumbers cI cJ cC cG cW a_this a_this_laid a_this_text a_this_read a_this_numbers a_this_where a_this_sorts a_this_tells a_this_undone a_this_parts a_this_goesWith a_this_with a_this_keeps z_letters z_at z_walked z_counts z_undos z_all z_planned z_scale z_least z_kept z_text z_numbers) → va_S A s.heap H locs → lv_has ls 6 [(2, .int x2)] → W p l e ({ frames := 2, cells := 0, slots := 0, locals := 46 } : Room) s m args below meth c H locs 0 0 (MQ below (va_Qi (fun (r : Int32) (u : (Int32) × (Nat → Int32)) => Post r u.1 u.2) (fun u t => poW (dC, dI) (tyL cI cJ cC cG cW) A (qw_X8_readsNumbers cI cJ cC cG cW a_this a_this_laid a_this_text a_this_read a_this_numbers a_this_where a_this_sorts a_this_tells a_this_undone a_this_parts a_this_goesWith a_this_with a_this_keeps z_letters u.1 z_walked z_counts z_undos z_all z_planned z_scale z_least z_kept z_text u.2) t) A) args s 0 0 A) (F0 m 162 ls [])) (H : Heap) (locs : List Loc) (ls : Array Slot) (hV : qv_X8_readsNumbers_J145 k0 x1 x3 z_letters z_at z_text z_numbers Post K E) (hP : va_P (dC, dI) vwCl (qw_X8_readsNumbers cI cJ cC cG cW a_this a_this_laid a_this_text a_this_read a_this_numbers a_this_where a_this_sorts a_this_tells a_this_undone a_this_parts a_this_goesWith a_this_with a_this_keeps z_letters z_at z_walked z_counts z_undos z_all z_planned z_scale z_least z_kept z_text z_numbers) H) (hD : va_D A (qw_X8_readsNumbers cI cJ cC cG cW a_this a_this_laid a_this_text a_this_read a_this_numbers a_this_where a_this_sorts a_this_tells a_this_undone a_this_parts a_this_goesWith a_this_with a_this_keeps z_letters z_at z_walked z_counts z_undos z_all z_planned z_scale z_least z_kept z_text z_numbers)) (hS : va_S A s.heap H locs) (hl : lv_has ls 6 [(0, .ref a_this), (1, .int x1), (3, .int x3)]) : W p l e ({ frames := 2, cells := 0, slots := 0, locals := 46 } : Room) s m args below meth c H locs 0 0 (MQ below (va_Qi (fun (r : Int32) (u : (Int32) × (Nat → Int32)) => Post r u.1 u.2) (fun u t => poW (dC, dI) (tyL cI cJ cC cG cW) A (qw_X8_readsNumbers cI cJ cC cG cW a_this a_this_laid a_this_text a_this_read a_this_numbers a_this_where a_this_sorts a_this_tells a_this_undone a_this_parts a_this_goesWith a_this_with a_this_keeps z_letters u.1 z_walked z_counts z_undos z_all z_planned z_scale z_least z_kept z_text u.2) t) A) args s 0 0 A) (F0 m 145 ls [.int k0]) := by
  obtain ⟨hx, hb, hr, hml, hown, hts, hlocks⟩ := id C0
  refine lv_istore_n (lv' := [(2, .int k0), (0, .ref a_this), (1, .int x1), (3, .int x3)]) hx hb dX8_readsNumbers_145 rfl hl (by decide) rfl (fun ls hl => ?_)
  refine lv_aload_n hx hb dX8_readsNumbers_146 rfl (lv_at hl 1 rfl) ?_
  refine lv_dup hx hb dX8_readsNumbers_147 rfl ?_
  refine va_get (D := (dC, dI)) (ci := 8) (v := .int z_at) (C := RX8) (T := TX8) (N := 22) hx hb hts qi_X8_readsNumbers_X8 hown hK hP 0 rfl rfl 4 (by decide) (hts _ ql_X8_readsNumbers_75) (fun _ h9 => h9) rfl dX8_readsNumbers_148 ?_
  refine lv_iconst (v := (1 : Int32)) hx hb dX8_readsNumbers_151 (by decide) ?_
  refine lv_iadd hx hb dX8_readsNumbers_152 ?_
  refine va_put (D := (dC, dI)) (ci := 8) (v := .int (z_at + (1 : Int32))) (ty := .int) (C := RX8) (T := TX8) (N := 22) hx hb hts qi_X8_readsNumbers_X8 tyX8 tyX8_ok nmX8 hown hK hP hD hS 0 rfl rfl 4 (by decide) (hts _ ql_X8_readsNumbers_75) (fun _ h9 => h9) rfl (by decide +kernel) rfl rfl (Nat.le_of_ble_eq_true rfl) dX8_readsNumbers_153 (fun H locs hP hD hS => ?_)
  have hP : va_P (dC, dI) vwCl (qw_X8_readsNumbers cI cJ cC cG cW a_this a_this_laid a_this_text a_this_read a_this_numbers a_this_where a_this_sorts a_this_tells a_this_undone a_this_parts a_this_goesWith a_this_with a_this_keeps z_letters (z_at + (1 : Int32)) z_walked z_counts z_undos z_all z_planned z_scale z_least z_kept z_text z_numbers) H := hP
  have hD : va_D A (qw_X8_readsNumbers cI cJ cC cG cW a_this a_this_laid a_this_text a_this_read a_this_numbers a_this_where a_this_sorts a_this_tells a_this_undone a_this_parts a_this_goesWith a_this_with a_this_keeps z_letters (z_at + (1 : Int32)) z_walked z_counts z_undos z_all z_planned z_scale z_least z_kept z_text z_numbers) := hD
  refine lv_iinc (v := (x3 + (1 : Int32))) (lv' := [(3, .int (x3 + (1 : Int32))), (2, .int k0), (0, .ref a_this), (1, .int x1)]) hx hb dX8_readsNumbers_156 hl (k := 3) rfl rfl (by decide) rfl (fun ls hl => ?_)
  refine lv_goto (tgt := 4) hx hb dX8_readsNumbers_159 (by decide) ?_
  exact hKb k0 (x3 + (1 : Int32)) (z_at + (1 : Int32)) z_numbers H locs ls hV hP hD hS (lv_sub hl [2, 3, 1, 0] rfl)
def qv_X8_readsNumbers_L4 (x1 : Int32) (z_letters : Int32) (z_text : Nat → Int32) (Post : Int32 → (Int32) → (Nat → Int32) → Prop) (E : (Int32) → (Int32) → (Nat → Int32) → Prop) : Nat → (Int32) → (Int32) → (Int32) → (Nat → Int32) → Prop
  | 0, _, _, _, _ => False
  | n + 1, x2, x3, z_at, z_numbers => (x1 ≤ x3 → E x2 z_at z_numbers) ∧ (¬ x1 ≤ x3 → (x2 = (0 : Int32) → E x2 z_at z_numbers) ∧ (¬ x2 = (0 : Int32) → ∃ n7, qv_X8_readsNumbers_L22 x1 x3 z_at z_letters z_text z_numbers Post (fun x5_7 z_at_7 => vp_in x3 3 ∧ (qv_X8_in ((z_at_7 - z_at).toInt64) (1 : Int64) (2 : Int64) (fun r9 => (r9 = (0 : Int32) → qv_X8_readsNumbers_J145 (0 : Int32) x1 x3 z_letters z_at_7 z_text (upd z_numbers x3.toNatClampNeg x5_7) Post (qv_X8_readsNumbers_L4 x1 z_letters z_text Post E n) E) ∧ (¬ r9 = (0 : Int32) → (z_letters ≤ z_at_7 → qv_X8_readsNumbers_J145 (0 : Int32) x1 x3 z_letters z_at_7 z_text (upd z_numbers x3.toNatClampNeg x5_7) Post (qv_X8_readsNumbers_L4 x1 z_letters z_text Post E n) E) ∧ (¬ z_letters ≤ z_at_7 → vp_in z_at_7 200 ∧ ((x3 = (x1 - (1 : Int32)) → ((z_text z_at_7.toNatClampNeg) = (59 : Int32) → qv_X8_readsNumbers_J145 (1 : Int32) x1 x3 z_letters z_at_7 z_text (upd z_numbers x3.toNatClampNeg x5_7) Post (qv_X8_readsNumbers_L4 x1 z_letters z_text Post E n) E) ∧ (¬ (z_text z_at_7.toNatClampNeg) = (59 : Int32) → qv_X8_readsNumbers_J145 (0 : Int32) x1 x3 z_letters z_at_7 z_text (upd z_numbers x3.toNatClampNeg x5_7) Post (qv_X8_readsNumbers_L4 x1 z_letters z_text Post E n) E)) ∧ (¬ x3 = (x1 - (1 : Int32)) → ((z_text z_at_7.toNatClampNeg) = (44 : Int32) → qv_X8_readsNumbers_J145 (1 : Int32) x1 x3 z_letters z_at_7 z_text (upd z_numbers x3.toNatClampNeg x5_7) Post (qv_X8_readsNumbers_L4 x1 z_letters z_text Post E n) E) ∧ (¬ (z_text z_at_7.toNatClampNeg) = (44 : Int32) → qv_X8_readsNumbers_J145 (0 : Int32) x1 x3 z_letters z_at_7 z_text (upd z_numbers x3.toNatClampNeg x5_7) Post (qv_X8_readsNumbers_L4 x1 z_letters z_text Post E n) E)))))))) n7 (0 : Int32) z_at))
set_option maxHeartbeats 4000000 in
set_option maxRecDepth 100000 in
theorem qt_X8_readsNumbers_L4 {p : Program} {l : Launch} {e : Env} {s : State} {m : MethodId} {args : Array Value} {below : List Frame} {meth : Method} {c : Code} {dC : Nat → ClassId} {dI : Nat → Nat → Nat} {cI cJ cC cG cW : ClassId} {a_this a_this_laid a_this_text a_this_read a_this_numbers a_this_where a_this_sorts a_this_tells a_this_undone a_this_parts a_this_goesWith a_this_with a_this_keeps : Nat} {A : Nat → Prop} (C0 : MC cX8_readsNumbers 6 (some .boolean) RX8 wsX8_readsNumbers p s m args meth c) (hK : va_K (dC, dI) vwCl (tyL cI cJ cC cG cW) s) (hN : NW s) (hA : ∀ q, s.heap.size ≤ q → A q) (z_letters : Int32) (z_walked : Int32) (z_counts : Int32) (z_undos : Int32) (z_all : Int64) (z_planned : Int64) (z_scale : Int64) (z_least : Int32) (z_kept : Int32) (z_text : Nat → Int32) (x1 : Int32) (Post : Int32 → (Int32) → (Nat → Int32) → Prop) (E : (Int32) → (Int32) → (Nat → Int32) → Prop) (hE : ∀ (x2 : Int32) (z_at : Int32) (z_numbers : Nat → Int32) (H : Heap) (locs : List Loc) (ls : Array Slot), E x2 z_at z_numbers → va_P (dC, dI) vwCl (qw_X8_readsNumbers cI cJ cC cG cW a_this a_this_laid a_this_text a_this_read a_this_numbers a_this_where a_this_sorts a_this_tells a_this_undone a_this_parts a_this_goesWith a_this_with a_this_keeps z_letters z_at z_walked z_counts z_undos z_all z_planned z_scale z_least z_kept z_text z_numbers) H → va_D A (qw_X8_readsNumbers cI cJ cC cG cW a_this a_this_laid a_this_text a_this_read a_this_numbers a_this_where a_this_sorts a_this_tells a_this_undone a_this_parts a_this_goesWith a_this_with a_this_keeps z_letters z_at z_walked z_counts z_undos z_all z_planned z_scale z_least z_kept z_text z_numbers) → va_S A s.heap H locs → lv_has ls 6 [(2, .int x2)] → W p l e ({ frames := 2, cells := 0, slots := 0, locals := 46 } : Room) s m args below meth c H locs 0 0 (MQ below (va_Qi (fun (r : Int32) (u : (Int32) × (Nat → Int32)) => Post r u.1 u.2) (fun u t => poW (dC, dI) (tyL cI cJ cC cG cW) A (qw_X8_readsNumbers cI cJ cC cG cW a_this a_this_laid a_this_text a_this_read a_this_numbers a_this_where a_this_sorts a_this_tells a_this_undone a_this_parts a_this_goesWith a_this_with a_this_keeps z_letters u.1 z_walked z_counts z_undos z_all z_planned z_scale z_least z_kept z_text u.2) t) A) args s 0 0 A) (F0 m 162 ls [])) : ∀ (n : Nat) (x2 : Int32) (x3 : Int32) (z_at : Int32) (z_numbers : Nat → Int32) (H : Heap) (locs : List Loc) (ls : Array Slot), qv_X8_readsNumbers_L4 x1 z_letters z_text Post E n x2 x3 z_at z_numbers → va_P (dC, dI) vwCl (qw_X8_readsNumbers cI cJ cC cG cW a_this a_this_laid a_this_text a_this_read a_this_numbers a_this_where a_this_sorts a_this_tells a_this_undone a_this_parts a_this_goesWith a_this_with a_this_keeps z_letters z_at z_walked z_counts z_undos z_all z_planned z_scale z_least z_kept z_text z_numbers) H → va_D A (qw_X8_readsNumbers cI cJ cC cG cW a_this a_this_laid a_this_text a_this_read a_this_numbers a_this_where a_this_sorts a_this_tells a_this_undone a_this_parts a_this_goesWith a_this_with a_this_keeps z_letters z_at z_walked z_counts z_undos z_all z_planned z_scale z_least z_kept z_text z_numbers) → va_S A s.heap H locs → lv_has ls 6 [(0, .ref a_this), (1, .int x1), (2, .int x2), (3, .int x3)] → W p l e ({ frames := 2, cells := 0, slots := 0, locals := 46 } : Room) s m args below meth c H locs 0 0 (MQ below (va_Qi (fun (r : Int32) (u : (Int32) × (Nat → Int32)) => Post r u.1 u.2) (fun u t => poW (dC, dI) (tyL cI cJ cC cG cW) A (qw_X8_readsNumbers cI cJ cC cG cW a_this a_this_laid a_this_text a_this_read a_this_numbers a_this_where a_this_sorts a_this_tells a_this_undone a_this_parts a_this_goesWith a_this_with a_this_keeps z_letters u.1 z_walked z_counts z_undos z_all z_planned z_scale z_least z_kept z_text u.2) t) A) args s 0 0 A) (F0 m 4 ls []) := by
  obtain ⟨hx, hb, hr, hml, hown, hts, hlocks⟩ := id C0
  intro n
  induction n with
  | zero =>
    intro x2 x3 z_at z_numbers H locs ls hV
    exact False.elim hV
  | succ n ih =>
    intro x2 x3 z_at z_numbers H locs ls hV hP hD hS hl
    refine lv_iload_n hx hb dX8_readsNumbers_4 rfl (lv_at hl 3 rfl) ?_
    refine lv_iload_n hx hb dX8_readsNumbers_5 rfl (lv_at hl 1 rfl) ?_
    refine lv_icmp_ge (tgt := 162) hx hb dX8_readsNumbers_6 (by decide) (fun c1 => ?_) (fun c1 => ?_)
    · have hV := hV.1 c1
      exact hE x2 z_at z_numbers H locs ls hV hP hD hS (lv_sub hl [2] rfl)
    · have hV := hV.2 c1
      refine lv_iload_n hx hb dX8_readsNumbers_9 rfl (lv_at hl 2 rfl) ?_
      refine lv_if_eq (tgt := 162) hx hb dX8_readsNumbers_10 (by decide) (fun c2 => ?_) (fun c2 => ?_)
      · have hV := hV.1 c2
        exact hE x2 z_at z_numbers H locs ls hV hP hD hS (lv_sub hl [2] rfl)
      · have hV := hV.2 c2
        refine lv_aload_n hx hb dX8_readsNumbers_13 rfl (lv_at hl 0 rfl) ?_
        refine va_get (D := (dC, dI)) (ci := 8) (v := .int z_at) (C := RX8) (T := TX8) (N := 22) hx hb hts qi_X8_readsNumbers_X8 hown hK hP 0 rfl rfl 4 (by decide) (hts _ ql_X8_readsNumbers_75) (fun _ h9 => h9) rfl dX8_readsNumbers_14 ?_
        refine lv_istore (lv' := [(4, .int z_at), (0, .ref a_this), (1, .int x1), (2, .int x2), (3, .int x3)]) hx hb dX8_readsNumbers_17 hl (by decide) rfl (fun ls hl => ?_)
        refine lv_iconst (v := (0 : Int32)) hx hb dX8_readsNumbers_19 (by decide) ?_
        refine lv_istore (lv' := [(5, .int (0 : Int32)), (4, .int z_at), (0, .ref a_this), (1, .int x1), (2, .int x2), (3, .int x3)]) hx hb dX8_readsNumbers_20 hl (by decide) rfl (fun ls hl => ?_)
        obtain ⟨n7, hV⟩ := hV
        refine qt_X8_readsNumbers_L22 C0 hK hN hA z_letters z_walked z_counts z_undos z_all z_planned z_scale z_least z_kept z_text z_numbers x1 x3 z_at _ _ (fun x5_7 z_at_7 H locs ls hV hP hD hS hl => ?_) n7 (0 : Int32) z_at H locs ls hV hP hD hS (lv_sub hl [2, 3, 5, 1, 0] rfl)
        refine lv_aload_n hx hb dX8_readsNumbers_77 rfl (lv_at hl 0 rfl) ?_
        refine va_get (D := (dC, dI)) (ci := 8) (v := .ref a_this_numbers) (C := RX8) (T := TX8) (N := 22) hx hb hts qi_X8_readsNumbers_X8 hown hK hP 0 rfl rfl 5 (by decide) (hts _ ql_X8_readsNumbers_19) (fun _ h9 => h9) rfl dX8_readsNumbers_78 ?_
        refine lv_iload_n hx hb dX8_readsNumbers_81 rfl (lv_at hl 2 rfl) ?_
        refine lv_iload hx hb dX8_readsNumbers_82 (lv_at hl 4 rfl) ?_
        obtain ⟨h8, hV⟩ := hV
        refine va_iast hx hb hK hP hD hS 2 0 rfl rfl h8 dX8_readsNumbers_84 (fun H locs hP hD hS => ?_)
        have hP : va_P (dC, dI) vwCl (qw_X8_readsNumbers cI cJ cC cG cW a_this a_this_laid a_this_text a_this_read a_this_numbers a_this_where a_this_sorts a_this_tells a_this_undone a_this_parts a_this_goesWith a_this_with a_this_keeps z_letters z_at_7 z_walked z_counts z_undos z_all z_planned z_scale z_least z_kept z_text (upd z_numbers x3.toNatClampNeg x5_7)) H := hP
        have hD : va_D A (qw_X8_readsNumbers cI cJ cC cG cW a_this a_this_laid a_this_text a_this_read a_this_numbers a_this_where a_this_sorts a_this_tells a_this_undone a_this_parts a_this_goesWith a_this_with a_this_keeps z_letters z_at_7 z_walked z_counts z_undos z_all z_planned z_scale z_least z_kept z_text (upd z_numbers x3.toNatClampNeg x5_7)) := hD
        refine lv_aload_n hx hb dX8_readsNumbers_85 rfl (lv_at hl 0 rfl) ?_
        refine va_get (D := (dC, dI)) (ci := 8) (v := .int z_at_7) (C := RX8) (T := TX8) (N := 22) hx hb hts qi_X8_readsNumbers_X8 hown hK hP 0 rfl rfl 4 (by decide) (hts _ ql_X8_readsNumbers_75) (fun _ h9 => h9) rfl dX8_readsNumbers_86 ?_
        refine lv_iload hx hb dX8_readsNumbers_89 (lv_at hl 3 rfl) ?_
        refine lv_isub hx hb dX8_readsNumbers_91 ?_
        refine lv_i2l hx hb dX8_readsNumbers_92 rfl ?_
        refine lv_lconst (v := (1 : Int64)) hx hb dX8_readsNumbers_93 (by decide) ?_
        refine lv_ldc2 (v := (2 : Int64)) hx hb hown (hts _ ql_X8_readsNumbers_82) dX8_readsNumbers_94 ?_
        refine vp_callSi (va_Run.run (va_runS (As := [.long ((z_at_7 - z_at).toInt64), .long (1 : Int64), .long (2 : Int64)]) (rest := []) ⟨hx, hb, hml, hown, hts⟩ (qm_X8_in l dC dI cI cJ cC cG cW ((z_at_7 - z_at).toInt64) (1 : Int64) (2 : Int64) _ hV) (va_cwS 3 hts gX8_readsNumbers_X8_in rfl rfl rfl (by decide +kernel) ⟨Nat.le_of_ble_eq_true rfl, Nat.le_of_ble_eq_true rfl⟩) (preRS hK hN (show va_P (dC, dI) vwCl (qw_X8_in cI cJ cC cG cW) H from fun k q h => by simp at h)) rfl rfl hl.1 rfl (lv_room (Nat.le_of_ble_eq_true rfl)) dX8_readsNumbers_97 ⟨Nat.le_of_ble_eq_true rfl, Nat.le_of_ble_eq_true rfl⟩)) (fun r9 hV => ?_)
        refine lv_if_eq (tgt := 144) hx hb dX8_readsNumbers_100 (by decide) (fun c10 => ?_) (fun c10 => ?_)
        · have hV := hV.1 c10
          refine lv_iconst (v := (0 : Int32)) hx hb dX8_readsNumbers_144 (by decide) ?_
          exact qt_X8_readsNumbers_J145 C0 hK hN hA z_letters z_at_7 z_walked z_counts z_undos z_all z_planned z_scale z_least z_kept z_text (upd z_numbers x3.toNatClampNeg x5_7) (0 : Int32) x1 x3 _ _ _ ih hE H locs ls hV hP hD hS (lv_sub hl [0, 1, 2] rfl)
        · have hV := hV.2 c10
          refine lv_aload_n hx hb dX8_readsNumbers_103 rfl (lv_at hl 0 rfl) ?_
          refine va_get (D := (dC, dI)) (ci := 8) (v := .int z_at_7) (C := RX8) (T := TX8) (N := 22) hx hb hts qi_X8_readsNumbers_X8 hown hK hP 0 rfl rfl 4 (by decide) (hts _ ql_X8_readsNumbers_75) (fun _ h9 => h9) rfl dX8_readsNumbers_104 ?_
          refine lv_aload_n hx hb dX8_readsNumbers_107 rfl (lv_at hl 0 rfl) ?_
          refine va_get (D := (dC, dI)) (ci := 8) (v := .int z_letters) (C := RX8) (T := TX8) (N := 22) hx hb hts qi_X8_readsNumbers_X8 hown hK hP 0 rfl rfl 2 (by decide) (hts _ ql_X8_readsNumbers_67) (fun _ h9 => h9) rfl dX8_readsNumbers_108 ?_
          refine lv_icmp_ge (tgt := 144) hx hb dX8_readsNumbers_111 (by decide) (fun c11 => ?_) (fun c11 => ?_)
          · have hV := hV.1 c11
            refine lv_iconst (v := (0 : Int32)) hx hb dX8_readsNumbers_144 (by decide) ?_
            exact qt_X8_readsNumbers_J145 C0 hK hN hA z_letters z_at_7 z_walked z_counts z_undos z_all z_planned z_scale z_least z_kept z_text (upd z_numbers x3.toNatClampNeg x5_7) (0 : Int32) x1 x3 _ _ _ ih hE H locs ls hV hP hD hS (lv_sub hl [0, 1, 2] rfl)
          · have hV := hV.2 c11
            refine lv_aload_n hx hb dX8_readsNumbers_114 rfl (lv_at hl 0 rfl) ?_
            refine va_get (D := (dC, dI)) (ci := 8) (v := .ref a_this_text) (C := RX8) (T := TX8) (N := 22) hx hb hts qi_X8_readsNumbers_X8 hown hK hP 0 rfl rfl 1 (by decide) (hts _ ql_X8_readsNumbers_13) (fun _ h9 => h9) rfl dX8_readsNumbers_115 ?_
            refine lv_aload_n hx hb dX8_readsNumbers_118 rfl (lv_at hl 0 rfl) ?_
            refine va_get (D := (dC, dI)) (ci := 8) (v := .int z_at_7) (C := RX8) (T := TX8) (N := 22) hx hb hts qi_X8_readsNumbers_X8 hown hK hP 0 rfl rfl 4 (by decide) (hts _ ql_X8_readsNumbers_75) (fun _ h9 => h9) rfl dX8_readsNumbers_119 ?_
            obtain ⟨h12, hV⟩ := hV
            refine va_iald hx hb hK hP 1 0 rfl rfl h12 dX8_readsNumbers_122 ?_
            refine lv_iload_n hx hb dX8_readsNumbers_123 rfl (lv_at hl 2 rfl) ?_
            refine lv_iload_n hx hb dX8_readsNumbers_124 rfl (lv_at hl 1 rfl) ?_
            refine lv_iconst (v := (1 : Int32)) hx hb dX8_readsNumbers_125 (by decide) ?_
            refine lv_isub hx hb dX8_readsNumbers_126 ?_
            refine lv_icmp_ne (tgt := 135) hx hb dX8_readsNumbers_127 (by decide) (fun c13 => ?_) (fun c13 => ?_)
            · have hV := hV.2 c13
              refine lv_bipush (v := (44 : Int32)) hx hb dX8_readsNumbers_135 (by decide) ?_
              refine lv_icmp_ne (tgt := 144) hx hb dX8_readsNumbers_137 (by decide) (fun c14 => ?_) (fun c14 => ?_)
              · have hV := hV.2 c14
                refine lv_iconst (v := (0 : Int32)) hx hb dX8_readsNumbers_144 (by decide) ?_
                exact qt_X8_readsNumbers_J145 C0 hK hN hA z_letters z_at_7 z_walked z_counts z_undos z_all z_planned z_scale z_least z_kept z_text (upd z_numbers x3.toNatClampNeg x5_7) (0 : Int32) x1 x3 _ _ _ ih hE H locs ls hV hP hD hS (lv_sub hl [0, 1, 2] rfl)
              · have hV := hV.1 c14
                refine lv_iconst (v := (1 : Int32)) hx hb dX8_readsNumbers_140 (by decide) ?_
                refine lv_goto (tgt := 145) hx hb dX8_readsNumbers_141 (by decide) ?_
                exact qt_X8_readsNumbers_J145 C0 hK hN hA z_letters z_at_7 z_walked z_counts z_undos z_all z_planned z_scale z_least z_kept z_text (upd z_numbers x3.toNatClampNeg x5_7) (1 : Int32) x1 x3 _ _ _ ih hE H locs ls hV hP hD hS (lv_sub hl [0, 1, 2] rfl)
            · have hV := hV.1 c13
              refine lv_bipush (v := (59 : Int32)) hx hb dX8_readsNumbers_130 (by decide) ?_
              refine lv_goto (tgt := 137) hx hb dX8_readsNumbers_132 (by decide) ?_
              refine lv_icmp_ne (tgt := 144) hx hb dX8_readsNumbers_137 (by decide) (fun c15 => ?_) (fun c15 => ?_)
              · have hV := hV.2 c15
                refine lv_iconst (v := (0 : Int32)) hx hb dX8_readsNumbers_144 (by decide) ?_
                exact qt_X8_readsNumbers_J145 C0 hK hN hA z_letters z_at_7 z_walked z_counts z_undos z_all z_planned z_scale z_least z_kept z_text (upd z_numbers x3.toNatClampNeg x5_7) (0 : Int32) x1 x3 _ _ _ ih hE H locs ls hV hP hD hS (lv_sub hl [0, 1, 2] rfl)
              · have hV := hV.1 c15
                refine lv_iconst (v := (1 : Int32)) hx hb dX8_readsNumbers_140 (by decide) ?_
                refine lv_goto (tgt := 145) hx hb dX8_readsNumbers_141 (by decide) ?_
                exact qt_X8_readsNumbers_J145 C0 hK hN hA z_letters z_at_7 z_walked z_counts z_undos z_all z_planned z_scale z_least z_kept z_text (upd z_numbers x3.toNatClampNeg x5_7) (1 : Int32) x1 x3 _ _ _ ih hE H locs ls hV hP hD hS (lv_sub hl [0, 1, 2] rfl)
def qv_X8_readsNumbers (x1 : Int32) (z_letters : Int32) (z_at : Int32) (z_text : Nat → Int32) (z_numbers : Nat → Int32) (Post : Int32 → (Int32) → (Nat → Int32) → Prop) : Prop := ∃ n16, qv_X8_readsNumbers_L4 x1 z_letters z_text Post (fun x2_16 z_at_16 z_numbers_16 => narrow .boolean (.int x2_16) = .int x2_16 ∧ Post x2_16 z_at_16 z_numbers_16) n16 (1 : Int32) (0 : Int32) z_at z_numbers
set_option maxHeartbeats 4000000 in
set_option maxRecDepth 100000 in
theorem qm_X8_readsNumbers (l : Launch) (dC : Nat → ClassId) (dI : Nat → Nat → Nat) (cI cJ cC cG cW : ClassId) (a_this a_this_laid a_this_text a_this_read a_this_numbers a_this_where a_this_sorts a_this_tells a_this_undone a_this_parts a_this_goesWith a_this_with a_this_keeps : Nat) (z_letters : Int32) (z_at : Int32) (z_walked : Int32) (z_counts : Int32) (z_undos : Int32) (z_all : Int64) (z_planned : Int64) (z_scale : Int64) (z_least : Int32) (z_kept : Int32) (z_text : Nat → Int32) (z_numbers : Nat → Int32) (sz : Nat) (x1 : Int32) (Post : Int32 → (Int32) → (Nat → Int32) → Prop) (hV : qv_X8_readsNumbers x1 z_letters z_at z_text z_numbers Post) : Met l yX8_readsNumbers wsX8_readsNumbers ({ frames := 2, cells := 0, slots := 0, locals := 46 } : Room) (va_Pc [.ref a_this, .int x1] (prW (dC, dI) (qw_X8_readsNumbers cI cJ cC cG cW a_this a_this_laid a_this_text a_this_read a_this_numbers a_this_where a_this_sorts a_this_tells a_this_undone a_this_parts a_this_goesWith a_this_with a_this_keeps z_letters z_at z_walked z_counts z_undos z_all z_planned z_scale z_least z_kept z_text z_numbers) (tyL cI cJ cC cG cW) sz)) (va_Qi (fun (r : Int32) (u : (Int32) × (Nat → Int32)) => Post r u.1 u.2) (fun u t => poW (dC, dI) (tyL cI cJ cC cG cW) (va_A (qw_X8_readsNumbers cI cJ cC cG cW a_this a_this_laid a_this_text a_this_read a_this_numbers a_this_where a_this_sorts a_this_tells a_this_undone a_this_parts a_this_goesWith a_this_with a_this_keeps z_letters z_at z_walked z_counts z_undos z_all z_planned z_scale z_least z_kept z_text z_numbers) sz) (qw_X8_readsNumbers cI cJ cC cG cW a_this a_this_laid a_this_text a_this_read a_this_numbers a_this_where a_this_sorts a_this_tells a_this_undone a_this_parts a_this_goesWith a_this_with a_this_keeps z_letters u.1 z_walked z_counts z_undos z_all z_planned z_scale z_least z_kept z_text u.2) t) (va_A (qw_X8_readsNumbers cI cJ cC cG cW a_this a_this_laid a_this_text a_this_read a_this_numbers a_this_where a_this_sorts a_this_tells a_this_undone a_this_parts a_this_goesWith a_this_with a_this_keeps z_letters z_at z_walked z_counts z_undos z_all z_planned z_scale z_least z_kept z_text z_numbers) sz)) 0 0 (va_A (qw_X8_readsNumbers cI cJ cC cG cW a_this a_this_laid a_this_text a_this_read a_this_numbers a_this_where a_this_sorts a_this_tells a_this_undone a_this_parts a_this_goesWith a_this_with a_this_keeps z_letters z_at z_walked z_counts z_undos z_all z_planned z_scale z_least z_kept z_text z_numbers) sz) := by
  refine Met.ofM (Qc := fun A => va_Qi (fun (r : Int32) (u : (Int32) × (Nat → Int32)) => Post r u.1 u.2) (fun u t => poW (dC, dI) (tyL cI cJ cC cG cW) A (qw_X8_readsNumbers cI cJ cC cG cW a_this a_this_laid a_this_text a_this_read a_this_numbers a_this_where a_this_sorts a_this_tells a_this_undone a_this_parts a_this_goesWith a_this_with a_this_keeps z_letters u.1 z_walked z_counts z_undos z_all z_planned z_scale z_least z_kept z_text u.2) t) A) (nm := "readsNumbers") (ds := "(I)Z") (own := RX8) (maxL := 6) (cc := cX8_readsNumbers) (ret := (some .boolean)) (by decide) rfl rfl (Nat.le_of_ble_eq_true rfl) (fun p e s m below meth c A C0 hin hK hN hA hP hD hS ls hl => ?_)
  obtain ⟨hx, hb, hr, hml, hown, hts, hlocks⟩ := id C0
  have hl : lv_has ls 6 [(0, .ref a_this), (1, .int x1)] := hl
  obtain ⟨H, hH⟩ : ∃ h : Heap, h = s.heap := ⟨_, rfl⟩
  obtain ⟨locs, hLc⟩ : ∃ L : List Loc, L = [] := ⟨_, rfl⟩
  have hS : va_S A s.heap H locs := by rw [hH, hLc]; exact hS
  rw [← hH] at hP
  rw [← hLc, ← hH]
  clear hH hLc
  refine lv_iconst (v := (1 : Int32)) hx hb dX8_readsNumbers_0 (by decide) ?_
  refine lv_istore_n (lv' := [(2, .int (1 : Int32)), (0, .ref a_this), (1, .int x1)]) hx hb dX8_readsNumbers_1 rfl hl (by decide) rfl (fun ls hl => ?_)
  refine lv_iconst (v := (0 : Int32)) hx hb dX8_readsNumbers_2 (by decide) ?_
  refine lv_istore_n (lv' := [(3, .int (0 : Int32)), (2, .int (1 : Int32)), (0, .ref a_this), (1, .int x1)]) hx hb dX8_readsNumbers_3 rfl hl (by decide) rfl (fun ls hl => ?_)
  obtain ⟨n16, hV⟩ := hV
  refine qt_X8_readsNumbers_L4 C0 hK hN hA z_letters z_walked z_counts z_undos z_all z_planned z_scale z_least z_kept z_text x1 _ _ (fun x2_16 z_at_16 z_numbers_16 H locs ls hV hP hD hS hl => ?_) n16 (1 : Int32) (0 : Int32) z_at z_numbers H locs ls hV hP hD hS (lv_sub hl [2, 3, 1, 0] rfl)
  refine lv_iload_n hx hb dX8_readsNumbers_162 rfl (lv_at hl 0 rfl) ?_
  obtain ⟨hn17, hV⟩ := hV
  exact W.zret hx hb hr hn17 (fun t ht hW => ⟨⟨_, (z_at_16, z_numbers_16), rfl, hV, ⟨by rw [ht]; exact hP, va_K.moved hW.alike hK, hD⟩⟩, hS.F ht⟩) hS.2.2 dX8_readsNumbers_163 hlocks

/-! StileCountsModel.readsStretch()Z -/
abbrev qw_X8_readsStretch (cI cJ cC cG cW : ClassId) (a_this a_this_laid a_this_text a_this_read a_this_numbers a_this_where a_this_sorts a_this_tells a_this_undone a_this_parts a_this_goesWith a_this_with a_this_keeps : Nat) (z_letters : Int32) (z_at : Int32) (z_walked : Int32) (z_counts : Int32) (z_undos : Int32) (z_all : Int64) (z_planned : Int64) (z_scale : Int64) (z_least : Int32) (z_kept : Int32) (z_text : Nat → Int32) (z_read : Nat → Int32) (z_numbers : Nat → Int32) : va_W := [(a_this, .inr (8, [.ref a_this_laid, .ref a_this_text, .int z_letters, .ref a_this_read, .int z_at, .ref a_this_numbers, .int z_walked, .int z_counts, .ref a_this_where, .ref a_this_sorts, .ref a_this_tells, .int z_undos, .ref a_this_undone, .ref a_this_parts, .long z_all, .long z_planned, .long z_scale, .ref a_this_goesWith, .int z_least, .ref a_this_with, .int z_kept, .ref a_this_keeps])), (a_this_text, .inl (cI, 200, .inl z_text)), (a_this_read, .inl (cI, 73, .inl z_read)), (a_this_numbers, .inl (cI, 3, .inl z_numbers))]
theorem qi_X8_readsStretch_X8 : ∀ w ∈ wsX80, w ∈ wsX8_readsStretch := by decide +kernel
theorem ql_X8_readsStretch_16 : (.fieldLink RX8 16 "StileCountsModel" "read" "[I" : Cond) ∈ wsX8_readsStretch := by decide +kernel
theorem ql_X8_readsStretch_19 : (.fieldLink RX8 19 "StileCountsModel" "numbers" "[I" : Cond) ∈ wsX8_readsStretch := by decide +kernel
theorem ql_X8_readsStretch_87 : (.constantLong RX8 87 (60 : Int64) : Cond) ∈ wsX8_readsStretch := by decide +kernel
def qv_X8_readsStretch_L66 (x1 : Int32) (z_letters : Int32) (z_at : Int32) (z_text : Nat → Int32) (z_numbers : Nat → Int32) (Post : Int32 → (Int32) → (Nat → Int32) → (Nat → Int32) → Prop) (E : (Nat → Int32) → Prop) : Nat → (Int32) → (Nat → Int32) → Prop
  | 0, _, _ => False
  | n + 1, x2, z_read => ((3 : Int32) ≤ x2 → E z_read) ∧ (¬ (3 : Int32) ≤ x2 → (x1 = (0 : Int32) → E z_read) ∧ (¬ x1 = (0 : Int32) → vp_in (0 : Int32) 73 ∧ (vp_in x2 3 ∧ (vp_in (((5 : Int32) + ((3 : Int32) * (z_read (0 : Int32).toNatClampNeg))) + x2) 73 ∧ (qv_X8_readsStretch_L66 x1 z_letters z_at z_text z_numbers Post E n (x2 + (1 : Int32)) (upd z_read (((5 : Int32) + ((3 : Int32) * (z_read (0 : Int32).toNatClampNeg))) + x2).toNatClampNeg (z_numbers x2.toNatClampNeg)))))))
set_option maxHeartbeats 4000000 in
set_option maxRecDepth 100000 in
theorem qt_X8_readsStretch_L66 {p : Program} {l : Launch} {e : Env} {s : State} {m : MethodId} {args : Array Value} {below : List Frame} {meth : Method} {c : Code} {dC : Nat → ClassId} {dI : Nat → Nat → Nat} {cI cJ cC cG cW : ClassId} {a_this a_this_laid a_this_text a_this_read a_this_numbers a_this_where a_this_sorts a_this_tells a_this_undone a_this_parts a_this_goesWith a_this_with a_this_keeps : Nat} {A : Nat → Prop} (C0 : MC cX8_readsStretch 3 (some .boolean) RX8 wsX8_readsStretch p s m args meth c) (hK : va_K (dC, dI) vwCl (tyL cI cJ cC cG cW) s) (hN : NW s) (hA : ∀ q, s.heap.size ≤ q → A q) (z_letters : Int32) (z_at : Int32) (z_walked : Int32) (z_counts : Int32) (z_undos : Int32) (z_all : Int64) (z_planned : Int64) (z_scale : Int64) (z_least : Int32) (z_kept : Int32) (z_text : Nat → Int32) (z_numbers : Nat → Int32) (x1 : Int32) (Post : Int32 → (Int32) → (Nat → Int32) → (Nat → Int32) → Prop) (E : (Nat → Int32) → Prop) (hE : ∀ (z_read : Nat → Int32) (H : Heap) (locs : List Loc) (ls : Array Slot), E z_read → va_P (dC, dI) vwCl (qw_X8_readsStretch cI cJ cC cG cW a_this a_this_laid a_this_text a_this_read a_this_numbers a_this_where a_this_sorts a_this_tells a_this_undone a_this_parts a_this_goesWith a_this_with a_this_keeps z_letters z_at z_walked z_counts z_undos z_all z_planned z_scale z_least z_kept z_text z_read z_numbers) H → va_D A (qw_X8_readsStretch cI cJ cC cG cW a_this a_this_laid a_this_text a_this_read a_this_numbers a_this_where a_this_sorts a_this_tells a_this_undone a_this_parts a_this_goesWith a_this_with a_this_keeps z_letters z_at z_walked z_counts z_undos z_all z_planned z_scale z_least z_kept z_text z_read z_numbers) → va_S A s.heap H locs → lv_has ls 3 [(0, .ref a_this), (1, .int x1)] → W p l e ({ frames := 3, cells := 0, slots := 0, locals := 71 } : Room) s m args below meth c H locs 0 0 (MQ below (va_Qi (fun (r : Int32) (u : (Int32) × (Nat → Int32) × (Nat → Int32)) => Post r u.1 u.2.1 u.2.2) (fun u t => poW (dC, dI) (tyL cI cJ cC cG cW) A (qw_X8_readsStretch cI cJ cC cG cW a_this a_this_laid a_this_text a_this_read a_this_numbers a_this_where a_this_sorts a_this_tells a_this_undone a_this_parts a_this_goesWith a_this_with a_this_keeps z_letters u.1 z_walked z_counts z_undos z_all z_planned z_scale z_least z_kept z_text u.2.1 u.2.2) t) A) args s 0 0 A) (F0 m 104 ls [])) : ∀ (n : Nat) (x2 : Int32) (z_read : Nat → Int32) (H : Heap) (locs : List Loc) (ls : Array Slot), qv_X8_readsStretch_L66 x1 z_letters z_at z_text z_numbers Post E n x2 z_read → va_P (dC, dI) vwCl (qw_X8_readsStretch cI cJ cC cG cW a_this a_this_laid a_this_text a_this_read a_this_numbers a_this_where a_this_sorts a_this_tells a_this_undone a_this_parts a_this_goesWith a_this_with a_this_keeps z_letters z_at z_walked z_counts z_undos z_all z_planned z_scale z_least z_kept z_text z_read z_numbers) H → va_D A (qw_X8_readsStretch cI cJ cC cG cW a_this a_this_laid a_this_text a_this_read a_this_numbers a_this_where a_this_sorts a_this_tells a_this_undone a_this_parts a_this_goesWith a_this_with a_this_keeps z_letters z_at z_walked z_counts z_undos z_all z_planned z_scale z_least z_kept z_text z_read z_numbers) → va_S A s.heap H locs → lv_has ls 3 [(0, .ref a_this), (1, .int x1), (2, .int x2)] → W p l e ({ frames := 3, cells := 0, slots := 0, locals := 71 } : Room) s m args below meth c H locs 0 0 (MQ below (va_Qi (fun (r : Int32) (u : (Int32) × (Nat → Int32) × (Nat → Int32)) => Post r u.1 u.2.1 u.2.2) (fun u t => poW (dC, dI) (tyL cI cJ cC cG cW) A (qw_X8_readsStretch cI cJ cC cG cW a_this a_this_laid a_this_text a_this_read a_this_numbers a_this_where a_this_sorts a_this_tells a_this_undone a_this_parts a_this_goesWith a_this_with a_this_keeps z_letters u.1 z_walked z_counts z_undos z_all z_planned z_scale z_least z_kept z_text u.2.1 u.2.2) t) A) args s 0 0 A) (F0 m 66 ls []) := by
  obtain ⟨hx, hb, hr, hml, hown, hts, hlocks⟩ := id C0
  intro n
  induction n with
  | zero =>
    intro x2 z_read H locs ls hV
    exact False.elim hV
  | succ n ih =>
    intro x2 z_read H locs ls hV hP hD hS hl
    refine lv_iload_n hx hb dX8_readsStretch_66 rfl (lv_at hl 2 rfl) ?_
    refine lv_iconst (v := (3 : Int32)) hx hb dX8_readsStretch_67 (by decide) ?_
    refine lv_icmp_ge (tgt := 104) hx hb dX8_readsStretch_68 (by decide) (fun c3 => ?_) (fun c3 => ?_)
    · have hV := hV.1 c3
      exact hE z_read H locs ls hV hP hD hS (lv_sub hl [0, 1] rfl)
    · have hV := hV.2 c3
      refine lv_iload_n hx hb dX8_readsStretch_71 rfl (lv_at hl 1 rfl) ?_
      refine lv_if_eq (tgt := 104) hx hb dX8_readsStretch_72 (by decide) (fun c4 => ?_) (fun c4 => ?_)
      · have hV := hV.1 c4
        exact hE z_read H locs ls hV hP hD hS (lv_sub hl [0, 1] rfl)
      · have hV := hV.2 c4
        refine lv_aload_n hx hb dX8_readsStretch_75 rfl (lv_at hl 0 rfl) ?_
        refine va_get (D := (dC, dI)) (ci := 8) (v := .ref a_this_read) (C := RX8) (T := TX8) (N := 22) hx hb hts qi_X8_readsStretch_X8 hown hK hP 0 rfl rfl 3 (by decide) (hts _ ql_X8_readsStretch_16) (fun _ h9 => h9) rfl dX8_readsStretch_76 ?_
        refine lv_iconst (v := (5 : Int32)) hx hb dX8_readsStretch_79 (by decide) ?_
        refine lv_iconst (v := (3 : Int32)) hx hb dX8_readsStretch_80 (by decide) ?_
        refine lv_aload_n hx hb dX8_readsStretch_81 rfl (lv_at hl 0 rfl) ?_
        refine va_get (D := (dC, dI)) (ci := 8) (v := .ref a_this_read) (C := RX8) (T := TX8) (N := 22) hx hb hts qi_X8_readsStretch_X8 hown hK hP 0 rfl rfl 3 (by decide) (hts _ ql_X8_readsStretch_16) (fun _ h9 => h9) rfl dX8_readsStretch_82 ?_
        refine lv_iconst (v := (0 : Int32)) hx hb dX8_readsStretch_85 (by decide) ?_
        obtain ⟨h5, hV⟩ := hV
        refine va_iald hx hb hK hP 2 0 rfl rfl h5 dX8_readsStretch_86 ?_
        refine lv_imul hx hb dX8_readsStretch_87 ?_
        refine lv_iadd hx hb dX8_readsStretch_88 ?_
        refine lv_iload_n hx hb dX8_readsStretch_89 rfl (lv_at hl 2 rfl) ?_
        refine lv_iadd hx hb dX8_readsStretch_90 ?_
        refine lv_aload_n hx hb dX8_readsStretch_91 rfl (lv_at hl 0 rfl) ?_
        refine va_get (D := (dC, dI)) (ci := 8) (v := .ref a_this_numbers) (C := RX8) (T := TX8) (N := 22) hx hb hts qi_X8_readsStretch_X8 hown hK hP 0 rfl rfl 5 (by decide) (hts _ ql_X8_readsStretch_19) (fun _ h9 => h9) rfl dX8_readsStretch_92 ?_
        refine lv_iload_n hx hb dX8_readsStretch_95 rfl (lv_at hl 2 rfl) ?_
        obtain ⟨h6, hV⟩ := hV
        refine va_iald hx hb hK hP 3 0 rfl rfl h6 dX8_readsStretch_96 ?_
        obtain ⟨h7, hV⟩ := hV
        refine va_iast hx hb hK hP hD hS 2 0 rfl rfl h7 dX8_readsStretch_97 (fun H locs hP hD hS => ?_)
        have hP : va_P (dC, dI) vwCl (qw_X8_readsStretch cI cJ cC cG cW a_this a_this_laid a_this_text a_this_read a_this_numbers a_this_where a_this_sorts a_this_tells a_this_undone a_this_parts a_this_goesWith a_this_with a_this_keeps z_letters z_at z_walked z_counts z_undos z_all z_planned z_scale z_least z_kept z_text (upd z_read (((5 : Int32) + ((3 : Int32) * (z_read (0 : Int32).toNatClampNeg))) + x2).toNatClampNeg (z_numbers x2.toNatClampNeg)) z_numbers) H := hP
        have hD : va_D A (qw_X8_readsStretch cI cJ cC cG cW a_this a_this_laid a_this_text a_this_read a_this_numbers a_this_where a_this_sorts a_this_tells a_this_undone a_this_parts a_this_goesWith a_this_with a_this_keeps z_letters z_at z_walked z_counts z_undos z_all z_planned z_scale z_least z_kept z_text (upd z_read (((5 : Int32) + ((3 : Int32) * (z_read (0 : Int32).toNatClampNeg))) + x2).toNatClampNeg (z_numbers x2.toNatClampNeg)) z_numbers) := hD
        refine lv_iinc (v := (x2 + (1 : Int32))) (lv' := [(2, .int (x2 + (1 : Int32))), (0, .ref a_this), (1, .int x1)]) hx hb dX8_readsStretch_98 hl (k := 2) rfl rfl (by decide) rfl (fun ls hl => ?_)
        refine lv_goto (tgt := 66) hx hb dX8_readsStretch_101 (by decide) ?_
        exact ih (x2 + (1 : Int32)) (upd z_read (((5 : Int32) + ((3 : Int32) * (z_read (0 : Int32).toNatClampNeg))) + x2).toNatClampNeg (z_numbers x2.toNatClampNeg)) H locs ls hV hP hD hS (lv_sub hl [1, 2, 0] rfl)
def qv_X8_readsStretch (z_letters : Int32) (z_at : Int32) (z_text : Nat → Int32) (z_read : Nat → Int32) (z_numbers : Nat → Int32) (Post : Int32 → (Int32) → (Nat → Int32) → (Nat → Int32) → Prop) : Prop := vp_in (0 : Int32) 73 ∧ (((8 : Int32) ≤ (z_read (0 : Int32).toNatClampNeg) → ∃ n8, qv_X8_readsStretch_L66 (0 : Int32) z_letters z_at z_text z_numbers Post (fun z_read_8 => vp_in (0 : Int32) 73 ∧ (vp_in (0 : Int32) 73 ∧ (Post (0 : Int32) z_at (upd z_read_8 (0 : Int32).toNatClampNeg ((z_read_8 (0 : Int32).toNatClampNeg) + (0 : Int32))) z_numbers))) n8 (0 : Int32) z_read) ∧ (¬ (8 : Int32) ≤ (z_read (0 : Int32).toNatClampNeg) → qv_X8_readsNumbers (3 : Int32) z_letters z_at z_text z_numbers (fun r12 z_at_12 z_numbers_12 => (r12 = (0 : Int32) → ∃ n14, qv_X8_readsStretch_L66 (0 : Int32) z_letters z_at_12 z_text z_numbers_12 Post (fun z_read_14 => vp_in (0 : Int32) 73 ∧ (vp_in (0 : Int32) 73 ∧ (Post (0 : Int32) z_at_12 (upd z_read_14 (0 : Int32).toNatClampNeg ((z_read_14 (0 : Int32).toNatClampNeg) + (0 : Int32))) z_numbers_12))) n14 (0 : Int32) z_read) ∧ (¬ r12 = (0 : Int32) → vp_in (0 : Int32) 3 ∧ (qv_X8_in ((z_numbers_12 (0 : Int32).toNatClampNeg).toInt64) (1 : Int64) (60 : Int64) (fun r19 => (r19 = (0 : Int32) → ∃ n21, qv_X8_readsStretch_L66 (0 : Int32) z_letters z_at_12 z_text z_numbers_12 Post (fun z_read_21 => vp_in (0 : Int32) 73 ∧ (vp_in (0 : Int32) 73 ∧ (Post (0 : Int32) z_at_12 (upd z_read_21 (0 : Int32).toNatClampNeg ((z_read_21 (0 : Int32).toNatClampNeg) + (0 : Int32))) z_numbers_12))) n21 (0 : Int32) z_read) ∧ (¬ r19 = (0 : Int32) → vp_in (1 : Int32) 3 ∧ (((11 : Int32) ≤ (z_numbers_12 (1 : Int32).toNatClampNeg) → ∃ n27, qv_X8_readsStretch_L66 (0 : Int32) z_letters z_at_12 z_text z_numbers_12 Post (fun z_read_27 => vp_in (0 : Int32) 73 ∧ (vp_in (0 : Int32) 73 ∧ (Post (0 : Int32) z_at_12 (upd z_read_27 (0 : Int32).toNatClampNeg ((z_read_27 (0 : Int32).toNatClampNeg) + (0 : Int32))) z_numbers_12))) n27 (0 : Int32) z_read) ∧ (¬ (11 : Int32) ≤ (z_numbers_12 (1 : Int32).toNatClampNeg) → vp_in (2 : Int32) 3 ∧ (((11 : Int32) ≤ (z_numbers_12 (2 : Int32).toNatClampNeg) → ∃ n33, qv_X8_readsStretch_L66 (0 : Int32) z_letters z_at_12 z_text z_numbers_12 Post (fun z_read_33 => vp_in (0 : Int32) 73 ∧ (vp_in (0 : Int32) 73 ∧ (Post (0 : Int32) z_at_12 (upd z_read_33 (0 : Int32).toNatClampNeg ((z_read_33 (0 : Int32).toNatClampNeg) + (0 : Int32))) z_numbers_12))) n33 (0 : Int32) z_read) ∧ (¬ (11 : Int32) ≤ (z_numbers_12 (2 : Int32).toNatClampNeg) → ∃ n37, qv_X8_readsStretch_L66 (1 : Int32) z_letters z_at_12 z_text z_numbers_12 Post (fun z_read_37 => vp_in (0 : Int32) 73 ∧ (vp_in (0 : Int32) 73 ∧ (Post (1 : Int32) z_at_12 (upd z_read_37 (0 : Int32).toNatClampNeg ((z_read_37 (0 : Int32).toNatClampNeg) + (1 : Int32))) z_numbers_12))) n37 (0 : Int32) z_read)))))))))))
set_option maxHeartbeats 4000000 in
set_option maxRecDepth 100000 in
theorem qm_X8_readsStretch (l : Launch) (dC : Nat → ClassId) (dI : Nat → Nat → Nat) (cI cJ cC cG cW : ClassId) (a_this a_this_laid a_this_text a_this_read a_this_numbers a_this_where a_this_sorts a_this_tells a_this_undone a_this_parts a_this_goesWith a_this_with a_this_keeps : Nat) (z_letters : Int32) (z_at : Int32) (z_walked : Int32) (z_counts : Int32) (z_undos : Int32) (z_all : Int64) (z_planned : Int64) (z_scale : Int64) (z_least : Int32) (z_kept : Int32) (z_text : Nat → Int32) (z_read : Nat → Int32) (z_numbers : Nat → Int32) (sz : Nat) (Post : Int32 → (Int32) → (Nat → Int32) → (Nat → Int32) → Prop) (hV : qv_X8_readsStretch z_letters z_at z_text z_read z_numbers Post) : Met l yX8_readsStretch wsX8_readsStretch ({ frames := 3, cells := 0, slots := 0, locals := 71 } : Room) (va_Pc [.ref a_this] (prW (dC, dI) (qw_X8_readsStretch cI cJ cC cG cW a_this a_this_laid a_this_text a_this_read a_this_numbers a_this_where a_this_sorts a_this_tells a_this_undone a_this_parts a_this_goesWith a_this_with a_this_keeps z_letters z_at z_walked z_counts z_undos z_all z_planned z_scale z_least z_kept z_text z_read z_numbers) (tyL cI cJ cC cG cW) sz)) (va_Qi (fun (r : Int32) (u : (Int32) × (Nat → Int32) × (Nat → Int32)) => Post r u.1 u.2.1 u.2.2) (fun u t => poW (dC, dI) (tyL cI cJ cC cG cW) (va_A (qw_X8_readsStretch cI cJ cC cG cW a_this a_this_laid a_this_text a_this_read a_this_numbers a_this_where a_this_sorts a_this_tells a_this_undone a_this_parts a_this_goesWith a_this_with a_this_keeps z_letters z_at z_walked z_counts z_undos z_all z_planned z_scale z_least z_kept z_text z_read z_numbers) sz) (qw_X8_readsStretch cI cJ cC cG cW a_this a_this_laid a_this_text a_this_read a_this_numbers a_this_where a_this_sorts a_this_tells a_this_undone a_this_parts a_this_goesWith a_this_with a_this_keeps z_letters u.1 z_walked z_counts z_undos z_all z_planned z_scale z_least z_kept z_text u.2.1 u.2.2) t) (va_A (qw_X8_readsStretch cI cJ cC cG cW a_this a_this_laid a_this_text a_this_read a_this_numbers a_this_where a_this_sorts a_this_tells a_this_undone a_this_parts a_this_goesWith a_this_with a_this_keeps z_letters z_at z_walked z_counts z_undos z_all z_planned z_scale z_least z_kept z_text z_read z_numbers) sz)) 0 0 (va_A (qw_X8_readsStretch cI cJ cC cG cW a_this a_this_laid a_this_text a_this_read a_this_numbers a_this_where a_this_sorts a_this_tells a_this_undone a_this_parts a_this_goesWith a_this_with a_this_keeps z_letters z_at z_walked z_counts z_undos z_all z_planned z_scale z_least z_kept z_text z_read z_numbers) sz) := by
  refine Met.ofM (Qc := fun A => va_Qi (fun (r : Int32) (u : (Int32) × (Nat → Int32) × (Nat → Int32)) => Post r u.1 u.2.1 u.2.2) (fun u t => poW (dC, dI) (tyL cI cJ cC cG cW) A (qw_X8_readsStretch cI cJ cC cG cW a_this a_this_laid a_this_text a_this_read a_this_numbers a_this_where a_this_sorts a_this_tells a_this_undone a_this_parts a_this_goesWith a_this_with a_this_keeps z_letters u.1 z_walked z_counts z_undos z_all z_planned z_scale z_least z_kept z_text u.2.1 u.2.2) t) A) (nm := "readsStretch") (ds := "()Z") (own := RX8) (maxL := 3) (cc := cX8_readsStretch) (ret := (some .boolean)) (by decide) rfl rfl (Nat.le_of_ble_eq_true rfl) (fun p e s m below meth c A C0 hin hK hN hA hP hD hS ls hl => ?_)
  obtain ⟨hx, hb, hr, hml, hown, hts, hlocks⟩ := id C0
  have hl : lv_has ls 3 [(0, .ref a_this)] := hl
  obtain ⟨H, hH⟩ : ∃ h : Heap, h = s.heap := ⟨_, rfl⟩
  obtain ⟨locs, hLc⟩ : ∃ L : List Loc, L = [] := ⟨_, rfl⟩
  have hS : va_S A s.heap H locs := by rw [hH, hLc]; exact hS
  rw [← hH] at hP
  rw [← hLc, ← hH]
  clear hH hLc
  refine lv_aload_n hx hb dX8_readsStretch_0 rfl (lv_at hl 0 rfl) ?_
  refine va_get (D := (dC, dI)) (ci := 8) (v := .ref a_this_read) (C := RX8) (T := TX8) (N := 22) hx hb hts qi_X8_readsStretch_X8 hown hK hP 0 rfl rfl 3 (by decide) (hts _ ql_X8_readsStretch_16) (fun _ h9 => h9) rfl dX8_readsStretch_1 ?_
  refine lv_iconst (v := (0 : Int32)) hx hb dX8_readsStretch_4 (by decide) ?_
  obtain ⟨h1, hV⟩ := hV
  refine va_iald hx hb hK hP 2 0 rfl rfl h1 dX8_readsStretch_5 ?_
  refine lv_bipush (v := (8 : Int32)) hx hb dX8_readsStretch_6 (by decide) ?_
  refine lv_icmp_ge (tgt := 62) hx hb dX8_readsStretch_8 (by decide) (fun c2 => ?_) (fun c2 => ?_)
  · have hV := hV.1 c2
    refine lv_iconst (v := (0 : Int32)) hx hb dX8_readsStretch_62 (by decide) ?_
    refine lv_istore_n (lv' := [(1, .int (0 : Int32)), (0, .ref a_this)]) hx hb dX8_readsStretch_63 rfl hl (by decide) rfl (fun ls hl => ?_)
    refine lv_iconst (v := (0 : Int32)) hx hb dX8_readsStretch_64 (by decide) ?_
    refine lv_istore_n (lv' := [(2, .int (0 : Int32)), (1, .int (0 : Int32)), (0, .ref a_this)]) hx hb dX8_readsStretch_65 rfl hl (by decide) rfl (fun ls hl => ?_)
    obtain ⟨n8, hV⟩ := hV
    refine qt_X8_readsStretch_L66 C0 hK hN hA z_letters z_at z_walked z_counts z_undos z_all z_planned z_scale z_least z_kept z_text z_numbers (0 : Int32) _ _ (fun z_read_8 H locs ls hV hP hD hS hl => ?_) n8 (0 : Int32) z_read H locs ls hV hP hD hS (lv_sub hl [2, 1, 0] rfl)
    refine lv_aload_n hx hb dX8_readsStretch_104 rfl (lv_at hl 0 rfl) ?_
    refine va_get (D := (dC, dI)) (ci := 8) (v := .ref a_this_read) (C := RX8) (T := TX8) (N := 22) hx hb hts qi_X8_readsStretch_X8 hown hK hP 0 rfl rfl 3 (by decide) (hts _ ql_X8_readsStretch_16) (fun _ h9 => h9) rfl dX8_readsStretch_105 ?_
    refine lv_iconst (v := (0 : Int32)) hx hb dX8_readsStretch_108 (by decide) ?_
    refine lv_dup2_11 hx hb dX8_readsStretch_109 rfl rfl ?_
    obtain ⟨h9, hV⟩ := hV
    refine va_iald hx hb hK hP 2 0 rfl rfl h9 dX8_readsStretch_110 ?_
    refine lv_iload_n hx hb dX8_readsStretch_111 rfl (lv_at hl 1 rfl) ?_
    refine lv_if_eq (tgt := 119) hx hb dX8_readsStretch_112 (by decide) (fun c10 => ?_) (fun c10 => ?_)
    · skip
      refine lv_iconst (v := (0 : Int32)) hx hb dX8_readsStretch_119 (by decide) ?_
      refine lv_iadd hx hb dX8_readsStretch_120 ?_
      obtain ⟨h11, hV⟩ := hV
      refine va_iast hx hb hK hP hD hS 2 0 rfl rfl h11 dX8_readsStretch_121 (fun H locs hP hD hS => ?_)
      have hP : va_P (dC, dI) vwCl (qw_X8_readsStretch cI cJ cC cG cW a_this a_this_laid a_this_text a_this_read a_this_numbers a_this_where a_this_sorts a_this_tells a_this_undone a_this_parts a_this_goesWith a_this_with a_this_keeps z_letters z_at z_walked z_counts z_undos z_all z_planned z_scale z_least z_kept z_text (upd z_read_8 (0 : Int32).toNatClampNeg ((z_read_8 (0 : Int32).toNatClampNeg) + (0 : Int32))) z_numbers) H := hP
      have hD : va_D A (qw_X8_readsStretch cI cJ cC cG cW a_this a_this_laid a_this_text a_this_read a_this_numbers a_this_where a_this_sorts a_this_tells a_this_undone a_this_parts a_this_goesWith a_this_with a_this_keeps z_letters z_at z_walked z_counts z_undos z_all z_planned z_scale z_least z_kept z_text (upd z_read_8 (0 : Int32).toNatClampNeg ((z_read_8 (0 : Int32).toNatClampNeg) + (0 : Int32))) z_numbers) := hD
      refine lv_iload_n hx hb dX8_readsStretch_122 rfl (lv_at hl 1 rfl) ?_
      exact W.zret hx hb hr rfl (fun t ht hW => ⟨⟨_, (z_at, (upd z_read_8 (0 : Int32).toNatClampNeg ((z_read_8 (0 : Int32).toNatClampNeg) + (0 : Int32))), z_numbers), rfl, hV, ⟨by rw [ht]; exact hP, va_K.moved hW.alike hK, hD⟩⟩, hS.F ht⟩) hS.2.2 dX8_readsStretch_123 hlocks
    · exact absurd c10 (by decide)
  · have hV := hV.2 c2
    refine lv_aload_n hx hb dX8_readsStretch_11 rfl (lv_at hl 0 rfl) ?_
    refine lv_iconst (v := (3 : Int32)) hx hb dX8_readsStretch_12 (by decide) ?_
    refine kW_i (wc := (qw_X8_readsNumbers cI cJ cC cG cW a_this a_this_laid a_this_text a_this_read a_this_numbers a_this_where a_this_sorts a_this_tells a_this_undone a_this_parts a_this_goesWith a_this_with a_this_keeps z_letters z_at z_walked z_counts z_undos z_all z_planned z_scale z_least z_kept z_text z_numbers)) (wr := List.filterMap (fun (i : Nat) => (qw_X8_readsStretch cI cJ cC cG cW a_this a_this_laid a_this_text a_this_read a_this_numbers a_this_where a_this_sorts a_this_tells a_this_undone a_this_parts a_this_goesWith a_this_with a_this_keeps z_letters z_at z_walked z_counts z_undos z_all z_planned z_scale z_least z_kept z_text z_read z_numbers)[i]?) [2]) (w1 := fun (u : (Int32) × (Nat → Int32)) => (qw_X8_readsNumbers cI cJ cC cG cW a_this a_this_laid a_this_text a_this_read a_this_numbers a_this_where a_this_sorts a_this_tells a_this_undone a_this_parts a_this_goesWith a_this_with a_this_keeps z_letters u.1 z_walked z_counts z_undos z_all z_planned z_scale z_least z_kept z_text u.2)) (va_runV (As := [.int (3 : Int32)]) (rest := []) ⟨hx, hb, hml, hown, hts⟩ (qm_X8_readsNumbers l dC dI cI cJ cC cG cW a_this a_this_laid a_this_text a_this_read a_this_numbers a_this_where a_this_sorts a_this_tells a_this_undone a_this_parts a_this_goesWith a_this_with a_this_keeps z_letters z_at z_walked z_counts z_undos z_all z_planned z_scale z_least z_kept z_text z_numbers H.size (3 : Int32) _ hV) (cwV 1 hts gX8_readsStretch_X8_readsNumbers rfl rfl rfl (by decide +kernel) ⟨Nat.le_of_ble_eq_true rfl, Nat.le_of_ble_eq_true rfl⟩) (preWV hK hN (hP.sub (ws' := (qw_X8_readsNumbers cI cJ cC cG cW a_this a_this_laid a_this_text a_this_read a_this_numbers a_this_where a_this_sorts a_this_tells a_this_undone a_this_parts a_this_goesWith a_this_with a_this_keeps z_letters z_at z_walked z_counts z_undos z_all z_planned z_scale z_least z_kept z_text z_numbers)) [0, 1, 3] rfl) (hD.sub (ws' := (qw_X8_readsNumbers cI cJ cC cG cW a_this a_this_laid a_this_text a_this_read a_this_numbers a_this_where a_this_sorts a_this_tells a_this_undone a_this_parts a_this_goesWith a_this_with a_this_keeps z_letters z_at z_walked z_counts z_undos z_all z_planned z_scale z_least z_kept z_text z_numbers)) [0, 1, 3] (by decide) rfl) rfl rfl) rfl rfl hl.1 rfl (lv_room (Nat.le_of_ble_eq_true rfl)) dX8_readsStretch_13 ⟨Nat.le_of_ble_eq_true rfl, Nat.le_of_ble_eq_true rfl⟩) hP hD hS hA [0, 1, 3] [2] rfl rfl (by decide) (by decide) (fun r12 u H locs hV hP hD hS => ?_)
    obtain ⟨z_at_12, z_numbers_12⟩ := u
    try dsimp only at hV
    have hP := hP.sub (ws' := (qw_X8_readsStretch cI cJ cC cG cW a_this a_this_laid a_this_text a_this_read a_this_numbers a_this_where a_this_sorts a_this_tells a_this_undone a_this_parts a_this_goesWith a_this_with a_this_keeps z_letters z_at_12 z_walked z_counts z_undos z_all z_planned z_scale z_least z_kept z_text z_read z_numbers_12)) [1, 2, 0, 3] rfl
    have hD := hD.sub (ws' := (qw_X8_readsStretch cI cJ cC cG cW a_this a_this_laid a_this_text a_this_read a_this_numbers a_this_where a_this_sorts a_this_tells a_this_undone a_this_parts a_this_goesWith a_this_with a_this_keeps z_letters z_at_12 z_walked z_counts z_undos z_all z_planned z_scale z_least z_kept z_text z_read z_numbers_12)) [1, 2, 0, 3] (by decide) rfl
    refine lv_if_eq (tgt := 62) hx hb dX8_readsStretch_16 (by decide) (fun c13 => ?_) (fun c13 => ?_)
    · have hV := hV.1 c13
      refine lv_iconst (v := (0 : Int32)) hx hb dX8_readsStretch_62 (by decide) ?_
      refine lv_istore_n (lv' := [(1, .int (0 : Int32)), (0, .ref a_this)]) hx hb dX8_readsStretch_63 rfl hl (by decide) rfl (fun ls hl => ?_)
      refine lv_iconst (v := (0 : Int32)) hx hb dX8_readsStretch_64 (by decide) ?_
      refine lv_istore_n (lv' := [(2, .int (0 : Int32)), (1, .int (0 : Int32)), (0, .ref a_this)]) hx hb dX8_readsStretch_65 rfl hl (by decide) rfl (fun ls hl => ?_)
      obtain ⟨n14, hV⟩ := hV
      refine qt_X8_readsStretch_L66 C0 hK hN hA z_letters z_at_12 z_walked z_counts z_undos z_all z_planned z_scale z_least z_kept z_text z_numbers_12 (0 : Int32) _ _ (fun z_read_14 H locs ls hV hP hD hS hl => ?_) n14 (0 : Int32) z_read H locs ls hV hP hD hS (lv_sub hl [2, 1, 0] rfl)
      refine lv_aload_n hx hb dX8_readsStretch_104 rfl (lv_at hl 0 rfl) ?_
      refine va_get (D := (dC, dI)) (ci := 8) (v := .ref a_this_read) (C := RX8) (T := TX8) (N := 22) hx hb hts qi_X8_readsStretch_X8 hown hK hP 0 rfl rfl 3 (by decide) (hts _ ql_X8_readsStretch_16) (fun _ h9 => h9) rfl dX8_readsStretch_105 ?_
      refine lv_iconst (v := (0 : Int32)) hx hb dX8_readsStretch_108 (by decide) ?_
      refine lv_dup2_11 hx hb dX8_readsStretch_109 rfl rfl ?_
      obtain ⟨h15, hV⟩ := hV
      refine va_iald hx hb hK hP 2 0 rfl rfl h15 dX8_readsStretch_110 ?_
      refine lv_iload_n hx hb dX8_readsStretch_111 rfl (lv_at hl 1 rfl) ?_
      refine lv_if_eq (tgt := 119) hx hb dX8_readsStretch_112 (by decide) (fun c16 => ?_) (fun c16 => ?_)
      · skip
        refine lv_iconst (v := (0 : Int32)) hx hb dX8_readsStretch_119 (by decide) ?_
        refine lv_iadd hx hb dX8_readsStretch_120 ?_
        obtain ⟨h17, hV⟩ := hV
        refine va_iast hx hb hK hP hD hS 2 0 rfl rfl h17 dX8_readsStretch_121 (fun H locs hP hD hS => ?_)
        have hP : va_P (dC, dI) vwCl (qw_X8_readsStretch cI cJ cC cG cW a_this a_this_laid a_this_text a_this_read a_this_numbers a_this_where a_this_sorts a_this_tells a_this_undone a_this_parts a_this_goesWith a_this_with a_this_keeps z_letters z_at_12 z_walked z_counts z_undos z_all z_planned z_scale z_least z_kept z_text (upd z_read_14 (0 : Int32).toNatClampNeg ((z_read_14 (0 : Int32).toNatClampNeg) + (0 : Int32))) z_numbers_12) H := hP
        have hD : va_D A (qw_X8_readsStretch cI cJ cC cG cW a_this a_this_laid a_this_text a_this_read a_this_numbers a_this_where a_this_sorts a_this_tells a_this_undone a_this_parts a_this_goesWith a_this_with a_this_keeps z_letters z_at_12 z_walked z_counts z_undos z_all z_planned z_scale z_least z_kept z_text (upd z_read_14 (0 : Int32).toNatClampNeg ((z_read_14 (0 : Int32).toNatClampNeg) + (0 : Int32))) z_numbers_12) := hD
        refine lv_iload_n hx hb dX8_readsStretch_122 rfl (lv_at hl 1 rfl) ?_
        exact W.zret hx hb hr rfl (fun t ht hW => ⟨⟨_, (z_at_12, (upd z_read_14 (0 : Int32).toNatClampNeg ((z_read_14 (0 : Int32).toNatClampNeg) + (0 : Int32))), z_numbers_12), rfl, hV, ⟨by rw [ht]; exact hP, va_K.moved hW.alike hK, hD⟩⟩, hS.F ht⟩) hS.2.2 dX8_readsStretch_123 hlocks
      · exact absurd c16 (by decide)
    · have hV := hV.2 c13
      refine lv_aload_n hx hb dX8_readsStretch_19 rfl (lv_at hl 0 rfl) ?_
      refine va_get (D := (dC, dI)) (ci := 8) (v := .ref a_this_numbers) (C := RX8) (T := TX8) (N := 22) hx hb hts qi_X8_readsStretch_X8 hown hK hP 0 rfl rfl 5 (by decide) (hts _ ql_X8_readsStretch_19) (fun _ h9 => h9) rfl dX8_readsStretch_20 ?_
      refine lv_iconst (v := (0 : Int32)) hx hb dX8_readsStretch_23 (by decide) ?_
      obtain ⟨h18, hV⟩ := hV
      refine va_iald hx hb hK hP 3 0 rfl rfl h18 dX8_readsStretch_24 ?_
      refine lv_i2l hx hb dX8_readsStretch_25 rfl ?_
      refine lv_lconst (v := (1 : Int64)) hx hb dX8_readsStretch_26 (by decide) ?_
      refine lv_ldc2 (v := (60 : Int64)) hx hb hown (hts _ ql_X8_readsStretch_87) dX8_readsStretch_27 ?_
      refine vp_callSi (va_Run.run (va_runS (As := [.long ((z_numbers_12 (0 : Int32).toNatClampNeg).toInt64), .long (1 : Int64), .long (60 : Int64)]) (rest := []) ⟨hx, hb, hml, hown, hts⟩ (qm_X8_in l dC dI cI cJ cC cG cW ((z_numbers_12 (0 : Int32).toNatClampNeg).toInt64) (1 : Int64) (60 : Int64) _ hV) (va_cwS 3 hts gX8_readsStretch_X8_in rfl rfl rfl (by decide +kernel) ⟨Nat.le_of_ble_eq_true rfl, Nat.le_of_ble_eq_true rfl⟩) (preRS hK hN (show va_P (dC, dI) vwCl (qw_X8_in cI cJ cC cG cW) H from fun k q h => by simp at h)) rfl rfl hl.1 rfl (lv_room (Nat.le_of_ble_eq_true rfl)) dX8_readsStretch_30 ⟨Nat.le_of_ble_eq_true rfl, Nat.le_of_ble_eq_true rfl⟩)) (fun r19 hV => ?_)
      refine lv_if_eq (tgt := 62) hx hb dX8_readsStretch_33 (by decide) (fun c20 => ?_) (fun c20 => ?_)
      · have hV := hV.1 c20
        refine lv_iconst (v := (0 : Int32)) hx hb dX8_readsStretch_62 (by decide) ?_
        refine lv_istore_n (lv' := [(1, .int (0 : Int32)), (0, .ref a_this)]) hx hb dX8_readsStretch_63 rfl hl (by decide) rfl (fun ls hl => ?_)
        refine lv_iconst (v := (0 : Int32)) hx hb dX8_readsStretch_64 (by decide) ?_
        refine lv_istore_n (lv' := [(2, .int (0 : Int32)), (1, .int (0 : Int32)), (0, .ref a_this)]) hx hb dX8_readsStretch_65 rfl hl (by decide) rfl (fun ls hl => ?_)
        obtain ⟨n21, hV⟩ := hV
        refine qt_X8_readsStretch_L66 C0 hK hN hA z_letters z_at_12 z_walked z_counts z_undos z_all z_planned z_scale z_least z_kept z_text z_numbers_12 (0 : Int32) _ _ (fun z_read_21 H locs ls hV hP hD hS hl => ?_) n21 (0 : Int32) z_read H locs ls hV hP hD hS (lv_sub hl [2, 1, 0] rfl)
        refine lv_aload_n hx hb dX8_readsStretch_104 rfl (lv_at hl 0 rfl) ?_
        refine va_get (D := (dC, dI)) (ci := 8) (v := .ref a_this_read) (C := RX8) (T := TX8) (N := 22) hx hb hts qi_X8_readsStretch_X8 hown hK hP 0 rfl rfl 3 (by decide) (hts _ ql_X8_readsStretch_16) (fun _ h9 => h9) rfl dX8_readsStretch_105 ?_
        refine lv_iconst (v := (0 : Int32)) hx hb dX8_readsStretch_108 (by decide) ?_
        refine lv_dup2_11 hx hb dX8_readsStretch_109 rfl rfl ?_
        obtain ⟨h22, hV⟩ := hV
        refine va_iald hx hb hK hP 2 0 rfl rfl h22 dX8_readsStretch_110 ?_
        refine lv_iload_n hx hb dX8_readsStretch_111 rfl (lv_at hl 1 rfl) ?_
        refine lv_if_eq (tgt := 119) hx hb dX8_readsStretch_112 (by decide) (fun c23 => ?_) (fun c23 => ?_)
        · skip
          refine lv_iconst (v := (0 : Int32)) hx hb dX8_readsStretch_119 (by decide) ?_
          refine lv_iadd hx hb dX8_readsStretch_120 ?_
          obtain ⟨h24, hV⟩ := hV
          refine va_iast hx hb hK hP hD hS 2 0 rfl rfl h24 dX8_readsStretch_121 (fun H locs hP hD hS => ?_)
          have hP : va_P (dC, dI) vwCl (qw_X8_readsStretch cI cJ cC cG cW a_this a_this_laid a_this_text a_this_read a_this_numbers a_this_where a_this_sorts a_this_tells a_this_undone a_this_parts a_this_goesWith a_this_with a_this_keeps z_letters z_at_12 z_walked z_counts z_undos z_all z_planned z_scale z_least z_kept z_text (upd z_read_21 (0 : Int32).toNatClampNeg ((z_read_21 (0 : Int32).toNatClampNeg) + (0 : Int32))) z_numbers_12) H := hP
          have hD : va_D A (qw_X8_readsStretch cI cJ cC cG cW a_this a_this_laid a_this_text a_this_read a_this_numbers a_this_where a_this_sorts a_this_tells a_this_undone a_this_parts a_this_goesWith a_this_with a_this_keeps z_letters z_at_12 z_walked z_counts z_undos z_all z_planned z_scale z_least z_kept z_text (upd z_read_21 (0 : Int32).toNatClampNeg ((z_read_21 (0 : Int32).toNatClampNeg) + (0 : Int32))) z_numbers_12) := hD
          refine lv_iload_n hx hb dX8_readsStretch_122 rfl (lv_at hl 1 rfl) ?_
          exact W.zret hx hb hr rfl (fun t ht hW => ⟨⟨_, (z_at_12, (upd z_read_21 (0 : Int32).toNatClampNeg ((z_read_21 (0 : Int32).toNatClampNeg) + (0 : Int32))), z_numbers_12), rfl, hV, ⟨by rw [ht]; exact hP, va_K.moved hW.alike hK, hD⟩⟩, hS.F ht⟩) hS.2.2 dX8_readsStretch_123 hlocks
        · exact absurd c23 (by decide)
      · have hV := hV.2 c20
        refine lv_aload_n hx hb dX8_readsStretch_36 rfl (lv_at hl 0 rfl) ?_
        refine va_get (D := (dC, dI)) (ci := 8) (v := .ref a_this_numbers) (C := RX8) (T := TX8) (N := 22) hx hb hts qi_X8_readsStretch_X8 hown hK hP 0 rfl rfl 5 (by decide) (hts _ ql_X8_readsStretch_19) (fun _ h9 => h9) rfl dX8_readsStretch_37 ?_
        refine lv_iconst (v := (1 : Int32)) hx hb dX8_readsStretch_40 (by decide) ?_
        obtain ⟨h25, hV⟩ := hV
        refine va_iald hx hb hK hP 3 0 rfl rfl h25 dX8_readsStretch_41 ?_
        refine lv_bipush (v := (11 : Int32)) hx hb dX8_readsStretch_42 (by decide) ?_
        refine lv_icmp_ge (tgt := 62) hx hb dX8_readsStretch_44 (by decide) (fun c26 => ?_) (fun c26 => ?_)
        · have hV := hV.1 c26
          refine lv_iconst (v := (0 : Int32)) hx hb dX8_readsStretch_62 (by decide) ?_
          refine lv_istore_n (lv' := [(1, .int (0 : Int32)), (0, .ref a_this)]) hx hb dX8_readsStretch_63 rfl hl (by decide) rfl (fun ls hl => ?_)
          refine lv_iconst (v := (0 : Int32)) hx hb dX8_readsStretch_64 (by decide) ?_
          refine lv_istore_n (lv' := [(2, .int (0 : Int32)), (1, .int (0 : Int32)), (0, .ref a_this)]) hx hb dX8_readsStretch_65 rfl hl (by decide) rfl (fun ls hl => ?_)
          obtain ⟨n27, hV⟩ := hV
          refine qt_X8_readsStretch_L66 C0 hK hN hA z_letters z_at_12 z_walked z_counts z_undos z_all z_planned z_scale z_least z_kept z_text z_numbers_12 (0 : Int32) _ _ (fun z_read_27 H locs ls hV hP hD hS hl => ?_) n27 (0 : Int32) z_read H locs ls hV hP hD hS (lv_sub hl [2, 1, 0] rfl)
          refine lv_aload_n hx hb dX8_readsStretch_104 rfl (lv_at hl 0 rfl) ?_
          refine va_get (D := (dC, dI)) (ci := 8) (v := .ref a_this_read) (C := RX8) (T := TX8) (N := 22) hx hb hts qi_X8_readsStretch_X8 hown hK hP 0 rfl rfl 3 (by decide) (hts _ ql_X8_readsStretch_16) (fun _ h9 => h9) rfl dX8_readsStretch_105 ?_
          refine lv_iconst (v := (0 : Int32)) hx hb dX8_readsStretch_108 (by decide) ?_
          refine lv_dup2_11 hx hb dX8_readsStretch_109 rfl rfl ?_
          obtain ⟨h28, hV⟩ := hV
          refine va_iald hx hb hK hP 2 0 rfl rfl h28 dX8_readsStretch_110 ?_
          refine lv_iload_n hx hb dX8_readsStretch_111 rfl (lv_at hl 1 rfl) ?_
          refine lv_if_eq (tgt := 119) hx hb dX8_readsStretch_112 (by decide) (fun c29 => ?_) (fun c29 => ?_)
          · skip
            refine lv_iconst (v := (0 : Int32)) hx hb dX8_readsStretch_119 (by decide) ?_
            refine lv_iadd hx hb dX8_readsStretch_120 ?_
            obtain ⟨h30, hV⟩ := hV
            refine va_iast hx hb hK hP hD hS 2 0 rfl rfl h30 dX8_readsStretch_121 (fun H locs hP hD hS => ?_)
            have hP : va_P (dC, dI) vwCl (qw_X8_readsStretch cI cJ cC cG cW a_this a_this_laid a_this_text a_this_read a_this_numbers a_this_where a_this_sorts a_this_tells a_this_undone a_this_parts a_this_goesWith a_this_with a_this_keeps z_letters z_at_12 z_walked z_counts z_undos z_all z_planned z_scale z_least z_kept z_text (upd z_read_27 (0 : Int32).toNatClampNeg ((z_read_27 (0 : Int32).toNatClampNeg) + (0 : Int32))) z_numbers_12) H := hP
            have hD : va_D A (qw_X8_readsStretch cI cJ cC cG cW a_this a_this_laid a_this_text a_this_read a_this_numbers a_this_where a_this_sorts a_this_tells a_this_undone a_this_parts a_this_goesWith a_this_with a_this_keeps z_letters z_at_12 z_walked z_counts z_undos z_all z_planned z_scale z_least z_kept z_text (upd z_read_27 (0 : Int32).toNatClampNeg ((z_read_27 (0 : Int32).toNatClampNeg) + (0 : Int32))) z_numbers_12) := hD
            refine lv_iload_n hx hb dX8_readsStretch_122 rfl (lv_at hl 1 rfl) ?_
            exact W.zret hx hb hr rfl (fun t ht hW => ⟨⟨_, (z_at_12, (upd z_read_27 (0 : Int32).toNatClampNeg ((z_read_27 (0 : Int32).toNatClampNeg) + (0 : Int32))), z_numbers_12), rfl, hV, ⟨by rw [ht]; exact hP, va_K.moved hW.alike hK, hD⟩⟩, hS.F ht⟩) hS.2.2 dX8_readsStretch_123 hlocks
          · exact absurd c29 (by decide)
        · have hV := hV.2 c26
          refine lv_aload_n hx hb dX8_readsStretch_47 rfl (lv_at hl 0 rfl) ?_
          refine va_get (D := (dC, dI)) (ci := 8) (v := .ref a_this_numbers) (C := RX8) (T := TX8) (N := 22) hx hb hts qi_X8_readsStretch_X8 hown hK hP 0 rfl rfl 5 (by decide) (hts _ ql_X8_readsStretch_19) (fun _ h9 => h9) rfl dX8_readsStretch_48 ?_
          refine lv_iconst (v := (2 : Int32)) hx hb dX8_readsStretch_51 (by decide) ?_
          obtain ⟨h31, hV⟩ := hV
          refine va_iald hx hb hK hP 3 0 rfl rfl h31 dX8_readsStretch_52 ?_
          refine lv_bipush (v := (11 : Int32)) hx hb dX8_readsStretch_53 (by decide) ?_
          refine lv_icmp_ge (tgt := 62) hx hb dX8_readsStretch_55 (by decide) (fun c32 => ?_) (fun c32 => ?_)
          · have hV := hV.1 c32
            refine lv_iconst (v := (0 : Int32)) hx hb dX8_readsStretch_62 (by decide) ?_
            refine lv_istore_n (lv' := [(1, .int (0 : Int32)), (0, .ref a_this)]) hx hb dX8_readsStretch_63 rfl hl (by decide) rfl (fun ls hl => ?_)
            refine lv_iconst (v := (0 : Int32)) hx hb dX8_readsStretch_64 (by decide) ?_
            refine lv_istore_n (lv' := [(2, .int (0 : Int32)), (1, .int (0 : Int32)), (0, .ref a_this)]) hx hb dX8_readsStretch_65 rfl hl (by decide) rfl (fun ls hl => ?_)
            obtain ⟨n33, hV⟩ := hV
            refine qt_X8_readsStretch_L66 C0 hK hN hA z_letters z_at_12 z_walked z_counts z_undos z_all z_planned z_scale z_least z_kept z_text z_numbers_12 (0 : Int32) _ _ (fun z_read_33 H locs ls hV hP hD hS hl => ?_) n33 (0 : Int32) z_read H locs ls hV hP hD hS (lv_sub hl [2, 1, 0] rfl)
            refine lv_aload_n hx hb dX8_readsStretch_104 rfl (lv_at hl 0 rfl) ?_
            refine va_get (D := (dC, dI)) (ci := 8) (v := .ref a_this_read) (C := RX8) (T := TX8) (N := 22) hx hb hts qi_X8_readsStretch_X8 hown hK hP 0 rfl rfl 3 (by decide) (hts _ ql_X8_readsStretch_16) (fun _ h9 => h9) rfl dX8_readsStretch_105 ?_
            refine lv_iconst (v := (0 : Int32)) hx hb dX8_readsStretch_108 (by decide) ?_
            refine lv_dup2_11 hx hb dX8_readsStretch_109 rfl rfl ?_
            obtain ⟨h34, hV⟩ := hV
            refine va_iald hx hb hK hP 2 0 rfl rfl h34 dX8_readsStretch_110 ?_
            refine lv_iload_n hx hb dX8_readsStretch_111 rfl (lv_at hl 1 rfl) ?_
            refine lv_if_eq (tgt := 119) hx hb dX8_readsStretch_112 (by decide) (fun c35 => ?_) (fun c35 => ?_)
            · skip
              refine lv_iconst (v := (0 : Int32)) hx hb dX8_readsStretch_119 (by decide) ?_
              refine lv_iadd hx hb dX8_readsStretch_120 ?_
              obtain ⟨h36, hV⟩ := hV
              refine va_iast hx hb hK hP hD hS 2 0 rfl rfl h36 dX8_readsStretch_121 (fun H locs hP hD hS => ?_)
              have hP : va_P (dC, dI) vwCl (qw_X8_readsStretch cI cJ cC cG cW a_this a_this_laid a_this_text a_this_read a_this_numbers a_this_where a_this_sorts a_this_tells a_this_undone a_this_parts a_this_goesWith a_this_with a_this_keeps z_letters z_at_12 z_walked z_counts z_undos z_all z_planned z_scale z_least z_kept z_text (upd z_read_33 (0 : Int32).toNatClampNeg ((z_read_33 (0 : Int32).toNatClampNeg) + (0 : Int32))) z_numbers_12) H := hP
              have hD : va_D A (qw_X8_readsStretch cI cJ cC cG cW a_this a_this_laid a_this_text a_this_read a_this_numbers a_this_where a_this_sorts a_this_tells a_this_undone a_this_parts a_this_goesWith a_this_with a_this_keeps z_letters z_at_12 z_walked z_counts z_undos z_all z_planned z_scale z_least z_kept z_text (upd z_read_33 (0 : Int32).toNatClampNeg ((z_read_33 (0 : Int32).toNatClampNeg) + (0 : Int32))) z_numbers_12) := hD
              refine lv_iload_n hx hb dX8_readsStretch_122 rfl (lv_at hl 1 rfl) ?_
              exact W.zret hx hb hr rfl (fun t ht hW => ⟨⟨_, (z_at_12, (upd z_read_33 (0 : Int32).toNatClampNeg ((z_read_33 (0 : Int32).toNatClampNeg) + (0 : Int32))), z_numbers_12), rfl, hV, ⟨by rw [ht]; exact hP, va_K.moved hW.alike hK, hD⟩⟩, hS.F ht⟩) hS.2.2 dX8_readsStretch_123 hlocks
            · exact absurd c35 (by decide)
          · have hV := hV.2 c32
            refine lv_iconst (v := (1 : Int32)) hx hb dX8_readsStretch_58 (by decide) ?_
            refine lv_goto (tgt := 63) hx hb dX8_readsStretch_59 (by decide) ?_
            refine lv_istore_n (lv' := [(1, .int (1 : Int32)), (0, .ref a_this)]) hx hb dX8_readsStretch_63 rfl hl (by decide) rfl (fun ls hl => ?_)
            refine lv_iconst (v := (0 : Int32)) hx hb dX8_readsStretch_64 (by decide) ?_
            refine lv_istore_n (lv' := [(2, .int (0 : Int32)), (1, .int (1 : Int32)), (0, .ref a_this)]) hx hb dX8_readsStretch_65 rfl hl (by decide) rfl (fun ls hl => ?_)
            obtain ⟨n37, hV⟩ := hV
            refine qt_X8_readsStretch_L66 C0 hK hN hA z_letters z_at_12 z_walked z_counts z_undos z_all z_planned z_scale z_least z_kept z_text z_numbers_12 (1 : Int32) _ _ (fun z_read_37 H locs ls hV hP hD hS hl => ?_) n37 (0 : Int32) z_read H locs ls hV hP hD hS (lv_sub hl [2, 1, 0] rfl)
            refine lv_aload_n hx hb dX8_readsStretch_104 rfl (lv_at hl 0 rfl) ?_
            refine va_get (D := (dC, dI)) (ci := 8) (v := .ref a_this_read) (C := RX8) (T := TX8) (N := 22) hx hb hts qi_X8_readsStretch_X8 hown hK hP 0 rfl rfl 3 (by decide) (hts _ ql_X8_readsStretch_16) (fun _ h9 => h9) rfl dX8_readsStretch_105 ?_
            refine lv_iconst (v := (0 : Int32)) hx hb dX8_readsStretch_108 (by decide) ?_
            refine lv_dup2_11 hx hb dX8_readsStretch_109 rfl rfl ?_
            obtain ⟨h38, hV⟩ := hV
            refine va_iald hx hb hK hP 2 0 rfl rfl h38 dX8_readsStretch_110 ?_
            refine lv_iload_n hx hb dX8_readsStretch_111 rfl (lv_at hl 1 rfl) ?_
            refine lv_if_eq (tgt := 119) hx hb dX8_readsStretch_112 (by decide) (fun c39 => ?_) (fun c39 => ?_)
            · exact absurd c39 (by decide)
            · skip
              refine lv_iconst (v := (1 : Int32)) hx hb dX8_readsStretch_115 (by decide) ?_
              refine lv_goto (tgt := 120) hx hb dX8_readsStretch_116 (by decide) ?_
              refine lv_iadd hx hb dX8_readsStretch_120 ?_
              obtain ⟨h40, hV⟩ := hV
              refine va_iast hx hb hK hP hD hS 2 0 rfl rfl h40 dX8_readsStretch_121 (fun H locs hP hD hS => ?_)
              have hP : va_P (dC, dI) vwCl (qw_X8_readsStretch cI cJ cC cG cW a_this a_this_laid a_this_text a_this_read a_this_numbers a_this_where a_this_sorts a_this_tells a_this_undone a_this_parts a_this_goesWith a_this_with a_this_keeps z_letters z_at_12 z_walked z_counts z_undos z_all z_planned z_scale z_least z_kept z_text (upd z_read_37 (0 : Int32).toNatClampNeg ((z_read_37 (0 : Int32).toNatClampNeg) + (1 : Int32))) z_numbers_12) H := hP
              have hD : va_D A (qw_X8_readsStretch cI cJ cC cG cW a_this a_this_laid a_this_text a_this_read a_this_numbers a_this_where a_this_sorts a_this_tells a_this_undone a_this_parts a_this_goesWith a_this_with a_this_keeps z_letters z_at_12 z_walked z_counts z_undos z_all z_planned z_scale z_least z_kept z_text (upd z_read_37 (0 : Int32).toNatClampNeg ((z_read_37 (0 : Int32).toNatClampNeg) + (1 : Int32))) z_numbers_12) := hD
              refine lv_iload_n hx hb dX8_readsStretch_122 rfl (lv_at hl 1 rfl) ?_
              exact W.zret hx hb hr rfl (fun t ht hW => ⟨⟨_, (z_at_12, (upd z_read_37 (0 : Int32).toNatClampNeg ((z_read_37 (0 : Int32).toNatClampNeg) + (1 : Int32))), z_numbers_12), rfl, hV, ⟨by rw [ht]; exact hP, va_K.moved hW.alike hK, hD⟩⟩, hS.F ht⟩) hS.2.2 dX8_readsStretch_123 hlocks

/-! StileCountsModel.readsSort()Z -/
abbrev qw_X8_readsSort (cI cJ cC cG cW : ClassId) (a_this a_this_laid a_this_text a_this_read a_this_numbers a_this_where a_this_sorts a_this_tells a_this_undone a_this_parts a_this_goesWith a_this_with a_this_keeps : Nat) (z_letters : Int32) (z_at : Int32) (z_walked : Int32) (z_counts : Int32) (z_undos : Int32) (z_all : Int64) (z_planned : Int64) (z_scale : Int64) (z_least : Int32) (z_kept : Int32) (z_text : Nat → Int32) (z_read : Nat → Int32) (z_numbers : Nat → Int32) : va_W := [(a_this, .inr (8, [.ref a_this_laid, .ref a_this_text, .int z_letters, .ref a_this_read, .int z_at, .ref a_this_numbers, .int z_walked, .int z_counts, .ref a_this_where, .ref a_this_sorts, .ref a_this_tells, .int z_undos, .ref a_this_undone, .ref a_this_parts, .long z_all, .long z_planned, .long z_scale, .ref a_this_goesWith, .int z_least, .ref a_this_with, .int z_kept, .ref a_this_keeps])), (a_this_text, .inl (cI, 200, .inl z_text)), (a_this_read, .inl (cI, 73, .inl z_read)), (a_this_numbers, .inl (cI, 3, .inl z_numbers))]
theorem qi_X8_readsSort_X8 : ∀ w ∈ wsX80, w ∈ wsX8_readsSort := by decide +kernel
theorem ql_X8_readsSort_16 : (.fieldLink RX8 16 "StileCountsModel" "read" "[I" : Cond) ∈ wsX8_readsSort := by decide +kernel
theorem ql_X8_readsSort_19 : (.fieldLink RX8 19 "StileCountsModel" "numbers" "[I" : Cond) ∈ wsX8_readsSort := by decide +kernel
def qv_X8_readsSort_J45 (k0 : Int32) (z_letters : Int32) (z_at : Int32) (z_text : Nat → Int32) (z_read : Nat → Int32) (z_numbers : Nat → Int32) (Post : Int32 → (Int32) → (Nat → Int32) → (Nat → Int32) → Prop) : Prop := (k0 = (0 : Int32) → narrow .boolean (.int k0) = .int k0 ∧ Post k0 z_at z_read z_numbers) ∧ (¬ k0 = (0 : Int32) → vp_in (0 : Int32) 3 ∧ (vp_in (1 : Int32) 3 ∧ (vp_in ((29 : Int32) + ((2 : Int32) * (z_numbers (0 : Int32).toNatClampNeg))) 73 ∧ (vp_in (0 : Int32) 3 ∧ (vp_in (2 : Int32) 3 ∧ (vp_in (((29 : Int32) + ((2 : Int32) * (z_numbers (0 : Int32).toNatClampNeg))) + (1 : Int32)) 73 ∧ (narrow .boolean (.int k0) = .int k0 ∧ Post k0 z_at (upd (upd z_read ((29 : Int32) + ((2 : Int32) * (z_numbers (0 : Int32).toNatClampNeg))).toNatClampNeg (z_numbers (1 : Int32).toNatClampNeg)) (((29 : Int32) + ((2 : Int32) * (z_numbers (0 : Int32).toNatClampNeg))) + (1 : Int32)).toNatClampNeg (z_numbers (2 : Int32).toNatClampNeg)) z_numbers)))))))
set_option maxHeartbeats 4000000 in
set_option maxRecDepth 100000 in
theorem qt_X8_readsSort_J45 {p : Program} {l : Launch} {e : Env} {s : State} {m : MethodId} {args : Array Value} {below : List Frame} {meth : Method} {c : Code} {dC : Nat → ClassId} {dI : Nat → Nat → Nat} {cI cJ cC cG cW : ClassId} {a_this a_this_laid a_this_text a_this_read a_this_numbers a_this_where a_this_sorts a_this_tells a_this_undone a_this_parts a_this_goesWith a_this_with a_this_keeps : Nat} {A : Nat → Prop} (C0 : MC cX8_readsSort 2 (some .boolean) RX8 wsX8_readsSort p s m args meth c) (hK : va_K (dC, dI) vwCl (tyL cI cJ cC cG cW) s) (hN : NW s) (hA : ∀ q, s.heap.size ≤ q → A q) (z_letters : Int32) (z_at : Int32) (z_walked : Int32) (z_counts : Int32) (z_undos : Int32) (z_all : Int64) (z_planned : Int64) (z_scale : Int64) (z_least : Int32) (z_kept : Int32) (z_text : Nat → Int32) (z_read : Nat → Int32) (z_numbers : Nat → Int32) (k0 : Int32) (Post : Int32 → (Int32) → (Nat → Int32) → (Nat → Int32) → Prop) (H : Heap) (locs : List Loc) (ls : Array Slot) (hV : qv_X8_readsSort_J45 k0 z_letters z_at z_text z_read z_numbers Post) (hP : va_P (dC, dI) vwCl (qw_X8_readsSort cI cJ cC cG cW a_this a_this_laid a_this_text a_this_read a_this_numbers a_this_where a_this_sorts a_this_tells a_this_undone a_this_parts a_this_goesWith a_this_with a_this_keeps z_letters z_at z_walked z_counts z_undos z_all z_planned z_scale z_least z_kept z_text z_read z_numbers) H) (hD : va_D A (qw_X8_readsSort cI cJ cC cG cW a_this a_this_laid a_this_text a_this_read a_this_numbers a_this_where a_this_sorts a_this_tells a_this_undone a_this_parts a_this_goesWith a_this_with a_this_keeps z_letters z_at z_walked z_counts z_undos z_all z_planned z_scale z_least z_kept z_text z_read z_numbers)) (hS : va_S A s.heap H locs) (hl : lv_has ls 2 [(0, .ref a_this)]) : W p l e ({ frames := 3, cells := 0, slots := 0, locals := 71 } : Room) s m args below meth c H locs 0 0 (MQ below (va_Qi (fun (r : Int32) (u : (Int32) × (Nat → Int32) × (Nat → Int32)) => Post r u.1 u.2.1 u.2.2) (fun u t => poW (dC, dI) (tyL cI cJ cC cG cW) A (qw_X8_readsSort cI cJ cC cG cW a_this a_this_laid a_this_text a_this_read a_this_numbers a_this_where a_this_sorts a_this_tells a_this_undone a_this_parts a_this_goesWith a_this_with a_this_keeps z_letters u.1 z_walked z_counts z_undos z_all z_planned z_scale z_least z_kept z_text u.2.1 u.2.2) t) A) args s 0 0 A) (F0 m 45 ls [.int k0]) := by
  obtain ⟨hx, hb, hr, hml, hown, hts, hlocks⟩ := id C0
  refine lv_istore_n (lv' := [(1, .int k0), (0, .ref a_this)]) hx hb dX8_readsSort_45 rfl hl (by decide) rfl (fun ls hl => ?_)
  refine lv_iload_n hx hb dX8_readsSort_46 rfl (lv_at hl 0 rfl) ?_
  refine lv_if_eq (tgt := 96) hx hb dX8_readsSort_47 (by decide) (fun c3 => ?_) (fun c3 => ?_)
  · have hV := hV.1 c3
    refine lv_iload_n hx hb dX8_readsSort_96 rfl (lv_at hl 0 rfl) ?_
    obtain ⟨hn4, hV⟩ := hV
    exact W.zret hx hb hr hn4 (fun t ht hW => ⟨⟨_, (z_at, z_read, z_numbers), rfl, hV, ⟨by rw [ht]; exact hP, va_K.moved hW.alike hK, hD⟩⟩, hS.F ht⟩) hS.2.2 dX8_readsSort_97 hlocks
  · have hV := hV.2 c3
    refine lv_aload_n hx hb dX8_readsSort_50 rfl (lv_at hl 1 rfl) ?_
    refine va_get (D := (dC, dI)) (ci := 8) (v := .ref a_this_read) (C := RX8) (T := TX8) (N := 22) hx hb hts qi_X8_readsSort_X8 hown hK hP 0 rfl rfl 3 (by decide) (hts _ ql_X8_readsSort_16) (fun _ h9 => h9) rfl dX8_readsSort_51 ?_
    refine lv_bipush (v := (29 : Int32)) hx hb dX8_readsSort_54 (by decide) ?_
    refine lv_iconst (v := (2 : Int32)) hx hb dX8_readsSort_56 (by decide) ?_
    refine lv_aload_n hx hb dX8_readsSort_57 rfl (lv_at hl 1 rfl) ?_
    refine va_get (D := (dC, dI)) (ci := 8) (v := .ref a_this_numbers) (C := RX8) (T := TX8) (N := 22) hx hb hts qi_X8_readsSort_X8 hown hK hP 0 rfl rfl 5 (by decide) (hts _ ql_X8_readsSort_19) (fun _ h9 => h9) rfl dX8_readsSort_58 ?_
    refine lv_iconst (v := (0 : Int32)) hx hb dX8_readsSort_61 (by decide) ?_
    obtain ⟨h5, hV⟩ := hV
    refine va_iald hx hb hK hP 3 0 rfl rfl h5 dX8_readsSort_62 ?_
    refine lv_imul hx hb dX8_readsSort_63 ?_
    refine lv_iadd hx hb dX8_readsSort_64 ?_
    refine lv_aload_n hx hb dX8_readsSort_65 rfl (lv_at hl 1 rfl) ?_
    refine va_get (D := (dC, dI)) (ci := 8) (v := .ref a_this_numbers) (C := RX8) (T := TX8) (N := 22) hx hb hts qi_X8_readsSort_X8 hown hK hP 0 rfl rfl 5 (by decide) (hts _ ql_X8_readsSort_19) (fun _ h9 => h9) rfl dX8_readsSort_66 ?_
    refine lv_iconst (v := (1 : Int32)) hx hb dX8_readsSort_69 (by decide) ?_
    obtain ⟨h6, hV⟩ := hV
    refine va_iald hx hb hK hP 3 0 rfl rfl h6 dX8_readsSort_70 ?_
    obtain ⟨h7, hV⟩ := hV
    refine va_iast hx hb hK hP hD hS 2 0 rfl rfl h7 dX8_readsSort_71 (fun H locs hP hD hS => ?_)
    have hP : va_P (dC, dI) vwCl (qw_X8_readsSort cI cJ cC cG cW a_this a_this_laid a_this_text a_this_read a_this_numbers a_this_where a_this_sorts a_this_tells a_this_undone a_this_parts a_this_goesWith a_this_with a_this_keeps z_letters z_at z_walked z_counts z_undos z_all z_planned z_scale z_least z_kept z_text (upd z_read ((29 : Int32) + ((2 : Int32) * (z_numbers (0 : Int32).toNatClampNeg))).toNatClampNeg (z_numbers (1 : Int32).toNatClampNeg)) z_numbers) H := hP
    have hD : va_D A (qw_X8_readsSort cI cJ cC cG cW a_this a_this_laid a_this_text a_this_read a_this_numbers a_this_where a_this_sorts a_this_tells a_this_undone a_this_parts a_this_goesWith a_this_with a_this_keeps z_letters z_at z_walked z_counts z_undos z_all z_planned z_scale z_least z_kept z_text (upd z_read ((29 : Int32) + ((2 : Int32) * (z_numbers (0 : Int32).toNatClampNeg))).toNatClampNeg (z_numbers (1 : Int32).toNatClampNeg)) z_numbers) := hD
    refine lv_aload_n hx hb dX8_readsSort_72 rfl (lv_at hl 1 rfl) ?_
    refine va_get (D := (dC, dI)) (ci := 8) (v := .ref a_this_read) (C := RX8) (T := TX8) (N := 22) hx hb hts qi_X8_readsSort_X8 hown hK hP 0 rfl rfl 3 (by decide) (hts _ ql_X8_readsSort_16) (fun _ h9 => h9) rfl dX8_readsSort_73 ?_
    refine lv_bipush (v := (29 : Int32)) hx hb dX8_readsSort_76 (by decide) ?_
    refine lv_iconst (v := (2 : Int32)) hx hb dX8_readsSort_78 (by decide) ?_
    refine lv_aload_n hx hb dX8_readsSort_79 rfl (lv_at hl 1 rfl) ?_
    refine va_get (D := (dC, dI)) (ci := 8) (v := .ref a_this_numbers) (C := RX8) (T := TX8) (N := 22) hx hb hts qi_X8_readsSort_X8 hown hK hP 0 rfl rfl 5 (by decide) (hts _ ql_X8_readsSort_19) (fun _ h9 => h9) rfl dX8_readsSort_80 ?_
    refine lv_iconst (v := (0 : Int32)) hx hb dX8_readsSort_83 (by decide) ?_
    obtain ⟨h8, hV⟩ := hV
    refine va_iald hx hb hK hP 3 0 rfl rfl h8 dX8_readsSort_84 ?_
    refine lv_imul hx hb dX8_readsSort_85 ?_
    refine lv_iadd hx hb dX8_readsSort_86 ?_
    refine lv_iconst (v := (1 : Int32)) hx hb dX8_readsSort_87 (by decide) ?_
    refine lv_iadd hx hb dX8_readsSort_88 ?_
    refine lv_aload_n hx hb dX8_readsSort_89 rfl (lv_at hl 1 rfl) ?_
    refine va_get (D := (dC, dI)) (ci := 8) (v := .ref a_this_numbers) (C := RX8) (T := TX8) (N := 22) hx hb hts qi_X8_readsSort_X8 hown hK hP 0 rfl rfl 5 (by decide) (hts _ ql_X8_readsSort_19) (fun _ h9 => h9) rfl dX8_readsSort_90 ?_
    refine lv_iconst (v := (2 : Int32)) hx hb dX8_readsSort_93 (by decide) ?_
    obtain ⟨h9, hV⟩ := hV
    refine va_iald hx hb hK hP 3 0 rfl rfl h9 dX8_readsSort_94 ?_
    obtain ⟨h10, hV⟩ := hV
    refine va_iast hx hb hK hP hD hS 2 0 rfl rfl h10 dX8_readsSort_95 (fun H locs hP hD hS => ?_)
    have hP : va_P (dC, dI) vwCl (qw_X8_readsSort cI cJ cC cG cW a_this a_this_laid a_this_text a_this_read a_this_numbers a_this_where a_this_sorts a_this_tells a_this_undone a_this_parts a_this_goesWith a_this_with a_this_keeps z_letters z_at z_walked z_counts z_undos z_all z_planned z_scale z_least z_kept z_text (upd (upd z_read ((29 : Int32) + ((2 : Int32) * (z_numbers (0 : Int32).toNatClampNeg))).toNatClampNeg (z_numbers (1 : Int32).toNatClampNeg)) (((29 : Int32) + ((2 : Int32) * (z_numbers (0 : Int32).toNatClampNeg))) + (1 : Int32)).toNatClampNeg (z_numbers (2 : Int32).toNatClampNeg)) z_numbers) H := hP
    have hD : va_D A (qw_X8_readsSort cI cJ cC cG cW a_this a_this_laid a_this_text a_this_read a_this_numbers a_this_where a_this_sorts a_this_tells a_this_undone a_this_parts a_this_goesWith a_this_with a_this_keeps z_letters z_at z_walked z_counts z_undos z_all z_planned z_scale z_least z_kept z_text (upd (upd z_read ((29 : Int32) + ((2 : Int32) * (z_numbers (0 : Int32).toNatClampNeg))).toNatClampNeg (z_numbers (1 : Int32).toNatClampNeg)) (((29 : Int32) + ((2 : Int32) * (z_numbers (0 : Int32).toNatClampNeg))) + (1 : Int32)).toNatClampNeg (z_numbers (2 : Int32).toNatClampNeg)) z_numbers) := hD
    refine lv_iload_n hx hb dX8_readsSort_96 rfl (lv_at hl 0 rfl) ?_
    obtain ⟨hn11, hV⟩ := hV
    exact W.zret hx hb hr hn11 (fun t ht hW => ⟨⟨_, (z_at, (upd (upd z_read ((29 : Int32) + ((2 : Int32) * (z_numbers (0 : Int32).toNatClampNeg))).toNatClampNeg (z_numbers (1 : Int32).toNatClampNeg)) (((29 : Int32) + ((2 : Int32) * (z_numbers (0 : Int32).toNatClampNeg))) + (1 : Int32)).toNatClampNeg (z_numbers (2 : Int32).toNatClampNeg)), z_numbers), rfl, hV, ⟨by rw [ht]; exact hP, va_K.moved hW.alike hK, hD⟩⟩, hS.F ht⟩) hS.2.2 dX8_readsSort_97 hlocks
def qv_X8_readsSort (z_letters : Int32) (z_at : Int32) (z_text : Nat → Int32) (z_read : Nat → Int32) (z_numbers : Nat → Int32) (Post : Int32 → (Int32) → (Nat → Int32) → (Nat → Int32) → Prop) : Prop := qv_X8_readsNumbers (3 : Int32) z_letters z_at z_text z_numbers (fun r1 z_at_1 z_numbers_1 => (r1 = (0 : Int32) → qv_X8_readsSort_J45 (0 : Int32) z_letters z_at_1 z_text z_read z_numbers_1 Post) ∧ (¬ r1 = (0 : Int32) → vp_in (0 : Int32) 3 ∧ (((4 : Int32) ≤ (z_numbers_1 (0 : Int32).toNatClampNeg) → qv_X8_readsSort_J45 (0 : Int32) z_letters z_at_1 z_text z_read z_numbers_1 Post) ∧ (¬ (4 : Int32) ≤ (z_numbers_1 (0 : Int32).toNatClampNeg) → vp_in (1 : Int32) 3 ∧ (((6 : Int32) ≤ (z_numbers_1 (1 : Int32).toNatClampNeg) → qv_X8_readsSort_J45 (0 : Int32) z_letters z_at_1 z_text z_read z_numbers_1 Post) ∧ (¬ (6 : Int32) ≤ (z_numbers_1 (1 : Int32).toNatClampNeg) → vp_in (2 : Int32) 3 ∧ (((61 : Int32) ≤ (z_numbers_1 (2 : Int32).toNatClampNeg) → qv_X8_readsSort_J45 (0 : Int32) z_letters z_at_1 z_text z_read z_numbers_1 Post) ∧ (¬ (61 : Int32) ≤ (z_numbers_1 (2 : Int32).toNatClampNeg) → qv_X8_readsSort_J45 (1 : Int32) z_letters z_at_1 z_text z_read z_numbers_1 Post))))))))
set_option maxHeartbeats 4000000 in
set_option maxRecDepth 100000 in
theorem qm_X8_readsSort (l : Launch) (dC : Nat → ClassId) (dI : Nat → Nat → Nat) (cI cJ cC cG cW : ClassId) (a_this a_this_laid a_this_text a_this_read a_this_numbers a_this_where a_this_sorts a_this_tells a_this_undone a_this_parts a_this_goesWith a_this_with a_this_keeps : Nat) (z_letters : Int32) (z_at : Int32) (z_walked : Int32) (z_counts : Int32) (z_undos : Int32) (z_all : Int64) (z_planned : Int64) (z_scale : Int64) (z_least : Int32) (z_kept : Int32) (z_text : Nat → Int32) (z_read : Nat → Int32) (z_numbers : Nat → Int32) (sz : Nat) (Post : Int32 → (Int32) → (Nat → Int32) → (Nat → Int32) → Prop) (hV : qv_X8_readsSort z_letters z_at z_text z_read z_numbers Post) : Met l yX8_readsSort wsX8_readsSort ({ frames := 3, cells := 0, slots := 0, locals := 71 } : Room) (va_Pc [.ref a_this] (prW (dC, dI) (qw_X8_readsSort cI cJ cC cG cW a_this a_this_laid a_this_text a_this_read a_this_numbers a_this_where a_this_sorts a_this_tells a_this_undone a_this_parts a_this_goesWith a_this_with a_this_keeps z_letters z_at z_walked z_counts z_undos z_all z_planned z_scale z_least z_kept z_text z_read z_numbers) (tyL cI cJ cC cG cW) sz)) (va_Qi (fun (r : Int32) (u : (Int32) × (Nat → Int32) × (Nat → Int32)) => Post r u.1 u.2.1 u.2.2) (fun u t => poW (dC, dI) (tyL cI cJ cC cG cW) (va_A (qw_X8_readsSort cI cJ cC cG cW a_this a_this_laid a_this_text a_this_read a_this_numbers a_this_where a_this_sorts a_this_tells a_this_undone a_this_parts a_this_goesWith a_this_with a_this_keeps z_letters z_at z_walked z_counts z_undos z_all z_planned z_scale z_least z_kept z_text z_read z_numbers) sz) (qw_X8_readsSort cI cJ cC cG cW a_this a_this_laid a_this_text a_this_read a_this_numbers a_this_where a_this_sorts a_this_tells a_this_undone a_this_parts a_this_goesWith a_this_with a_this_keeps z_letters u.1 z_walked z_counts z_undos z_all z_planned z_scale z_least z_kept z_text u.2.1 u.2.2) t) (va_A (qw_X8_readsSort cI cJ cC cG cW a_this a_this_laid a_this_text a_this_read a_this_numbers a_this_where a_this_sorts a_this_tells a_this_undone a_this_parts a_this_goesWith a_this_with a_this_keeps z_letters z_at z_walked z_counts z_undos z_all z_planned z_scale z_least z_kept z_text z_read z_numbers) sz)) 0 0 (va_A (qw_X8_readsSort cI cJ cC cG cW a_this a_this_laid a_this_text a_this_read a_this_numbers a_this_where a_this_sorts a_this_tells a_this_undone a_this_parts a_this_goesWith a_this_with a_this_keeps z_letters z_at z_walked z_counts z_undos z_all z_planned z_scale z_least z_kept z_text z_read z_numbers) sz) := by
  refine Met.ofM (Qc := fun A => va_Qi (fun (r : Int32) (u : (Int32) × (Nat → Int32) × (Nat → Int32)) => Post r u.1 u.2.1 u.2.2) (fun u t => poW (dC, dI) (tyL cI cJ cC cG cW) A (qw_X8_readsSort cI cJ cC cG cW a_this a_this_laid a_this_text a_this_read a_this_numbers a_this_where a_this_sorts a_this_tells a_this_undone a_this_parts a_this_goesWith a_this_with a_this_keeps z_letters u.1 z_walked z_counts z_undos z_all z_planned z_scale z_least z_kept z_text u.2.1 u.2.2) t) A) (nm := "readsSort") (ds := "()Z") (own := RX8) (maxL := 2) (cc := cX8_readsSort) (ret := (some .boolean)) (by decide) rfl rfl (Nat.le_of_ble_eq_true rfl) (fun p e s m below meth c A C0 hin hK hN hA hP hD hS ls hl => ?_)
  obtain ⟨hx, hb, hr, hml, hown, hts, hlocks⟩ := id C0
  have hl : lv_has ls 2 [(0, .ref a_this)] := hl
  obtain ⟨H, hH⟩ : ∃ h : Heap, h = s.heap := ⟨_, rfl⟩
  obtain ⟨locs, hLc⟩ : ∃ L : List Loc, L = [] := ⟨_, rfl⟩
  have hS : va_S A s.heap H locs := by rw [hH, hLc]; exact hS
  rw [← hH] at hP
  rw [← hLc, ← hH]
  clear hH hLc
  refine lv_aload_n hx hb dX8_readsSort_0 rfl (lv_at hl 0 rfl) ?_
  refine lv_iconst (v := (3 : Int32)) hx hb dX8_readsSort_1 (by decide) ?_
  refine kW_i (wc := (qw_X8_readsNumbers cI cJ cC cG cW a_this a_this_laid a_this_text a_this_read a_this_numbers a_this_where a_this_sorts a_this_tells a_this_undone a_this_parts a_this_goesWith a_this_with a_this_keeps z_letters z_at z_walked z_counts z_undos z_all z_planned z_scale z_least z_kept z_text z_numbers)) (wr := List.filterMap (fun (i : Nat) => (qw_X8_readsSort cI cJ cC cG cW a_this a_this_laid a_this_text a_this_read a_this_numbers a_this_where a_this_sorts a_this_tells a_this_undone a_this_parts a_this_goesWith a_this_with a_this_keeps z_letters z_at z_walked z_counts z_undos z_all z_planned z_scale z_least z_kept z_text z_read z_numbers)[i]?) [2]) (w1 := fun (u : (Int32) × (Nat → Int32)) => (qw_X8_readsNumbers cI cJ cC cG cW a_this a_this_laid a_this_text a_this_read a_this_numbers a_this_where a_this_sorts a_this_tells a_this_undone a_this_parts a_this_goesWith a_this_with a_this_keeps z_letters u.1 z_walked z_counts z_undos z_all z_planned z_scale z_least z_kept z_text u.2)) (va_runV (As := [.int (3 : Int32)]) (rest := []) ⟨hx, hb, hml, hown, hts⟩ (qm_X8_readsNumbers l dC dI cI cJ cC cG cW a_this a_this_laid a_this_text a_this_read a_this_numbers a_this_where a_this_sorts a_this_tells a_this_undone a_this_parts a_this_goesWith a_this_with a_this_keeps z_letters z_at z_walked z_counts z_undos z_all z_planned z_scale z_least z_kept z_text z_numbers H.size (3 : Int32) _ hV) (cwV 1 hts gX8_readsSort_X8_readsNumbers rfl rfl rfl (by decide +kernel) ⟨Nat.le_of_ble_eq_true rfl, Nat.le_of_ble_eq_true rfl⟩) (preWV hK hN (hP.sub (ws' := (qw_X8_readsNumbers cI cJ cC cG cW a_this a_this_laid a_this_text a_this_read a_this_numbers a_this_where a_this_sorts a_this_tells a_this_undone a_this_parts a_this_goesWith a_this_with a_this_keeps z_letters z_at z_walked z_counts z_undos z_all z_planned z_scale z_least z_kept z_text z_numbers)) [0, 1, 3] rfl) (hD.sub (ws' := (qw_X8_readsNumbers cI cJ cC cG cW a_this a_this_laid a_this_text a_this_read a_this_numbers a_this_where a_this_sorts a_this_tells a_this_undone a_this_parts a_this_goesWith a_this_with a_this_keeps z_letters z_at z_walked z_counts z_undos z_all z_planned z_scale z_least z_kept z_text z_numbers)) [0, 1, 3] (by decide) rfl) rfl rfl) rfl rfl hl.1 rfl (lv_room (Nat.le_of_ble_eq_true rfl)) dX8_readsSort_2 ⟨Nat.le_of_ble_eq_true rfl, Nat.le_of_ble_eq_true rfl⟩) hP hD hS hA [0, 1, 3] [2] rfl rfl (by decide) (by decide) (fun r1 u H locs hV hP hD hS => ?_)
  obtain ⟨z_at_1, z_numbers_1⟩ := u
  try dsimp only at hV
  have hP := hP.sub (ws' := (qw_X8_readsSort cI cJ cC cG cW a_this a_this_laid a_this_text a_this_read a_this_numbers a_this_where a_this_sorts a_this_tells a_this_undone a_this_parts a_this_goesWith a_this_with a_this_keeps z_letters z_at_1 z_walked z_counts z_undos z_all z_planned z_scale z_least z_kept z_text z_read z_numbers_1)) [1, 2, 0, 3] rfl
  have hD := hD.sub (ws' := (qw_X8_readsSort cI cJ cC cG cW a_this a_this_laid a_this_text a_this_read a_this_numbers a_this_where a_this_sorts a_this_tells a_this_undone a_this_parts a_this_goesWith a_this_with a_this_keeps z_letters z_at_1 z_walked z_counts z_undos z_all z_planned z_scale z_least z_kept z_text z_read z_numbers_1)) [1, 2, 0, 3] (by decide) rfl
  refine lv_if_eq (tgt := 44) hx hb dX8_readsSort_5 (by decide) (fun c2 => ?_) (fun c2 => ?_)
  · have hV := hV.1 c2
    refine lv_iconst (v := (0 : Int32)) hx hb dX8_readsSort_44 (by decide) ?_
    exact qt_X8_readsSort_J45 C0 hK hN hA z_letters z_at_1 z_walked z_counts z_undos z_all z_planned z_scale z_least z_kept z_text z_read z_numbers_1 (0 : Int32) _ H locs ls hV hP hD hS (lv_sub hl [0] rfl)
  · have hV := hV.2 c2
    refine lv_aload_n hx hb dX8_readsSort_8 rfl (lv_at hl 0 rfl) ?_
    refine va_get (D := (dC, dI)) (ci := 8) (v := .ref a_this_numbers) (C := RX8) (T := TX8) (N := 22) hx hb hts qi_X8_readsSort_X8 hown hK hP 0 rfl rfl 5 (by decide) (hts _ ql_X8_readsSort_19) (fun _ h9 => h9) rfl dX8_readsSort_9 ?_
    refine lv_iconst (v := (0 : Int32)) hx hb dX8_readsSort_12 (by decide) ?_
    obtain ⟨h12, hV⟩ := hV
    refine va_iald hx hb hK hP 3 0 rfl rfl h12 dX8_readsSort_13 ?_
    refine lv_iconst (v := (4 : Int32)) hx hb dX8_readsSort_14 (by decide) ?_
    refine lv_icmp_ge (tgt := 44) hx hb dX8_readsSort_15 (by decide) (fun c13 => ?_) (fun c13 => ?_)
    · have hV := hV.1 c13
      refine lv_iconst (v := (0 : Int32)) hx hb dX8_readsSort_44 (by decide) ?_
      exact qt_X8_readsSort_J45 C0 hK hN hA z_letters z_at_1 z_walked z_counts z_undos z_all z_planned z_scale z_least z_kept z_text z_read z_numbers_1 (0 : Int32) _ H locs ls hV hP hD hS (lv_sub hl [0] rfl)
    · have hV := hV.2 c13
      refine lv_aload_n hx hb dX8_readsSort_18 rfl (lv_at hl 0 rfl) ?_
      refine va_get (D := (dC, dI)) (ci := 8) (v := .ref a_this_numbers) (C := RX8) (T := TX8) (N := 22) hx hb hts qi_X8_readsSort_X8 hown hK hP 0 rfl rfl 5 (by decide) (hts _ ql_X8_readsSort_19) (fun _ h9 => h9) rfl dX8_readsSort_19 ?_
      refine lv_iconst (v := (1 : Int32)) hx hb dX8_readsSort_22 (by decide) ?_
      obtain ⟨h14, hV⟩ := hV
      refine va_iald hx hb hK hP 3 0 rfl rfl h14 dX8_readsSort_23 ?_
      refine lv_bipush (v := (6 : Int32)) hx hb dX8_readsSort_24 (by decide) ?_
      refine lv_icmp_ge (tgt := 44) hx hb dX8_readsSort_26 (by decide) (fun c15 => ?_) (fun c15 => ?_)
      · have hV := hV.1 c15
        refine lv_iconst (v := (0 : Int32)) hx hb dX8_readsSort_44 (by decide) ?_
        exact qt_X8_readsSort_J45 C0 hK hN hA z_letters z_at_1 z_walked z_counts z_undos z_all z_planned z_scale z_least z_kept z_text z_read z_numbers_1 (0 : Int32) _ H locs ls hV hP hD hS (lv_sub hl [0] rfl)
      · have hV := hV.2 c15
        refine lv_aload_n hx hb dX8_readsSort_29 rfl (lv_at hl 0 rfl) ?_
        refine va_get (D := (dC, dI)) (ci := 8) (v := .ref a_this_numbers) (C := RX8) (T := TX8) (N := 22) hx hb hts qi_X8_readsSort_X8 hown hK hP 0 rfl rfl 5 (by decide) (hts _ ql_X8_readsSort_19) (fun _ h9 => h9) rfl dX8_readsSort_30 ?_
        refine lv_iconst (v := (2 : Int32)) hx hb dX8_readsSort_33 (by decide) ?_
        obtain ⟨h16, hV⟩ := hV
        refine va_iald hx hb hK hP 3 0 rfl rfl h16 dX8_readsSort_34 ?_
        refine lv_bipush (v := (61 : Int32)) hx hb dX8_readsSort_35 (by decide) ?_
        refine lv_icmp_ge (tgt := 44) hx hb dX8_readsSort_37 (by decide) (fun c17 => ?_) (fun c17 => ?_)
        · have hV := hV.1 c17
          refine lv_iconst (v := (0 : Int32)) hx hb dX8_readsSort_44 (by decide) ?_
          exact qt_X8_readsSort_J45 C0 hK hN hA z_letters z_at_1 z_walked z_counts z_undos z_all z_planned z_scale z_least z_kept z_text z_read z_numbers_1 (0 : Int32) _ H locs ls hV hP hD hS (lv_sub hl [0] rfl)
        · have hV := hV.2 c17
          refine lv_iconst (v := (1 : Int32)) hx hb dX8_readsSort_40 (by decide) ?_
          refine lv_goto (tgt := 45) hx hb dX8_readsSort_41 (by decide) ?_
          exact qt_X8_readsSort_J45 C0 hK hN hA z_letters z_at_1 z_walked z_counts z_undos z_all z_planned z_scale z_least z_kept z_text z_read z_numbers_1 (1 : Int32) _ H locs ls hV hP hD hS (lv_sub hl [0] rfl)
