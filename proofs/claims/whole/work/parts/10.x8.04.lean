/-! StileCountsModel.decide(I)J -/
abbrev qw_X8_decide (cI cJ cC cG cW : ClassId) (a_this a_this_laid a_this_text a_this_read a_this_numbers a_this_where a_this_sorts a_this_tells a_this_undone a_this_parts a_this_goesWith a_this_with a_this_keeps : Nat) (z_letters : Int32) (z_at : Int32) (z_walked : Int32) (z_counts : Int32) (z_undos : Int32) (z_all : Int64) (z_planned : Int64) (z_scale : Int64) (z_least : Int32) (z_kept : Int32) (z_laid : Nat → Int32) (z_where : Nat → Int32) (z_sorts : Nat → Int32) (z_tells : Nat → Int32) (z_parts : Nat → Int64) : va_W := [(a_this, .inr (8, [.ref a_this_laid, .ref a_this_text, .int z_letters, .ref a_this_read, .int z_at, .ref a_this_numbers, .int z_walked, .int z_counts, .ref a_this_where, .ref a_this_sorts, .ref a_this_tells, .int z_undos, .ref a_this_undone, .ref a_this_parts, .long z_all, .long z_planned, .long z_scale, .ref a_this_goesWith, .int z_least, .ref a_this_with, .int z_kept, .ref a_this_keeps])), (a_this_laid, .inl (cI, 73, .inl z_laid)), (a_this_where, .inl (cI, 6, .inl z_where)), (a_this_sorts, .inl (cI, 6, .inl z_sorts)), (a_this_tells, .inl (cI, 6, .inl z_tells)), (a_this_parts, .inl (cJ, 9, .inr (.inl z_parts)))]
theorem ql_X8_decide_82 : (.constantLong RX8 82 (2 : Int64) : Cond) ∈ wsX8_decide := by decide +kernel
theorem qi_X8_decide_X8 : ∀ w ∈ wsX80, w ∈ wsX8_decide := by decide +kernel
theorem ql_X8_decide_114 : (.fieldLink RX8 114 "StileCountsModel" "counts" "I" : Cond) ∈ wsX8_decide := by decide +kernel
theorem ql_X8_decide_138 : (.fieldLink RX8 138 "StileCountsModel" "all" "J" : Cond) ∈ wsX8_decide := by decide +kernel
theorem ql_X8_decide_7 : (.fieldLink RX8 7 "StileCountsModel" "laid" "[I" : Cond) ∈ wsX8_decide := by decide +kernel
theorem ql_X8_decide_34 : (.fieldLink RX8 34 "StileCountsModel" "parts" "[J" : Cond) ∈ wsX8_decide := by decide +kernel
theorem ql_X8_decide_161 : (.constantLong RX8 161 (-4 : Int64) : Cond) ∈ wsX8_decide := by decide +kernel
theorem ql_X8_decide_155 : (.constantLong RX8 155 (-1 : Int64) : Cond) ∈ wsX8_decide := by decide +kernel
def qv_X8_decide_J106 (k0 : Int64) (x1 : Int32) (z_walked : Int32) (z_counts : Int32) (z_all : Int64) (z_laid : Nat → Int32) (z_where : Nat → Int32) (z_sorts : Nat → Int32) (z_tells : Nat → Int32) (z_parts : Nat → Int64) (Post : Int64 → (Int64) → (Nat → Int64) → Prop) : Prop := qv_X8_part k0 z_all (x1 - (1 : Int32)) (fun r11 => Post r11 z_all z_parts)
set_option maxHeartbeats 4000000 in
set_option maxRecDepth 100000 in
theorem qt_X8_decide_J106 {p : Program} {l : Launch} {e : Env} {s : State} {m : MethodId} {args : Array Value} {below : List Frame} {meth : Method} {c : Code} {dC : Nat → ClassId} {dI : Nat → Nat → Nat} {cI cJ cC cG cW : ClassId} {a_this a_this_laid a_this_text a_this_read a_this_numbers a_this_where a_this_sorts a_this_tells a_this_undone a_this_parts a_this_goesWith a_this_with a_this_keeps : Nat} {A : Nat → Prop} (C0 : MC cX8_decide 6 (some .long) RX8 wsX8_decide p s m args meth c) (hK : va_K (dC, dI) vwCl (tyL cI cJ cC cG cW) s) (hN : NW s) (hA : ∀ q, s.heap.size ≤ q → A q) (z_letters : Int32) (z_at : Int32) (z_walked : Int32) (z_counts : Int32) (z_undos : Int32) (z_all : Int64) (z_planned : Int64) (z_scale : Int64) (z_least : Int32) (z_kept : Int32) (z_laid : Nat → Int32) (z_where : Nat → Int32) (z_sorts : Nat → Int32) (z_tells : Nat → Int32) (z_parts : Nat → Int64) (k0 : Int64) (x1 : Int32) (Post : Int64 → (Int64) → (Nat → Int64) → Prop) (H : Heap) (locs : List Loc) (ls : Array Slot) (hV : qv_X8_decide_J106 k0 x1 z_walked z_counts z_all z_laid z_where z_sorts z_tells z_parts Post) (hP : va_P (dC, dI) vwCl (qw_X8_decide cI cJ cC cG cW a_this a_this_laid a_this_text a_this_read a_this_numbers a_this_where a_this_sorts a_this_tells a_this_undone a_this_parts a_this_goesWith a_this_with a_this_keeps z_letters z_at z_walked z_counts z_undos z_all z_planned z_scale z_least z_kept z_laid z_where z_sorts z_tells z_parts) H) (hD : va_D A (qw_X8_decide cI cJ cC cG cW a_this a_this_laid a_this_text a_this_read a_this_numbers a_this_where a_this_sorts a_this_tells a_this_undone a_this_parts a_this_goesWith a_this_with a_this_keeps z_letters z_at z_walked z_counts z_undos z_all z_planned z_scale z_least z_kept z_laid z_where z_sorts z_tells z_parts)) (hS : va_S A s.heap H locs) (hl : lv_has ls 6 [(0, .ref a_this), (1, .int x1)]) : W p l e ({ frames := 4, cells := 0, slots := 0, locals := 104 } : Room) s m args below meth c H locs 0 0 (MQ below (va_Ql (fun (r : Int64) (u : (Int64) × (Nat → Int64)) => Post r u.1 u.2) (fun u t => poW (dC, dI) (tyL cI cJ cC cG cW) A (qw_X8_decide cI cJ cC cG cW a_this a_this_laid a_this_text a_this_read a_this_numbers a_this_where a_this_sorts a_this_tells a_this_undone a_this_parts a_this_goesWith a_this_with a_this_keeps z_letters z_at z_walked z_counts z_undos u.1 z_planned z_scale z_least z_kept z_laid z_where z_sorts z_tells u.2) t) A) args s 0 0 A) (F0 m 106 ls [.long k0]) := by
  obtain ⟨hx, hb, hr, hml, hown, hts, hlocks⟩ := id C0
  refine lv_aload_n hx hb dX8_decide_106 rfl (lv_at hl 0 rfl) ?_
  refine va_get (D := (dC, dI)) (ci := 8) (v := .long z_all) (C := RX8) (T := TX8) (N := 22) hx hb hts qi_X8_decide_X8 hown hK hP 0 rfl rfl 14 (by decide) (hts _ ql_X8_decide_138) (fun _ h9 => h9) rfl dX8_decide_107 ?_
  refine lv_iload_n hx hb dX8_decide_110 rfl (lv_at hl 1 rfl) ?_
  refine lv_iconst (v := (1 : Int32)) hx hb dX8_decide_111 (by decide) ?_
  refine lv_isub hx hb dX8_decide_112 ?_
  refine vp_callSl (va_Run.run (va_runS (As := [.long k0, .long z_all, .int (x1 - (1 : Int32))]) (rest := []) ⟨hx, hb, hml, hown, hts⟩ (qm_X8_part l dC dI cI cJ cC cG cW k0 z_all (x1 - (1 : Int32)) _ hV) (va_cwS 3 hts gX8_decide_X8_part rfl rfl rfl (by decide +kernel) ⟨Nat.le_of_ble_eq_true rfl, Nat.le_of_ble_eq_true rfl⟩) (preRS hK hN (show va_P (dC, dI) vwCl (qw_X8_part cI cJ cC cG cW) H from fun k q h => by simp at h)) rfl rfl hl.1 rfl (lv_room (Nat.le_of_ble_eq_true rfl)) dX8_decide_113 ⟨Nat.le_of_ble_eq_true rfl, Nat.le_of_ble_eq_true rfl⟩)) (fun r11 hV => ?_)
  exact W.lret hx hb hr (fun t ht hW => ⟨⟨_, (z_all, z_parts), rfl, hV, ⟨by rw [ht]; exact hP, va_K.moved hW.alike hK, hD⟩⟩, hS.F ht⟩) hS.2.2 dX8_decide_116 hlocks
def qv_X8_decide (x1 : Int32) (z_walked : Int32) (z_counts : Int32) (z_all : Int64) (z_laid : Nat → Int32) (z_where : Nat → Int32) (z_sorts : Nat → Int32) (z_tells : Nat → Int32) (z_parts : Nat → Int64) (Post : Int64 → (Int64) → (Nat → Int64) → Prop) : Prop := qv_X8_in (x1.toInt64) (0 : Int64) (2 : Int64) (fun r1 => (r1 = (0 : Int32) → Post (-1 : Int64) z_all z_parts) ∧ (¬ r1 = (0 : Int32) → qv_X8_goes z_counts z_walked z_all z_laid z_where z_sorts z_tells z_parts (fun r3 z_all_3 z_parts_3 => (z_all_3 = (0 : Int64) → Post (-4 : Int64) z_all_3 z_parts_3) ∧ (¬ z_all_3 = (0 : Int64) → vp_in (2 : Int32) 73 ∧ (vp_in (0 : Int32) 9 ∧ (vp_in (3 : Int32) 73 ∧ (vp_in (0 : Int32) 9 ∧ ((x1 = (0 : Int32) → ((((z_laid (3 : Int32).toNatClampNeg).toInt64) * (z_parts_3 (0 : Int32).toNatClampNeg)) < (((z_laid (2 : Int32).toNatClampNeg).toInt64) * (z_all_3 - (z_parts_3 (0 : Int32).toNatClampNeg))) → Post (1 : Int64) z_all_3 z_parts_3) ∧ (¬ (((z_laid (3 : Int32).toNatClampNeg).toInt64) * (z_parts_3 (0 : Int32).toNatClampNeg)) < (((z_laid (2 : Int32).toNatClampNeg).toInt64) * (z_all_3 - (z_parts_3 (0 : Int32).toNatClampNeg))) → Post (0 : Int64) z_all_3 z_parts_3)) ∧ (¬ x1 = (0 : Int32) → ((((z_laid (3 : Int32).toNatClampNeg).toInt64) * (z_parts_3 (0 : Int32).toNatClampNeg)) ≤ (((z_laid (2 : Int32).toNatClampNeg).toInt64) * (z_all_3 - (z_parts_3 (0 : Int32).toNatClampNeg))) → qv_X8_decide_J106 (((z_laid (3 : Int32).toNatClampNeg).toInt64) * (z_parts_3 (0 : Int32).toNatClampNeg)) x1 z_walked z_counts z_all_3 z_laid z_where z_sorts z_tells z_parts_3 Post) ∧ (¬ (((z_laid (3 : Int32).toNatClampNeg).toInt64) * (z_parts_3 (0 : Int32).toNatClampNeg)) ≤ (((z_laid (2 : Int32).toNatClampNeg).toInt64) * (z_all_3 - (z_parts_3 (0 : Int32).toNatClampNeg))) → qv_X8_decide_J106 (((z_laid (2 : Int32).toNatClampNeg).toInt64) * (z_all_3 - (z_parts_3 (0 : Int32).toNatClampNeg))) x1 z_walked z_counts z_all_3 z_laid z_where z_sorts z_tells z_parts_3 Post))))))))))
set_option maxHeartbeats 4000000 in
set_option maxRecDepth 100000 in
theorem qm_X8_decide (l : Launch) (dC : Nat → ClassId) (dI : Nat → Nat → Nat) (cI cJ cC cG cW : ClassId) (a_this a_this_laid a_this_text a_this_read a_this_numbers a_this_where a_this_sorts a_this_tells a_this_undone a_this_parts a_this_goesWith a_this_with a_this_keeps : Nat) (z_letters : Int32) (z_at : Int32) (z_walked : Int32) (z_counts : Int32) (z_undos : Int32) (z_all : Int64) (z_planned : Int64) (z_scale : Int64) (z_least : Int32) (z_kept : Int32) (z_laid : Nat → Int32) (z_where : Nat → Int32) (z_sorts : Nat → Int32) (z_tells : Nat → Int32) (z_parts : Nat → Int64) (sz : Nat) (x1 : Int32) (Post : Int64 → (Int64) → (Nat → Int64) → Prop) (hV : qv_X8_decide x1 z_walked z_counts z_all z_laid z_where z_sorts z_tells z_parts Post) : Met l yX8_decide wsX8_decide ({ frames := 4, cells := 0, slots := 0, locals := 104 } : Room) (va_Pc [.ref a_this, .int x1] (prW (dC, dI) (qw_X8_decide cI cJ cC cG cW a_this a_this_laid a_this_text a_this_read a_this_numbers a_this_where a_this_sorts a_this_tells a_this_undone a_this_parts a_this_goesWith a_this_with a_this_keeps z_letters z_at z_walked z_counts z_undos z_all z_planned z_scale z_least z_kept z_laid z_where z_sorts z_tells z_parts) (tyL cI cJ cC cG cW) sz)) (va_Ql (fun (r : Int64) (u : (Int64) × (Nat → Int64)) => Post r u.1 u.2) (fun u t => poW (dC, dI) (tyL cI cJ cC cG cW) (va_A (qw_X8_decide cI cJ cC cG cW a_this a_this_laid a_this_text a_this_read a_this_numbers a_this_where a_this_sorts a_this_tells a_this_undone a_this_parts a_this_goesWith a_this_with a_this_keeps z_letters z_at z_walked z_counts z_undos z_all z_planned z_scale z_least z_kept z_laid z_where z_sorts z_tells z_parts) sz) (qw_X8_decide cI cJ cC cG cW a_this a_this_laid a_this_text a_this_read a_this_numbers a_this_where a_this_sorts a_this_tells a_this_undone a_this_parts a_this_goesWith a_this_with a_this_keeps z_letters z_at z_walked z_counts z_undos u.1 z_planned z_scale z_least z_kept z_laid z_where z_sorts z_tells u.2) t) (va_A (qw_X8_decide cI cJ cC cG cW a_this a_this_laid a_this_text a_this_read a_this_numbers a_this_where a_this_sorts a_this_tells a_this_undone a_this_parts a_this_goesWith a_this_with a_this_keeps z_letters z_at z_walked z_counts z_undos z_all z_planned z_scale z_least z_kept z_laid z_where z_sorts z_tells z_parts) sz)) 0 0 (va_A (qw_X8_decide cI cJ cC cG cW a_this a_this_laid a_this_text a_this_read a_this_numbers a_this_where a_this_sorts a_this_tells a_this_undone a_this_parts a_this_goesWith a_this_with a_this_keeps z_letters z_at z_walked z_counts z_undos z_all z_planned z_scale z_least z_kept z_laid z_where z_sorts z_tells z_parts) sz) := by
  refine Met.ofM (Qc := fun A => va_Ql (fun (r : Int64) (u : (Int64) × (Nat → Int64)) => Post r u.1 u.2) (fun u t => poW (dC, dI) (tyL cI cJ cC cG cW) A (qw_X8_decide cI cJ cC cG cW a_this a_this_laid a_this_text a_this_read a_this_numbers a_this_where a_this_sorts a_this_tells a_this_undone a_this_parts a_this_goesWith a_this_with a_this_keeps z_letters z_at z_walked z_counts z_undos u.1 z_planned z_scale z_least z_kept z_laid z_where z_sorts z_tells u.2) t) A) (nm := "decide") (ds := "(I)J") (own := RX8) (maxL := 6) (cc := cX8_decide) (ret := (some .long)) (by decide) rfl rfl (Nat.le_of_ble_eq_true rfl) (fun p e s m below meth c A C0 hin hK hN hA hP hD hS ls hl => ?_)
  obtain ⟨hx, hb, hr, hml, hown, hts, hlocks⟩ := id C0
  have hl : lv_has ls 6 [(0, .ref a_this), (1, .int x1)] := hl
  obtain ⟨H, hH⟩ : ∃ h : Heap, h = s.heap := ⟨_, rfl⟩
  obtain ⟨locs, hLc⟩ : ∃ L : List Loc, L = [] := ⟨_, rfl⟩
  have hS : va_S A s.heap H locs := by rw [hH, hLc]; exact hS
  rw [← hH] at hP
  rw [← hLc, ← hH]
  clear hH hLc
  refine lv_iload_n hx hb dX8_decide_0 rfl (lv_at hl 1 rfl) ?_
  refine lv_i2l hx hb dX8_decide_1 rfl ?_
  refine lv_lconst (v := (0 : Int64)) hx hb dX8_decide_2 (by decide) ?_
  refine lv_ldc2 (v := (2 : Int64)) hx hb hown (hts _ ql_X8_decide_82) dX8_decide_3 ?_
  refine vp_callSi (va_Run.run (va_runS (As := [.long (x1.toInt64), .long (0 : Int64), .long (2 : Int64)]) (rest := []) ⟨hx, hb, hml, hown, hts⟩ (qm_X8_in l dC dI cI cJ cC cG cW (x1.toInt64) (0 : Int64) (2 : Int64) _ hV) (va_cwS 3 hts gX8_decide_X8_in rfl rfl rfl (by decide +kernel) ⟨Nat.le_of_ble_eq_true rfl, Nat.le_of_ble_eq_true rfl⟩) (preRS hK hN (show va_P (dC, dI) vwCl (qw_X8_in cI cJ cC cG cW) H from fun k q h => by simp at h)) rfl rfl hl.1 rfl (lv_room (Nat.le_of_ble_eq_true rfl)) dX8_decide_6 ⟨Nat.le_of_ble_eq_true rfl, Nat.le_of_ble_eq_true rfl⟩)) (fun r1 hV => ?_)
  refine lv_if_ne (tgt := 16) hx hb dX8_decide_9 (by decide) (fun c2 => ?_) (fun c2 => ?_)
  · have hV := hV.2 c2
    refine lv_aload_n hx hb dX8_decide_16 rfl (lv_at hl 0 rfl) ?_
    refine lv_aload_n hx hb dX8_decide_17 rfl (lv_at hl 0 rfl) ?_
    refine va_get (D := (dC, dI)) (ci := 8) (v := .int z_counts) (C := RX8) (T := TX8) (N := 22) hx hb hts qi_X8_decide_X8 hown hK hP 0 rfl rfl 7 (by decide) (hts _ ql_X8_decide_114) (fun _ h9 => h9) rfl dX8_decide_18 ?_
    refine kW_i (wc := (qw_X8_goes cI cJ cC cG cW a_this a_this_laid a_this_text a_this_read a_this_numbers a_this_where a_this_sorts a_this_tells a_this_undone a_this_parts a_this_goesWith a_this_with a_this_keeps z_letters z_at z_walked z_counts z_undos z_all z_planned z_scale z_least z_kept z_laid z_where z_sorts z_tells z_parts)) (wr := List.filterMap (fun (i : Nat) => (qw_X8_decide cI cJ cC cG cW a_this a_this_laid a_this_text a_this_read a_this_numbers a_this_where a_this_sorts a_this_tells a_this_undone a_this_parts a_this_goesWith a_this_with a_this_keeps z_letters z_at z_walked z_counts z_undos z_all z_planned z_scale z_least z_kept z_laid z_where z_sorts z_tells z_parts)[i]?) []) (w1 := fun (u : (Int64) × (Nat → Int64)) => (qw_X8_goes cI cJ cC cG cW a_this a_this_laid a_this_text a_this_read a_this_numbers a_this_where a_this_sorts a_this_tells a_this_undone a_this_parts a_this_goesWith a_this_with a_this_keeps z_letters z_at z_walked z_counts z_undos u.1 z_planned z_scale z_least z_kept z_laid z_where z_sorts z_tells u.2)) (va_runV (As := [.int z_counts]) (rest := []) ⟨hx, hb, hml, hown, hts⟩ (qm_X8_goes l dC dI cI cJ cC cG cW a_this a_this_laid a_this_text a_this_read a_this_numbers a_this_where a_this_sorts a_this_tells a_this_undone a_this_parts a_this_goesWith a_this_with a_this_keeps z_letters z_at z_walked z_counts z_undos z_all z_planned z_scale z_least z_kept z_laid z_where z_sorts z_tells z_parts H.size z_counts _ hV) (cwV 1 hts gX8_decide_X8_goes rfl rfl rfl (by decide +kernel) ⟨Nat.le_of_ble_eq_true rfl, Nat.le_of_ble_eq_true rfl⟩) (preWV hK hN (show va_P (dC, dI) vwCl (qw_X8_goes cI cJ cC cG cW a_this a_this_laid a_this_text a_this_read a_this_numbers a_this_where a_this_sorts a_this_tells a_this_undone a_this_parts a_this_goesWith a_this_with a_this_keeps z_letters z_at z_walked z_counts z_undos z_all z_planned z_scale z_least z_kept z_laid z_where z_sorts z_tells z_parts) H from hP) (hD.sub (ws' := (qw_X8_goes cI cJ cC cG cW a_this a_this_laid a_this_text a_this_read a_this_numbers a_this_where a_this_sorts a_this_tells a_this_undone a_this_parts a_this_goesWith a_this_with a_this_keeps z_letters z_at z_walked z_counts z_undos z_all z_planned z_scale z_least z_kept z_laid z_where z_sorts z_tells z_parts)) [0, 1, 2, 3, 4, 5] (by decide) rfl) rfl rfl) rfl rfl hl.1 rfl (lv_room (Nat.le_of_ble_eq_true rfl)) dX8_decide_21 ⟨Nat.le_of_ble_eq_true rfl, Nat.le_of_ble_eq_true rfl⟩) hP hD hS hA [0, 1, 2, 3, 4, 5] [] rfl rfl (by decide) (by decide) (fun r3 u H locs hV hP hD hS => ?_)
    obtain ⟨z_all_3, z_parts_3⟩ := u
    try dsimp only at hV
    have hP := hP.sub (ws' := (qw_X8_decide cI cJ cC cG cW a_this a_this_laid a_this_text a_this_read a_this_numbers a_this_where a_this_sorts a_this_tells a_this_undone a_this_parts a_this_goesWith a_this_with a_this_keeps z_letters z_at z_walked z_counts z_undos z_all_3 z_planned z_scale z_least z_kept z_laid z_where z_sorts z_tells z_parts_3)) [0, 1, 2, 3, 4, 5] rfl
    have hD := hD.sub (ws' := (qw_X8_decide cI cJ cC cG cW a_this a_this_laid a_this_text a_this_read a_this_numbers a_this_where a_this_sorts a_this_tells a_this_undone a_this_parts a_this_goesWith a_this_with a_this_keeps z_letters z_at z_walked z_counts z_undos z_all_3 z_planned z_scale z_least z_kept z_laid z_where z_sorts z_tells z_parts_3)) [0, 1, 2, 3, 4, 5] (by decide) rfl
    refine lv_pop hx hb dX8_decide_24 rfl ?_
    refine lv_aload_n hx hb dX8_decide_25 rfl (lv_at hl 0 rfl) ?_
    refine va_get (D := (dC, dI)) (ci := 8) (v := .long z_all_3) (C := RX8) (T := TX8) (N := 22) hx hb hts qi_X8_decide_X8 hown hK hP 0 rfl rfl 14 (by decide) (hts _ ql_X8_decide_138) (fun _ h9 => h9) rfl dX8_decide_26 ?_
    refine lv_lconst (v := (0 : Int64)) hx hb dX8_decide_29 (by decide) ?_
    refine W.lcmp hx hb dX8_decide_30 ?_
    refine lv_if_ne (tgt := 38) hx hb dX8_decide_31 (by decide) (fun c4 => ?_) (fun c4 => ?_)
    · have c4 := fun h => c4 ((lg_cmp_eq _ _).mpr h)
      have hV := hV.2 c4
      refine lv_aload_n hx hb dX8_decide_38 rfl (lv_at hl 0 rfl) ?_
      refine va_get (D := (dC, dI)) (ci := 8) (v := .ref a_this_laid) (C := RX8) (T := TX8) (N := 22) hx hb hts qi_X8_decide_X8 hown hK hP 0 rfl rfl 0 (by decide) (hts _ ql_X8_decide_7) (fun _ h9 => h9) rfl dX8_decide_39 ?_
      refine lv_iconst (v := (2 : Int32)) hx hb dX8_decide_42 (by decide) ?_
      obtain ⟨h5, hV⟩ := hV
      refine va_iald hx hb hK hP 1 0 rfl rfl h5 dX8_decide_43 ?_
      refine lv_i2l hx hb dX8_decide_44 rfl ?_
      refine lv_aload_n hx hb dX8_decide_45 rfl (lv_at hl 0 rfl) ?_
      refine va_get (D := (dC, dI)) (ci := 8) (v := .long z_all_3) (C := RX8) (T := TX8) (N := 22) hx hb hts qi_X8_decide_X8 hown hK hP 0 rfl rfl 14 (by decide) (hts _ ql_X8_decide_138) (fun _ h9 => h9) rfl dX8_decide_46 ?_
      refine lv_aload_n hx hb dX8_decide_49 rfl (lv_at hl 0 rfl) ?_
      refine va_get (D := (dC, dI)) (ci := 8) (v := .ref a_this_parts) (C := RX8) (T := TX8) (N := 22) hx hb hts qi_X8_decide_X8 hown hK hP 0 rfl rfl 13 (by decide) (hts _ ql_X8_decide_34) (fun _ h9 => h9) rfl dX8_decide_50 ?_
      refine lv_iconst (v := (0 : Int32)) hx hb dX8_decide_53 (by decide) ?_
      obtain ⟨h6, hV⟩ := hV
      refine va_lald hx hb hK hP 5 1 rfl rfl h6 dX8_decide_54 ?_
      refine lv_lsub hx hb dX8_decide_55 ?_
      refine lv_lmul hx hb dX8_decide_56 ?_
      refine lv_lstore_n (lv' := [(2, .long (((z_laid (2 : Int32).toNatClampNeg).toInt64) * (z_all_3 - (z_parts_3 (0 : Int32).toNatClampNeg)))), (0, .ref a_this), (1, .int x1)]) hx hb dX8_decide_57 rfl hl (by decide) rfl (fun ls hl => ?_)
      refine lv_aload_n hx hb dX8_decide_58 rfl (lv_at hl 1 rfl) ?_
      refine va_get (D := (dC, dI)) (ci := 8) (v := .ref a_this_laid) (C := RX8) (T := TX8) (N := 22) hx hb hts qi_X8_decide_X8 hown hK hP 0 rfl rfl 0 (by decide) (hts _ ql_X8_decide_7) (fun _ h9 => h9) rfl dX8_decide_59 ?_
      refine lv_iconst (v := (3 : Int32)) hx hb dX8_decide_62 (by decide) ?_
      obtain ⟨h7, hV⟩ := hV
      refine va_iald hx hb hK hP 1 0 rfl rfl h7 dX8_decide_63 ?_
      refine lv_i2l hx hb dX8_decide_64 rfl ?_
      refine lv_aload_n hx hb dX8_decide_65 rfl (lv_at hl 1 rfl) ?_
      refine va_get (D := (dC, dI)) (ci := 8) (v := .ref a_this_parts) (C := RX8) (T := TX8) (N := 22) hx hb hts qi_X8_decide_X8 hown hK hP 0 rfl rfl 13 (by decide) (hts _ ql_X8_decide_34) (fun _ h9 => h9) rfl dX8_decide_66 ?_
      refine lv_iconst (v := (0 : Int32)) hx hb dX8_decide_69 (by decide) ?_
      obtain ⟨h8, hV⟩ := hV
      refine va_lald hx hb hK hP 5 1 rfl rfl h8 dX8_decide_70 ?_
      refine lv_lmul hx hb dX8_decide_71 ?_
      refine lv_lstore (lv' := [(4, .long (((z_laid (3 : Int32).toNatClampNeg).toInt64) * (z_parts_3 (0 : Int32).toNatClampNeg))), (2, .long (((z_laid (2 : Int32).toNatClampNeg).toInt64) * (z_all_3 - (z_parts_3 (0 : Int32).toNatClampNeg)))), (0, .ref a_this), (1, .int x1)]) hx hb dX8_decide_72 hl (by decide) rfl (fun ls hl => ?_)
      refine lv_iload_n hx hb dX8_decide_74 rfl (lv_at hl 3 rfl) ?_
      refine lv_if_ne (tgt := 93) hx hb dX8_decide_75 (by decide) (fun c9 => ?_) (fun c9 => ?_)
      · have hV := hV.2 c9
        refine lv_lload_n hx hb dX8_decide_93 rfl (lv_at hl 1 rfl) ?_
        refine lv_lload hx hb dX8_decide_94 (lv_at hl 0 rfl) ?_
        refine W.lcmp hx hb dX8_decide_96 ?_
        refine lv_if_ge (tgt := 104) hx hb dX8_decide_97 (by decide) (fun c10 => ?_) (fun c10 => ?_)
        · have c10 := (lg_cmp_ge _ _).mp c10
          have hV := hV.1 c10
          refine lv_lload hx hb dX8_decide_104 (lv_at hl 0 rfl) ?_
          exact qt_X8_decide_J106 C0 hK hN hA z_letters z_at z_walked z_counts z_undos z_all_3 z_planned z_scale z_least z_kept z_laid z_where z_sorts z_tells z_parts_3 (((z_laid (3 : Int32).toNatClampNeg).toInt64) * (z_parts_3 (0 : Int32).toNatClampNeg)) x1 _ H locs ls hV hP hD hS (lv_sub hl [2, 3] rfl)
        · have c10 := fun h => c10 ((lg_cmp_ge _ _).mpr h)
          have hV := hV.2 c10
          refine lv_lload_n hx hb dX8_decide_100 rfl (lv_at hl 1 rfl) ?_
          refine lv_goto (tgt := 106) hx hb dX8_decide_101 (by decide) ?_
          exact qt_X8_decide_J106 C0 hK hN hA z_letters z_at z_walked z_counts z_undos z_all_3 z_planned z_scale z_least z_kept z_laid z_where z_sorts z_tells z_parts_3 (((z_laid (2 : Int32).toNatClampNeg).toInt64) * (z_all_3 - (z_parts_3 (0 : Int32).toNatClampNeg))) x1 _ H locs ls hV hP hD hS (lv_sub hl [2, 3] rfl)
      · have hV := hV.1 c9
        refine lv_lload_n hx hb dX8_decide_78 rfl (lv_at hl 1 rfl) ?_
        refine lv_lload hx hb dX8_decide_79 (lv_at hl 0 rfl) ?_
        refine W.lcmp hx hb dX8_decide_81 ?_
        refine lv_if_gt (tgt := 89) hx hb dX8_decide_82 (by decide) (fun c12 => ?_) (fun c12 => ?_)
        · have c12 := (lg_cmp_gt _ _).mp c12
          have hV := hV.1 c12
          refine lv_lconst (v := (1 : Int64)) hx hb dX8_decide_89 (by decide) ?_
          refine lv_goto (tgt := 116) hx hb dX8_decide_90 (by decide) ?_
          exact W.lret hx hb hr (fun t ht hW => ⟨⟨_, (z_all_3, z_parts_3), rfl, hV, ⟨by rw [ht]; exact hP, va_K.moved hW.alike hK, hD⟩⟩, hS.F ht⟩) hS.2.2 dX8_decide_116 hlocks
        · have c12 := fun h => c12 ((lg_cmp_gt _ _).mpr h)
          have hV := hV.2 c12
          refine lv_lconst (v := (0 : Int64)) hx hb dX8_decide_85 (by decide) ?_
          refine lv_goto (tgt := 116) hx hb dX8_decide_86 (by decide) ?_
          exact W.lret hx hb hr (fun t ht hW => ⟨⟨_, (z_all_3, z_parts_3), rfl, hV, ⟨by rw [ht]; exact hP, va_K.moved hW.alike hK, hD⟩⟩, hS.F ht⟩) hS.2.2 dX8_decide_116 hlocks
    · have c4 := (lg_cmp_eq _ _).mp c4
      have hV := hV.1 c4
      refine lv_ldc2 (v := (-4 : Int64)) hx hb hown (hts _ ql_X8_decide_161) dX8_decide_34 ?_
      exact W.lret hx hb hr (fun t ht hW => ⟨⟨_, (z_all_3, z_parts_3), rfl, hV, ⟨by rw [ht]; exact hP, va_K.moved hW.alike hK, hD⟩⟩, hS.F ht⟩) hS.2.2 dX8_decide_37 hlocks
  · have hV := hV.1 c2
    refine lv_ldc2 (v := (-1 : Int64)) hx hb hown (hts _ ql_X8_decide_155) dX8_decide_12 ?_
    exact W.lret hx hb hr (fun t ht hW => ⟨⟨_, (z_all, z_parts), rfl, hV, ⟨by rw [ht]; exact hP, va_K.moved hW.alike hK, hD⟩⟩, hS.F ht⟩) hS.2.2 dX8_decide_15 hlocks

/-! StileCountsModel.costs(I)J -/
abbrev qw_X8_costs (cI cJ cC cG cW : ClassId) (a_this a_this_laid a_this_text a_this_read a_this_numbers a_this_where a_this_sorts a_this_tells a_this_undone a_this_parts a_this_goesWith a_this_with a_this_keeps : Nat) (z_letters : Int32) (z_at : Int32) (z_walked : Int32) (z_counts : Int32) (z_undos : Int32) (z_all : Int64) (z_planned : Int64) (z_scale : Int64) (z_least : Int32) (z_kept : Int32) (z_laid : Nat → Int32) (z_parts : Nat → Int64) : va_W := [(a_this, .inr (8, [.ref a_this_laid, .ref a_this_text, .int z_letters, .ref a_this_read, .int z_at, .ref a_this_numbers, .int z_walked, .int z_counts, .ref a_this_where, .ref a_this_sorts, .ref a_this_tells, .int z_undos, .ref a_this_undone, .ref a_this_parts, .long z_all, .long z_planned, .long z_scale, .ref a_this_goesWith, .int z_least, .ref a_this_with, .int z_kept, .ref a_this_keeps])), (a_this_laid, .inl (cI, 73, .inl z_laid)), (a_this_parts, .inl (cJ, 9, .inr (.inl z_parts)))]
theorem ql_X8_costs_167 : (.constantLong RX8 167 (10 : Int64) : Cond) ∈ wsX8_costs := by decide +kernel
theorem qi_X8_costs_X8 : ∀ w ∈ wsX80, w ∈ wsX8_costs := by decide +kernel
theorem ql_X8_costs_138 : (.fieldLink RX8 138 "StileCountsModel" "all" "J" : Cond) ∈ wsX8_costs := by decide +kernel
theorem ql_X8_costs_7 : (.fieldLink RX8 7 "StileCountsModel" "laid" "[I" : Cond) ∈ wsX8_costs := by decide +kernel
theorem ql_X8_costs_34 : (.fieldLink RX8 34 "StileCountsModel" "parts" "[J" : Cond) ∈ wsX8_costs := by decide +kernel
def qv_X8_costs_L28 (x1 : Int32) (z_all : Int64) (z_laid : Nat → Int32) (z_parts : Nat → Int64) (Post : Int64 → Prop) (E : (Int64) → Prop) : Nat → (Int64) → (Int32) → Prop
  | 0, _, _ => False
  | n + 1, x2, x4 => ((2 : Int32) ≤ x4 → E x2) ∧ (¬ (2 : Int32) ≤ x4 → vp_in (2 : Int32) 73 ∧ (vp_in (0 : Int32) 9 ∧ (qv_X8_tellsBy x1 x4 (-1 : Int32) z_laid (fun r5 => vp_in (3 : Int32) 73 ∧ (vp_in (0 : Int32) 9 ∧ (qv_X8_tellsBy x1 x4 (0 : Int32) z_laid (fun r8 => (((((z_laid (3 : Int32).toNatClampNeg).toInt64) * (z_parts (0 : Int32).toNatClampNeg)) * (r8.toInt64)) ≤ ((((z_laid (2 : Int32).toNatClampNeg).toInt64) * (z_all - (z_parts (0 : Int32).toNatClampNeg))) * (r5.toInt64)) → qv_X8_costs_L28 x1 z_all z_laid z_parts Post E n (x2 + ((((z_laid (3 : Int32).toNatClampNeg).toInt64) * (z_parts (0 : Int32).toNatClampNeg)) * (r8.toInt64))) (x4 + (1 : Int32))) ∧ (¬ ((((z_laid (3 : Int32).toNatClampNeg).toInt64) * (z_parts (0 : Int32).toNatClampNeg)) * (r8.toInt64)) ≤ ((((z_laid (2 : Int32).toNatClampNeg).toInt64) * (z_all - (z_parts (0 : Int32).toNatClampNeg))) * (r5.toInt64)) → qv_X8_costs_L28 x1 z_all z_laid z_parts Post E n (x2 + ((((z_laid (2 : Int32).toNatClampNeg).toInt64) * (z_all - (z_parts (0 : Int32).toNatClampNeg))) * (r5.toInt64))) (x4 + (1 : Int32))))))))))
set_option maxHeartbeats 4000000 in
set_option maxRecDepth 100000 in
theorem qt_X8_costs_L28 {p : Program} {l : Launch} {e : Env} {s : State} {m : MethodId} {args : Array Value} {below : List Frame} {meth : Method} {c : Code} {dC : Nat → ClassId} {dI : Nat → Nat → Nat} {cI cJ cC cG cW : ClassId} {a_this a_this_laid a_this_text a_this_read a_this_numbers a_this_where a_this_sorts a_this_tells a_this_undone a_this_parts a_this_goesWith a_this_with a_this_keeps : Nat} (C0 : MC cX8_costs 9 (some .long) RX8 wsX8_costs p s m args meth c) (hK : va_K (dC, dI) vwCl (tyL cI cJ cC cG cW) s) (hN : NW s) (z_letters : Int32) (z_at : Int32) (z_walked : Int32) (z_counts : Int32) (z_undos : Int32) (z_all : Int64) (z_planned : Int64) (z_scale : Int64) (z_least : Int32) (z_kept : Int32) (z_laid : Nat → Int32) (z_parts : Nat → Int64) (hP : va_P (dC, dI) vwCl (qw_X8_costs cI cJ cC cG cW a_this a_this_laid a_this_text a_this_read a_this_numbers a_this_where a_this_sorts a_this_tells a_this_undone a_this_parts a_this_goesWith a_this_with a_this_keeps z_letters z_at z_walked z_counts z_undos z_all z_planned z_scale z_least z_kept z_laid z_parts) s.heap) (x1 : Int32) (Post : Int64 → Prop) (E : (Int64) → Prop) (hE : ∀ (x2 : Int64) (ls : Array Slot), E x2 → lv_has ls 9 [(2, .long x2)] → W p l e ({ frames := 1, cells := 0, slots := 0, locals := 24 } : Room) s m args below meth c s.heap [] 0 0 (MQ below (vp_Sl Post) args s 0 0 (fun _ => False)) (F0 m 115 ls [])) : ∀ (n : Nat) (x2 : Int64) (x4 : Int32) (ls : Array Slot), qv_X8_costs_L28 x1 z_all z_laid z_parts Post E n x2 x4 → lv_has ls 9 [(0, .ref a_this), (1, .int x1), (2, .long x2), (4, .int x4)] → W p l e ({ frames := 1, cells := 0, slots := 0, locals := 24 } : Room) s m args below meth c s.heap [] 0 0 (MQ below (vp_Sl Post) args s 0 0 (fun _ => False)) (F0 m 28 ls []) := by
  obtain ⟨hx, hb, hr, hml, hown, hts, hlocks⟩ := id C0
  intro n
  induction n with
  | zero =>
    intro x2 x4 ls hV
    exact False.elim hV
  | succ n ih =>
    intro x2 x4 ls hV hl
    refine lv_iload hx hb dX8_costs_28 (lv_at hl 3 rfl) ?_
    refine lv_iconst (v := (2 : Int32)) hx hb dX8_costs_30 (by decide) ?_
    refine lv_icmp_ge (tgt := 115) hx hb dX8_costs_31 (by decide) (fun c2 => ?_) (fun c2 => ?_)
    · have hV := hV.1 c2
      exact hE x2 ls hV (lv_sub hl [2] rfl)
    · have hV := hV.2 c2
      refine lv_aload_n hx hb dX8_costs_34 rfl (lv_at hl 0 rfl) ?_
      refine va_get (D := (dC, dI)) (ci := 8) (v := .ref a_this_laid) (C := RX8) (T := TX8) (N := 22) hx hb hts qi_X8_costs_X8 hown hK hP 0 rfl rfl 0 (by decide) (hts _ ql_X8_costs_7) (fun _ h9 => h9) rfl dX8_costs_35 ?_
      refine lv_iconst (v := (2 : Int32)) hx hb dX8_costs_38 (by decide) ?_
      obtain ⟨h3, hV⟩ := hV
      refine va_iald hx hb hK hP 1 0 rfl rfl h3 dX8_costs_39 ?_
      refine lv_i2l hx hb dX8_costs_40 rfl ?_
      refine lv_aload_n hx hb dX8_costs_41 rfl (lv_at hl 0 rfl) ?_
      refine va_get (D := (dC, dI)) (ci := 8) (v := .long z_all) (C := RX8) (T := TX8) (N := 22) hx hb hts qi_X8_costs_X8 hown hK hP 0 rfl rfl 14 (by decide) (hts _ ql_X8_costs_138) (fun _ h9 => h9) rfl dX8_costs_42 ?_
      refine lv_aload_n hx hb dX8_costs_45 rfl (lv_at hl 0 rfl) ?_
      refine va_get (D := (dC, dI)) (ci := 8) (v := .ref a_this_parts) (C := RX8) (T := TX8) (N := 22) hx hb hts qi_X8_costs_X8 hown hK hP 0 rfl rfl 13 (by decide) (hts _ ql_X8_costs_34) (fun _ h9 => h9) rfl dX8_costs_46 ?_
      refine lv_iconst (v := (0 : Int32)) hx hb dX8_costs_49 (by decide) ?_
      obtain ⟨h4, hV⟩ := hV
      refine va_lald hx hb hK hP 2 1 rfl rfl h4 dX8_costs_50 ?_
      refine lv_lsub hx hb dX8_costs_51 ?_
      refine lv_lmul hx hb dX8_costs_52 ?_
      refine lv_aload_n hx hb dX8_costs_53 rfl (lv_at hl 0 rfl) ?_
      refine lv_iload_n hx hb dX8_costs_54 rfl (lv_at hl 1 rfl) ?_
      refine lv_iload hx hb dX8_costs_55 (lv_at hl 3 rfl) ?_
      refine lv_iconst (v := (-1 : Int32)) hx hb dX8_costs_57 (by decide) ?_
      refine vp_callSi (va_Run.run (va_runV (As := [.int x1, .int x4, .int (-1 : Int32)]) (rest := [.long (((z_laid (2 : Int32).toNatClampNeg).toInt64) * (z_all - (z_parts (0 : Int32).toNatClampNeg)))]) ⟨hx, hb, hml, hown, hts⟩ (qm_X8_tellsBy l dC dI cI cJ cC cG cW a_this a_this_laid a_this_text a_this_read a_this_numbers a_this_where a_this_sorts a_this_tells a_this_undone a_this_parts a_this_goesWith a_this_with a_this_keeps z_letters z_at z_walked z_counts z_undos z_all z_planned z_scale z_least z_kept z_laid x1 x4 (-1 : Int32) _ hV) (cwV 3 hts gX8_costs_X8_tellsBy rfl rfl rfl (by decide +kernel) ⟨Nat.le_of_ble_eq_true rfl, Nat.le_of_ble_eq_true rfl⟩) (preRV hK hN (hP.sub (ws' := (qw_X8_tellsBy cI cJ cC cG cW a_this a_this_laid a_this_text a_this_read a_this_numbers a_this_where a_this_sorts a_this_tells a_this_undone a_this_parts a_this_goesWith a_this_with a_this_keeps z_letters z_at z_walked z_counts z_undos z_all z_planned z_scale z_least z_kept z_laid)) [0, 1] rfl) rfl rfl) rfl rfl hl.1 rfl (lv_room (Nat.le_of_ble_eq_true rfl)) dX8_costs_58 ⟨Nat.le_of_ble_eq_true rfl, Nat.le_of_ble_eq_true rfl⟩)) (fun r5 hV => ?_)
      refine lv_i2l hx hb dX8_costs_61 rfl ?_
      refine lv_lmul hx hb dX8_costs_62 ?_
      refine lv_lstore (lv' := [(5, .long ((((z_laid (2 : Int32).toNatClampNeg).toInt64) * (z_all - (z_parts (0 : Int32).toNatClampNeg))) * (r5.toInt64))), (0, .ref a_this), (1, .int x1), (2, .long x2), (4, .int x4)]) hx hb dX8_costs_63 hl (by decide) rfl (fun ls hl => ?_)
      refine lv_aload_n hx hb dX8_costs_65 rfl (lv_at hl 1 rfl) ?_
      refine va_get (D := (dC, dI)) (ci := 8) (v := .ref a_this_laid) (C := RX8) (T := TX8) (N := 22) hx hb hts qi_X8_costs_X8 hown hK hP 0 rfl rfl 0 (by decide) (hts _ ql_X8_costs_7) (fun _ h9 => h9) rfl dX8_costs_66 ?_
      refine lv_iconst (v := (3 : Int32)) hx hb dX8_costs_69 (by decide) ?_
      obtain ⟨h6, hV⟩ := hV
      refine va_iald hx hb hK hP 1 0 rfl rfl h6 dX8_costs_70 ?_
      refine lv_i2l hx hb dX8_costs_71 rfl ?_
      refine lv_aload_n hx hb dX8_costs_72 rfl (lv_at hl 1 rfl) ?_
      refine va_get (D := (dC, dI)) (ci := 8) (v := .ref a_this_parts) (C := RX8) (T := TX8) (N := 22) hx hb hts qi_X8_costs_X8 hown hK hP 0 rfl rfl 13 (by decide) (hts _ ql_X8_costs_34) (fun _ h9 => h9) rfl dX8_costs_73 ?_
      refine lv_iconst (v := (0 : Int32)) hx hb dX8_costs_76 (by decide) ?_
      obtain ⟨h7, hV⟩ := hV
      refine va_lald hx hb hK hP 2 1 rfl rfl h7 dX8_costs_77 ?_
      refine lv_lmul hx hb dX8_costs_78 ?_
      refine lv_aload_n hx hb dX8_costs_79 rfl (lv_at hl 1 rfl) ?_
      refine lv_iload_n hx hb dX8_costs_80 rfl (lv_at hl 2 rfl) ?_
      refine lv_iload hx hb dX8_costs_81 (lv_at hl 4 rfl) ?_
      refine lv_iconst (v := (0 : Int32)) hx hb dX8_costs_83 (by decide) ?_
      refine vp_callSi (va_Run.run (va_runV (As := [.int x1, .int x4, .int (0 : Int32)]) (rest := [.long (((z_laid (3 : Int32).toNatClampNeg).toInt64) * (z_parts (0 : Int32).toNatClampNeg))]) ⟨hx, hb, hml, hown, hts⟩ (qm_X8_tellsBy l dC dI cI cJ cC cG cW a_this a_this_laid a_this_text a_this_read a_this_numbers a_this_where a_this_sorts a_this_tells a_this_undone a_this_parts a_this_goesWith a_this_with a_this_keeps z_letters z_at z_walked z_counts z_undos z_all z_planned z_scale z_least z_kept z_laid x1 x4 (0 : Int32) _ hV) (cwV 3 hts gX8_costs_X8_tellsBy rfl rfl rfl (by decide +kernel) ⟨Nat.le_of_ble_eq_true rfl, Nat.le_of_ble_eq_true rfl⟩) (preRV hK hN (hP.sub (ws' := (qw_X8_tellsBy cI cJ cC cG cW a_this a_this_laid a_this_text a_this_read a_this_numbers a_this_where a_this_sorts a_this_tells a_this_undone a_this_parts a_this_goesWith a_this_with a_this_keeps z_letters z_at z_walked z_counts z_undos z_all z_planned z_scale z_least z_kept z_laid)) [0, 1] rfl) rfl rfl) rfl rfl hl.1 rfl (lv_room (Nat.le_of_ble_eq_true rfl)) dX8_costs_84 ⟨Nat.le_of_ble_eq_true rfl, Nat.le_of_ble_eq_true rfl⟩)) (fun r8 hV => ?_)
      refine lv_i2l hx hb dX8_costs_87 rfl ?_
      refine lv_lmul hx hb dX8_costs_88 ?_
      refine lv_lstore (lv' := [(7, .long ((((z_laid (3 : Int32).toNatClampNeg).toInt64) * (z_parts (0 : Int32).toNatClampNeg)) * (r8.toInt64))), (5, .long ((((z_laid (2 : Int32).toNatClampNeg).toInt64) * (z_all - (z_parts (0 : Int32).toNatClampNeg))) * (r5.toInt64))), (0, .ref a_this), (1, .int x1), (2, .long x2), (4, .int x4)]) hx hb dX8_costs_89 hl (by decide) rfl (fun ls hl => ?_)
      refine lv_lload_n hx hb dX8_costs_91 rfl (lv_at hl 4 rfl) ?_
      refine lv_lload hx hb dX8_costs_92 (lv_at hl 1 rfl) ?_
      refine lv_lload hx hb dX8_costs_94 (lv_at hl 0 rfl) ?_
      refine W.lcmp hx hb dX8_costs_96 ?_
      refine lv_if_ge (tgt := 105) hx hb dX8_costs_97 (by decide) (fun c9 => ?_) (fun c9 => ?_)
      · have c9 := (lg_cmp_ge _ _).mp c9
        have hV := hV.1 c9
        refine lv_lload hx hb dX8_costs_105 (lv_at hl 0 rfl) ?_
        refine lv_ladd hx hb dX8_costs_107 ?_
        refine lv_lstore_n (lv' := [(2, .long (x2 + ((((z_laid (3 : Int32).toNatClampNeg).toInt64) * (z_parts (0 : Int32).toNatClampNeg)) * (r8.toInt64)))), (7, .long ((((z_laid (3 : Int32).toNatClampNeg).toInt64) * (z_parts (0 : Int32).toNatClampNeg)) * (r8.toInt64))), (5, .long ((((z_laid (2 : Int32).toNatClampNeg).toInt64) * (z_all - (z_parts (0 : Int32).toNatClampNeg))) * (r5.toInt64))), (0, .ref a_this), (1, .int x1), (4, .int x4)]) hx hb dX8_costs_108 rfl hl (by decide) rfl (fun ls hl => ?_)
        refine lv_iinc (v := (x4 + (1 : Int32))) (lv' := [(4, .int (x4 + (1 : Int32))), (2, .long (x2 + ((((z_laid (3 : Int32).toNatClampNeg).toInt64) * (z_parts (0 : Int32).toNatClampNeg)) * (r8.toInt64)))), (7, .long ((((z_laid (3 : Int32).toNatClampNeg).toInt64) * (z_parts (0 : Int32).toNatClampNeg)) * (r8.toInt64))), (5, .long ((((z_laid (2 : Int32).toNatClampNeg).toInt64) * (z_all - (z_parts (0 : Int32).toNatClampNeg))) * (r5.toInt64))), (0, .ref a_this), (1, .int x1)]) hx hb dX8_costs_109 hl (k := 5) rfl rfl (by decide) rfl (fun ls hl => ?_)
        refine lv_goto (tgt := 28) hx hb dX8_costs_112 (by decide) ?_
        exact ih (x2 + ((((z_laid (3 : Int32).toNatClampNeg).toInt64) * (z_parts (0 : Int32).toNatClampNeg)) * (r8.toInt64))) (x4 + (1 : Int32)) ls hV (lv_sub hl [4, 5, 1, 0] rfl)
      · have c9 := fun h => c9 ((lg_cmp_ge _ _).mpr h)
        have hV := hV.2 c9
        refine lv_lload hx hb dX8_costs_100 (lv_at hl 1 rfl) ?_
        refine lv_goto (tgt := 107) hx hb dX8_costs_102 (by decide) ?_
        refine lv_ladd hx hb dX8_costs_107 ?_
        refine lv_lstore_n (lv' := [(2, .long (x2 + ((((z_laid (2 : Int32).toNatClampNeg).toInt64) * (z_all - (z_parts (0 : Int32).toNatClampNeg))) * (r5.toInt64)))), (7, .long ((((z_laid (3 : Int32).toNatClampNeg).toInt64) * (z_parts (0 : Int32).toNatClampNeg)) * (r8.toInt64))), (5, .long ((((z_laid (2 : Int32).toNatClampNeg).toInt64) * (z_all - (z_parts (0 : Int32).toNatClampNeg))) * (r5.toInt64))), (0, .ref a_this), (1, .int x1), (4, .int x4)]) hx hb dX8_costs_108 rfl hl (by decide) rfl (fun ls hl => ?_)
        refine lv_iinc (v := (x4 + (1 : Int32))) (lv' := [(4, .int (x4 + (1 : Int32))), (2, .long (x2 + ((((z_laid (2 : Int32).toNatClampNeg).toInt64) * (z_all - (z_parts (0 : Int32).toNatClampNeg))) * (r5.toInt64)))), (7, .long ((((z_laid (3 : Int32).toNatClampNeg).toInt64) * (z_parts (0 : Int32).toNatClampNeg)) * (r8.toInt64))), (5, .long ((((z_laid (2 : Int32).toNatClampNeg).toInt64) * (z_all - (z_parts (0 : Int32).toNatClampNeg))) * (r5.toInt64))), (0, .ref a_this), (1, .int x1)]) hx hb dX8_costs_109 hl (k := 5) rfl rfl (by decide) rfl (fun ls hl => ?_)
        refine lv_goto (tgt := 28) hx hb dX8_costs_112 (by decide) ?_
        exact ih (x2 + ((((z_laid (2 : Int32).toNatClampNeg).toInt64) * (z_all - (z_parts (0 : Int32).toNatClampNeg))) * (r5.toInt64))) (x4 + (1 : Int32)) ls hV (lv_sub hl [4, 5, 1, 0] rfl)
def qv_X8_costs (x1 : Int32) (z_all : Int64) (z_laid : Nat → Int32) (z_parts : Nat → Int64) (Post : Int64 → Prop) : Prop := vp_in (((29 : Int32) + ((2 : Int32) * x1)) + (1 : Int32)) 73 ∧ (∃ n10, qv_X8_costs_L28 x1 z_all z_laid z_parts Post (fun x2_10 => Post x2_10) n10 (((10 : Int64) * z_all) * ((z_laid (((29 : Int32) + ((2 : Int32) * x1)) + (1 : Int32)).toNatClampNeg).toInt64)) (-2 : Int32))
set_option maxHeartbeats 4000000 in
set_option maxRecDepth 100000 in
theorem qm_X8_costs (l : Launch) (dC : Nat → ClassId) (dI : Nat → Nat → Nat) (cI cJ cC cG cW : ClassId) (a_this a_this_laid a_this_text a_this_read a_this_numbers a_this_where a_this_sorts a_this_tells a_this_undone a_this_parts a_this_goesWith a_this_with a_this_keeps : Nat) (z_letters : Int32) (z_at : Int32) (z_walked : Int32) (z_counts : Int32) (z_undos : Int32) (z_all : Int64) (z_planned : Int64) (z_scale : Int64) (z_least : Int32) (z_kept : Int32) (z_laid : Nat → Int32) (z_parts : Nat → Int64) (x1 : Int32) (Post : Int64 → Prop) (hV : qv_X8_costs x1 z_all z_laid z_parts Post) : Met l yX8_costs wsX8_costs ({ frames := 1, cells := 0, slots := 0, locals := 24 } : Room) (va_Pc [.ref a_this, .int x1] (prR (dC, dI) (qw_X8_costs cI cJ cC cG cW a_this a_this_laid a_this_text a_this_read a_this_numbers a_this_where a_this_sorts a_this_tells a_this_undone a_this_parts a_this_goesWith a_this_with a_this_keeps z_letters z_at z_walked z_counts z_undos z_all z_planned z_scale z_least z_kept z_laid z_parts) (tyL cI cJ cC cG cW))) (vp_Sl Post) 0 0 (fun _ => False) := by
  refine Met.ofR (nm := "costs") (ds := "(I)J") (own := RX8) (maxL := 9) (cc := cX8_costs) (ret := (some .long)) (by decide) rfl rfl (Nat.le_of_ble_eq_true rfl) (fun p e s m below meth c C0 hK hN hP ls hl => ?_)
  obtain ⟨hx, hb, hr, hml, hown, hts, hlocks⟩ := id C0
  have hl : lv_has ls 9 [(0, .ref a_this), (1, .int x1)] := hl
  refine lv_ldc2 (v := (10 : Int64)) hx hb hown (hts _ ql_X8_costs_167) dX8_costs_0 ?_
  refine lv_aload_n hx hb dX8_costs_3 rfl (lv_at hl 0 rfl) ?_
  refine va_get (D := (dC, dI)) (ci := 8) (v := .long z_all) (C := RX8) (T := TX8) (N := 22) hx hb hts qi_X8_costs_X8 hown hK hP 0 rfl rfl 14 (by decide) (hts _ ql_X8_costs_138) (fun _ h9 => h9) rfl dX8_costs_4 ?_
  refine lv_lmul hx hb dX8_costs_7 ?_
  refine lv_aload_n hx hb dX8_costs_8 rfl (lv_at hl 0 rfl) ?_
  refine va_get (D := (dC, dI)) (ci := 8) (v := .ref a_this_laid) (C := RX8) (T := TX8) (N := 22) hx hb hts qi_X8_costs_X8 hown hK hP 0 rfl rfl 0 (by decide) (hts _ ql_X8_costs_7) (fun _ h9 => h9) rfl dX8_costs_9 ?_
  refine lv_bipush (v := (29 : Int32)) hx hb dX8_costs_12 (by decide) ?_
  refine lv_iconst (v := (2 : Int32)) hx hb dX8_costs_14 (by decide) ?_
  refine lv_iload_n hx hb dX8_costs_15 rfl (lv_at hl 1 rfl) ?_
  refine lv_imul hx hb dX8_costs_16 ?_
  refine lv_iadd hx hb dX8_costs_17 ?_
  refine lv_iconst (v := (1 : Int32)) hx hb dX8_costs_18 (by decide) ?_
  refine lv_iadd hx hb dX8_costs_19 ?_
  obtain ⟨h1, hV⟩ := hV
  refine va_iald hx hb hK hP 1 0 rfl rfl h1 dX8_costs_20 ?_
  refine lv_i2l hx hb dX8_costs_21 rfl ?_
  refine lv_lmul hx hb dX8_costs_22 ?_
  refine lv_lstore_n (lv' := [(2, .long (((10 : Int64) * z_all) * ((z_laid (((29 : Int32) + ((2 : Int32) * x1)) + (1 : Int32)).toNatClampNeg).toInt64))), (0, .ref a_this), (1, .int x1)]) hx hb dX8_costs_23 rfl hl (by decide) rfl (fun ls hl => ?_)
  refine lv_bipush (v := (-2 : Int32)) hx hb dX8_costs_24 (by decide) ?_
  refine lv_istore (lv' := [(4, .int (-2 : Int32)), (2, .long (((10 : Int64) * z_all) * ((z_laid (((29 : Int32) + ((2 : Int32) * x1)) + (1 : Int32)).toNatClampNeg).toInt64))), (0, .ref a_this), (1, .int x1)]) hx hb dX8_costs_26 hl (by decide) rfl (fun ls hl => ?_)
  obtain ⟨n10, hV⟩ := hV
  refine qt_X8_costs_L28 C0 hK hN z_letters z_at z_walked z_counts z_undos z_all z_planned z_scale z_least z_kept z_laid z_parts hP x1 _ _ (fun x2_10 ls hV hl => ?_) n10 (((10 : Int64) * z_all) * ((z_laid (((29 : Int32) + ((2 : Int32) * x1)) + (1 : Int32)).toNatClampNeg).toInt64)) (-2 : Int32) ls hV (lv_sub hl [2, 3, 1, 0] rfl)
  refine lv_lload_n hx hb dX8_costs_115 rfl (lv_at hl 0 rfl) ?_
  exact W.lret hx hb hr (fun t ht hW => ⟨_, rfl, hV, ht⟩) (fun q h => absurd h List.not_mem_nil) dX8_costs_116 hlocks

/-! StileCountsModel.again(I)J -/
abbrev qw_X8_again (cI cJ cC cG cW : ClassId) (a_this a_this_laid a_this_text a_this_read a_this_numbers a_this_where a_this_sorts a_this_tells a_this_undone a_this_parts a_this_goesWith a_this_with a_this_keeps : Nat) (z_letters : Int32) (z_at : Int32) (z_walked : Int32) (z_counts : Int32) (z_undos : Int32) (z_all : Int64) (z_planned : Int64) (z_scale : Int64) (z_least : Int32) (z_kept : Int32) (z_laid : Nat → Int32) (z_where : Nat → Int32) (z_sorts : Nat → Int32) (z_tells : Nat → Int32) (z_parts : Nat → Int64) : va_W := [(a_this, .inr (8, [.ref a_this_laid, .ref a_this_text, .int z_letters, .ref a_this_read, .int z_at, .ref a_this_numbers, .int z_walked, .int z_counts, .ref a_this_where, .ref a_this_sorts, .ref a_this_tells, .int z_undos, .ref a_this_undone, .ref a_this_parts, .long z_all, .long z_planned, .long z_scale, .ref a_this_goesWith, .int z_least, .ref a_this_with, .int z_kept, .ref a_this_keeps])), (a_this_laid, .inl (cI, 73, .inl z_laid)), (a_this_where, .inl (cI, 6, .inl z_where)), (a_this_sorts, .inl (cI, 6, .inl z_sorts)), (a_this_tells, .inl (cI, 6, .inl z_tells)), (a_this_parts, .inl (cJ, 9, .inr (.inl z_parts)))]
theorem ql_X8_again_82 : (.constantLong RX8 82 (2 : Int64) : Cond) ∈ wsX8_again := by decide +kernel
theorem qi_X8_again_X8 : ∀ w ∈ wsX80, w ∈ wsX8_again := by decide +kernel
theorem ql_X8_again_114 : (.fieldLink RX8 114 "StileCountsModel" "counts" "I" : Cond) ∈ wsX8_again := by decide +kernel
theorem ql_X8_again_138 : (.fieldLink RX8 138 "StileCountsModel" "all" "J" : Cond) ∈ wsX8_again := by decide +kernel
theorem ql_X8_again_167 : (.constantLong RX8 167 (10 : Int64) : Cond) ∈ wsX8_again := by decide +kernel
theorem ql_X8_again_7 : (.fieldLink RX8 7 "StileCountsModel" "laid" "[I" : Cond) ∈ wsX8_again := by decide +kernel
theorem ql_X8_again_34 : (.fieldLink RX8 34 "StileCountsModel" "parts" "[J" : Cond) ∈ wsX8_again := by decide +kernel
theorem ql_X8_again_161 : (.constantLong RX8 161 (-4 : Int64) : Cond) ∈ wsX8_again := by decide +kernel
theorem ql_X8_again_155 : (.constantLong RX8 155 (-1 : Int64) : Cond) ∈ wsX8_again := by decide +kernel
def qv_X8_again_J133 (k0 : Int32) (x1 : Int32) (x6 : Int64) (x9 : Int32) (x10 : Int64) (z_walked : Int32) (z_counts : Int32) (z_all : Int64) (z_laid : Nat → Int32) (z_where : Nat → Int32) (z_sorts : Nat → Int32) (z_tells : Nat → Int32) (z_parts : Nat → Int64) (Post : Int64 → (Int64) → (Nat → Int64) → Prop) (K : (Int64) → (Int32) → (Int32) → Prop) (E : (Int64) → (Int32) → Prop) : Prop := (x6 ≤ x10 → K x6 k0 (x9 + (1 : Int32))) ∧ (¬ x6 ≤ x10 → K x10 k0 (x9 + (1 : Int32)))
set_option maxHeartbeats 4000000 in
set_option maxRecDepth 100000 in
theorem qt_X8_again_J133 {p : Program} {l : Launch} {e : Env} {s : State} {m : MethodId} {args : Array Value} {below : List Frame} {meth : Method} {c : Code} {dC : Nat → ClassId} {dI : Nat → Nat → Nat} {cI cJ cC cG cW : ClassId} {a_this a_this_laid a_this_text a_this_read a_this_numbers a_this_where a_this_sorts a_this_tells a_this_undone a_this_parts a_this_goesWith a_this_with a_this_keeps : Nat} {A : Nat → Prop} (C0 : MC cX8_again 12 (some .long) RX8 wsX8_again p s m args meth c) (hK : va_K (dC, dI) vwCl (tyL cI cJ cC cG cW) s) (hN : NW s) (hA : ∀ q, s.heap.size ≤ q → A q) (z_letters : Int32) (z_at : Int32) (z_walked : Int32) (z_counts : Int32) (z_undos : Int32) (z_all : Int64) (z_planned : Int64) (z_scale : Int64) (z_least : Int32) (z_kept : Int32) (z_laid : Nat → Int32) (z_where : Nat → Int32) (z_sorts : Nat → Int32) (z_tells : Nat → Int32) (z_parts : Nat → Int64) (k0 : Int32) (x1 : Int32) (x6 : Int64) (x9 : Int32) (x10 : Int64) (Post : Int64 → (Int64) → (Nat → Int64) → Prop) (K : (Int64) → (Int32) → (Int32) → Prop) (E : (Int64) → (Int32) → Prop) (hKb : ∀ (x6 : Int64) (x8 : Int32) (x9 : Int32) (H : Heap) (locs : List Loc) (ls : Array Slot), K x6 x8 x9 → va_P (dC, dI) vwCl (qw_X8_again cI cJ cC cG cW a_this a_this_laid a_this_text a_this_read a_this_numbers a_this_where a_this_sorts a_this_tells a_this_undone a_this_parts a_this_goesWith a_this_with a_this_keeps z_letters z_at z_walked z_counts z_undos z_all z_planned z_scale z_least z_kept z_laid z_where z_sorts z_tells z_parts) H → va_D A (qw_X8_again cI cJ cC cG cW a_this a_this_laid a_this_text a_this_read a_this_numbers a_this_where a_this_sorts a_this_tells a_this_undone a_this_parts a_this_goesWith a_this_with a_this_keeps z_letters z_at z_walked z_counts z_undos z_all z_planned z_scale z_least z_kept z_laid z_where z_sorts z_tells z_parts) → va_S A s.heap H locs → lv_has ls 12 [(0, .ref a_this), (1, .int x1), (6, .long x6), (8, .int x8), (9, .int x9)] → W p l e ({ frames := 4, cells := 0, slots := 0, locals := 104 } : Room) s m args below meth c H locs 0 0 (MQ below (va_Ql (fun (r : Int64) (u : (Int64) × (Nat → Int64)) => Post r u.1 u.2) (fun u t => poW (dC, dI) (tyL cI cJ cC cG cW) A (qw_X8_again cI cJ cC cG cW a_this a_this_laid a_this_text a_this_read a_this_numbers a_this_where a_this_sorts a_this_tells a_this_undone a_this_parts a_this_goesWith a_this_with a_this_keeps z_letters z_at z_walked z_counts z_undos u.1 z_planned z_scale z_least z_kept z_laid z_where z_sorts z_tells u.2) t) A) args s 0 0 A) (F0 m 104 ls [])) (hE : ∀ (x6 : Int64) (x8 : Int32) (H : Heap) (locs : List Loc) (ls : Array Slot), E x6 x8 → va_P (dC, dI) vwCl (qw_X8_again cI cJ cC cG cW a_this a_this_laid a_this_text a_this_read a_this_numbers a_this_where a_this_sorts a_this_tells a_this_undone a_this_parts a_this_goesWith a_this_with a_this_keeps z_letters z_at z_walked z_counts z_undos z_all z_planned z_scale z_least z_kept z_laid z_where z_sorts z_tells z_parts) H → va_D A (qw_X8_again cI cJ cC cG cW a_this a_this_laid a_this_text a_this_read a_this_numbers a_this_where a_this_sorts a_this_tells a_this_undone a_this_parts a_this_goesWith a_this_with a_this_keeps z_letters z_at z_walked z_counts z_undos z_all z_planned z_scale z_least z_kept z_laid z_where z_sorts z_tells z_parts) → va_S A s.heap H locs → lv_has ls 12 [(0, .ref a_this), (1, .int x1), (6, .long x6), (8, .int x8)] → W p l e ({ frames := 4, cells := 0, slots := 0, locals := 104 } : Room) s m args below meth c H locs 0 0 (MQ below (va_Ql (fun (r : Int64) (u : (Int64) × (Nat → Int64)) => Post r u.1 u.2) (fun u t => poW (dC, dI) (tyL cI cJ cC cG cW) A (qw_X8_again cI cJ cC cG cW a_this a_this_laid a_this_text a_this_read a_this_numbers a_this_where a_this_sorts a_this_tells a_this_undone a_this_parts a_this_goesWith a_this_with a_this_keeps z_letters z_at z_walked z_counts z_undos u.1 z_planned z_scale z_least z_kept z_laid z_where z_sorts z_tells u.2) t) A) args s 0 0 A) (F0 m 158 ls [])) (H : Heap) (locs : List Loc) (ls : Array Slot) (hV : qv_X8_again_J133 k0 x1 x6 x9 x10 z_walked z_counts z_all z_laid z_where z_sorts z_tells z_parts Post K E) (hP : va_P (dC, dI) vwCl (qw_X8_again cI cJ cC cG cW a_this a_this_laid a_this_text a_this_read a_this_numbers a_this_where a_this_sorts a_this_tells a_this_undone a_this_parts a_this_goesWith a_this_with a_this_keeps z_letters z_at z_walked z_counts z_undos z_all z_planned z_scale z_least z_kept z_laid z_where z_sorts z_tells z_parts) H) (hD : va_D A (qw_X8_again cI cJ cC cG cW a_this a_this_laid a_this_text a_this_read a_this_numbers a_this_where a_this_sorts a_this_tells a_this_undone a_this_parts a_this_goesWith a_this_with a_this_keeps z_letters z_at z_walked z_counts z_undos z_all z_planned z_scale z_least z_kept z_laid z_where z_sorts z_tells z_parts)) (hS : va_S A s.heap H locs) (hl : lv_has ls 12 [(0, .ref a_this), (1, .int x1), (6, .long x6), (9, .int x9), (10, .long x10)]) : W p l e ({ frames := 4, cells := 0, slots := 0, locals := 104 } : Room) s m args below meth c H locs 0 0 (MQ below (va_Ql (fun (r : Int64) (u : (Int64) × (Nat → Int64)) => Post r u.1 u.2) (fun u t => poW (dC, dI) (tyL cI cJ cC cG cW) A (qw_X8_again cI cJ cC cG cW a_this a_this_laid a_this_text a_this_read a_this_numbers a_this_where a_this_sorts a_this_tells a_this_undone a_this_parts a_this_goesWith a_this_with a_this_keeps z_letters z_at z_walked z_counts z_undos u.1 z_planned z_scale z_least z_kept z_laid z_where z_sorts z_tells u.2) t) A) args s 0 0 A) (F0 m 133 ls [.int k0]) := by
  obtain ⟨hx, hb, hr, hml, hown, hts, hlocks⟩ := id C0
  refine lv_istore (lv' := [(8, .int k0), (0, .ref a_this), (1, .int x1), (6, .long x6), (9, .int x9), (10, .long x10)]) hx hb dX8_again_133 hl (by decide) rfl (fun ls hl => ?_)
  refine lv_lload hx hb dX8_again_135 (lv_at hl 5 rfl) ?_
  refine lv_lload hx hb dX8_again_137 (lv_at hl 3 rfl) ?_
  refine W.lcmp hx hb dX8_again_139 ?_
  refine lv_if_ge (tgt := 148) hx hb dX8_again_140 (by decide) (fun c13 => ?_) (fun c13 => ?_)
  · have c13 := (lg_cmp_ge _ _).mp c13
    have hV := hV.1 c13
    refine lv_lload hx hb dX8_again_148 (lv_at hl 3 rfl) ?_
    refine lv_lstore (lv' := [(6, .long x6), (8, .int k0), (0, .ref a_this), (1, .int x1), (9, .int x9), (10, .long x10)]) hx hb dX8_again_150 hl (by decide) rfl (fun ls hl => ?_)
    refine lv_iinc (v := (x9 + (1 : Int32))) (lv' := [(9, .int (x9 + (1 : Int32))), (6, .long x6), (8, .int k0), (0, .ref a_this), (1, .int x1), (10, .long x10)]) hx hb dX8_again_152 hl (k := 4) rfl rfl (by decide) rfl (fun ls hl => ?_)
    refine lv_goto (tgt := 104) hx hb dX8_again_155 (by decide) ?_
    exact hKb x6 k0 (x9 + (1 : Int32)) H locs ls hV hP hD hS (lv_sub hl [3, 4, 1, 2, 0] rfl)
  · have c13 := fun h => c13 ((lg_cmp_ge _ _).mpr h)
    have hV := hV.2 c13
    refine lv_lload hx hb dX8_again_143 (lv_at hl 5 rfl) ?_
    refine lv_goto (tgt := 150) hx hb dX8_again_145 (by decide) ?_
    refine lv_lstore (lv' := [(6, .long x10), (8, .int k0), (0, .ref a_this), (1, .int x1), (9, .int x9), (10, .long x10)]) hx hb dX8_again_150 hl (by decide) rfl (fun ls hl => ?_)
    refine lv_iinc (v := (x9 + (1 : Int32))) (lv' := [(9, .int (x9 + (1 : Int32))), (6, .long x10), (8, .int k0), (0, .ref a_this), (1, .int x1), (10, .long x10)]) hx hb dX8_again_152 hl (k := 4) rfl rfl (by decide) rfl (fun ls hl => ?_)
    refine lv_goto (tgt := 104) hx hb dX8_again_155 (by decide) ?_
    exact hKb x10 k0 (x9 + (1 : Int32)) H locs ls hV hP hD hS (lv_sub hl [3, 4, 1, 2, 0] rfl)
def qv_X8_again_L104 (x1 : Int32) (z_walked : Int32) (z_counts : Int32) (z_all : Int64) (z_laid : Nat → Int32) (z_where : Nat → Int32) (z_sorts : Nat → Int32) (z_tells : Nat → Int32) (z_parts : Nat → Int64) (Post : Int64 → (Int64) → (Nat → Int64) → Prop) (E : (Int64) → (Int32) → Prop) : Nat → (Int64) → (Int32) → (Int32) → Prop
  | 0, _, _, _ => False
  | n + 1, x6, x8, x9 => ((4 : Int32) ≤ x9 → E x6 x8) ∧ (¬ (4 : Int32) ≤ x9 → qv_X8_costs x9 z_all z_laid z_parts (fun r11 => (x6 ≤ r11 → qv_X8_again_J133 x8 x1 x6 x9 r11 z_walked z_counts z_all z_laid z_where z_sorts z_tells z_parts Post (qv_X8_again_L104 x1 z_walked z_counts z_all z_laid z_where z_sorts z_tells z_parts Post E n) E) ∧ (¬ x6 ≤ r11 → qv_X8_again_J133 x9 x1 x6 x9 r11 z_walked z_counts z_all z_laid z_where z_sorts z_tells z_parts Post (qv_X8_again_L104 x1 z_walked z_counts z_all z_laid z_where z_sorts z_tells z_parts Post E n) E)))
set_option maxHeartbeats 4000000 in
set_option maxRecDepth 100000 in
theorem qt_X8_again_L104 {p : Program} {l : Launch} {e : Env} {s : State} {m : MethodId} {args : Array Value} {below : List Frame} {meth : Method} {c : Code} {dC : Nat → ClassId} {dI : Nat → Nat → Nat} {cI cJ cC cG cW : ClassId} {a_this a_this_laid a_this_text a_this_read a_this_numbers a_this_where a_this_sorts a_this_tells a_this_undone a_this_parts a_this_goesWith a_this_with a_this_keeps : Nat} {A : Nat → Prop} (C0 : MC cX8_again 12 (some .long) RX8 wsX8_again p s m args meth c) (hK : va_K (dC, dI) vwCl (tyL cI cJ cC cG cW) s) (hN : NW s) (hA : ∀ q, s.heap.size ≤ q → A q) (z_letters : Int32) (z_at : Int32) (z_walked : Int32) (z_counts : Int32) (z_undos : Int32) (z_all : Int64) (z_planned : Int64) (z_scale : Int64) (z_least : Int32) (z_kept : Int32) (z_laid : Nat → Int32) (z_where : Nat → Int32) (z_sorts : Nat → Int32) (z_tells : Nat → Int32) (z_parts : Nat → Int64) (x1 : Int32) (Post : Int64 → (Int64) → (Nat → Int64) → Prop) (E : (Int64) → (Int32) → Prop) (hE : ∀ (x6 : Int64) (x8 : Int32) (H : Heap) (locs : List Loc) (ls : Array Slot), E x6 x8 → va_P (dC, dI) vwCl (qw_X8_again cI cJ cC cG cW a_this a_this_laid a_this_text a_this_read a_this_numbers a_this_where a_this_sorts a_this_tells a_this_undone a_this_parts a_this_goesWith a_this_with a_this_keeps z_letters z_at z_walked z_counts z_undos z_all z_planned z_scale z_least z_kept z_laid z_where z_sorts z_tells z_parts) H → va_D A (qw_X8_again cI cJ cC cG cW a_this a_this_laid a_this_text a_this_read a_this_numbers a_this_where a_this_sorts a_this_tells a_this_undone a_this_parts a_this_goesWith a_this_with a_this_keeps z_letters z_at z_walked z_counts z_undos z_all z_planned z_scale z_least z_kept z_laid z_where z_sorts z_tells z_parts) → va_S A s.heap H locs → lv_has ls 12 [(0, .ref a_this), (1, .int x1), (6, .long x6), (8, .int x8)] → W p l e ({ frames := 4, cells := 0, slots := 0, locals := 104 } : Room) s m args below meth c H locs 0 0 (MQ below (va_Ql (fun (r : Int64) (u : (Int64) × (Nat → Int64)) => Post r u.1 u.2) (fun u t => poW (dC, dI) (tyL cI cJ cC cG cW) A (qw_X8_again cI cJ cC cG cW a_this a_this_laid a_this_text a_this_read a_this_numbers a_this_where a_this_sorts a_this_tells a_this_undone a_this_parts a_this_goesWith a_this_with a_this_keeps z_letters z_at z_walked z_counts z_undos u.1 z_planned z_scale z_least z_kept z_laid z_where z_sorts z_tells u.2) t) A) args s 0 0 A) (F0 m 158 ls [])) : ∀ (n : Nat) (x6 : Int64) (x8 : Int32) (x9 : Int32) (H : Heap) (locs : List Loc) (ls : Array Slot), qv_X8_again_L104 x1 z_walked z_counts z_all z_laid z_where z_sorts z_tells z_parts Post E n x6 x8 x9 → va_P (dC, dI) vwCl (qw_X8_again cI cJ cC cG cW a_this a_this_laid a_this_text a_this_read a_this_numbers a_this_where a_this_sorts a_this_tells a_this_undone a_this_parts a_this_goesWith a_this_with a_this_keeps z_letters z_at z_walked z_counts z_undos z_all z_planned z_scale z_least z_kept z_laid z_where z_sorts z_tells z_parts) H → va_D A (qw_X8_again cI cJ cC cG cW a_this a_this_laid a_this_text a_this_read a_this_numbers a_this_where a_this_sorts a_this_tells a_this_undone a_this_parts a_this_goesWith a_this_with a_this_keeps z_letters z_at z_walked z_counts z_undos z_all z_planned z_scale z_least z_kept z_laid z_where z_sorts z_tells z_parts) → va_S A s.heap H locs → lv_has ls 12 [(0, .ref a_this), (1, .int x1), (6, .long x6), (8, .int x8), (9, .int x9)] → W p l e ({ frames := 4, cells := 0, slots := 0, locals := 104 } : Room) s m args below meth c H locs 0 0 (MQ below (va_Ql (fun (r : Int64) (u : (Int64) × (Nat → Int64)) => Post r u.1 u.2) (fun u t => poW (dC, dI) (tyL cI cJ cC cG cW) A (qw_X8_again cI cJ cC cG cW a_this a_this_laid a_this_text a_this_read a_this_numbers a_this_where a_this_sorts a_this_tells a_this_undone a_this_parts a_this_goesWith a_this_with a_this_keeps z_letters z_at z_walked z_counts z_undos u.1 z_planned z_scale z_least z_kept z_laid z_where z_sorts z_tells u.2) t) A) args s 0 0 A) (F0 m 104 ls []) := by
  obtain ⟨hx, hb, hr, hml, hown, hts, hlocks⟩ := id C0
  intro n
  induction n with
  | zero =>
    intro x6 x8 x9 H locs ls hV
    exact False.elim hV
  | succ n ih =>
    intro x6 x8 x9 H locs ls hV hP hD hS hl
    refine lv_iload hx hb dX8_again_104 (lv_at hl 4 rfl) ?_
    refine lv_iconst (v := (4 : Int32)) hx hb dX8_again_106 (by decide) ?_
    refine lv_icmp_ge (tgt := 158) hx hb dX8_again_107 (by decide) (fun c10 => ?_) (fun c10 => ?_)
    · have hV := hV.1 c10
      exact hE x6 x8 H locs ls hV hP hD hS (lv_sub hl [0, 1, 2, 3] rfl)
    · have hV := hV.2 c10
      refine lv_aload_n hx hb dX8_again_110 rfl (lv_at hl 0 rfl) ?_
      refine lv_iload hx hb dX8_again_111 (lv_at hl 4 rfl) ?_
      refine vp_callSl (va_Run.run (va_runV (As := [.int x9]) (rest := []) ⟨hx, hb, hml, hown, hts⟩ (qm_X8_costs l dC dI cI cJ cC cG cW a_this a_this_laid a_this_text a_this_read a_this_numbers a_this_where a_this_sorts a_this_tells a_this_undone a_this_parts a_this_goesWith a_this_with a_this_keeps z_letters z_at z_walked z_counts z_undos z_all z_planned z_scale z_least z_kept z_laid z_parts x9 _ hV) (cwV 1 hts gX8_again_X8_costs rfl rfl rfl (by decide +kernel) ⟨Nat.le_of_ble_eq_true rfl, Nat.le_of_ble_eq_true rfl⟩) (preRV hK hN (hP.sub (ws' := (qw_X8_costs cI cJ cC cG cW a_this a_this_laid a_this_text a_this_read a_this_numbers a_this_where a_this_sorts a_this_tells a_this_undone a_this_parts a_this_goesWith a_this_with a_this_keeps z_letters z_at z_walked z_counts z_undos z_all z_planned z_scale z_least z_kept z_laid z_parts)) [0, 1, 5] rfl) rfl rfl) rfl rfl hl.1 rfl (lv_room (Nat.le_of_ble_eq_true rfl)) dX8_again_113 ⟨Nat.le_of_ble_eq_true rfl, Nat.le_of_ble_eq_true rfl⟩)) (fun r11 hV => ?_)
      refine lv_lstore (lv' := [(10, .long r11), (0, .ref a_this), (1, .int x1), (6, .long x6), (8, .int x8), (9, .int x9)]) hx hb dX8_again_116 hl (by decide) rfl (fun ls hl => ?_)
      refine lv_lload hx hb dX8_again_118 (lv_at hl 0 rfl) ?_
      refine lv_lload hx hb dX8_again_120 (lv_at hl 3 rfl) ?_
      refine W.lcmp hx hb dX8_again_122 ?_
      refine lv_if_ge (tgt := 131) hx hb dX8_again_123 (by decide) (fun c12 => ?_) (fun c12 => ?_)
      · have c12 := (lg_cmp_ge _ _).mp c12
        have hV := hV.1 c12
        refine lv_iload hx hb dX8_again_131 (lv_at hl 4 rfl) ?_
        exact qt_X8_again_J133 C0 hK hN hA z_letters z_at z_walked z_counts z_undos z_all z_planned z_scale z_least z_kept z_laid z_where z_sorts z_tells z_parts x8 x1 x6 x9 r11 _ _ _ ih hE H locs ls hV hP hD hS (lv_sub hl [1, 2, 3, 5, 0] rfl)
      · have c12 := fun h => c12 ((lg_cmp_ge _ _).mpr h)
        have hV := hV.2 c12
        refine lv_iload hx hb dX8_again_126 (lv_at hl 5 rfl) ?_
        refine lv_goto (tgt := 133) hx hb dX8_again_128 (by decide) ?_
        exact qt_X8_again_J133 C0 hK hN hA z_letters z_at z_walked z_counts z_undos z_all z_planned z_scale z_least z_kept z_laid z_where z_sorts z_tells z_parts x9 x1 x6 x9 r11 _ _ _ ih hE H locs ls hV hP hD hS (lv_sub hl [1, 2, 3, 5, 0] rfl)
def qv_X8_again (x1 : Int32) (z_walked : Int32) (z_counts : Int32) (z_all : Int64) (z_laid : Nat → Int32) (z_where : Nat → Int32) (z_sorts : Nat → Int32) (z_tells : Nat → Int32) (z_parts : Nat → Int64) (Post : Int64 → (Int64) → (Nat → Int64) → Prop) : Prop := qv_X8_in (x1.toInt64) (0 : Int64) (2 : Int64) (fun r1 => (r1 = (0 : Int32) → Post (-1 : Int64) z_all z_parts) ∧ (¬ r1 = (0 : Int32) → qv_X8_goes z_counts z_walked z_all z_laid z_where z_sorts z_tells z_parts (fun r3 z_all_3 z_parts_3 => (z_all_3 = (0 : Int64) → Post (-4 : Int64) z_all_3 z_parts_3) ∧ (¬ z_all_3 = (0 : Int64) → vp_in (2 : Int32) 73 ∧ (vp_in (0 : Int32) 9 ∧ (vp_in (3 : Int32) 73 ∧ (vp_in (0 : Int32) 9 ∧ (((((10 : Int64) * ((z_laid (3 : Int32).toNatClampNeg).toInt64)) * (z_parts_3 (0 : Int32).toNatClampNeg)) ≤ (((10 : Int64) * ((z_laid (2 : Int32).toNatClampNeg).toInt64)) * (z_all_3 - (z_parts_3 (0 : Int32).toNatClampNeg))) → ∃ n14, qv_X8_again_L104 x1 z_walked z_counts z_all_3 z_laid z_where z_sorts z_tells z_parts_3 Post (fun x6_14 x8_14 => (x1 = (0 : Int32) → Post (x8_14.toInt64) z_all_3 z_parts_3) ∧ (¬ x1 = (0 : Int32) → qv_X8_part x6_14 ((10 : Int64) * z_all_3) (x1 - (1 : Int32)) (fun r16 => Post r16 z_all_3 z_parts_3))) n14 (((10 : Int64) * ((z_laid (3 : Int32).toNatClampNeg).toInt64)) * (z_parts_3 (0 : Int32).toNatClampNeg)) (-4 : Int32) (0 : Int32)) ∧ (¬ (((10 : Int64) * ((z_laid (3 : Int32).toNatClampNeg).toInt64)) * (z_parts_3 (0 : Int32).toNatClampNeg)) ≤ (((10 : Int64) * ((z_laid (2 : Int32).toNatClampNeg).toInt64)) * (z_all_3 - (z_parts_3 (0 : Int32).toNatClampNeg))) → ∃ n17, qv_X8_again_L104 x1 z_walked z_counts z_all_3 z_laid z_where z_sorts z_tells z_parts_3 Post (fun x6_17 x8_17 => (x1 = (0 : Int32) → Post (x8_17.toInt64) z_all_3 z_parts_3) ∧ (¬ x1 = (0 : Int32) → qv_X8_part x6_17 ((10 : Int64) * z_all_3) (x1 - (1 : Int32)) (fun r19 => Post r19 z_all_3 z_parts_3))) n17 (((10 : Int64) * ((z_laid (2 : Int32).toNatClampNeg).toInt64)) * (z_all_3 - (z_parts_3 (0 : Int32).toNatClampNeg))) (-4 : Int32) (0 : Int32))))))))))
set_option maxHeartbeats 4000000 in
set_option maxRecDepth 100000 in
theorem qm_X8_again (l : Launch) (dC : Nat → ClassId) (dI : Nat → Nat → Nat) (cI cJ cC cG cW : ClassId) (a_this a_this_laid a_this_text a_this_read a_this_numbers a_this_where a_this_sorts a_this_tells a_this_undone a_this_parts a_this_goesWith a_this_with a_this_keeps : Nat) (z_letters : Int32) (z_at : Int32) (z_walked : Int32) (z_counts : Int32) (z_undos : Int32) (z_all : Int64) (z_planned : Int64) (z_scale : Int64) (z_least : Int32) (z_kept : Int32) (z_laid : Nat → Int32) (z_where : Nat → Int32) (z_sorts : Nat → Int32) (z_tells : Nat → Int32) (z_parts : Nat → Int64) (sz : Nat) (x1 : Int32) (Post : Int64 → (Int64) → (Nat → Int64) → Prop) (hV : qv_X8_again x1 z_walked z_counts z_all z_laid z_where z_sorts z_tells z_parts Post) : Met l yX8_again wsX8_again ({ frames := 4, cells := 0, slots := 0, locals := 104 } : Room) (va_Pc [.ref a_this, .int x1] (prW (dC, dI) (qw_X8_again cI cJ cC cG cW a_this a_this_laid a_this_text a_this_read a_this_numbers a_this_where a_this_sorts a_this_tells a_this_undone a_this_parts a_this_goesWith a_this_with a_this_keeps z_letters z_at z_walked z_counts z_undos z_all z_planned z_scale z_least z_kept z_laid z_where z_sorts z_tells z_parts) (tyL cI cJ cC cG cW) sz)) (va_Ql (fun (r : Int64) (u : (Int64) × (Nat → Int64)) => Post r u.1 u.2) (fun u t => poW (dC, dI) (tyL cI cJ cC cG cW) (va_A (qw_X8_again cI cJ cC cG cW a_this a_this_laid a_this_text a_this_read a_this_numbers a_this_where a_this_sorts a_this_tells a_this_undone a_this_parts a_this_goesWith a_this_with a_this_keeps z_letters z_at z_walked z_counts z_undos z_all z_planned z_scale z_least z_kept z_laid z_where z_sorts z_tells z_parts) sz) (qw_X8_again cI cJ cC cG cW a_this a_this_laid a_this_text a_this_read a_this_numbers a_this_where a_this_sorts a_this_tells a_this_undone a_this_parts a_this_goesWith a_this_with a_this_keeps z_letters z_at z_walked z_counts z_undos u.1 z_planned z_scale z_least z_kept z_laid z_where z_sorts z_tells u.2) t) (va_A (qw_X8_again cI cJ cC cG cW a_this a_this_laid a_this_text a_this_read a_this_numbers a_this_where a_this_sorts a_this_tells a_this_undone a_this_parts a_this_goesWith a_this_with a_this_keeps z_letters z_at z_walked z_counts z_undos z_all z_planned z_scale z_least z_kept z_laid z_where z_sorts z_tells z_parts) sz)) 0 0 (va_A (qw_X8_again cI cJ cC cG cW a_this a_this_laid a_this_text a_this_read a_this_numbers a_this_where a_this_sorts a_this_tells a_this_undone a_this_parts a_this_goesWith a_this_with a_this_keeps z_letters z_at z_walked z_counts z_undos z_all z_planned z_scale z_least z_kept z_laid z_where z_sorts z_tells z_parts) sz) := by
  refine Met.ofM (Qc := fun A => va_Ql (fun (r : Int64) (u : (Int64) × (Nat → Int64)) => Post r u.1 u.2) (fun u t => poW (dC, dI) (tyL cI cJ cC cG cW) A (qw_X8_again cI cJ cC cG cW a_this a_this_laid a_this_text a_this_read a_this_numbers a_this_where a_this_sorts a_this_tells a_this_undone a_this_parts a_this_goesWith a_this_with a_this_keeps z_letters z_at z_walked z_counts z_undos u.1 z_planned z_scale z_least z_kept z_laid z_where z_sorts z_tells u.2) t) A) (nm := "again") (ds := "(I)J") (own := RX8) (maxL := 12) (cc := cX8_again) (ret := (some .long)) (by decide) rfl rfl (Nat.le_of_ble_eq_true rfl) (fun p e s m below meth c A C0 hin hK hN hA hP hD hS ls hl => ?_)
  obtain ⟨hx, hb, hr, hml, hown, hts, hlocks⟩ := id C0
  have hl : lv_has ls 12 [(0, .ref a_this), (1, .int x1)] := hl
  obtain ⟨H, hH⟩ : ∃ h : Heap, h = s.heap := ⟨_, rfl⟩
  obtain ⟨locs, hLc⟩ : ∃ L : List Loc, L = [] := ⟨_, rfl⟩
  have hS : va_S A s.heap H locs := by rw [hH, hLc]; exact hS
  rw [← hH] at hP
  rw [← hLc, ← hH]
  clear hH hLc
  refine lv_iload_n hx hb dX8_again_0 rfl (lv_at hl 1 rfl) ?_
  refine lv_i2l hx hb dX8_again_1 rfl ?_
  refine lv_lconst (v := (0 : Int64)) hx hb dX8_again_2 (by decide) ?_
  refine lv_ldc2 (v := (2 : Int64)) hx hb hown (hts _ ql_X8_again_82) dX8_again_3 ?_
  refine vp_callSi (va_Run.run (va_runS (As := [.long (x1.toInt64), .long (0 : Int64), .long (2 : Int64)]) (rest := []) ⟨hx, hb, hml, hown, hts⟩ (qm_X8_in l dC dI cI cJ cC cG cW (x1.toInt64) (0 : Int64) (2 : Int64) _ hV) (va_cwS 3 hts gX8_again_X8_in rfl rfl rfl (by decide +kernel) ⟨Nat.le_of_ble_eq_true rfl, Nat.le_of_ble_eq_true rfl⟩) (preRS hK hN (show va_P (dC, dI) vwCl (qw_X8_in cI cJ cC cG cW) H from fun k q h => by simp at h)) rfl rfl hl.1 rfl (lv_room (Nat.le_of_ble_eq_true rfl)) dX8_again_6 ⟨Nat.le_of_ble_eq_true rfl, Nat.le_of_ble_eq_true rfl⟩)) (fun r1 hV => ?_)
  refine lv_if_ne (tgt := 16) hx hb dX8_again_9 (by decide) (fun c2 => ?_) (fun c2 => ?_)
  · have hV := hV.2 c2
    refine lv_aload_n hx hb dX8_again_16 rfl (lv_at hl 0 rfl) ?_
    refine lv_aload_n hx hb dX8_again_17 rfl (lv_at hl 0 rfl) ?_
    refine va_get (D := (dC, dI)) (ci := 8) (v := .int z_counts) (C := RX8) (T := TX8) (N := 22) hx hb hts qi_X8_again_X8 hown hK hP 0 rfl rfl 7 (by decide) (hts _ ql_X8_again_114) (fun _ h9 => h9) rfl dX8_again_18 ?_
    refine kW_i (wc := (qw_X8_goes cI cJ cC cG cW a_this a_this_laid a_this_text a_this_read a_this_numbers a_this_where a_this_sorts a_this_tells a_this_undone a_this_parts a_this_goesWith a_this_with a_this_keeps z_letters z_at z_walked z_counts z_undos z_all z_planned z_scale z_least z_kept z_laid z_where z_sorts z_tells z_parts)) (wr := List.filterMap (fun (i : Nat) => (qw_X8_again cI cJ cC cG cW a_this a_this_laid a_this_text a_this_read a_this_numbers a_this_where a_this_sorts a_this_tells a_this_undone a_this_parts a_this_goesWith a_this_with a_this_keeps z_letters z_at z_walked z_counts z_undos z_all z_planned z_scale z_least z_kept z_laid z_where z_sorts z_tells z_parts)[i]?) []) (w1 := fun (u : (Int64) × (Nat → Int64)) => (qw_X8_goes cI cJ cC cG cW a_this a_this_laid a_this_text a_this_read a_this_numbers a_this_where a_this_sorts a_this_tells a_this_undone a_this_parts a_this_goesWith a_this_with a_this_keeps z_letters z_at z_walked z_counts z_undos u.1 z_planned z_scale z_least z_kept z_laid z_where z_sorts z_tells u.2)) (va_runV (As := [.int z_counts]) (rest := []) ⟨hx, hb, hml, hown, hts⟩ (qm_X8_goes l dC dI cI cJ cC cG cW a_this a_this_laid a_this_text a_this_read a_this_numbers a_this_where a_this_sorts a_this_tells a_this_undone a_this_parts a_this_goesWith a_this_with a_this_keeps z_letters z_at z_walked z_counts z_undos z_all z_planned z_scale z_least z_kept z_laid z_where z_sorts z_tells z_parts H.size z_counts _ hV) (cwV 1 hts gX8_again_X8_goes rfl rfl rfl (by decide +kernel) ⟨Nat.le_of_ble_eq_true rfl, Nat.le_of_ble_eq_true rfl⟩) (preWV hK hN (show va_P (dC, dI) vwCl (qw_X8_goes cI cJ cC cG cW a_this a_this_laid a_this_text a_this_read a_this_numbers a_this_where a_this_sorts a_this_tells a_this_undone a_this_parts a_this_goesWith a_this_with a_this_keeps z_letters z_at z_walked z_counts z_undos z_all z_planned z_scale z_least z_kept z_laid z_where z_sorts z_tells z_parts) H from hP) (hD.sub (ws' := (qw_X8_goes cI cJ cC cG cW a_this a_this_laid a_this_text a_this_read a_this_numbers a_this_where a_this_sorts a_this_tells a_this_undone a_this_parts a_this_goesWith a_this_with a_this_keeps z_letters z_at z_walked z_counts z_undos z_all z_planned z_scale z_least z_kept z_laid z_where z_sorts z_tells z_parts)) [0, 1, 2, 3, 4, 5] (by decide) rfl) rfl rfl) rfl rfl hl.1 rfl (lv_room (Nat.le_of_ble_eq_true rfl)) dX8_again_21 ⟨Nat.le_of_ble_eq_true rfl, Nat.le_of_ble_eq_true rfl⟩) hP hD hS hA [0, 1, 2, 3, 4, 5] [] rfl rfl (by decide) (by decide) (fun r3 u H locs hV hP hD hS => ?_)
    obtain ⟨z_all_3, z_parts_3⟩ := u
    try dsimp only at hV
    have hP := hP.sub (ws' := (qw_X8_again cI cJ cC cG cW a_this a_this_laid a_this_text a_this_read a_this_numbers a_this_where a_this_sorts a_this_tells a_this_undone a_this_parts a_this_goesWith a_this_with a_this_keeps z_letters z_at z_walked z_counts z_undos z_all_3 z_planned z_scale z_least z_kept z_laid z_where z_sorts z_tells z_parts_3)) [0, 1, 2, 3, 4, 5] rfl
    have hD := hD.sub (ws' := (qw_X8_again cI cJ cC cG cW a_this a_this_laid a_this_text a_this_read a_this_numbers a_this_where a_this_sorts a_this_tells a_this_undone a_this_parts a_this_goesWith a_this_with a_this_keeps z_letters z_at z_walked z_counts z_undos z_all_3 z_planned z_scale z_least z_kept z_laid z_where z_sorts z_tells z_parts_3)) [0, 1, 2, 3, 4, 5] (by decide) rfl
    refine lv_pop hx hb dX8_again_24 rfl ?_
    refine lv_aload_n hx hb dX8_again_25 rfl (lv_at hl 0 rfl) ?_
    refine va_get (D := (dC, dI)) (ci := 8) (v := .long z_all_3) (C := RX8) (T := TX8) (N := 22) hx hb hts qi_X8_again_X8 hown hK hP 0 rfl rfl 14 (by decide) (hts _ ql_X8_again_138) (fun _ h9 => h9) rfl dX8_again_26 ?_
    refine lv_lconst (v := (0 : Int64)) hx hb dX8_again_29 (by decide) ?_
    refine W.lcmp hx hb dX8_again_30 ?_
    refine lv_if_ne (tgt := 38) hx hb dX8_again_31 (by decide) (fun c4 => ?_) (fun c4 => ?_)
    · have c4 := fun h => c4 ((lg_cmp_eq _ _).mpr h)
      have hV := hV.2 c4
      refine lv_ldc2 (v := (10 : Int64)) hx hb hown (hts _ ql_X8_again_167) dX8_again_38 ?_
      refine lv_aload_n hx hb dX8_again_41 rfl (lv_at hl 0 rfl) ?_
      refine va_get (D := (dC, dI)) (ci := 8) (v := .ref a_this_laid) (C := RX8) (T := TX8) (N := 22) hx hb hts qi_X8_again_X8 hown hK hP 0 rfl rfl 0 (by decide) (hts _ ql_X8_again_7) (fun _ h9 => h9) rfl dX8_again_42 ?_
      refine lv_iconst (v := (2 : Int32)) hx hb dX8_again_45 (by decide) ?_
      obtain ⟨h5, hV⟩ := hV
      refine va_iald hx hb hK hP 1 0 rfl rfl h5 dX8_again_46 ?_
      refine lv_i2l hx hb dX8_again_47 rfl ?_
      refine lv_lmul hx hb dX8_again_48 ?_
      refine lv_aload_n hx hb dX8_again_49 rfl (lv_at hl 0 rfl) ?_
      refine va_get (D := (dC, dI)) (ci := 8) (v := .long z_all_3) (C := RX8) (T := TX8) (N := 22) hx hb hts qi_X8_again_X8 hown hK hP 0 rfl rfl 14 (by decide) (hts _ ql_X8_again_138) (fun _ h9 => h9) rfl dX8_again_50 ?_
      refine lv_aload_n hx hb dX8_again_53 rfl (lv_at hl 0 rfl) ?_
      refine va_get (D := (dC, dI)) (ci := 8) (v := .ref a_this_parts) (C := RX8) (T := TX8) (N := 22) hx hb hts qi_X8_again_X8 hown hK hP 0 rfl rfl 13 (by decide) (hts _ ql_X8_again_34) (fun _ h9 => h9) rfl dX8_again_54 ?_
      refine lv_iconst (v := (0 : Int32)) hx hb dX8_again_57 (by decide) ?_
      obtain ⟨h6, hV⟩ := hV
      refine va_lald hx hb hK hP 5 1 rfl rfl h6 dX8_again_58 ?_
      refine lv_lsub hx hb dX8_again_59 ?_
      refine lv_lmul hx hb dX8_again_60 ?_
      refine lv_lstore_n (lv' := [(2, .long (((10 : Int64) * ((z_laid (2 : Int32).toNatClampNeg).toInt64)) * (z_all_3 - (z_parts_3 (0 : Int32).toNatClampNeg)))), (0, .ref a_this), (1, .int x1)]) hx hb dX8_again_61 rfl hl (by decide) rfl (fun ls hl => ?_)
      refine lv_ldc2 (v := (10 : Int64)) hx hb hown (hts _ ql_X8_again_167) dX8_again_62 ?_
      refine lv_aload_n hx hb dX8_again_65 rfl (lv_at hl 1 rfl) ?_
      refine va_get (D := (dC, dI)) (ci := 8) (v := .ref a_this_laid) (C := RX8) (T := TX8) (N := 22) hx hb hts qi_X8_again_X8 hown hK hP 0 rfl rfl 0 (by decide) (hts _ ql_X8_again_7) (fun _ h9 => h9) rfl dX8_again_66 ?_
      refine lv_iconst (v := (3 : Int32)) hx hb dX8_again_69 (by decide) ?_
      obtain ⟨h7, hV⟩ := hV
      refine va_iald hx hb hK hP 1 0 rfl rfl h7 dX8_again_70 ?_
      refine lv_i2l hx hb dX8_again_71 rfl ?_
      refine lv_lmul hx hb dX8_again_72 ?_
      refine lv_aload_n hx hb dX8_again_73 rfl (lv_at hl 1 rfl) ?_
      refine va_get (D := (dC, dI)) (ci := 8) (v := .ref a_this_parts) (C := RX8) (T := TX8) (N := 22) hx hb hts qi_X8_again_X8 hown hK hP 0 rfl rfl 13 (by decide) (hts _ ql_X8_again_34) (fun _ h9 => h9) rfl dX8_again_74 ?_
      refine lv_iconst (v := (0 : Int32)) hx hb dX8_again_77 (by decide) ?_
      obtain ⟨h8, hV⟩ := hV
      refine va_lald hx hb hK hP 5 1 rfl rfl h8 dX8_again_78 ?_
      refine lv_lmul hx hb dX8_again_79 ?_
      refine lv_lstore (lv' := [(4, .long (((10 : Int64) * ((z_laid (3 : Int32).toNatClampNeg).toInt64)) * (z_parts_3 (0 : Int32).toNatClampNeg))), (2, .long (((10 : Int64) * ((z_laid (2 : Int32).toNatClampNeg).toInt64)) * (z_all_3 - (z_parts_3 (0 : Int32).toNatClampNeg)))), (0, .ref a_this), (1, .int x1)]) hx hb dX8_again_80 hl (by decide) rfl (fun ls hl => ?_)
      refine lv_lload_n hx hb dX8_again_82 rfl (lv_at hl 1 rfl) ?_
      refine lv_lload hx hb dX8_again_83 (lv_at hl 0 rfl) ?_
      refine W.lcmp hx hb dX8_again_85 ?_
      refine lv_if_ge (tgt := 93) hx hb dX8_again_86 (by decide) (fun c9 => ?_) (fun c9 => ?_)
      · have c9 := (lg_cmp_ge _ _).mp c9
        have hV := hV.1 c9
        refine lv_lload hx hb dX8_again_93 (lv_at hl 0 rfl) ?_
        refine lv_lstore (lv' := [(6, .long (((10 : Int64) * ((z_laid (3 : Int32).toNatClampNeg).toInt64)) * (z_parts_3 (0 : Int32).toNatClampNeg))), (4, .long (((10 : Int64) * ((z_laid (3 : Int32).toNatClampNeg).toInt64)) * (z_parts_3 (0 : Int32).toNatClampNeg))), (2, .long (((10 : Int64) * ((z_laid (2 : Int32).toNatClampNeg).toInt64)) * (z_all_3 - (z_parts_3 (0 : Int32).toNatClampNeg)))), (0, .ref a_this), (1, .int x1)]) hx hb dX8_again_95 hl (by decide) rfl (fun ls hl => ?_)
        refine lv_bipush (v := (-4 : Int32)) hx hb dX8_again_97 (by decide) ?_
        refine lv_istore (lv' := [(8, .int (-4 : Int32)), (6, .long (((10 : Int64) * ((z_laid (3 : Int32).toNatClampNeg).toInt64)) * (z_parts_3 (0 : Int32).toNatClampNeg))), (4, .long (((10 : Int64) * ((z_laid (3 : Int32).toNatClampNeg).toInt64)) * (z_parts_3 (0 : Int32).toNatClampNeg))), (2, .long (((10 : Int64) * ((z_laid (2 : Int32).toNatClampNeg).toInt64)) * (z_all_3 - (z_parts_3 (0 : Int32).toNatClampNeg)))), (0, .ref a_this), (1, .int x1)]) hx hb dX8_again_99 hl (by decide) rfl (fun ls hl => ?_)
        refine lv_iconst (v := (0 : Int32)) hx hb dX8_again_101 (by decide) ?_
        refine lv_istore (lv' := [(9, .int (0 : Int32)), (8, .int (-4 : Int32)), (6, .long (((10 : Int64) * ((z_laid (3 : Int32).toNatClampNeg).toInt64)) * (z_parts_3 (0 : Int32).toNatClampNeg))), (4, .long (((10 : Int64) * ((z_laid (3 : Int32).toNatClampNeg).toInt64)) * (z_parts_3 (0 : Int32).toNatClampNeg))), (2, .long (((10 : Int64) * ((z_laid (2 : Int32).toNatClampNeg).toInt64)) * (z_all_3 - (z_parts_3 (0 : Int32).toNatClampNeg)))), (0, .ref a_this), (1, .int x1)]) hx hb dX8_again_102 hl (by decide) rfl (fun ls hl => ?_)
        obtain ⟨n14, hV⟩ := hV
        refine qt_X8_again_L104 C0 hK hN hA z_letters z_at z_walked z_counts z_undos z_all_3 z_planned z_scale z_least z_kept z_laid z_where z_sorts z_tells z_parts_3 x1 _ _ (fun x6_14 x8_14 H locs ls hV hP hD hS hl => ?_) n14 (((10 : Int64) * ((z_laid (3 : Int32).toNatClampNeg).toInt64)) * (z_parts_3 (0 : Int32).toNatClampNeg)) (-4 : Int32) (0 : Int32) H locs ls hV hP hD hS (lv_sub hl [5, 6, 2, 1, 0] rfl)
        refine lv_iload_n hx hb dX8_again_158 rfl (lv_at hl 1 rfl) ?_
        refine lv_if_ne (tgt := 168) hx hb dX8_again_159 (by decide) (fun c15 => ?_) (fun c15 => ?_)
        · have hV := hV.2 c15
          refine lv_lload hx hb dX8_again_168 (lv_at hl 2 rfl) ?_
          refine lv_ldc2 (v := (10 : Int64)) hx hb hown (hts _ ql_X8_again_167) dX8_again_170 ?_
          refine lv_aload_n hx hb dX8_again_173 rfl (lv_at hl 0 rfl) ?_
          refine va_get (D := (dC, dI)) (ci := 8) (v := .long z_all_3) (C := RX8) (T := TX8) (N := 22) hx hb hts qi_X8_again_X8 hown hK hP 0 rfl rfl 14 (by decide) (hts _ ql_X8_again_138) (fun _ h9 => h9) rfl dX8_again_174 ?_
          refine lv_lmul hx hb dX8_again_177 ?_
          refine lv_iload_n hx hb dX8_again_178 rfl (lv_at hl 1 rfl) ?_
          refine lv_iconst (v := (1 : Int32)) hx hb dX8_again_179 (by decide) ?_
          refine lv_isub hx hb dX8_again_180 ?_
          refine vp_callSl (va_Run.run (va_runS (As := [.long x6_14, .long ((10 : Int64) * z_all_3), .int (x1 - (1 : Int32))]) (rest := []) ⟨hx, hb, hml, hown, hts⟩ (qm_X8_part l dC dI cI cJ cC cG cW x6_14 ((10 : Int64) * z_all_3) (x1 - (1 : Int32)) _ hV) (va_cwS 3 hts gX8_again_X8_part rfl rfl rfl (by decide +kernel) ⟨Nat.le_of_ble_eq_true rfl, Nat.le_of_ble_eq_true rfl⟩) (preRS hK hN (show va_P (dC, dI) vwCl (qw_X8_part cI cJ cC cG cW) H from fun k q h => by simp at h)) rfl rfl hl.1 rfl (lv_room (Nat.le_of_ble_eq_true rfl)) dX8_again_181 ⟨Nat.le_of_ble_eq_true rfl, Nat.le_of_ble_eq_true rfl⟩)) (fun r16 hV => ?_)
          exact W.lret hx hb hr (fun t ht hW => ⟨⟨_, (z_all_3, z_parts_3), rfl, hV, ⟨by rw [ht]; exact hP, va_K.moved hW.alike hK, hD⟩⟩, hS.F ht⟩) hS.2.2 dX8_again_184 hlocks
        · have hV := hV.1 c15
          refine lv_iload hx hb dX8_again_162 (lv_at hl 3 rfl) ?_
          refine lv_i2l hx hb dX8_again_164 rfl ?_
          refine lv_goto (tgt := 184) hx hb dX8_again_165 (by decide) ?_
          exact W.lret hx hb hr (fun t ht hW => ⟨⟨_, (z_all_3, z_parts_3), rfl, hV, ⟨by rw [ht]; exact hP, va_K.moved hW.alike hK, hD⟩⟩, hS.F ht⟩) hS.2.2 dX8_again_184 hlocks
      · have c9 := fun h => c9 ((lg_cmp_ge _ _).mpr h)
        have hV := hV.2 c9
        refine lv_lload_n hx hb dX8_again_89 rfl (lv_at hl 1 rfl) ?_
        refine lv_goto (tgt := 95) hx hb dX8_again_90 (by decide) ?_
        refine lv_lstore (lv' := [(6, .long (((10 : Int64) * ((z_laid (2 : Int32).toNatClampNeg).toInt64)) * (z_all_3 - (z_parts_3 (0 : Int32).toNatClampNeg)))), (4, .long (((10 : Int64) * ((z_laid (3 : Int32).toNatClampNeg).toInt64)) * (z_parts_3 (0 : Int32).toNatClampNeg))), (2, .long (((10 : Int64) * ((z_laid (2 : Int32).toNatClampNeg).toInt64)) * (z_all_3 - (z_parts_3 (0 : Int32).toNatClampNeg)))), (0, .ref a_this), (1, .int x1)]) hx hb dX8_again_95 hl (by decide) rfl (fun ls hl => ?_)
        refine lv_bipush (v := (-4 : Int32)) hx hb dX8_again_97 (by decide) ?_
        refine lv_istore (lv' := [(8, .int (-4 : Int32)), (6, .long (((10 : Int64) * ((z_laid (2 : Int32).toNatClampNeg).toInt64)) * (z_all_3 - (z_parts_3 (0 : Int32).toNatClampNeg)))), (4, .long (((10 : Int64) * ((z_laid (3 : Int32).toNatClampNeg).toInt64)) * (z_parts_3 (0 : Int32).toNatClampNeg))), (2, .long (((10 : Int64) * ((z_laid (2 : Int32).toNatClampNeg).toInt64)) * (z_all_3 - (z_parts_3 (0 : Int32).toNatClampNeg)))), (0, .ref a_this), (1, .int x1)]) hx hb dX8_again_99 hl (by decide) rfl (fun ls hl => ?_)
        refine lv_iconst (v := (0 : Int32)) hx hb dX8_again_101 (by decide) ?_
        refine lv_istore (lv' := [(9, .int (0 : Int32)), (8, .int (-4 : Int32)), (6, .long (((10 : Int64) * ((z_laid (2 : Int32).toNatClampNeg).toInt64)) * (z_all_3 - (z_parts_3 (0 : Int32).toNatClampNeg)))), (4, .long (((10 : Int64) * ((z_laid (3 : Int32).toNatClampNeg).toInt64)) * (z_parts_3 (0 : Int32).toNatClampNeg))), (2, .long (((10 : Int64) * ((z_laid (2 : Int32).toNatClampNeg).toInt64)) * (z_all_3 - (z_parts_3 (0 : Int32).toNatClampNeg)))), (0, .ref a_this), (1, .int x1)]) hx hb dX8_again_102 hl (by decide) rfl (fun ls hl => ?_)
        obtain ⟨n17, hV⟩ := hV
        refine qt_X8_again_L104 C0 hK hN hA z_letters z_at z_walked z_counts z_undos z_all_3 z_planned z_scale z_least z_kept z_laid z_where z_sorts z_tells z_parts_3 x1 _ _ (fun x6_17 x8_17 H locs ls hV hP hD hS hl => ?_) n17 (((10 : Int64) * ((z_laid (2 : Int32).toNatClampNeg).toInt64)) * (z_all_3 - (z_parts_3 (0 : Int32).toNatClampNeg))) (-4 : Int32) (0 : Int32) H locs ls hV hP hD hS (lv_sub hl [5, 6, 2, 1, 0] rfl)
        refine lv_iload_n hx hb dX8_again_158 rfl (lv_at hl 1 rfl) ?_
        refine lv_if_ne (tgt := 168) hx hb dX8_again_159 (by decide) (fun c18 => ?_) (fun c18 => ?_)
        · have hV := hV.2 c18
          refine lv_lload hx hb dX8_again_168 (lv_at hl 2 rfl) ?_
          refine lv_ldc2 (v := (10 : Int64)) hx hb hown (hts _ ql_X8_again_167) dX8_again_170 ?_
          refine lv_aload_n hx hb dX8_again_173 rfl (lv_at hl 0 rfl) ?_
          refine va_get (D := (dC, dI)) (ci := 8) (v := .long z_all_3) (C := RX8) (T := TX8) (N := 22) hx hb hts qi_X8_again_X8 hown hK hP 0 rfl rfl 14 (by decide) (hts _ ql_X8_again_138) (fun _ h9 => h9) rfl dX8_again_174 ?_
          refine lv_lmul hx hb dX8_again_177 ?_
          refine lv_iload_n hx hb dX8_again_178 rfl (lv_at hl 1 rfl) ?_
          refine lv_iconst (v := (1 : Int32)) hx hb dX8_again_179 (by decide) ?_
          refine lv_isub hx hb dX8_again_180 ?_
          refine vp_callSl (va_Run.run (va_runS (As := [.long x6_17, .long ((10 : Int64) * z_all_3), .int (x1 - (1 : Int32))]) (rest := []) ⟨hx, hb, hml, hown, hts⟩ (qm_X8_part l dC dI cI cJ cC cG cW x6_17 ((10 : Int64) * z_all_3) (x1 - (1 : Int32)) _ hV) (va_cwS 3 hts gX8_again_X8_part rfl rfl rfl (by decide +kernel) ⟨Nat.le_of_ble_eq_true rfl, Nat.le_of_ble_eq_true rfl⟩) (preRS hK hN (show va_P (dC, dI) vwCl (qw_X8_part cI cJ cC cG cW) H from fun k q h => by simp at h)) rfl rfl hl.1 rfl (lv_room (Nat.le_of_ble_eq_true rfl)) dX8_again_181 ⟨Nat.le_of_ble_eq_true rfl, Nat.le_of_ble_eq_true rfl⟩)) (fun r19 hV => ?_)
          exact W.lret hx hb hr (fun t ht hW => ⟨⟨_, (z_all_3, z_parts_3), rfl, hV, ⟨by rw [ht]; exact hP, va_K.moved hW.alike hK, hD⟩⟩, hS.F ht⟩) hS.2.2 dX8_again_184 hlocks
        · have hV := hV.1 c18
          refine lv_iload hx hb dX8_again_162 (lv_at hl 3 rfl) ?_
          refine lv_i2l hx hb dX8_again_164 rfl ?_
          refine lv_goto (tgt := 184) hx hb dX8_again_165 (by decide) ?_
          exact W.lret hx hb hr (fun t ht hW => ⟨⟨_, (z_all_3, z_parts_3), rfl, hV, ⟨by rw [ht]; exact hP, va_K.moved hW.alike hK, hD⟩⟩, hS.F ht⟩) hS.2.2 dX8_again_184 hlocks
    · have c4 := (lg_cmp_eq _ _).mp c4
      have hV := hV.1 c4
      refine lv_ldc2 (v := (-4 : Int64)) hx hb hown (hts _ ql_X8_again_161) dX8_again_34 ?_
      exact W.lret hx hb hr (fun t ht hW => ⟨⟨_, (z_all_3, z_parts_3), rfl, hV, ⟨by rw [ht]; exact hP, va_K.moved hW.alike hK, hD⟩⟩, hS.F ht⟩) hS.2.2 dX8_again_37 hlocks
  · have hV := hV.1 c2
    refine lv_ldc2 (v := (-1 : Int64)) hx hb hown (hts _ ql_X8_again_155) dX8_again_12 ?_
    exact W.lret hx hb hr (fun t ht hW => ⟨⟨_, (z_all, z_parts), rfl, hV, ⟨by rw [ht]; exact hP, va_K.moved hW.alike hK, hD⟩⟩, hS.F ht⟩) hS.2.2 dX8_again_15 hlocks

/-! StileCountsModel.far(I)J -/
abbrev qw_X8_far (cI cJ cC cG cW : ClassId) (a_this a_this_laid a_this_text a_this_read a_this_numbers a_this_where a_this_sorts a_this_tells a_this_undone a_this_parts a_this_goesWith a_this_with a_this_keeps : Nat) (z_letters : Int32) (z_at : Int32) (z_walked : Int32) (z_counts : Int32) (z_undos : Int32) (z_all : Int64) (z_planned : Int64) (z_scale : Int64) (z_least : Int32) (z_kept : Int32) (z_laid : Nat → Int32) (z_where : Nat → Int32) (z_sorts : Nat → Int32) (z_tells : Nat → Int32) (z_parts : Nat → Int64) : va_W := [(a_this, .inr (8, [.ref a_this_laid, .ref a_this_text, .int z_letters, .ref a_this_read, .int z_at, .ref a_this_numbers, .int z_walked, .int z_counts, .ref a_this_where, .ref a_this_sorts, .ref a_this_tells, .int z_undos, .ref a_this_undone, .ref a_this_parts, .long z_all, .long z_planned, .long z_scale, .ref a_this_goesWith, .int z_least, .ref a_this_with, .int z_kept, .ref a_this_keeps])), (a_this_laid, .inl (cI, 73, .inl z_laid)), (a_this_where, .inl (cI, 6, .inl z_where)), (a_this_sorts, .inl (cI, 6, .inl z_sorts)), (a_this_tells, .inl (cI, 6, .inl z_tells)), (a_this_parts, .inl (cJ, 9, .inr (.inl z_parts)))]
theorem ql_X8_far_82 : (.constantLong RX8 82 (2 : Int64) : Cond) ∈ wsX8_far := by decide +kernel
theorem qi_X8_far_X8 : ∀ w ∈ wsX80, w ∈ wsX8_far := by decide +kernel
theorem ql_X8_far_114 : (.fieldLink RX8 114 "StileCountsModel" "counts" "I" : Cond) ∈ wsX8_far := by decide +kernel
theorem ql_X8_far_138 : (.fieldLink RX8 138 "StileCountsModel" "all" "J" : Cond) ∈ wsX8_far := by decide +kernel
theorem ql_X8_far_167 : (.constantLong RX8 167 (10 : Int64) : Cond) ∈ wsX8_far := by decide +kernel
theorem ql_X8_far_7 : (.fieldLink RX8 7 "StileCountsModel" "laid" "[I" : Cond) ∈ wsX8_far := by decide +kernel
theorem ql_X8_far_34 : (.fieldLink RX8 34 "StileCountsModel" "parts" "[J" : Cond) ∈ wsX8_far := by decide +kernel
theorem ql_X8_far_111 : (.fieldLink RX8 111 "StileCountsModel" "walked" "I" : Cond) ∈ wsX8_far := by decide +kernel
theorem ql_X8_far_176 : (.constantLong RX8 176 (20 : Int64) : Cond) ∈ wsX8_far := by decide +kernel
theorem ql_X8_far_161 : (.constantLong RX8 161 (-4 : Int64) : Cond) ∈ wsX8_far := by decide +kernel
theorem ql_X8_far_155 : (.constantLong RX8 155 (-1 : Int64) : Cond) ∈ wsX8_far := by decide +kernel
def qv_X8_far_J178 (k0 : Int32) (x1 : Int32) (x3 : Int64) (x5 : Int64) (x7 : Int64) (x9 : Int32) (x11 : Int64) (z_walked : Int32) (z_counts : Int32) (z_all : Int64) (z_laid : Nat → Int32) (z_where : Nat → Int32) (z_sorts : Nat → Int32) (z_tells : Nat → Int32) (z_parts : Nat → Int64) (Post : Int64 → (Int64) → (Nat → Int64) → Prop) (K : (Int32) → (Int64) → (Int64) → (Int64) → (Int32) → Prop) (E : (Int32) → (Int64) → Prop) : Prop := (x3 ≤ x11 → K k0 x3 x5 x7 (x9 + (1 : Int32))) ∧ (¬ x3 ≤ x11 → K k0 x11 x5 x7 (x9 + (1 : Int32)))
set_option maxHeartbeats 4000000 in
set_option maxRecDepth 100000 in
theorem qt_X8_far_J178 {p : Program} {l : Launch} {e : Env} {s : State} {m : MethodId} {args : Array Value} {below : List Frame} {meth : Method} {c : Code} {dC : Nat → ClassId} {dI : Nat → Nat → Nat} {cI cJ cC cG cW : ClassId} {a_this a_this_laid a_this_text a_this_read a_this_numbers a_this_where a_this_sorts a_this_tells a_this_undone a_this_parts a_this_goesWith a_this_with a_this_keeps : Nat} {A : Nat → Prop} (C0 : MC cX8_far 13 (some .long) RX8 wsX8_far p s m args meth c) (hK : va_K (dC, dI) vwCl (tyL cI cJ cC cG cW) s) (hN : NW s) (hA : ∀ q, s.heap.size ≤ q → A q) (z_letters : Int32) (z_at : Int32) (z_walked : Int32) (z_counts : Int32) (z_undos : Int32) (z_all : Int64) (z_planned : Int64) (z_scale : Int64) (z_least : Int32) (z_kept : Int32) (z_laid : Nat → Int32) (z_where : Nat → Int32) (z_sorts : Nat → Int32) (z_tells : Nat → Int32) (z_parts : Nat → Int64) (k0 : Int32) (x1 : Int32) (x3 : Int64) (x5 : Int64) (x7 : Int64) (x9 : Int32) (x11 : Int64) (Post : Int64 → (Int64) → (Nat → Int64) → Prop) (K : (Int32) → (Int64) → (Int64) → (Int64) → (Int32) → Prop) (E : (Int32) → (Int64) → Prop) (hKb : ∀ (x2 : Int32) (x3 : Int64) (x5 : Int64) (x7 : Int64) (x9 : Int32) (H : Heap) (locs : List Loc) (ls : Array Slot), K x2 x3 x5 x7 x9 → va_P (dC, dI) vwCl (qw_X8_far cI cJ cC cG cW a_this a_this_laid a_this_text a_this_read a_this_numbers a_this_where a_this_sorts a_this_tells a_this_undone a_this_parts a_this_goesWith a_this_with a_this_keeps z_letters z_at z_walked z_counts z_undos z_all z_planned z_scale z_least z_kept z_laid z_where z_sorts z_tells z_parts) H → va_D A (qw_X8_far cI cJ cC cG cW a_this a_this_laid a_this_text a_this_read a_this_numbers a_this_where a_this_sorts a_this_tells a_this_undone a_this_parts a_this_goesWith a_this_with a_this_keeps z_letters z_at z_walked z_counts z_undos z_all z_planned z_scale z_least z_kept z_laid z_where z_sorts z_tells z_parts) → va_S A s.heap H locs → lv_has ls 13 [(0, .ref a_this), (1, .int x1), (2, .int x2), (3, .long x3), (5, .long x5), (7, .long x7), (9, .int x9)] → W p l e ({ frames := 4, cells := 0, slots := 0, locals := 104 } : Room) s m args below meth c H locs 0 0 (MQ below (va_Ql (fun (r : Int64) (u : (Int64) × (Nat → Int64)) => Post r u.1 u.2) (fun u t => poW (dC, dI) (tyL cI cJ cC cG cW) A (qw_X8_far cI cJ cC cG cW a_this a_this_laid a_this_text a_this_read a_this_numbers a_this_where a_this_sorts a_this_tells a_this_undone a_this_parts a_this_goesWith a_this_with a_this_keeps z_letters z_at z_walked z_counts z_undos u.1 z_planned z_scale z_least z_kept z_laid z_where z_sorts z_tells u.2) t) A) args s 0 0 A) (F0 m 73 ls [])) (hE : ∀ (x2 : Int32) (x3 : Int64) (H : Heap) (locs : List Loc) (ls : Array Slot), E x2 x3 → va_P (dC, dI) vwCl (qw_X8_far cI cJ cC cG cW a_this a_this_laid a_this_text a_this_read a_this_numbers a_this_where a_this_sorts a_this_tells a_this_undone a_this_parts a_this_goesWith a_this_with a_this_keeps z_letters z_at z_walked z_counts z_undos z_all z_planned z_scale z_least z_kept z_laid z_where z_sorts z_tells z_parts) H → va_D A (qw_X8_far cI cJ cC cG cW a_this a_this_laid a_this_text a_this_read a_this_numbers a_this_where a_this_sorts a_this_tells a_this_undone a_this_parts a_this_goesWith a_this_with a_this_keeps z_letters z_at z_walked z_counts z_undos z_all z_planned z_scale z_least z_kept z_laid z_where z_sorts z_tells z_parts) → va_S A s.heap H locs → lv_has ls 13 [(0, .ref a_this), (1, .int x1), (2, .int x2), (3, .long x3)] → W p l e ({ frames := 4, cells := 0, slots := 0, locals := 104 } : Room) s m args below meth c H locs 0 0 (MQ below (va_Ql (fun (r : Int64) (u : (Int64) × (Nat → Int64)) => Post r u.1 u.2) (fun u t => poW (dC, dI) (tyL cI cJ cC cG cW) A (qw_X8_far cI cJ cC cG cW a_this a_this_laid a_this_text a_this_read a_this_numbers a_this_where a_this_sorts a_this_tells a_this_undone a_this_parts a_this_goesWith a_this_with a_this_keeps z_letters z_at z_walked z_counts z_undos u.1 z_planned z_scale z_least z_kept z_laid z_where z_sorts z_tells u.2) t) A) args s 0 0 A) (F0 m 199 ls [])) (H : Heap) (locs : List Loc) (ls : Array Slot) (hV : qv_X8_far_J178 k0 x1 x3 x5 x7 x9 x11 z_walked z_counts z_all z_laid z_where z_sorts z_tells z_parts Post K E) (hP : va_P (dC, dI) vwCl (qw_X8_far cI cJ cC cG cW a_this a_this_laid a_this_text a_this_read a_this_numbers a_this_where a_this_sorts a_this_tells a_this_undone a_this_parts a_this_goesWith a_this_with a_this_keeps z_letters z_at z_walked z_counts z_undos z_all z_planned z_scale z_least z_kept z_laid z_where z_sorts z_tells z_parts) H) (hD : va_D A (qw_X8_far cI cJ cC cG cW a_this a_this_laid a_this_text a_this_read a_this_numbers a_this_where a_this_sorts a_this_tells a_this_undone a_this_parts a_this_goesWith a_this_with a_this_keeps z_letters z_at z_walked z_counts z_undos z_all z_planned z_scale z_least z_kept z_laid z_where z_sorts z_tells z_parts)) (hS : va_S A s.heap H locs) (hl : lv_has ls 13 [(0, .ref a_this), (1, .int x1), (3, .long x3), (5, .long x5), (7, .long x7), (9, .int x9), (11, .long x11)]) : W p l e ({ frames := 4, cells := 0, slots := 0, locals := 104 } : Room) s m args below meth c H locs 0 0 (MQ below (va_Ql (fun (r : Int64) (u : (Int64) × (Nat → Int64)) => Post r u.1 u.2) (fun u t => poW (dC, dI) (tyL cI cJ cC cG cW) A (qw_X8_far cI cJ cC cG cW a_this a_this_laid a_this_text a_this_read a_this_numbers a_this_where a_this_sorts a_this_tells a_this_undone a_this_parts a_this_goesWith a_this_with a_this_keeps z_letters z_at z_walked z_counts z_undos u.1 z_planned z_scale z_least z_kept z_laid z_where z_sorts z_tells u.2) t) A) args s 0 0 A) (F0 m 178 ls [.int k0]) := by
  obtain ⟨hx, hb, hr, hml, hown, hts, hlocks⟩ := id C0
  refine lv_istore_n (lv' := [(2, .int k0), (0, .ref a_this), (1, .int x1), (3, .long x3), (5, .long x5), (7, .long x7), (9, .int x9), (11, .long x11)]) hx hb dX8_far_178 rfl hl (by decide) rfl (fun ls hl => ?_)
  refine lv_lload hx hb dX8_far_179 (lv_at hl 7 rfl) ?_
  refine lv_lload_n hx hb dX8_far_181 rfl (lv_at hl 3 rfl) ?_
  refine W.lcmp hx hb dX8_far_182 ?_
  refine lv_if_ge (tgt := 191) hx hb dX8_far_183 (by decide) (fun c14 => ?_) (fun c14 => ?_)
  · have c14 := (lg_cmp_ge _ _).mp c14
    have hV := hV.1 c14
    refine lv_lload_n hx hb dX8_far_191 rfl (lv_at hl 3 rfl) ?_
    refine lv_lstore_n (lv' := [(3, .long x3), (2, .int k0), (0, .ref a_this), (1, .int x1), (5, .long x5), (7, .long x7), (9, .int x9), (11, .long x11)]) hx hb dX8_far_192 rfl hl (by decide) rfl (fun ls hl => ?_)
    refine lv_iinc (v := (x9 + (1 : Int32))) (lv' := [(9, .int (x9 + (1 : Int32))), (3, .long x3), (2, .int k0), (0, .ref a_this), (1, .int x1), (5, .long x5), (7, .long x7), (11, .long x11)]) hx hb dX8_far_193 hl (k := 6) rfl rfl (by decide) rfl (fun ls hl => ?_)
    refine lv_goto (tgt := 73) hx hb dX8_far_196 (by decide) ?_
    exact hKb k0 x3 x5 x7 (x9 + (1 : Int32)) H locs ls hV hP hD hS (lv_sub hl [3, 4, 2, 1, 5, 6, 0] rfl)
  · have c14 := fun h => c14 ((lg_cmp_ge _ _).mpr h)
    have hV := hV.2 c14
    refine lv_lload hx hb dX8_far_186 (lv_at hl 7 rfl) ?_
    refine lv_goto (tgt := 192) hx hb dX8_far_188 (by decide) ?_
    refine lv_lstore_n (lv' := [(3, .long x11), (2, .int k0), (0, .ref a_this), (1, .int x1), (5, .long x5), (7, .long x7), (9, .int x9), (11, .long x11)]) hx hb dX8_far_192 rfl hl (by decide) rfl (fun ls hl => ?_)
    refine lv_iinc (v := (x9 + (1 : Int32))) (lv' := [(9, .int (x9 + (1 : Int32))), (3, .long x11), (2, .int k0), (0, .ref a_this), (1, .int x1), (5, .long x5), (7, .long x7), (11, .long x11)]) hx hb dX8_far_193 hl (k := 6) rfl rfl (by decide) rfl (fun ls hl => ?_)
    refine lv_goto (tgt := 73) hx hb dX8_far_196 (by decide) ?_
    exact hKb k0 x11 x5 x7 (x9 + (1 : Int32)) H locs ls hV hP hD hS (lv_sub hl [3, 4, 2, 1, 5, 6, 0] rfl)
def qv_X8_far_L73 (x1 : Int32) (z_walked : Int32) (z_counts : Int32) (z_all : Int64) (z_laid : Nat → Int32) (z_where : Nat → Int32) (z_sorts : Nat → Int32) (z_tells : Nat → Int32) (z_parts : Nat → Int64) (Post : Int64 → (Int64) → (Nat → Int64) → Prop) (E : (Int32) → (Int64) → Prop) : Nat → (Int32) → (Int64) → (Int64) → (Int64) → (Int32) → Prop
  | 0, _, _, _, _, _ => False
  | n + 1, x2, x3, x5, x7, x9 => (z_walked < x9 → E x2 x3) ∧ (¬ z_walked < x9 → vp_in ((z_walked + (1 : Int32)) - x9) 9 ∧ (qv_X8_m ((z_walked + (1 : Int32)) - x9) z_laid (fun r9 => vp_in (2 : Int32) 73 ∧ (vp_in (0 : Int32) 9 ∧ (vp_in (4 : Int32) 73 ∧ ((x3 ≤ ((((20 : Int64) * z_all) * (x7 + (r9.toInt64))) + (((z_laid (2 : Int32).toNatClampNeg).toInt64) * (((10 : Int64) * (z_all - (z_parts (0 : Int32).toNatClampNeg))) - (((z_laid (4 : Int32).toNatClampNeg).toInt64) * (x5 + (z_parts ((z_walked + (1 : Int32)) - x9).toNatClampNeg)))))) → qv_X8_far_J178 x2 x1 x3 (x5 + (z_parts ((z_walked + (1 : Int32)) - x9).toNatClampNeg)) (x7 + (r9.toInt64)) x9 ((((20 : Int64) * z_all) * (x7 + (r9.toInt64))) + (((z_laid (2 : Int32).toNatClampNeg).toInt64) * (((10 : Int64) * (z_all - (z_parts (0 : Int32).toNatClampNeg))) - (((z_laid (4 : Int32).toNatClampNeg).toInt64) * (x5 + (z_parts ((z_walked + (1 : Int32)) - x9).toNatClampNeg)))))) z_walked z_counts z_all z_laid z_where z_sorts z_tells z_parts Post (qv_X8_far_L73 x1 z_walked z_counts z_all z_laid z_where z_sorts z_tells z_parts Post E n) E) ∧ (¬ x3 ≤ ((((20 : Int64) * z_all) * (x7 + (r9.toInt64))) + (((z_laid (2 : Int32).toNatClampNeg).toInt64) * (((10 : Int64) * (z_all - (z_parts (0 : Int32).toNatClampNeg))) - (((z_laid (4 : Int32).toNatClampNeg).toInt64) * (x5 + (z_parts ((z_walked + (1 : Int32)) - x9).toNatClampNeg)))))) → qv_X8_far_J178 x9 x1 x3 (x5 + (z_parts ((z_walked + (1 : Int32)) - x9).toNatClampNeg)) (x7 + (r9.toInt64)) x9 ((((20 : Int64) * z_all) * (x7 + (r9.toInt64))) + (((z_laid (2 : Int32).toNatClampNeg).toInt64) * (((10 : Int64) * (z_all - (z_parts (0 : Int32).toNatClampNeg))) - (((z_laid (4 : Int32).toNatClampNeg).toInt64) * (x5 + (z_parts ((z_walked + (1 : Int32)) - x9).toNatClampNeg)))))) z_walked z_counts z_all z_laid z_where z_sorts z_tells z_parts Post (qv_X8_far_L73 x1 z_walked z_counts z_all z_laid z_where z_sorts z_tells z_parts Post E n) E)))))))
set_option maxHeartbeats 4000000 in
set_option maxRecDepth 100000 in
theorem qt_X8_far_L73 {p : Program} {l : Launch} {e : Env} {s : State} {m : MethodId} {args : Array Value} {below : List Frame} {meth : Method} {c : Code} {dC : Nat → ClassId} {dI : Nat → Nat → Nat} {cI cJ cC cG cW : ClassId} {a_this a_this_laid a_this_text a_this_read a_this_numbers a_this_where a_this_sorts a_this_tells a_this_undone a_this_parts a_this_goesWith a_this_with a_this_keeps : Nat} {A : Nat → Prop} (C0 : MC cX8_far 13 (some .long) RX8 wsX8_far p s m args meth c) (hK : va_K (dC, dI) vwCl (tyL cI cJ cC cG cW) s) (hN : NW s) (hA : ∀ q, s.heap.size ≤ q → A q) (z_letters : Int32) (z_at : Int32) (z_walked : Int32) (z_counts : Int32) (z_undos : Int32) (z_all : Int64) (z_planned : Int64) (z_scale : Int64) (z_least : Int32) (z_kept : Int32) (z_laid : Nat → Int32) (z_where : Nat → Int32) (z_sorts : Nat → Int32) (z_tells : Nat → Int32) (z_parts : Nat → Int64) (x1 : Int32) (Post : Int64 → (Int64) → (Nat → Int64) → Prop) (E : (Int32) → (Int64) → Prop) (hE : ∀ (x2 : Int32) (x3 : Int64) (H : Heap) (locs : List Loc) (ls : Array Slot), E x2 x3 → va_P (dC, dI) vwCl (qw_X8_far cI cJ cC cG cW a_this a_this_laid a_this_text a_this_read a_this_numbers a_this_where a_this_sorts a_this_tells a_this_undone a_this_parts a_this_goesWith a_this_with a_this_keeps z_letters z_at z_walked z_counts z_undos z_all z_planned z_scale z_least z_kept z_laid z_where z_sorts z_tells z_parts) H → va_D A (qw_X8_far cI cJ cC cG cW a_this a_this_laid a_this_text a_this_read a_this_numbers a_this_where a_this_sorts a_this_tells a_this_undone a_this_parts a_this_goesWith a_this_with a_this_keeps z_letters z_at z_walked z_counts z_undos z_all z_planned z_scale z_least z_kept z_laid z_where z_sorts z_tells z_parts) → va_S A s.heap H locs → lv_has ls 13 [(0, .ref a_this), (1, .int x1), (2, .int x2), (3, .long x3)] → W p l e ({ frames := 4, cells := 0, slots := 0, locals := 104 } : Room) s m args below meth c H locs 0 0 (MQ below (va_Ql (fun (r : Int64) (u : (Int64) × (Nat → Int64)) => Post r u.1 u.2) (fun u t => poW (dC, dI) (tyL cI cJ cC cG cW) A (qw_X8_far cI cJ cC cG cW a_this a_this_laid a_this_text a_this_read a_this_numbers a_this_where a_this_sorts a_this_tells a_this_undone a_this_parts a_this_goesWith a_this_with a_this_keeps z_letters z_at z_walked z_counts z_undos u.1 z_planned z_scale z_least z_kept z_laid z_where z_sorts z_tells u.2) t) A) args s 0 0 A) (F0 m 199 ls [])) : ∀ (n : Nat) (x2 : Int32) (x3 : Int64) (x5 : Int64) (x7 : Int64) (x9 : Int32) (H : Heap) (locs : List Loc) (ls : Array Slot), qv_X8_far_L73 x1 z_walked z_counts z_all z_laid z_where z_sorts z_tells z_parts Post E n x2 x3 x5 x7 x9 → va_P (dC, dI) vwCl (qw_X8_far cI cJ cC cG cW a_this a_this_laid a_this_text a_this_read a_this_numbers a_this_where a_this_sorts a_this_tells a_this_undone a_this_parts a_this_goesWith a_this_with a_this_keeps z_letters z_at z_walked z_counts z_undos z_all z_planned z_scale z_least z_kept z_laid z_where z_sorts z_tells z_parts) H → va_D A (qw_X8_far cI cJ cC cG cW a_this a_this_laid a_this_text a_this_read a_this_numbers a_this_where a_this_sorts a_this_tells a_this_undone a_this_parts a_this_goesWith a_this_with a_this_keeps z_letters z_at z_walked z_counts z_undos z_all z_planned z_scale z_least z_kept z_laid z_where z_sorts z_tells z_parts) → va_S A s.heap H locs → lv_has ls 13 [(0, .ref a_this), (1, .int x1), (2, .int x2), (3, .long x3), (5, .long x5), (7, .long x7), (9, .int x9)] → W p l e ({ frames := 4, cells := 0, slots := 0, locals := 104 } : Room) s m args below meth c H locs 0 0 (MQ below (va_Ql (fun (r : Int64) (u : (Int64) × (Nat → Int64)) => Post r u.1 u.2) (fun u t => poW (dC, dI) (tyL cI cJ cC cG cW) A (qw_X8_far cI cJ cC cG cW a_this a_this_laid a_this_text a_this_read a_this_numbers a_this_where a_this_sorts a_this_tells a_this_undone a_this_parts a_this_goesWith a_this_with a_this_keeps z_letters z_at z_walked z_counts z_undos u.1 z_planned z_scale z_least z_kept z_laid z_where z_sorts z_tells u.2) t) A) args s 0 0 A) (F0 m 73 ls []) := by
  obtain ⟨hx, hb, hr, hml, hown, hts, hlocks⟩ := id C0
  intro n
  induction n with
  | zero =>
    intro x2 x3 x5 x7 x9 H locs ls hV
    exact False.elim hV
  | succ n ih =>
    intro x2 x3 x5 x7 x9 H locs ls hV hP hD hS hl
    refine lv_iload hx hb dX8_far_73 (lv_at hl 6 rfl) ?_
    refine lv_aload_n hx hb dX8_far_75 rfl (lv_at hl 0 rfl) ?_
    refine va_get (D := (dC, dI)) (ci := 8) (v := .int z_walked) (C := RX8) (T := TX8) (N := 22) hx hb hts qi_X8_far_X8 hown hK hP 0 rfl rfl 6 (by decide) (hts _ ql_X8_far_111) (fun _ h9 => h9) rfl dX8_far_76 ?_
    refine lv_icmp_gt (tgt := 199) hx hb dX8_far_79 (by decide) (fun c7 => ?_) (fun c7 => ?_)
    · have hV := hV.1 c7
      exact hE x2 x3 H locs ls hV hP hD hS (lv_sub hl [0, 1, 2, 3] rfl)
    · have hV := hV.2 c7
      refine lv_aload_n hx hb dX8_far_82 rfl (lv_at hl 0 rfl) ?_
      refine va_get (D := (dC, dI)) (ci := 8) (v := .int z_walked) (C := RX8) (T := TX8) (N := 22) hx hb hts qi_X8_far_X8 hown hK hP 0 rfl rfl 6 (by decide) (hts _ ql_X8_far_111) (fun _ h9 => h9) rfl dX8_far_83 ?_
      refine lv_iconst (v := (1 : Int32)) hx hb dX8_far_86 (by decide) ?_
      refine lv_iadd hx hb dX8_far_87 ?_
      refine lv_iload hx hb dX8_far_88 (lv_at hl 6 rfl) ?_
      refine lv_isub hx hb dX8_far_90 ?_
      refine lv_istore (lv' := [(10, .int ((z_walked + (1 : Int32)) - x9)), (0, .ref a_this), (1, .int x1), (2, .int x2), (3, .long x3), (5, .long x5), (7, .long x7), (9, .int x9)]) hx hb dX8_far_91 hl (by decide) rfl (fun ls hl => ?_)
      refine lv_lload hx hb dX8_far_93 (lv_at hl 5 rfl) ?_
      refine lv_aload_n hx hb dX8_far_95 rfl (lv_at hl 1 rfl) ?_
      refine va_get (D := (dC, dI)) (ci := 8) (v := .ref a_this_parts) (C := RX8) (T := TX8) (N := 22) hx hb hts qi_X8_far_X8 hown hK hP 0 rfl rfl 13 (by decide) (hts _ ql_X8_far_34) (fun _ h9 => h9) rfl dX8_far_96 ?_
      refine lv_iload hx hb dX8_far_99 (lv_at hl 0 rfl) ?_
      obtain ⟨h8, hV⟩ := hV
      refine va_lald hx hb hK hP 5 1 rfl rfl h8 dX8_far_101 ?_
      refine lv_ladd hx hb dX8_far_102 ?_
      refine lv_lstore (lv' := [(5, .long (x5 + (z_parts ((z_walked + (1 : Int32)) - x9).toNatClampNeg))), (10, .int ((z_walked + (1 : Int32)) - x9)), (0, .ref a_this), (1, .int x1), (2, .int x2), (3, .long x3), (7, .long x7), (9, .int x9)]) hx hb dX8_far_103 hl (by decide) rfl (fun ls hl => ?_)
      refine lv_lload hx hb dX8_far_105 (lv_at hl 6 rfl) ?_
      refine lv_aload_n hx hb dX8_far_107 rfl (lv_at hl 2 rfl) ?_
      refine lv_iload hx hb dX8_far_108 (lv_at hl 1 rfl) ?_
      refine vp_callSi (va_Run.run (va_runV (As := [.int ((z_walked + (1 : Int32)) - x9)]) (rest := [.long x7]) ⟨hx, hb, hml, hown, hts⟩ (qm_X8_m l dC dI cI cJ cC cG cW a_this a_this_laid a_this_text a_this_read a_this_numbers a_this_where a_this_sorts a_this_tells a_this_undone a_this_parts a_this_goesWith a_this_with a_this_keeps z_letters z_at z_walked z_counts z_undos z_all z_planned z_scale z_least z_kept z_laid ((z_walked + (1 : Int32)) - x9) _ hV) (cwV 1 hts gX8_far_X8_m rfl rfl rfl (by decide +kernel) ⟨Nat.le_of_ble_eq_true rfl, Nat.le_of_ble_eq_true rfl⟩) (preRV hK hN (hP.sub (ws' := (qw_X8_m cI cJ cC cG cW a_this a_this_laid a_this_text a_this_read a_this_numbers a_this_where a_this_sorts a_this_tells a_this_undone a_this_parts a_this_goesWith a_this_with a_this_keeps z_letters z_at z_walked z_counts z_undos z_all z_planned z_scale z_least z_kept z_laid)) [0, 1] rfl) rfl rfl) rfl rfl hl.1 rfl (lv_room (Nat.le_of_ble_eq_true rfl)) dX8_far_110 ⟨Nat.le_of_ble_eq_true rfl, Nat.le_of_ble_eq_true rfl⟩)) (fun r9 hV => ?_)
      refine lv_i2l hx hb dX8_far_113 rfl ?_
      refine lv_ladd hx hb dX8_far_114 ?_
      refine lv_lstore (lv' := [(7, .long (x7 + (r9.toInt64))), (5, .long (x5 + (z_parts ((z_walked + (1 : Int32)) - x9).toNatClampNeg))), (10, .int ((z_walked + (1 : Int32)) - x9)), (0, .ref a_this), (1, .int x1), (2, .int x2), (3, .long x3), (9, .int x9)]) hx hb dX8_far_115 hl (by decide) rfl (fun ls hl => ?_)
      refine lv_ldc2 (v := (20 : Int64)) hx hb hown (hts _ ql_X8_far_176) dX8_far_117 ?_
      refine lv_aload_n hx hb dX8_far_120 rfl (lv_at hl 3 rfl) ?_
      refine va_get (D := (dC, dI)) (ci := 8) (v := .long z_all) (C := RX8) (T := TX8) (N := 22) hx hb hts qi_X8_far_X8 hown hK hP 0 rfl rfl 14 (by decide) (hts _ ql_X8_far_138) (fun _ h9 => h9) rfl dX8_far_121 ?_
      refine lv_lmul hx hb dX8_far_124 ?_
      refine lv_lload hx hb dX8_far_125 (lv_at hl 0 rfl) ?_
      refine lv_lmul hx hb dX8_far_127 ?_
      refine lv_aload_n hx hb dX8_far_128 rfl (lv_at hl 3 rfl) ?_
      refine va_get (D := (dC, dI)) (ci := 8) (v := .ref a_this_laid) (C := RX8) (T := TX8) (N := 22) hx hb hts qi_X8_far_X8 hown hK hP 0 rfl rfl 0 (by decide) (hts _ ql_X8_far_7) (fun _ h9 => h9) rfl dX8_far_129 ?_
      refine lv_iconst (v := (2 : Int32)) hx hb dX8_far_132 (by decide) ?_
      obtain ⟨h10, hV⟩ := hV
      refine va_iald hx hb hK hP 1 0 rfl rfl h10 dX8_far_133 ?_
      refine lv_i2l hx hb dX8_far_134 rfl ?_
      refine lv_ldc2 (v := (10 : Int64)) hx hb hown (hts _ ql_X8_far_167) dX8_far_135 ?_
      refine lv_aload_n hx hb dX8_far_138 rfl (lv_at hl 3 rfl) ?_
      refine va_get (D := (dC, dI)) (ci := 8) (v := .long z_all) (C := RX8) (T := TX8) (N := 22) hx hb hts qi_X8_far_X8 hown hK hP 0 rfl rfl 14 (by decide) (hts _ ql_X8_far_138) (fun _ h9 => h9) rfl dX8_far_139 ?_
      refine lv_aload_n hx hb dX8_far_142 rfl (lv_at hl 3 rfl) ?_
      refine va_get (D := (dC, dI)) (ci := 8) (v := .ref a_this_parts) (C := RX8) (T := TX8) (N := 22) hx hb hts qi_X8_far_X8 hown hK hP 0 rfl rfl 13 (by decide) (hts _ ql_X8_far_34) (fun _ h9 => h9) rfl dX8_far_143 ?_
      refine lv_iconst (v := (0 : Int32)) hx hb dX8_far_146 (by decide) ?_
      obtain ⟨h11, hV⟩ := hV
      refine va_lald hx hb hK hP 5 1 rfl rfl h11 dX8_far_147 ?_
      refine lv_lsub hx hb dX8_far_148 ?_
      refine lv_lmul hx hb dX8_far_149 ?_
      refine lv_aload_n hx hb dX8_far_150 rfl (lv_at hl 3 rfl) ?_
      refine va_get (D := (dC, dI)) (ci := 8) (v := .ref a_this_laid) (C := RX8) (T := TX8) (N := 22) hx hb hts qi_X8_far_X8 hown hK hP 0 rfl rfl 0 (by decide) (hts _ ql_X8_far_7) (fun _ h9 => h9) rfl dX8_far_151 ?_
      refine lv_iconst (v := (4 : Int32)) hx hb dX8_far_154 (by decide) ?_
      obtain ⟨h12, hV⟩ := hV
      refine va_iald hx hb hK hP 1 0 rfl rfl h12 dX8_far_155 ?_
      refine lv_i2l hx hb dX8_far_156 rfl ?_
      refine lv_lload hx hb dX8_far_157 (lv_at hl 1 rfl) ?_
      refine lv_lmul hx hb dX8_far_159 ?_
      refine lv_lsub hx hb dX8_far_160 ?_
      refine lv_lmul hx hb dX8_far_161 ?_
      refine lv_ladd hx hb dX8_far_162 ?_
      refine lv_lstore (lv' := [(11, .long ((((20 : Int64) * z_all) * (x7 + (r9.toInt64))) + (((z_laid (2 : Int32).toNatClampNeg).toInt64) * (((10 : Int64) * (z_all - (z_parts (0 : Int32).toNatClampNeg))) - (((z_laid (4 : Int32).toNatClampNeg).toInt64) * (x5 + (z_parts ((z_walked + (1 : Int32)) - x9).toNatClampNeg))))))), (7, .long (x7 + (r9.toInt64))), (5, .long (x5 + (z_parts ((z_walked + (1 : Int32)) - x9).toNatClampNeg))), (10, .int ((z_walked + (1 : Int32)) - x9)), (0, .ref a_this), (1, .int x1), (2, .int x2), (3, .long x3), (9, .int x9)]) hx hb dX8_far_163 hl (by decide) rfl (fun ls hl => ?_)
      refine lv_lload hx hb dX8_far_165 (lv_at hl 0 rfl) ?_
      refine lv_lload_n hx hb dX8_far_167 rfl (lv_at hl 7 rfl) ?_
      refine W.lcmp hx hb dX8_far_168 ?_
      refine lv_if_ge (tgt := 177) hx hb dX8_far_169 (by decide) (fun c13 => ?_) (fun c13 => ?_)
      · have c13 := (lg_cmp_ge _ _).mp c13
        have hV := hV.1 c13
        refine lv_iload_n hx hb dX8_far_177 rfl (lv_at hl 6 rfl) ?_
        exact qt_X8_far_J178 C0 hK hN hA z_letters z_at z_walked z_counts z_undos z_all z_planned z_scale z_least z_kept z_laid z_where z_sorts z_tells z_parts x2 x1 x3 (x5 + (z_parts ((z_walked + (1 : Int32)) - x9).toNatClampNeg)) (x7 + (r9.toInt64)) x9 ((((20 : Int64) * z_all) * (x7 + (r9.toInt64))) + (((z_laid (2 : Int32).toNatClampNeg).toInt64) * (((10 : Int64) * (z_all - (z_parts (0 : Int32).toNatClampNeg))) - (((z_laid (4 : Int32).toNatClampNeg).toInt64) * (x5 + (z_parts ((z_walked + (1 : Int32)) - x9).toNatClampNeg)))))) _ _ _ ih hE H locs ls hV hP hD hS (lv_sub hl [4, 5, 7, 2, 1, 8, 0] rfl)
      · have c13 := fun h => c13 ((lg_cmp_ge _ _).mpr h)
        have hV := hV.2 c13
        refine lv_iload hx hb dX8_far_172 (lv_at hl 8 rfl) ?_
        refine lv_goto (tgt := 178) hx hb dX8_far_174 (by decide) ?_
        exact qt_X8_far_J178 C0 hK hN hA z_letters z_at z_walked z_counts z_undos z_all z_planned z_scale z_least z_kept z_laid z_where z_sorts z_tells z_parts x9 x1 x3 (x5 + (z_parts ((z_walked + (1 : Int32)) - x9).toNatClampNeg)) (x7 + (r9.toInt64)) x9 ((((20 : Int64) * z_all) * (x7 + (r9.toInt64))) + (((z_laid (2 : Int32).toNatClampNeg).toInt64) * (((10 : Int64) * (z_all - (z_parts (0 : Int32).toNatClampNeg))) - (((z_laid (4 : Int32).toNatClampNeg).toInt64) * (x5 + (z_parts ((z_walked + (1 : Int32)) - x9).toNatClampNeg)))))) _ _ _ ih hE H locs ls hV hP hD hS (lv_sub hl [4, 5, 7, 2, 1, 8, 0] rfl)
def qv_X8_far (x1 : Int32) (z_walked : Int32) (z_counts : Int32) (z_all : Int64) (z_laid : Nat → Int32) (z_where : Nat → Int32) (z_sorts : Nat → Int32) (z_tells : Nat → Int32) (z_parts : Nat → Int64) (Post : Int64 → (Int64) → (Nat → Int64) → Prop) : Prop := qv_X8_in (x1.toInt64) (0 : Int64) (2 : Int64) (fun r1 => (r1 = (0 : Int32) → Post (-1 : Int64) z_all z_parts) ∧ (¬ r1 = (0 : Int32) → qv_X8_goes z_counts z_walked z_all z_laid z_where z_sorts z_tells z_parts (fun r3 z_all_3 z_parts_3 => (z_all_3 = (0 : Int64) → Post (-4 : Int64) z_all_3 z_parts_3) ∧ (¬ z_all_3 = (0 : Int64) → vp_in (2 : Int32) 73 ∧ (vp_in (0 : Int32) 9 ∧ (∃ n15, qv_X8_far_L73 x1 z_walked z_counts z_all_3 z_laid z_where z_sorts z_tells z_parts_3 Post (fun x2_15 x3_15 => (x1 = (0 : Int32) → Post (x2_15.toInt64) z_all_3 z_parts_3) ∧ (¬ x1 = (0 : Int32) → qv_X8_part x3_15 ((10 : Int64) * z_all_3) (x1 - (1 : Int32)) (fun r17 => Post r17 z_all_3 z_parts_3))) n15 (0 : Int32) (((10 : Int64) * ((z_laid (2 : Int32).toNatClampNeg).toInt64)) * (z_all_3 - (z_parts_3 (0 : Int32).toNatClampNeg))) (0 : Int64) (0 : Int64) (1 : Int32)))))))
set_option maxHeartbeats 4000000 in
set_option maxRecDepth 100000 in
theorem qm_X8_far (l : Launch) (dC : Nat → ClassId) (dI : Nat → Nat → Nat) (cI cJ cC cG cW : ClassId) (a_this a_this_laid a_this_text a_this_read a_this_numbers a_this_where a_this_sorts a_this_tells a_this_undone a_this_parts a_this_goesWith a_this_with a_this_keeps : Nat) (z_letters : Int32) (z_at : Int32) (z_walked : Int32) (z_counts : Int32) (z_undos : Int32) (z_all : Int64) (z_planned : Int64) (z_scale : Int64) (z_least : Int32) (z_kept : Int32) (z_laid : Nat → Int32) (z_where : Nat → Int32) (z_sorts : Nat → Int32) (z_tells : Nat → Int32) (z_parts : Nat → Int64) (sz : Nat) (x1 : Int32) (Post : Int64 → (Int64) → (Nat → Int64) → Prop) (hV : qv_X8_far x1 z_walked z_counts z_all z_laid z_where z_sorts z_tells z_parts Post) : Met l yX8_far wsX8_far ({ frames := 4, cells := 0, slots := 0, locals := 104 } : Room) (va_Pc [.ref a_this, .int x1] (prW (dC, dI) (qw_X8_far cI cJ cC cG cW a_this a_this_laid a_this_text a_this_read a_this_numbers a_this_where a_this_sorts a_this_tells a_this_undone a_this_parts a_this_goesWith a_this_with a_this_keeps z_letters z_at z_walked z_counts z_undos z_all z_planned z_scale z_least z_kept z_laid z_where z_sorts z_tells z_parts) (tyL cI cJ cC cG cW) sz)) (va_Ql (fun (r : Int64) (u : (Int64) × (Nat → Int64)) => Post r u.1 u.2) (fun u t => poW (dC, dI) (tyL cI cJ cC cG cW) (va_A (qw_X8_far cI cJ cC cG cW a_this a_this_laid a_this_text a_this_read a_this_numbers a_this_where a_this_sorts a_this_tells a_this_undone a_this_parts a_this_goesWith a_this_with a_this_keeps z_letters z_at z_walked z_counts z_undos z_all z_planned z_scale z_least z_kept z_laid z_where z_sorts z_tells z_parts) sz) (qw_X8_far cI cJ cC cG cW a_this a_this_laid a_this_text a_this_read a_this_numbers a_this_where a_this_sorts a_this_tells a_this_undone a_this_parts a_this_goesWith a_this_with a_this_keeps z_letters z_at z_walked z_counts z_undos u.1 z_planned z_scale z_least z_kept z_laid z_where z_sorts z_tells u.2) t) (va_A (qw_X8_far cI cJ cC cG cW a_this a_this_laid a_this_text a_this_read a_this_numbers a_this_where a_this_sorts a_this_tells a_this_undone a_this_parts a_this_goesWith a_this_with a_this_keeps z_letters z_at z_walked z_counts z_undos z_all z_planned z_scale z_least z_kept z_laid z_where z_sorts z_tells z_parts) sz)) 0 0 (va_A (qw_X8_far cI cJ cC cG cW a_this a_this_laid a_this_text a_this_read a_this_numbers a_this_where a_this_sorts a_this_tells a_this_undone a_this_parts a_this_goesWith a_this_with a_this_keeps z_letters z_at z_walked z_counts z_undos z_all z_planned z_scale z_least z_kept z_laid z_where z_sorts z_tells z_parts) sz) := by
  refine Met.ofM (Qc := fun A => va_Ql (fun (r : Int64) (u : (Int64) × (Nat → Int64)) => Post r u.1 u.2) (fun u t => poW (dC, dI) (tyL cI cJ cC cG cW) A (qw_X8_far cI cJ cC cG cW a_this a_this_laid a_this_text a_this_read a_this_numbers a_this_where a_this_sorts a_this_tells a_this_undone a_this_parts a_this_goesWith a_this_with a_this_keeps z_letters z_at z_walked z_counts z_undos u.1 z_planned z_scale z_least z_kept z_laid z_where z_sorts z_tells u.2) t) A) (nm := "far") (ds := "(I)J") (own := RX8) (maxL := 13) (cc := cX8_far) (ret := (some .long)) (by decide) rfl rfl (Nat.le_of_ble_eq_true rfl) (fun p e s m below meth c A C0 hin hK hN hA hP hD hS ls hl => ?_)
  obtain ⟨hx, hb, hr, hml, hown, hts, hlocks⟩ := id C0
  have hl : lv_has ls 13 [(0, .ref a_this), (1, .int x1)] := hl
  obtain ⟨H, hH⟩ : ∃ h : Heap, h = s.heap := ⟨_, rfl⟩
  obtain ⟨locs, hLc⟩ : ∃ L : List Loc, L = [] := ⟨_, rfl⟩
  have hS : va_S A s.heap H locs := by rw [hH, hLc]; exact hS
  rw [← hH] at hP
  rw [← hLc, ← hH]
  clear hH hLc
  refine lv_iload_n hx hb dX8_far_0 rfl (lv_at hl 1 rfl) ?_
  refine lv_i2l hx hb dX8_far_1 rfl ?_
  refine lv_lconst (v := (0 : Int64)) hx hb dX8_far_2 (by decide) ?_
  refine lv_ldc2 (v := (2 : Int64)) hx hb hown (hts _ ql_X8_far_82) dX8_far_3 ?_
  refine vp_callSi (va_Run.run (va_runS (As := [.long (x1.toInt64), .long (0 : Int64), .long (2 : Int64)]) (rest := []) ⟨hx, hb, hml, hown, hts⟩ (qm_X8_in l dC dI cI cJ cC cG cW (x1.toInt64) (0 : Int64) (2 : Int64) _ hV) (va_cwS 3 hts gX8_far_X8_in rfl rfl rfl (by decide +kernel) ⟨Nat.le_of_ble_eq_true rfl, Nat.le_of_ble_eq_true rfl⟩) (preRS hK hN (show va_P (dC, dI) vwCl (qw_X8_in cI cJ cC cG cW) H from fun k q h => by simp at h)) rfl rfl hl.1 rfl (lv_room (Nat.le_of_ble_eq_true rfl)) dX8_far_6 ⟨Nat.le_of_ble_eq_true rfl, Nat.le_of_ble_eq_true rfl⟩)) (fun r1 hV => ?_)
  refine lv_if_ne (tgt := 16) hx hb dX8_far_9 (by decide) (fun c2 => ?_) (fun c2 => ?_)
  · have hV := hV.2 c2
    refine lv_aload_n hx hb dX8_far_16 rfl (lv_at hl 0 rfl) ?_
    refine lv_aload_n hx hb dX8_far_17 rfl (lv_at hl 0 rfl) ?_
    refine va_get (D := (dC, dI)) (ci := 8) (v := .int z_counts) (C := RX8) (T := TX8) (N := 22) hx hb hts qi_X8_far_X8 hown hK hP 0 rfl rfl 7 (by decide) (hts _ ql_X8_far_114) (fun _ h9 => h9) rfl dX8_far_18 ?_
    refine kW_i (wc := (qw_X8_goes cI cJ cC cG cW a_this a_this_laid a_this_text a_this_read a_this_numbers a_this_where a_this_sorts a_this_tells a_this_undone a_this_parts a_this_goesWith a_this_with a_this_keeps z_letters z_at z_walked z_counts z_undos z_all z_planned z_scale z_least z_kept z_laid z_where z_sorts z_tells z_parts)) (wr := List.filterMap (fun (i : Nat) => (qw_X8_far cI cJ cC cG cW a_this a_this_laid a_this_text a_this_read a_this_numbers a_this_where a_this_sorts a_this_tells a_this_undone a_this_parts a_this_goesWith a_this_with a_this_keeps z_letters z_at z_walked z_counts z_undos z_all z_planned z_scale z_least z_kept z_laid z_where z_sorts z_tells z_parts)[i]?) []) (w1 := fun (u : (Int64) × (Nat → Int64)) => (qw_X8_goes cI cJ cC cG cW a_this a_this_laid a_this_text a_this_read a_this_numbers a_this_where a_this_sorts a_this_tells a_this_undone a_this_parts a_this_goesWith a_this_with a_this_keeps z_letters z_at z_walked z_counts z_undos u.1 z_planned z_scale z_least z_kept z_laid z_where z_sorts z_tells u.2)) (va_runV (As := [.int z_counts]) (rest := []) ⟨hx, hb, hml, hown, hts⟩ (qm_X8_goes l dC dI cI cJ cC cG cW a_this a_this_laid a_this_text a_this_read a_this_numbers a_this_where a_this_sorts a_this_tells a_this_undone a_this_parts a_this_goesWith a_this_with a_this_keeps z_letters z_at z_walked z_counts z_undos z_all z_planned z_scale z_least z_kept z_laid z_where z_sorts z_tells z_parts H.size z_counts _ hV) (cwV 1 hts gX8_far_X8_goes rfl rfl rfl (by decide +kernel) ⟨Nat.le_of_ble_eq_true rfl, Nat.le_of_ble_eq_true rfl⟩) (preWV hK hN (show va_P (dC, dI) vwCl (qw_X8_goes cI cJ cC cG cW a_this a_this_laid a_this_text a_this_read a_this_numbers a_this_where a_this_sorts a_this_tells a_this_undone a_this_parts a_this_goesWith a_this_with a_this_keeps z_letters z_at z_walked z_counts z_undos z_all z_planned z_scale z_least z_kept z_laid z_where z_sorts z_tells z_parts) H from hP) (hD.sub (ws' := (qw_X8_goes cI cJ cC cG cW a_this a_this_laid a_this_text a_this_read a_this_numbers a_this_where a_this_sorts a_this_tells a_this_undone a_this_parts a_this_goesWith a_this_with a_this_keeps z_letters z_at z_walked z_counts z_undos z_all z_planned z_scale z_least z_kept z_laid z_where z_sorts z_tells z_parts)) [0, 1, 2, 3, 4, 5] (by decide) rfl) rfl rfl) rfl rfl hl.1 rfl (lv_room (Nat.le_of_ble_eq_true rfl)) dX8_far_21 ⟨Nat.le_of_ble_eq_true rfl, Nat.le_of_ble_eq_true rfl⟩) hP hD hS hA [0, 1, 2, 3, 4, 5] [] rfl rfl (by decide) (by decide) (fun r3 u H locs hV hP hD hS => ?_)
    obtain ⟨z_all_3, z_parts_3⟩ := u
    try dsimp only at hV
    have hP := hP.sub (ws' := (qw_X8_far cI cJ cC cG cW a_this a_this_laid a_this_text a_this_read a_this_numbers a_this_where a_this_sorts a_this_tells a_this_undone a_this_parts a_this_goesWith a_this_with a_this_keeps z_letters z_at z_walked z_counts z_undos z_all_3 z_planned z_scale z_least z_kept z_laid z_where z_sorts z_tells z_parts_3)) [0, 1, 2, 3, 4, 5] rfl
    have hD := hD.sub (ws' := (qw_X8_far cI cJ cC cG cW a_this a_this_laid a_this_text a_this_read a_this_numbers a_this_where a_this_sorts a_this_tells a_this_undone a_this_parts a_this_goesWith a_this_with a_this_keeps z_letters z_at z_walked z_counts z_undos z_all_3 z_planned z_scale z_least z_kept z_laid z_where z_sorts z_tells z_parts_3)) [0, 1, 2, 3, 4, 5] (by decide) rfl
    refine lv_pop hx hb dX8_far_24 rfl ?_
    refine lv_aload_n hx hb dX8_far_25 rfl (lv_at hl 0 rfl) ?_
    refine va_get (D := (dC, dI)) (ci := 8) (v := .long z_all_3) (C := RX8) (T := TX8) (N := 22) hx hb hts qi_X8_far_X8 hown hK hP 0 rfl rfl 14 (by decide) (hts _ ql_X8_far_138) (fun _ h9 => h9) rfl dX8_far_26 ?_
    refine lv_lconst (v := (0 : Int64)) hx hb dX8_far_29 (by decide) ?_
    refine W.lcmp hx hb dX8_far_30 ?_
    refine lv_if_ne (tgt := 38) hx hb dX8_far_31 (by decide) (fun c4 => ?_) (fun c4 => ?_)
    · have c4 := fun h => c4 ((lg_cmp_eq _ _).mpr h)
      have hV := hV.2 c4
      refine lv_iconst (v := (0 : Int32)) hx hb dX8_far_38 (by decide) ?_
      refine lv_istore_n (lv' := [(2, .int (0 : Int32)), (0, .ref a_this), (1, .int x1)]) hx hb dX8_far_39 rfl hl (by decide) rfl (fun ls hl => ?_)
      refine lv_ldc2 (v := (10 : Int64)) hx hb hown (hts _ ql_X8_far_167) dX8_far_40 ?_
      refine lv_aload_n hx hb dX8_far_43 rfl (lv_at hl 1 rfl) ?_
      refine va_get (D := (dC, dI)) (ci := 8) (v := .ref a_this_laid) (C := RX8) (T := TX8) (N := 22) hx hb hts qi_X8_far_X8 hown hK hP 0 rfl rfl 0 (by decide) (hts _ ql_X8_far_7) (fun _ h9 => h9) rfl dX8_far_44 ?_
      refine lv_iconst (v := (2 : Int32)) hx hb dX8_far_47 (by decide) ?_
      obtain ⟨h5, hV⟩ := hV
      refine va_iald hx hb hK hP 1 0 rfl rfl h5 dX8_far_48 ?_
      refine lv_i2l hx hb dX8_far_49 rfl ?_
      refine lv_lmul hx hb dX8_far_50 ?_
      refine lv_aload_n hx hb dX8_far_51 rfl (lv_at hl 1 rfl) ?_
      refine va_get (D := (dC, dI)) (ci := 8) (v := .long z_all_3) (C := RX8) (T := TX8) (N := 22) hx hb hts qi_X8_far_X8 hown hK hP 0 rfl rfl 14 (by decide) (hts _ ql_X8_far_138) (fun _ h9 => h9) rfl dX8_far_52 ?_
      refine lv_aload_n hx hb dX8_far_55 rfl (lv_at hl 1 rfl) ?_
      refine va_get (D := (dC, dI)) (ci := 8) (v := .ref a_this_parts) (C := RX8) (T := TX8) (N := 22) hx hb hts qi_X8_far_X8 hown hK hP 0 rfl rfl 13 (by decide) (hts _ ql_X8_far_34) (fun _ h9 => h9) rfl dX8_far_56 ?_
      refine lv_iconst (v := (0 : Int32)) hx hb dX8_far_59 (by decide) ?_
      obtain ⟨h6, hV⟩ := hV
      refine va_lald hx hb hK hP 5 1 rfl rfl h6 dX8_far_60 ?_
      refine lv_lsub hx hb dX8_far_61 ?_
      refine lv_lmul hx hb dX8_far_62 ?_
      refine lv_lstore_n (lv' := [(3, .long (((10 : Int64) * ((z_laid (2 : Int32).toNatClampNeg).toInt64)) * (z_all_3 - (z_parts_3 (0 : Int32).toNatClampNeg)))), (2, .int (0 : Int32)), (0, .ref a_this), (1, .int x1)]) hx hb dX8_far_63 rfl hl (by decide) rfl (fun ls hl => ?_)
      refine lv_lconst (v := (0 : Int64)) hx hb dX8_far_64 (by decide) ?_
      refine lv_lstore (lv' := [(5, .long (0 : Int64)), (3, .long (((10 : Int64) * ((z_laid (2 : Int32).toNatClampNeg).toInt64)) * (z_all_3 - (z_parts_3 (0 : Int32).toNatClampNeg)))), (2, .int (0 : Int32)), (0, .ref a_this), (1, .int x1)]) hx hb dX8_far_65 hl (by decide) rfl (fun ls hl => ?_)
      refine lv_lconst (v := (0 : Int64)) hx hb dX8_far_67 (by decide) ?_
      refine lv_lstore (lv' := [(7, .long (0 : Int64)), (5, .long (0 : Int64)), (3, .long (((10 : Int64) * ((z_laid (2 : Int32).toNatClampNeg).toInt64)) * (z_all_3 - (z_parts_3 (0 : Int32).toNatClampNeg)))), (2, .int (0 : Int32)), (0, .ref a_this), (1, .int x1)]) hx hb dX8_far_68 hl (by decide) rfl (fun ls hl => ?_)
      refine lv_iconst (v := (1 : Int32)) hx hb dX8_far_70 (by decide) ?_
      refine lv_istore (lv' := [(9, .int (1 : Int32)), (7, .long (0 : Int64)), (5, .long (0 : Int64)), (3, .long (((10 : Int64) * ((z_laid (2 : Int32).toNatClampNeg).toInt64)) * (z_all_3 - (z_parts_3 (0 : Int32).toNatClampNeg)))), (2, .int (0 : Int32)), (0, .ref a_this), (1, .int x1)]) hx hb dX8_far_71 hl (by decide) rfl (fun ls hl => ?_)
      obtain ⟨n15, hV⟩ := hV
      refine qt_X8_far_L73 C0 hK hN hA z_letters z_at z_walked z_counts z_undos z_all_3 z_planned z_scale z_least z_kept z_laid z_where z_sorts z_tells z_parts_3 x1 _ _ (fun x2_15 x3_15 H locs ls hV hP hD hS hl => ?_) n15 (0 : Int32) (((10 : Int64) * ((z_laid (2 : Int32).toNatClampNeg).toInt64)) * (z_all_3 - (z_parts_3 (0 : Int32).toNatClampNeg))) (0 : Int64) (0 : Int64) (1 : Int32) H locs ls hV hP hD hS (lv_sub hl [5, 6, 4, 3, 2, 1, 0] rfl)
      refine lv_iload_n hx hb dX8_far_199 rfl (lv_at hl 1 rfl) ?_
      refine lv_if_ne (tgt := 208) hx hb dX8_far_200 (by decide) (fun c16 => ?_) (fun c16 => ?_)
      · have hV := hV.2 c16
        refine lv_lload_n hx hb dX8_far_208 rfl (lv_at hl 3 rfl) ?_
        refine lv_ldc2 (v := (10 : Int64)) hx hb hown (hts _ ql_X8_far_167) dX8_far_209 ?_
        refine lv_aload_n hx hb dX8_far_212 rfl (lv_at hl 0 rfl) ?_
        refine va_get (D := (dC, dI)) (ci := 8) (v := .long z_all_3) (C := RX8) (T := TX8) (N := 22) hx hb hts qi_X8_far_X8 hown hK hP 0 rfl rfl 14 (by decide) (hts _ ql_X8_far_138) (fun _ h9 => h9) rfl dX8_far_213 ?_
        refine lv_lmul hx hb dX8_far_216 ?_
        refine lv_iload_n hx hb dX8_far_217 rfl (lv_at hl 1 rfl) ?_
        refine lv_iconst (v := (1 : Int32)) hx hb dX8_far_218 (by decide) ?_
        refine lv_isub hx hb dX8_far_219 ?_
        refine vp_callSl (va_Run.run (va_runS (As := [.long x3_15, .long ((10 : Int64) * z_all_3), .int (x1 - (1 : Int32))]) (rest := []) ⟨hx, hb, hml, hown, hts⟩ (qm_X8_part l dC dI cI cJ cC cG cW x3_15 ((10 : Int64) * z_all_3) (x1 - (1 : Int32)) _ hV) (va_cwS 3 hts gX8_far_X8_part rfl rfl rfl (by decide +kernel) ⟨Nat.le_of_ble_eq_true rfl, Nat.le_of_ble_eq_true rfl⟩) (preRS hK hN (show va_P (dC, dI) vwCl (qw_X8_part cI cJ cC cG cW) H from fun k q h => by simp at h)) rfl rfl hl.1 rfl (lv_room (Nat.le_of_ble_eq_true rfl)) dX8_far_220 ⟨Nat.le_of_ble_eq_true rfl, Nat.le_of_ble_eq_true rfl⟩)) (fun r17 hV => ?_)
        exact W.lret hx hb hr (fun t ht hW => ⟨⟨_, (z_all_3, z_parts_3), rfl, hV, ⟨by rw [ht]; exact hP, va_K.moved hW.alike hK, hD⟩⟩, hS.F ht⟩) hS.2.2 dX8_far_223 hlocks
      · have hV := hV.1 c16
        refine lv_iload_n hx hb dX8_far_203 rfl (lv_at hl 2 rfl) ?_
        refine lv_i2l hx hb dX8_far_204 rfl ?_
        refine lv_goto (tgt := 223) hx hb dX8_far_205 (by decide) ?_
        exact W.lret hx hb hr (fun t ht hW => ⟨⟨_, (z_all_3, z_parts_3), rfl, hV, ⟨by rw [ht]; exact hP, va_K.moved hW.alike hK, hD⟩⟩, hS.F ht⟩) hS.2.2 dX8_far_223 hlocks
    · have c4 := (lg_cmp_eq _ _).mp c4
      have hV := hV.1 c4
      refine lv_ldc2 (v := (-4 : Int64)) hx hb hown (hts _ ql_X8_far_161) dX8_far_34 ?_
      exact W.lret hx hb hr (fun t ht hW => ⟨⟨_, (z_all_3, z_parts_3), rfl, hV, ⟨by rw [ht]; exact hP, va_K.moved hW.alike hK, hD⟩⟩, hS.F ht⟩) hS.2.2 dX8_far_37 hlocks
  · have hV := hV.1 c2
    refine lv_ldc2 (v := (-1 : Int64)) hx hb hown (hts _ ql_X8_far_155) dX8_far_12 ?_
    exact W.lret hx hb hr (fun t ht hW => ⟨⟨_, (z_all, z_parts), rfl, hV, ⟨by rw [ht]; exact hP, va_K.moved hW.alike hK, hD⟩⟩, hS.F ht⟩) hS.2.2 dX8_far_15 hlocks

/-! StileCountsModel.plans(I)V -/
abbrev qw_X8_plans (cI cJ cC cG cW : ClassId) (a_this a_this_laid a_this_text a_this_read a_this_numbers a_this_where a_this_sorts a_this_tells a_this_undone a_this_parts a_this_goesWith a_this_with a_this_keeps : Nat) (z_letters : Int32) (z_at : Int32) (z_walked : Int32) (z_counts : Int32) (z_undos : Int32) (z_all : Int64) (z_planned : Int64) (z_scale : Int64) (z_least : Int32) (z_kept : Int32) (z_laid : Nat → Int32) (z_parts : Nat → Int64) : va_W := [(a_this, .inr (8, [.ref a_this_laid, .ref a_this_text, .int z_letters, .ref a_this_read, .int z_at, .ref a_this_numbers, .int z_walked, .int z_counts, .ref a_this_where, .ref a_this_sorts, .ref a_this_tells, .int z_undos, .ref a_this_undone, .ref a_this_parts, .long z_all, .long z_planned, .long z_scale, .ref a_this_goesWith, .int z_least, .ref a_this_with, .int z_kept, .ref a_this_keeps])), (a_this_laid, .inl (cI, 73, .inl z_laid)), (a_this_parts, .inl (cJ, 9, .inr (.inl z_parts)))]
theorem qi_X8_plans_X8 : ∀ w ∈ wsX80, w ∈ wsX8_plans := by decide +kernel
theorem ql_X8_plans_34 : (.fieldLink RX8 34 "StileCountsModel" "parts" "[J" : Cond) ∈ wsX8_plans := by decide +kernel
theorem ql_X8_plans_138 : (.fieldLink RX8 138 "StileCountsModel" "all" "J" : Cond) ∈ wsX8_plans := by decide +kernel
theorem ql_X8_plans_178 : (.fieldLink RX8 178 "StileCountsModel" "planned" "J" : Cond) ∈ wsX8_plans := by decide +kernel
theorem ql_X8_plans_181 : (.fieldLink RX8 181 "StileCountsModel" "scale" "J" : Cond) ∈ wsX8_plans := by decide +kernel
theorem ql_X8_plans_111 : (.fieldLink RX8 111 "StileCountsModel" "walked" "I" : Cond) ∈ wsX8_plans := by decide +kernel
theorem ql_X8_plans_7 : (.fieldLink RX8 7 "StileCountsModel" "laid" "[I" : Cond) ∈ wsX8_plans := by decide +kernel
theorem ql_X8_plans_167 : (.constantLong RX8 167 (10 : Int64) : Cond) ∈ wsX8_plans := by decide +kernel
def qv_X8_plans_L41 (x1 : Int32) (z_walked : Int32) (z_all : Int64) (z_laid : Nat → Int32) (z_parts : Nat → Int64) (Post : (Int64) → (Int64) → Prop) (E : (Int64) → (Int64) → Prop) : Nat → (Int64) → (Int64) → (Int32) → (Int64) → (Int64) → Prop
  | 0, _, _, _, _, _ => False
  | n + 1, x2, x4, x6, z_planned, z_scale => vp_in (0 : Int32) 73 ∧ (((z_laid (0 : Int32).toNatClampNeg) < x6 → E z_planned z_scale) ∧ (¬ (z_laid (0 : Int32).toNatClampNeg) < x6 → vp_in ((3 : Int32) + ((3 : Int32) * x6)) 73 ∧ (vp_in ((4 : Int32) + ((3 : Int32) * x6)) 73 ∧ (qv_X8_m x6 z_laid (fun r7 => (((x1 >>> ((x6 - (1 : Int32)) &&& 31)) &&& (1 : Int32)) = (1 : Int32) → qv_X8_plans_L41 x1 z_walked z_all z_laid z_parts Post E n (((x2 * (((10 : Int32) - (z_laid ((3 : Int32) + ((3 : Int32) * x6)).toNatClampNeg)).toInt64)) + (x4 * ((z_laid ((4 : Int32) + ((3 : Int32) * x6)).toNatClampNeg).toInt64))) + ((x2 * ((z_laid ((3 : Int32) + ((3 : Int32) * x6)).toNatClampNeg).toInt64)) + (x4 * (((10 : Int32) - (z_laid ((4 : Int32) + ((3 : Int32) * x6)).toNatClampNeg)).toInt64)))) (0 : Int64) (x6 + (1 : Int32)) (((10 : Int64) * z_planned) + ((r7.toInt64) * ((x2 * ((z_laid ((3 : Int32) + ((3 : Int32) * x6)).toNatClampNeg).toInt64)) + (x4 * (((10 : Int32) - (z_laid ((4 : Int32) + ((3 : Int32) * x6)).toNatClampNeg)).toInt64))))) (z_scale * (10 : Int64))) ∧ (¬ ((x1 >>> ((x6 - (1 : Int32)) &&& 31)) &&& (1 : Int32)) = (1 : Int32) → qv_X8_plans_L41 x1 z_walked z_all z_laid z_parts Post E n ((x2 * (((10 : Int32) - (z_laid ((3 : Int32) + ((3 : Int32) * x6)).toNatClampNeg)).toInt64)) + (x4 * ((z_laid ((4 : Int32) + ((3 : Int32) * x6)).toNatClampNeg).toInt64))) ((x2 * ((z_laid ((3 : Int32) + ((3 : Int32) * x6)).toNatClampNeg).toInt64)) + (x4 * (((10 : Int32) - (z_laid ((4 : Int32) + ((3 : Int32) * x6)).toNatClampNeg)).toInt64))) (x6 + (1 : Int32)) (((10 : Int64) * z_planned) + ((r7.toInt64) * ((x2 * ((z_laid ((3 : Int32) + ((3 : Int32) * x6)).toNatClampNeg).toInt64)) + (x4 * (((10 : Int32) - (z_laid ((4 : Int32) + ((3 : Int32) * x6)).toNatClampNeg)).toInt64))))) (z_scale * (10 : Int64))))))))
set_option maxHeartbeats 4000000 in
set_option maxRecDepth 100000 in
theorem qt_X8_plans_L41 {p : Program} {l : Launch} {e : Env} {s : State} {m : MethodId} {args : Array Value} {below : List Frame} {meth : Method} {c : Code} {dC : Nat → ClassId} {dI : Nat → Nat → Nat} {cI cJ cC cG cW : ClassId} {a_this a_this_laid a_this_text a_this_read a_this_numbers a_this_where a_this_sorts a_this_tells a_this_undone a_this_parts a_this_goesWith a_this_with a_this_keeps : Nat} {A : Nat → Prop} (C0 : MC cX8_plans 11 none RX8 wsX8_plans p s m args meth c) (hK : va_K (dC, dI) vwCl (tyL cI cJ cC cG cW) s) (hN : NW s) (hA : ∀ q, s.heap.size ≤ q → A q) (z_letters : Int32) (z_at : Int32) (z_walked : Int32) (z_counts : Int32) (z_undos : Int32) (z_all : Int64) (z_least : Int32) (z_kept : Int32) (z_laid : Nat → Int32) (z_parts : Nat → Int64) (x1 : Int32) (Post : (Int64) → (Int64) → Prop) (E : (Int64) → (Int64) → Prop) (hE : ∀ (z_planned : Int64) (z_scale : Int64) (H : Heap) (locs : List Loc) (ls : Array Slot), E z_planned z_scale → va_P (dC, dI) vwCl (qw_X8_plans cI cJ cC cG cW a_this a_this_laid a_this_text a_this_read a_this_numbers a_this_where a_this_sorts a_this_tells a_this_undone a_this_parts a_this_goesWith a_this_with a_this_keeps z_letters z_at z_walked z_counts z_undos z_all z_planned z_scale z_least z_kept z_laid z_parts) H → va_D A (qw_X8_plans cI cJ cC cG cW a_this a_this_laid a_this_text a_this_read a_this_numbers a_this_where a_this_sorts a_this_tells a_this_undone a_this_parts a_this_goesWith a_this_with a_this_keeps z_letters z_at z_walked z_counts z_undos z_all z_planned z_scale z_least z_kept z_laid z_parts) → va_S A s.heap H locs → lv_has ls 11 [] → W p l e ({ frames := 1, cells := 0, slots := 0, locals := 21 } : Room) s m args below meth c H locs 0 0 (MQ below (va_Qv (fun (u : (Int64) × (Int64)) => Post u.1 u.2) (fun u t => poW (dC, dI) (tyL cI cJ cC cG cW) A (qw_X8_plans cI cJ cC cG cW a_this a_this_laid a_this_text a_this_read a_this_numbers a_this_where a_this_sorts a_this_tells a_this_undone a_this_parts a_this_goesWith a_this_with a_this_keeps z_letters z_at z_walked z_counts z_undos z_all u.1 u.2 z_least z_kept z_laid z_parts) t) A) args s 0 0 A) (F0 m 176 ls [])) : ∀ (n : Nat) (x2 : Int64) (x4 : Int64) (x6 : Int32) (z_planned : Int64) (z_scale : Int64) (H : Heap) (locs : List Loc) (ls : Array Slot), qv_X8_plans_L41 x1 z_walked z_all z_laid z_parts Post E n x2 x4 x6 z_planned z_scale → va_P (dC, dI) vwCl (qw_X8_plans cI cJ cC cG cW a_this a_this_laid a_this_text a_this_read a_this_numbers a_this_where a_this_sorts a_this_tells a_this_undone a_this_parts a_this_goesWith a_this_with a_this_keeps z_letters z_at z_walked z_counts z_undos z_all z_planned z_scale z_least z_kept z_laid z_parts) H → va_D A (qw_X8_plans cI cJ cC cG cW a_this a_this_laid a_this_text a_this_read a_this_numbers a_this_where a_this_sorts a_this_tells a_this_undone a_this_parts a_this_goesWith a_this_with a_this_keeps z_letters z_at z_walked z_counts z_undos z_all z_planned z_scale z_least z_kept z_laid z_parts) → va_S A s.heap H locs → lv_has ls 11 [(0, .ref a_this), (1, .int x1), (2, .long x2), (4, .long x4), (6, .int x6)] → W p l e ({ frames := 1, cells := 0, slots := 0, locals := 21 } : Room) s m args below meth c H locs 0 0 (MQ below (va_Qv (fun (u : (Int64) × (Int64)) => Post u.1 u.2) (fun u t => poW (dC, dI) (tyL cI cJ cC cG cW) A (qw_X8_plans cI cJ cC cG cW a_this a_this_laid a_this_text a_this_read a_this_numbers a_this_where a_this_sorts a_this_tells a_this_undone a_this_parts a_this_goesWith a_this_with a_this_keeps z_letters z_at z_walked z_counts z_undos z_all u.1 u.2 z_least z_kept z_laid z_parts) t) A) args s 0 0 A) (F0 m 41 ls []) := by
  obtain ⟨hx, hb, hr, hml, hown, hts, hlocks⟩ := id C0
  intro n
  induction n with
  | zero =>
    intro x2 x4 x6 z_planned z_scale H locs ls hV
    exact False.elim hV
  | succ n ih =>
    intro x2 x4 x6 z_planned z_scale H locs ls hV hP hD hS hl
    refine lv_iload hx hb dX8_plans_41 (lv_at hl 4 rfl) ?_
    refine lv_aload_n hx hb dX8_plans_43 rfl (lv_at hl 0 rfl) ?_
    refine va_get (D := (dC, dI)) (ci := 8) (v := .ref a_this_laid) (C := RX8) (T := TX8) (N := 22) hx hb hts qi_X8_plans_X8 hown hK hP 0 rfl rfl 0 (by decide) (hts _ ql_X8_plans_7) (fun _ h9 => h9) rfl dX8_plans_44 ?_
    refine lv_iconst (v := (0 : Int32)) hx hb dX8_plans_47 (by decide) ?_
    obtain ⟨h3, hV⟩ := hV
    refine va_iald hx hb hK hP 1 0 rfl rfl h3 dX8_plans_48 ?_
    refine lv_icmp_gt (tgt := 176) hx hb dX8_plans_49 (by decide) (fun c4 => ?_) (fun c4 => ?_)
    · have hV := hV.1 c4
      exact hE z_planned z_scale H locs ls hV hP hD hS (lv_sub hl [] rfl)
    · have hV := hV.2 c4
      refine lv_aload_n hx hb dX8_plans_52 rfl (lv_at hl 0 rfl) ?_
      refine va_get (D := (dC, dI)) (ci := 8) (v := .ref a_this_laid) (C := RX8) (T := TX8) (N := 22) hx hb hts qi_X8_plans_X8 hown hK hP 0 rfl rfl 0 (by decide) (hts _ ql_X8_plans_7) (fun _ h9 => h9) rfl dX8_plans_53 ?_
      refine lv_iconst (v := (3 : Int32)) hx hb dX8_plans_56 (by decide) ?_
      refine lv_iconst (v := (3 : Int32)) hx hb dX8_plans_57 (by decide) ?_
      refine lv_iload hx hb dX8_plans_58 (lv_at hl 4 rfl) ?_
      refine lv_imul hx hb dX8_plans_60 ?_
      refine lv_iadd hx hb dX8_plans_61 ?_
      obtain ⟨h5, hV⟩ := hV
      refine va_iald hx hb hK hP 1 0 rfl rfl h5 dX8_plans_62 ?_
      refine lv_istore (lv' := [(7, .int (z_laid ((3 : Int32) + ((3 : Int32) * x6)).toNatClampNeg)), (0, .ref a_this), (1, .int x1), (2, .long x2), (4, .long x4), (6, .int x6)]) hx hb dX8_plans_63 hl (by decide) rfl (fun ls hl => ?_)
      refine lv_aload_n hx hb dX8_plans_65 rfl (lv_at hl 1 rfl) ?_
      refine va_get (D := (dC, dI)) (ci := 8) (v := .ref a_this_laid) (C := RX8) (T := TX8) (N := 22) hx hb hts qi_X8_plans_X8 hown hK hP 0 rfl rfl 0 (by decide) (hts _ ql_X8_plans_7) (fun _ h9 => h9) rfl dX8_plans_66 ?_
      refine lv_iconst (v := (4 : Int32)) hx hb dX8_plans_69 (by decide) ?_
      refine lv_iconst (v := (3 : Int32)) hx hb dX8_plans_70 (by decide) ?_
      refine lv_iload hx hb dX8_plans_71 (lv_at hl 5 rfl) ?_
      refine lv_imul hx hb dX8_plans_73 ?_
      refine lv_iadd hx hb dX8_plans_74 ?_
      obtain ⟨h6, hV⟩ := hV
      refine va_iald hx hb hK hP 1 0 rfl rfl h6 dX8_plans_75 ?_
      refine lv_istore (lv' := [(8, .int (z_laid ((4 : Int32) + ((3 : Int32) * x6)).toNatClampNeg)), (7, .int (z_laid ((3 : Int32) + ((3 : Int32) * x6)).toNatClampNeg)), (0, .ref a_this), (1, .int x1), (2, .long x2), (4, .long x4), (6, .int x6)]) hx hb dX8_plans_76 hl (by decide) rfl (fun ls hl => ?_)
      refine lv_lload_n hx hb dX8_plans_78 rfl (lv_at hl 4 rfl) ?_
      refine lv_bipush (v := (10 : Int32)) hx hb dX8_plans_79 (by decide) ?_
      refine lv_iload hx hb dX8_plans_81 (lv_at hl 1 rfl) ?_
      refine lv_isub hx hb dX8_plans_83 ?_
      refine lv_i2l hx hb dX8_plans_84 rfl ?_
      refine lv_lmul hx hb dX8_plans_85 ?_
      refine lv_lload hx hb dX8_plans_86 (lv_at hl 5 rfl) ?_
      refine lv_iload hx hb dX8_plans_88 (lv_at hl 0 rfl) ?_
      refine lv_i2l hx hb dX8_plans_90 rfl ?_
      refine lv_lmul hx hb dX8_plans_91 ?_
      refine lv_ladd hx hb dX8_plans_92 ?_
      refine lv_lstore (lv' := [(9, .long ((x2 * (((10 : Int32) - (z_laid ((3 : Int32) + ((3 : Int32) * x6)).toNatClampNeg)).toInt64)) + (x4 * ((z_laid ((4 : Int32) + ((3 : Int32) * x6)).toNatClampNeg).toInt64)))), (8, .int (z_laid ((4 : Int32) + ((3 : Int32) * x6)).toNatClampNeg)), (7, .int (z_laid ((3 : Int32) + ((3 : Int32) * x6)).toNatClampNeg)), (0, .ref a_this), (1, .int x1), (2, .long x2), (4, .long x4), (6, .int x6)]) hx hb dX8_plans_93 hl (by decide) rfl (fun ls hl => ?_)
      refine lv_lload_n hx hb dX8_plans_95 rfl (lv_at hl 5 rfl) ?_
      refine lv_iload hx hb dX8_plans_96 (lv_at hl 2 rfl) ?_
      refine lv_i2l hx hb dX8_plans_98 rfl ?_
      refine lv_lmul hx hb dX8_plans_99 ?_
      refine lv_lload hx hb dX8_plans_100 (lv_at hl 6 rfl) ?_
      refine lv_bipush (v := (10 : Int32)) hx hb dX8_plans_102 (by decide) ?_
      refine lv_iload hx hb dX8_plans_104 (lv_at hl 1 rfl) ?_
      refine lv_isub hx hb dX8_plans_106 ?_
      refine lv_i2l hx hb dX8_plans_107 rfl ?_
      refine lv_lmul hx hb dX8_plans_108 ?_
      refine lv_ladd hx hb dX8_plans_109 ?_
      refine lv_lstore (lv' := [(4, .long ((x2 * ((z_laid ((3 : Int32) + ((3 : Int32) * x6)).toNatClampNeg).toInt64)) + (x4 * (((10 : Int32) - (z_laid ((4 : Int32) + ((3 : Int32) * x6)).toNatClampNeg)).toInt64)))), (9, .long ((x2 * (((10 : Int32) - (z_laid ((3 : Int32) + ((3 : Int32) * x6)).toNatClampNeg)).toInt64)) + (x4 * ((z_laid ((4 : Int32) + ((3 : Int32) * x6)).toNatClampNeg).toInt64)))), (8, .int (z_laid ((4 : Int32) + ((3 : Int32) * x6)).toNatClampNeg)), (7, .int (z_laid ((3 : Int32) + ((3 : Int32) * x6)).toNatClampNeg)), (0, .ref a_this), (1, .int x1), (2, .long x2), (6, .int x6)]) hx hb dX8_plans_110 hl (by decide) rfl (fun ls hl => ?_)
      refine lv_lload hx hb dX8_plans_112 (lv_at hl 1 rfl) ?_
      refine lv_lstore_n (lv' := [(2, .long ((x2 * (((10 : Int32) - (z_laid ((3 : Int32) + ((3 : Int32) * x6)).toNatClampNeg)).toInt64)) + (x4 * ((z_laid ((4 : Int32) + ((3 : Int32) * x6)).toNatClampNeg).toInt64)))), (4, .long ((x2 * ((z_laid ((3 : Int32) + ((3 : Int32) * x6)).toNatClampNeg).toInt64)) + (x4 * (((10 : Int32) - (z_laid ((4 : Int32) + ((3 : Int32) * x6)).toNatClampNeg)).toInt64)))), (9, .long ((x2 * (((10 : Int32) - (z_laid ((3 : Int32) + ((3 : Int32) * x6)).toNatClampNeg)).toInt64)) + (x4 * ((z_laid ((4 : Int32) + ((3 : Int32) * x6)).toNatClampNeg).toInt64)))), (8, .int (z_laid ((4 : Int32) + ((3 : Int32) * x6)).toNatClampNeg)), (7, .int (z_laid ((3 : Int32) + ((3 : Int32) * x6)).toNatClampNeg)), (0, .ref a_this), (1, .int x1), (6, .int x6)]) hx hb dX8_plans_114 rfl hl (by decide) rfl (fun ls hl => ?_)
      refine lv_aload_n hx hb dX8_plans_115 rfl (lv_at hl 5 rfl) ?_
      refine lv_dup hx hb dX8_plans_116 rfl ?_
      refine va_get (D := (dC, dI)) (ci := 8) (v := .long z_scale) (C := RX8) (T := TX8) (N := 22) hx hb hts qi_X8_plans_X8 hown hK hP 0 rfl rfl 16 (by decide) (hts _ ql_X8_plans_181) (fun _ h9 => h9) rfl dX8_plans_117 ?_
      refine lv_ldc2 (v := (10 : Int64)) hx hb hown (hts _ ql_X8_plans_167) dX8_plans_120 ?_
      refine lv_lmul hx hb dX8_plans_123 ?_
      refine va_put (D := (dC, dI)) (ci := 8) (v := .long (z_scale * (10 : Int64))) (ty := .long) (C := RX8) (T := TX8) (N := 22) hx hb hts qi_X8_plans_X8 tyX8 tyX8_ok nmX8 hown hK hP hD hS 0 rfl rfl 16 (by decide) (hts _ ql_X8_plans_181) (fun _ h9 => h9) rfl (by decide +kernel) rfl rfl (Nat.le_of_ble_eq_true rfl) dX8_plans_124 (fun H locs hP hD hS => ?_)
      have hP : va_P (dC, dI) vwCl (qw_X8_plans cI cJ cC cG cW a_this a_this_laid a_this_text a_this_read a_this_numbers a_this_where a_this_sorts a_this_tells a_this_undone a_this_parts a_this_goesWith a_this_with a_this_keeps z_letters z_at z_walked z_counts z_undos z_all z_planned (z_scale * (10 : Int64)) z_least z_kept z_laid z_parts) H := hP
      have hD : va_D A (qw_X8_plans cI cJ cC cG cW a_this a_this_laid a_this_text a_this_read a_this_numbers a_this_where a_this_sorts a_this_tells a_this_undone a_this_parts a_this_goesWith a_this_with a_this_keeps z_letters z_at z_walked z_counts z_undos z_all z_planned (z_scale * (10 : Int64)) z_least z_kept z_laid z_parts) := hD
      refine lv_aload_n hx hb dX8_plans_127 rfl (lv_at hl 5 rfl) ?_
      refine lv_ldc2 (v := (10 : Int64)) hx hb hown (hts _ ql_X8_plans_167) dX8_plans_128 ?_
      refine lv_aload_n hx hb dX8_plans_131 rfl (lv_at hl 5 rfl) ?_
      refine va_get (D := (dC, dI)) (ci := 8) (v := .long z_planned) (C := RX8) (T := TX8) (N := 22) hx hb hts qi_X8_plans_X8 hown hK hP 0 rfl rfl 15 (by decide) (hts _ ql_X8_plans_178) (fun _ h9 => h9) rfl dX8_plans_132 ?_
      refine lv_lmul hx hb dX8_plans_135 ?_
      refine lv_aload_n hx hb dX8_plans_136 rfl (lv_at hl 5 rfl) ?_
      refine lv_iload hx hb dX8_plans_137 (lv_at hl 7 rfl) ?_
      refine vp_callSi (va_Run.run (va_runV (As := [.int x6]) (rest := [.long ((10 : Int64) * z_planned), .ref a_this]) ⟨hx, hb, hml, hown, hts⟩ (qm_X8_m l dC dI cI cJ cC cG cW a_this a_this_laid a_this_text a_this_read a_this_numbers a_this_where a_this_sorts a_this_tells a_this_undone a_this_parts a_this_goesWith a_this_with a_this_keeps z_letters z_at z_walked z_counts z_undos z_all z_planned (z_scale * (10 : Int64)) z_least z_kept z_laid x6 _ hV) (cwV 1 hts gX8_plans_X8_m rfl rfl rfl (by decide +kernel) ⟨Nat.le_of_ble_eq_true rfl, Nat.le_of_ble_eq_true rfl⟩) (preRV hK hN (hP.sub (ws' := (qw_X8_m cI cJ cC cG cW a_this a_this_laid a_this_text a_this_read a_this_numbers a_this_where a_this_sorts a_this_tells a_this_undone a_this_parts a_this_goesWith a_this_with a_this_keeps z_letters z_at z_walked z_counts z_undos z_all z_planned (z_scale * (10 : Int64)) z_least z_kept z_laid)) [0, 1] rfl) rfl rfl) rfl rfl hl.1 rfl (lv_room (Nat.le_of_ble_eq_true rfl)) dX8_plans_139 ⟨Nat.le_of_ble_eq_true rfl, Nat.le_of_ble_eq_true rfl⟩)) (fun r7 hV => ?_)
      refine lv_i2l hx hb dX8_plans_142 rfl ?_
      refine lv_lload hx hb dX8_plans_143 (lv_at hl 1 rfl) ?_
      refine lv_lmul hx hb dX8_plans_145 ?_
      refine lv_ladd hx hb dX8_plans_146 ?_
      refine va_put (D := (dC, dI)) (ci := 8) (v := .long (((10 : Int64) * z_planned) + ((r7.toInt64) * ((x2 * ((z_laid ((3 : Int32) + ((3 : Int32) * x6)).toNatClampNeg).toInt64)) + (x4 * (((10 : Int32) - (z_laid ((4 : Int32) + ((3 : Int32) * x6)).toNatClampNeg)).toInt64)))))) (ty := .long) (C := RX8) (T := TX8) (N := 22) hx hb hts qi_X8_plans_X8 tyX8 tyX8_ok nmX8 hown hK hP hD hS 0 rfl rfl 15 (by decide) (hts _ ql_X8_plans_178) (fun _ h9 => h9) rfl (by decide +kernel) rfl rfl (Nat.le_of_ble_eq_true rfl) dX8_plans_147 (fun H locs hP hD hS => ?_)
      have hP : va_P (dC, dI) vwCl (qw_X8_plans cI cJ cC cG cW a_this a_this_laid a_this_text a_this_read a_this_numbers a_this_where a_this_sorts a_this_tells a_this_undone a_this_parts a_this_goesWith a_this_with a_this_keeps z_letters z_at z_walked z_counts z_undos z_all (((10 : Int64) * z_planned) + ((r7.toInt64) * ((x2 * ((z_laid ((3 : Int32) + ((3 : Int32) * x6)).toNatClampNeg).toInt64)) + (x4 * (((10 : Int32) - (z_laid ((4 : Int32) + ((3 : Int32) * x6)).toNatClampNeg)).toInt64))))) (z_scale * (10 : Int64)) z_least z_kept z_laid z_parts) H := hP
      have hD : va_D A (qw_X8_plans cI cJ cC cG cW a_this a_this_laid a_this_text a_this_read a_this_numbers a_this_where a_this_sorts a_this_tells a_this_undone a_this_parts a_this_goesWith a_this_with a_this_keeps z_letters z_at z_walked z_counts z_undos z_all (((10 : Int64) * z_planned) + ((r7.toInt64) * ((x2 * ((z_laid ((3 : Int32) + ((3 : Int32) * x6)).toNatClampNeg).toInt64)) + (x4 * (((10 : Int32) - (z_laid ((4 : Int32) + ((3 : Int32) * x6)).toNatClampNeg)).toInt64))))) (z_scale * (10 : Int64)) z_least z_kept z_laid z_parts) := hD
      refine lv_iload_n hx hb dX8_plans_150 rfl (lv_at hl 6 rfl) ?_
      refine lv_iload hx hb dX8_plans_151 (lv_at hl 7 rfl) ?_
      refine lv_iconst (v := (1 : Int32)) hx hb dX8_plans_153 (by decide) ?_
      refine lv_isub hx hb dX8_plans_154 ?_
      refine lv_ishr hx hb dX8_plans_155 ?_
      refine lv_iconst (v := (1 : Int32)) hx hb dX8_plans_156 (by decide) ?_
      refine lv_iand hx hb dX8_plans_157 ?_
      refine lv_iconst (v := (1 : Int32)) hx hb dX8_plans_158 (by decide) ?_
      refine lv_icmp_ne (tgt := 170) hx hb dX8_plans_159 (by decide) (fun c8 => ?_) (fun c8 => ?_)
      · have hV := hV.2 c8
        refine lv_iinc (v := (x6 + (1 : Int32))) (lv' := [(6, .int (x6 + (1 : Int32))), (2, .long ((x2 * (((10 : Int32) - (z_laid ((3 : Int32) + ((3 : Int32) * x6)).toNatClampNeg)).toInt64)) + (x4 * ((z_laid ((4 : Int32) + ((3 : Int32) * x6)).toNatClampNeg).toInt64)))), (4, .long ((x2 * ((z_laid ((3 : Int32) + ((3 : Int32) * x6)).toNatClampNeg).toInt64)) + (x4 * (((10 : Int32) - (z_laid ((4 : Int32) + ((3 : Int32) * x6)).toNatClampNeg)).toInt64)))), (9, .long ((x2 * (((10 : Int32) - (z_laid ((3 : Int32) + ((3 : Int32) * x6)).toNatClampNeg)).toInt64)) + (x4 * ((z_laid ((4 : Int32) + ((3 : Int32) * x6)).toNatClampNeg).toInt64)))), (8, .int (z_laid ((4 : Int32) + ((3 : Int32) * x6)).toNatClampNeg)), (7, .int (z_laid ((3 : Int32) + ((3 : Int32) * x6)).toNatClampNeg)), (0, .ref a_this), (1, .int x1)]) hx hb dX8_plans_170 hl (k := 7) rfl rfl (by decide) rfl (fun ls hl => ?_)
        refine lv_goto (tgt := 41) hx hb dX8_plans_173 (by decide) ?_
        exact ih ((x2 * (((10 : Int32) - (z_laid ((3 : Int32) + ((3 : Int32) * x6)).toNatClampNeg)).toInt64)) + (x4 * ((z_laid ((4 : Int32) + ((3 : Int32) * x6)).toNatClampNeg).toInt64))) ((x2 * ((z_laid ((3 : Int32) + ((3 : Int32) * x6)).toNatClampNeg).toInt64)) + (x4 * (((10 : Int32) - (z_laid ((4 : Int32) + ((3 : Int32) * x6)).toNatClampNeg)).toInt64))) (x6 + (1 : Int32)) (((10 : Int64) * z_planned) + ((r7.toInt64) * ((x2 * ((z_laid ((3 : Int32) + ((3 : Int32) * x6)).toNatClampNeg).toInt64)) + (x4 * (((10 : Int32) - (z_laid ((4 : Int32) + ((3 : Int32) * x6)).toNatClampNeg)).toInt64))))) (z_scale * (10 : Int64)) H locs ls hV hP hD hS (lv_sub hl [6, 7, 1, 2, 0] rfl)
      · have hV := hV.1 c8
        refine lv_lload_n hx hb dX8_plans_162 rfl (lv_at hl 0 rfl) ?_
        refine lv_lload hx hb dX8_plans_163 (lv_at hl 1 rfl) ?_
        refine lv_ladd hx hb dX8_plans_165 ?_
        refine lv_lstore_n (lv' := [(2, .long (((x2 * (((10 : Int32) - (z_laid ((3 : Int32) + ((3 : Int32) * x6)).toNatClampNeg)).toInt64)) + (x4 * ((z_laid ((4 : Int32) + ((3 : Int32) * x6)).toNatClampNeg).toInt64))) + ((x2 * ((z_laid ((3 : Int32) + ((3 : Int32) * x6)).toNatClampNeg).toInt64)) + (x4 * (((10 : Int32) - (z_laid ((4 : Int32) + ((3 : Int32) * x6)).toNatClampNeg)).toInt64))))), (4, .long ((x2 * ((z_laid ((3 : Int32) + ((3 : Int32) * x6)).toNatClampNeg).toInt64)) + (x4 * (((10 : Int32) - (z_laid ((4 : Int32) + ((3 : Int32) * x6)).toNatClampNeg)).toInt64)))), (9, .long ((x2 * (((10 : Int32) - (z_laid ((3 : Int32) + ((3 : Int32) * x6)).toNatClampNeg)).toInt64)) + (x4 * ((z_laid ((4 : Int32) + ((3 : Int32) * x6)).toNatClampNeg).toInt64)))), (8, .int (z_laid ((4 : Int32) + ((3 : Int32) * x6)).toNatClampNeg)), (7, .int (z_laid ((3 : Int32) + ((3 : Int32) * x6)).toNatClampNeg)), (0, .ref a_this), (1, .int x1), (6, .int x6)]) hx hb dX8_plans_166 rfl hl (by decide) rfl (fun ls hl => ?_)
        refine lv_lconst (v := (0 : Int64)) hx hb dX8_plans_167 (by decide) ?_
        refine lv_lstore (lv' := [(4, .long (0 : Int64)), (2, .long (((x2 * (((10 : Int32) - (z_laid ((3 : Int32) + ((3 : Int32) * x6)).toNatClampNeg)).toInt64)) + (x4 * ((z_laid ((4 : Int32) + ((3 : Int32) * x6)).toNatClampNeg).toInt64))) + ((x2 * ((z_laid ((3 : Int32) + ((3 : Int32) * x6)).toNatClampNeg).toInt64)) + (x4 * (((10 : Int32) - (z_laid ((4 : Int32) + ((3 : Int32) * x6)).toNatClampNeg)).toInt64))))), (9, .long ((x2 * (((10 : Int32) - (z_laid ((3 : Int32) + ((3 : Int32) * x6)).toNatClampNeg)).toInt64)) + (x4 * ((z_laid ((4 : Int32) + ((3 : Int32) * x6)).toNatClampNeg).toInt64)))), (8, .int (z_laid ((4 : Int32) + ((3 : Int32) * x6)).toNatClampNeg)), (7, .int (z_laid ((3 : Int32) + ((3 : Int32) * x6)).toNatClampNeg)), (0, .ref a_this), (1, .int x1), (6, .int x6)]) hx hb dX8_plans_168 hl (by decide) rfl (fun ls hl => ?_)
        refine lv_iinc (v := (x6 + (1 : Int32))) (lv' := [(6, .int (x6 + (1 : Int32))), (4, .long (0 : Int64)), (2, .long (((x2 * (((10 : Int32) - (z_laid ((3 : Int32) + ((3 : Int32) * x6)).toNatClampNeg)).toInt64)) + (x4 * ((z_laid ((4 : Int32) + ((3 : Int32) * x6)).toNatClampNeg).toInt64))) + ((x2 * ((z_laid ((3 : Int32) + ((3 : Int32) * x6)).toNatClampNeg).toInt64)) + (x4 * (((10 : Int32) - (z_laid ((4 : Int32) + ((3 : Int32) * x6)).toNatClampNeg)).toInt64))))), (9, .long ((x2 * (((10 : Int32) - (z_laid ((3 : Int32) + ((3 : Int32) * x6)).toNatClampNeg)).toInt64)) + (x4 * ((z_laid ((4 : Int32) + ((3 : Int32) * x6)).toNatClampNeg).toInt64)))), (8, .int (z_laid ((4 : Int32) + ((3 : Int32) * x6)).toNatClampNeg)), (7, .int (z_laid ((3 : Int32) + ((3 : Int32) * x6)).toNatClampNeg)), (0, .ref a_this), (1, .int x1)]) hx hb dX8_plans_170 hl (k := 7) rfl rfl (by decide) rfl (fun ls hl => ?_)
        refine lv_goto (tgt := 41) hx hb dX8_plans_173 (by decide) ?_
        exact ih (((x2 * (((10 : Int32) - (z_laid ((3 : Int32) + ((3 : Int32) * x6)).toNatClampNeg)).toInt64)) + (x4 * ((z_laid ((4 : Int32) + ((3 : Int32) * x6)).toNatClampNeg).toInt64))) + ((x2 * ((z_laid ((3 : Int32) + ((3 : Int32) * x6)).toNatClampNeg).toInt64)) + (x4 * (((10 : Int32) - (z_laid ((4 : Int32) + ((3 : Int32) * x6)).toNatClampNeg)).toInt64)))) (0 : Int64) (x6 + (1 : Int32)) (((10 : Int64) * z_planned) + ((r7.toInt64) * ((x2 * ((z_laid ((3 : Int32) + ((3 : Int32) * x6)).toNatClampNeg).toInt64)) + (x4 * (((10 : Int32) - (z_laid ((4 : Int32) + ((3 : Int32) * x6)).toNatClampNeg)).toInt64))))) (z_scale * (10 : Int64)) H locs ls hV hP hD hS (lv_sub hl [6, 7, 2, 1, 0] rfl)
def qv_X8_plans (x1 : Int32) (z_walked : Int32) (z_all : Int64) (z_planned : Int64) (z_scale : Int64) (z_laid : Nat → Int32) (z_parts : Nat → Int64) (Post : (Int64) → (Int64) → Prop) : Prop := vp_in (0 : Int32) 9 ∧ (vp_in (0 : Int32) 9 ∧ (∃ n9, qv_X8_plans_L41 x1 z_walked z_all z_laid z_parts Post (fun z_planned_9 z_scale_9 => Post z_planned_9 z_scale_9) n9 (z_parts (0 : Int32).toNatClampNeg) (z_all - (z_parts (0 : Int32).toNatClampNeg)) (z_walked + (1 : Int32)) (0 : Int64) z_all))
set_option maxHeartbeats 4000000 in
set_option maxRecDepth 100000 in
theorem qm_X8_plans (l : Launch) (dC : Nat → ClassId) (dI : Nat → Nat → Nat) (cI cJ cC cG cW : ClassId) (a_this a_this_laid a_this_text a_this_read a_this_numbers a_this_where a_this_sorts a_this_tells a_this_undone a_this_parts a_this_goesWith a_this_with a_this_keeps : Nat) (z_letters : Int32) (z_at : Int32) (z_walked : Int32) (z_counts : Int32) (z_undos : Int32) (z_all : Int64) (z_planned : Int64) (z_scale : Int64) (z_least : Int32) (z_kept : Int32) (z_laid : Nat → Int32) (z_parts : Nat → Int64) (sz : Nat) (x1 : Int32) (Post : (Int64) → (Int64) → Prop) (hV : qv_X8_plans x1 z_walked z_all z_planned z_scale z_laid z_parts Post) : Met l yX8_plans wsX8_plans ({ frames := 1, cells := 0, slots := 0, locals := 21 } : Room) (va_Pc [.ref a_this, .int x1] (prW (dC, dI) (qw_X8_plans cI cJ cC cG cW a_this a_this_laid a_this_text a_this_read a_this_numbers a_this_where a_this_sorts a_this_tells a_this_undone a_this_parts a_this_goesWith a_this_with a_this_keeps z_letters z_at z_walked z_counts z_undos z_all z_planned z_scale z_least z_kept z_laid z_parts) (tyL cI cJ cC cG cW) sz)) (va_Qv (fun (u : (Int64) × (Int64)) => Post u.1 u.2) (fun u t => poW (dC, dI) (tyL cI cJ cC cG cW) (va_A (qw_X8_plans cI cJ cC cG cW a_this a_this_laid a_this_text a_this_read a_this_numbers a_this_where a_this_sorts a_this_tells a_this_undone a_this_parts a_this_goesWith a_this_with a_this_keeps z_letters z_at z_walked z_counts z_undos z_all z_planned z_scale z_least z_kept z_laid z_parts) sz) (qw_X8_plans cI cJ cC cG cW a_this a_this_laid a_this_text a_this_read a_this_numbers a_this_where a_this_sorts a_this_tells a_this_undone a_this_parts a_this_goesWith a_this_with a_this_keeps z_letters z_at z_walked z_counts z_undos z_all u.1 u.2 z_least z_kept z_laid z_parts) t) (va_A (qw_X8_plans cI cJ cC cG cW a_this a_this_laid a_this_text a_this_read a_this_numbers a_this_where a_this_sorts a_this_tells a_this_undone a_this_parts a_this_goesWith a_this_with a_this_keeps z_letters z_at z_walked z_counts z_undos z_all z_planned z_scale z_least z_kept z_laid z_parts) sz)) 0 0 (va_A (qw_X8_plans cI cJ cC cG cW a_this a_this_laid a_this_text a_this_read a_this_numbers a_this_where a_this_sorts a_this_tells a_this_undone a_this_parts a_this_goesWith a_this_with a_this_keeps z_letters z_at z_walked z_counts z_undos z_all z_planned z_scale z_least z_kept z_laid z_parts) sz) := by
  refine Met.ofM (Qc := fun A => va_Qv (fun (u : (Int64) × (Int64)) => Post u.1 u.2) (fun u t => poW (dC, dI) (tyL cI cJ cC cG cW) A (qw_X8_plans cI cJ cC cG cW a_this a_this_laid a_this_text a_this_read a_this_numbers a_this_where a_this_sorts a_this_tells a_this_undone a_this_parts a_this_goesWith a_this_with a_this_keeps z_letters z_at z_walked z_counts z_undos z_all u.1 u.2 z_least z_kept z_laid z_parts) t) A) (nm := "plans") (ds := "(I)V") (own := RX8) (maxL := 11) (cc := cX8_plans) (ret := none) (by decide) rfl rfl (Nat.le_of_ble_eq_true rfl) (fun p e s m below meth c A C0 hin hK hN hA hP hD hS ls hl => ?_)
  obtain ⟨hx, hb, hr, hml, hown, hts, hlocks⟩ := id C0
  have hl : lv_has ls 11 [(0, .ref a_this), (1, .int x1)] := hl
  obtain ⟨H, hH⟩ : ∃ h : Heap, h = s.heap := ⟨_, rfl⟩
  obtain ⟨locs, hLc⟩ : ∃ L : List Loc, L = [] := ⟨_, rfl⟩
  have hS : va_S A s.heap H locs := by rw [hH, hLc]; exact hS
  rw [← hH] at hP
  rw [← hLc, ← hH]
  clear hH hLc
  refine lv_aload_n hx hb dX8_plans_0 rfl (lv_at hl 0 rfl) ?_
  refine va_get (D := (dC, dI)) (ci := 8) (v := .ref a_this_parts) (C := RX8) (T := TX8) (N := 22) hx hb hts qi_X8_plans_X8 hown hK hP 0 rfl rfl 13 (by decide) (hts _ ql_X8_plans_34) (fun _ h9 => h9) rfl dX8_plans_1 ?_
  refine lv_iconst (v := (0 : Int32)) hx hb dX8_plans_4 (by decide) ?_
  obtain ⟨h1, hV⟩ := hV
  refine va_lald hx hb hK hP 2 1 rfl rfl h1 dX8_plans_5 ?_
  refine lv_lstore_n (lv' := [(2, .long (z_parts (0 : Int32).toNatClampNeg)), (0, .ref a_this), (1, .int x1)]) hx hb dX8_plans_6 rfl hl (by decide) rfl (fun ls hl => ?_)
  refine lv_aload_n hx hb dX8_plans_7 rfl (lv_at hl 1 rfl) ?_
  refine va_get (D := (dC, dI)) (ci := 8) (v := .long z_all) (C := RX8) (T := TX8) (N := 22) hx hb hts qi_X8_plans_X8 hown hK hP 0 rfl rfl 14 (by decide) (hts _ ql_X8_plans_138) (fun _ h9 => h9) rfl dX8_plans_8 ?_
  refine lv_aload_n hx hb dX8_plans_11 rfl (lv_at hl 1 rfl) ?_
  refine va_get (D := (dC, dI)) (ci := 8) (v := .ref a_this_parts) (C := RX8) (T := TX8) (N := 22) hx hb hts qi_X8_plans_X8 hown hK hP 0 rfl rfl 13 (by decide) (hts _ ql_X8_plans_34) (fun _ h9 => h9) rfl dX8_plans_12 ?_
  refine lv_iconst (v := (0 : Int32)) hx hb dX8_plans_15 (by decide) ?_
  obtain ⟨h2, hV⟩ := hV
  refine va_lald hx hb hK hP 2 1 rfl rfl h2 dX8_plans_16 ?_
  refine lv_lsub hx hb dX8_plans_17 ?_
  refine lv_lstore (lv' := [(4, .long (z_all - (z_parts (0 : Int32).toNatClampNeg))), (2, .long (z_parts (0 : Int32).toNatClampNeg)), (0, .ref a_this), (1, .int x1)]) hx hb dX8_plans_18 hl (by decide) rfl (fun ls hl => ?_)
  refine lv_aload_n hx hb dX8_plans_20 rfl (lv_at hl 2 rfl) ?_
  refine lv_lconst (v := (0 : Int64)) hx hb dX8_plans_21 (by decide) ?_
  refine va_put (D := (dC, dI)) (ci := 8) (v := .long (0 : Int64)) (ty := .long) (C := RX8) (T := TX8) (N := 22) hx hb hts qi_X8_plans_X8 tyX8 tyX8_ok nmX8 hown hK hP hD hS 0 rfl rfl 15 (by decide) (hts _ ql_X8_plans_178) (fun _ h9 => h9) rfl (by decide +kernel) rfl rfl (Nat.le_of_ble_eq_true rfl) dX8_plans_22 (fun H locs hP hD hS => ?_)
  have hP : va_P (dC, dI) vwCl (qw_X8_plans cI cJ cC cG cW a_this a_this_laid a_this_text a_this_read a_this_numbers a_this_where a_this_sorts a_this_tells a_this_undone a_this_parts a_this_goesWith a_this_with a_this_keeps z_letters z_at z_walked z_counts z_undos z_all (0 : Int64) z_scale z_least z_kept z_laid z_parts) H := hP
  have hD : va_D A (qw_X8_plans cI cJ cC cG cW a_this a_this_laid a_this_text a_this_read a_this_numbers a_this_where a_this_sorts a_this_tells a_this_undone a_this_parts a_this_goesWith a_this_with a_this_keeps z_letters z_at z_walked z_counts z_undos z_all (0 : Int64) z_scale z_least z_kept z_laid z_parts) := hD
  refine lv_aload_n hx hb dX8_plans_25 rfl (lv_at hl 2 rfl) ?_
  refine lv_aload_n hx hb dX8_plans_26 rfl (lv_at hl 2 rfl) ?_
  refine va_get (D := (dC, dI)) (ci := 8) (v := .long z_all) (C := RX8) (T := TX8) (N := 22) hx hb hts qi_X8_plans_X8 hown hK hP 0 rfl rfl 14 (by decide) (hts _ ql_X8_plans_138) (fun _ h9 => h9) rfl dX8_plans_27 ?_
  refine va_put (D := (dC, dI)) (ci := 8) (v := .long z_all) (ty := .long) (C := RX8) (T := TX8) (N := 22) hx hb hts qi_X8_plans_X8 tyX8 tyX8_ok nmX8 hown hK hP hD hS 0 rfl rfl 16 (by decide) (hts _ ql_X8_plans_181) (fun _ h9 => h9) rfl (by decide +kernel) rfl rfl (Nat.le_of_ble_eq_true rfl) dX8_plans_30 (fun H locs hP hD hS => ?_)
  have hP : va_P (dC, dI) vwCl (qw_X8_plans cI cJ cC cG cW a_this a_this_laid a_this_text a_this_read a_this_numbers a_this_where a_this_sorts a_this_tells a_this_undone a_this_parts a_this_goesWith a_this_with a_this_keeps z_letters z_at z_walked z_counts z_undos z_all (0 : Int64) z_all z_least z_kept z_laid z_parts) H := hP
  have hD : va_D A (qw_X8_plans cI cJ cC cG cW a_this a_this_laid a_this_text a_this_read a_this_numbers a_this_where a_this_sorts a_this_tells a_this_undone a_this_parts a_this_goesWith a_this_with a_this_keeps z_letters z_at z_walked z_counts z_undos z_all (0 : Int64) z_all z_least z_kept z_laid z_parts) := hD
  refine lv_aload_n hx hb dX8_plans_33 rfl (lv_at hl 2 rfl) ?_
  refine va_get (D := (dC, dI)) (ci := 8) (v := .int z_walked) (C := RX8) (T := TX8) (N := 22) hx hb hts qi_X8_plans_X8 hown hK hP 0 rfl rfl 6 (by decide) (hts _ ql_X8_plans_111) (fun _ h9 => h9) rfl dX8_plans_34 ?_
  refine lv_iconst (v := (1 : Int32)) hx hb dX8_plans_37 (by decide) ?_
  refine lv_iadd hx hb dX8_plans_38 ?_
  refine lv_istore (lv' := [(6, .int (z_walked + (1 : Int32))), (4, .long (z_all - (z_parts (0 : Int32).toNatClampNeg))), (2, .long (z_parts (0 : Int32).toNatClampNeg)), (0, .ref a_this), (1, .int x1)]) hx hb dX8_plans_39 hl (by decide) rfl (fun ls hl => ?_)
  obtain ⟨n9, hV⟩ := hV
  refine qt_X8_plans_L41 C0 hK hN hA z_letters z_at z_walked z_counts z_undos z_all z_least z_kept z_laid z_parts x1 _ _ (fun z_planned_9 z_scale_9 H locs ls hV hP hD hS hl => ?_) n9 (z_parts (0 : Int32).toNatClampNeg) (z_all - (z_parts (0 : Int32).toNatClampNeg)) (z_walked + (1 : Int32)) (0 : Int64) z_all H locs ls hV hP hD hS (lv_sub hl [3, 4, 2, 1, 0] rfl)
  exact W.vret hx hb hr (fun t ht hW => ⟨⟨(z_planned_9, z_scale_9), rfl, hV, ⟨by rw [ht]; exact hP, va_K.moved hW.alike hK, hD⟩⟩, hS.F ht⟩) hS.2.2 dX8_plans_176 hlocks
