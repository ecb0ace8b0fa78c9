/-! StileCountsModel.march(I)I -/
abbrev qw_X8_march (cI cJ cC cG cW : ClassId) (a_this a_this_laid a_this_text a_this_read a_this_numbers a_this_where a_this_sorts a_this_tells a_this_undone a_this_parts a_this_goesWith a_this_with a_this_keeps : Nat) (z_letters : Int32) (z_at : Int32) (z_walked : Int32) (z_counts : Int32) (z_undos : Int32) (z_all : Int64) (z_planned : Int64) (z_scale : Int64) (z_least : Int32) (z_kept : Int32) (z_laid : Nat → Int32) (z_goesWith : Nat → Int32) (z_with : Nat → Int32) : va_W := [(a_this, .inr (8, [.ref a_this_laid, .ref a_this_text, .int z_letters, .ref a_this_read, .int z_at, .ref a_this_numbers, .int z_walked, .int z_counts, .ref a_this_where, .ref a_this_sorts, .ref a_this_tells, .int z_undos, .ref a_this_undone, .ref a_this_parts, .long z_all, .long z_planned, .long z_scale, .ref a_this_goesWith, .int z_least, .ref a_this_with, .int z_kept, .ref a_this_keeps])), (a_this_laid, .inl (cI, 73, .inl z_laid)), (a_this_goesWith, .inl (cI, 6, .inl z_goesWith)), (a_this_with, .inl (cI, 6, .inl z_with))]
theorem qi_X8_march_X8 : ∀ w ∈ wsX80, w ∈ wsX8_march := by decide +kernel
theorem ql_X8_march_38 : (.fieldLink RX8 38 "StileCountsModel" "goesWith" "[I" : Cond) ∈ wsX8_march := by decide +kernel
theorem ql_X8_march_200 : (.fieldLink RX8 200 "StileCountsModel" "least" "I" : Cond) ∈ wsX8_march := by decide +kernel
def qv_X8_march_J15 (x1 : Int32) (z_least : Int32) (z_laid : Nat → Int32) (z_goesWith : Nat → Int32) (z_with : Nat → Int32) (Post : Int32 → (Int32) → (Nat → Int32) → (Nat → Int32) → Prop) : Prop := qv_X8_marches z_least z_laid z_goesWith z_with (fun z_least_2 z_goesWith_2 z_with_2 => ((0 : Int32) ≤ x1 → vp_in x1 6 ∧ (Post (z_goesWith_2 x1.toNatClampNeg) z_least_2 z_goesWith_2 z_with_2)) ∧ (¬ (0 : Int32) ≤ x1 → Post z_least_2 z_least_2 z_goesWith_2 z_with_2))
set_option maxHeartbeats 4000000 in
set_option maxRecDepth 100000 in
theorem qt_X8_march_J15 {p : Program} {l : Launch} {e : Env} {s : State} {m : MethodId} {args : Array Value} {below : List Frame} {meth : Method} {c : Code} {dC : Nat → ClassId} {dI : Nat → Nat → Nat} {cI cJ cC cG cW : ClassId} {a_this a_this_laid a_this_text a_this_read a_this_numbers a_this_where a_this_sorts a_this_tells a_this_undone a_this_parts a_this_goesWith a_this_with a_this_keeps : Nat} {A : Nat → Prop} (C0 : MC cX8_march 2 (some .int) RX8 wsX8_march p s m args meth c) (hK : va_K (dC, dI) vwCl (tyL cI cJ cC cG cW) s) (hN : NW s) (hA : ∀ q, s.heap.size ≤ q → A q) (z_letters : Int32) (z_at : Int32) (z_walked : Int32) (z_counts : Int32) (z_undos : Int32) (z_all : Int64) (z_planned : Int64) (z_scale : Int64) (z_least : Int32) (z_kept : Int32) (z_laid : Nat → Int32) (z_goesWith : Nat → Int32) (z_with : Nat → Int32) (x1 : Int32) (Post : Int32 → (Int32) → (Nat → Int32) → (Nat → Int32) → Prop) (H : Heap) (locs : List Loc) (ls : Array Slot) (hV : qv_X8_march_J15 x1 z_least z_laid z_goesWith z_with Post) (hP : va_P (dC, dI) vwCl (qw_X8_march cI cJ cC cG cW a_this a_this_laid a_this_text a_this_read a_this_numbers a_this_where a_this_sorts a_this_tells a_this_undone a_this_parts a_this_goesWith a_this_with a_this_keeps z_letters z_at z_walked z_counts z_undos z_all z_planned z_scale z_least z_kept z_laid z_goesWith z_with) H) (hD : va_D A (qw_X8_march cI cJ cC cG cW a_this a_this_laid a_this_text a_this_read a_this_numbers a_this_where a_this_sorts a_this_tells a_this_undone a_this_parts a_this_goesWith a_this_with a_this_keeps z_letters z_at z_walked z_counts z_undos z_all z_planned z_scale z_least z_kept z_laid z_goesWith z_with)) (hS : va_S A s.heap H locs) (hl : lv_has ls 2 [(0, .ref a_this), (1, .int x1)]) : W p l e ({ frames := 2, cells := 0, slots := 0, locals := 55 } : Room) s m args below meth c H locs 0 0 (MQ below (va_Qi (fun (r : Int32) (u : (Int32) × (Nat → Int32) × (Nat → Int32)) => Post r u.1 u.2.1 u.2.2) (fun u t => poW (dC, dI) (tyL cI cJ cC cG cW) A (qw_X8_march cI cJ cC cG cW a_this a_this_laid a_this_text a_this_read a_this_numbers a_this_where a_this_sorts a_this_tells a_this_undone a_this_parts a_this_goesWith a_this_with a_this_keeps z_letters z_at z_walked z_counts z_undos z_all z_planned z_scale u.1 z_kept z_laid u.2.1 u.2.2) t) A) args s 0 0 A) (F0 m 15 ls []) := by
  obtain ⟨hx, hb, hr, hml, hown, hts, hlocks⟩ := id C0
  refine lv_aload_n hx hb dX8_march_15 rfl (lv_at hl 0 rfl) ?_
  refine kW_v (wc := (qw_X8_marches cI cJ cC cG cW a_this a_this_laid a_this_text a_this_read a_this_numbers a_this_where a_this_sorts a_this_tells a_this_undone a_this_parts a_this_goesWith a_this_with a_this_keeps z_letters z_at z_walked z_counts z_undos z_all z_planned z_scale z_least z_kept z_laid z_goesWith z_with)) (wr := List.filterMap (fun (i : Nat) => (qw_X8_march cI cJ cC cG cW a_this a_this_laid a_this_text a_this_read a_this_numbers a_this_where a_this_sorts a_this_tells a_this_undone a_this_parts a_this_goesWith a_this_with a_this_keeps z_letters z_at z_walked z_counts z_undos z_all z_planned z_scale z_least z_kept z_laid z_goesWith z_with)[i]?) []) (w1 := fun (u : (Int32) × (Nat → Int32) × (Nat → Int32)) => (qw_X8_marches cI cJ cC cG cW a_this a_this_laid a_this_text a_this_read a_this_numbers a_this_where a_this_sorts a_this_tells a_this_undone a_this_parts a_this_goesWith a_this_with a_this_keeps z_letters z_at z_walked z_counts z_undos z_all z_planned z_scale u.1 z_kept z_laid u.2.1 u.2.2)) (va_runV (As := []) (rest := []) ⟨hx, hb, hml, hown, hts⟩ (qm_X8_marches l dC dI cI cJ cC cG cW a_this a_this_laid a_this_text a_this_read a_this_numbers a_this_where a_this_sorts a_this_tells a_this_undone a_this_parts a_this_goesWith a_this_with a_this_keeps z_letters z_at z_walked z_counts z_undos z_all z_planned z_scale z_least z_kept z_laid z_goesWith z_with H.size _ hV) (cwV 0 hts gX8_march_X8_marches rfl rfl rfl (by decide +kernel) ⟨Nat.le_of_ble_eq_true rfl, Nat.le_of_ble_eq_true rfl⟩) (preWV hK hN (show va_P (dC, dI) vwCl (qw_X8_marches cI cJ cC cG cW a_this a_this_laid a_this_text a_this_read a_this_numbers a_this_where a_this_sorts a_this_tells a_this_undone a_this_parts a_this_goesWith a_this_with a_this_keeps z_letters z_at z_walked z_counts z_undos z_all z_planned z_scale z_least z_kept z_laid z_goesWith z_with) H from hP) (hD.sub (ws' := (qw_X8_marches cI cJ cC cG cW a_this a_this_laid a_this_text a_this_read a_this_numbers a_this_where a_this_sorts a_this_tells a_this_undone a_this_parts a_this_goesWith a_this_with a_this_keeps z_letters z_at z_walked z_counts z_undos z_all z_planned z_scale z_least z_kept z_laid z_goesWith z_with)) [0, 1, 2, 3] (by decide) rfl) rfl rfl) rfl rfl hl.1 rfl (lv_room (Nat.le_of_ble_eq_true rfl)) dX8_march_16 ⟨Nat.le_of_ble_eq_true rfl, Nat.le_of_ble_eq_true rfl⟩) hP hD hS hA [0, 1, 2, 3] [] rfl rfl (by decide) (by decide) (fun u H locs hV hP hD hS => ?_)
  obtain ⟨z_least_2, z_goesWith_2, z_with_2⟩ := u
  try dsimp only at hV
  have hP := hP.sub (ws' := (qw_X8_march cI cJ cC cG cW a_this a_this_laid a_this_text a_this_read a_this_numbers a_this_where a_this_sorts a_this_tells a_this_undone a_this_parts a_this_goesWith a_this_with a_this_keeps z_letters z_at z_walked z_counts z_undos z_all z_planned z_scale z_least_2 z_kept z_laid z_goesWith_2 z_with_2)) [0, 1, 2, 3] rfl
  have hD := hD.sub (ws' := (qw_X8_march cI cJ cC cG cW a_this a_this_laid a_this_text a_this_read a_this_numbers a_this_where a_this_sorts a_this_tells a_this_undone a_this_parts a_this_goesWith a_this_with a_this_keeps z_letters z_at z_walked z_counts z_undos z_all z_planned z_scale z_least_2 z_kept z_laid z_goesWith_2 z_with_2)) [0, 1, 2, 3] (by decide) rfl
  refine lv_iload_n hx hb dX8_march_19 rfl (lv_at hl 1 rfl) ?_
  refine lv_if_ge (tgt := 30) hx hb dX8_march_20 (by decide) (fun c3 => ?_) (fun c3 => ?_)
  · have hV := hV.1 c3
    refine lv_aload_n hx hb dX8_march_30 rfl (lv_at hl 0 rfl) ?_
    refine va_get (D := (dC, dI)) (ci := 8) (v := .ref a_this_goesWith) (C := RX8) (T := TX8) (N := 22) hx hb hts qi_X8_march_X8 hown hK hP 0 rfl rfl 17 (by decide) (hts _ ql_X8_march_38) (fun _ h9 => h9) rfl dX8_march_31 ?_
    refine lv_iload_n hx hb dX8_march_34 rfl (lv_at hl 1 rfl) ?_
    obtain ⟨h4, hV⟩ := hV
    refine va_iald hx hb hK hP 2 0 rfl rfl h4 dX8_march_35 ?_
    exact W.iret hx hb hr (fun t ht hW => ⟨⟨_, (z_least_2, z_goesWith_2, z_with_2), rfl, hV, ⟨by rw [ht]; exact hP, va_K.moved hW.alike hK, hD⟩⟩, hS.F ht⟩) hS.2.2 dX8_march_36 hlocks
  · have hV := hV.2 c3
    refine lv_aload_n hx hb dX8_march_23 rfl (lv_at hl 0 rfl) ?_
    refine va_get (D := (dC, dI)) (ci := 8) (v := .int z_least_2) (C := RX8) (T := TX8) (N := 22) hx hb hts qi_X8_march_X8 hown hK hP 0 rfl rfl 18 (by decide) (hts _ ql_X8_march_200) (fun _ h9 => h9) rfl dX8_march_24 ?_
    refine lv_goto (tgt := 36) hx hb dX8_march_27 (by decide) ?_
    exact W.iret hx hb hr (fun t ht hW => ⟨⟨_, (z_least_2, z_goesWith_2, z_with_2), rfl, hV, ⟨by rw [ht]; exact hP, va_K.moved hW.alike hK, hD⟩⟩, hS.F ht⟩) hS.2.2 dX8_march_36 hlocks
def qv_X8_march (x1 : Int32) (z_least : Int32) (z_laid : Nat → Int32) (z_goesWith : Nat → Int32) (z_with : Nat → Int32) (Post : Int32 → (Int32) → (Nat → Int32) → (Nat → Int32) → Prop) : Prop := (x1 = (-1 : Int32) → qv_X8_march_J15 x1 z_least z_laid z_goesWith z_with Post) ∧ (¬ x1 = (-1 : Int32) → qv_X8_isFriend x1 z_laid (fun r5 => (r5 = (0 : Int32) → Post (-1 : Int32) z_least z_goesWith z_with) ∧ (¬ r5 = (0 : Int32) → qv_X8_march_J15 x1 z_least z_laid z_goesWith z_with Post)))
set_option maxHeartbeats 4000000 in
set_option maxRecDepth 100000 in
theorem qm_X8_march (l : Launch) (dC : Nat → ClassId) (dI : Nat → Nat → Nat) (cI cJ cC cG cW : ClassId) (a_this a_this_laid a_this_text a_this_read a_this_numbers a_this_where a_this_sorts a_this_tells a_this_undone a_this_parts a_this_goesWith a_this_with a_this_keeps : Nat) (z_letters : Int32) (z_at : Int32) (z_walked : Int32) (z_counts : Int32) (z_undos : Int32) (z_all : Int64) (z_planned : Int64) (z_scale : Int64) (z_least : Int32) (z_kept : Int32) (z_laid : Nat → Int32) (z_goesWith : Nat → Int32) (z_with : Nat → Int32) (sz : Nat) (x1 : Int32) (Post : Int32 → (Int32) → (Nat → Int32) → (Nat → Int32) → Prop) (hV : qv_X8_march x1 z_least z_laid z_goesWith z_with Post) : Met l yX8_march wsX8_march ({ frames := 2, cells := 0, slots := 0, locals := 55 } : Room) (va_Pc [.ref a_this, .int x1] (prW (dC, dI) (qw_X8_march cI cJ cC cG cW a_this a_this_laid a_this_text a_this_read a_this_numbers a_this_where a_this_sorts a_this_tells a_this_undone a_this_parts a_this_goesWith a_this_with a_this_keeps z_letters z_at z_walked z_counts z_undos z_all z_planned z_scale z_least z_kept z_laid z_goesWith z_with) (tyL cI cJ cC cG cW) sz)) (va_Qi (fun (r : Int32) (u : (Int32) × (Nat → Int32) × (Nat → Int32)) => Post r u.1 u.2.1 u.2.2) (fun u t => poW (dC, dI) (tyL cI cJ cC cG cW) (va_A (qw_X8_march cI cJ cC cG cW a_this a_this_laid a_this_text a_this_read a_this_numbers a_this_where a_this_sorts a_this_tells a_this_undone a_this_parts a_this_goesWith a_this_with a_this_keeps z_letters z_at z_walked z_counts z_undos z_all z_planned z_scale z_least z_kept z_laid z_goesWith z_with) sz) (qw_X8_march cI cJ cC cG cW a_this a_this_laid a_this_text a_this_read a_this_numbers a_this_where a_this_sorts a_this_tells a_this_undone a_this_parts a_this_goesWith a_this_with a_this_keeps z_letters z_at z_walked z_counts z_undos z_all z_planned z_scale u.1 z_kept z_laid u.2.1 u.2.2) t) (va_A (qw_X8_march cI cJ cC cG cW a_this a_this_laid a_this_text a_this_read a_this_numbers a_this_where a_this_sorts a_this_tells a_this_undone a_this_parts a_this_goesWith a_this_with a_this_keeps z_letters z_at z_walked z_counts z_undos z_all z_planned z_scale z_least z_kept z_laid z_goesWith z_with) sz)) 0 0 (va_A (qw_X8_march cI cJ cC cG cW a_this a_this_laid a_this_text a_this_read a_this_numbers a_this_where a_this_sorts a_this_tells a_this_undone a_this_parts a_this_goesWith a_this_with a_this_keeps z_letters z_at z_walked z_counts z_undos z_all z_planned z_scale z_least z_kept z_laid z_goesWith z_with) sz) := by
  refine Met.ofM (Qc := fun A => va_Qi (fun (r : Int32) (u : (Int32) × (Nat → Int32) × (Nat → Int32)) => Post r u.1 u.2.1 u.2.2) (fun u t => poW (dC, dI) (tyL cI cJ cC cG cW) A (qw_X8_march cI cJ cC cG cW a_this a_this_laid a_this_text a_this_read a_this_numbers a_this_where a_this_sorts a_this_tells a_this_undone a_this_parts a_this_goesWith a_this_with a_this_keeps z_letters z_at z_walked z_counts z_undos z_all z_planned z_scale u.1 z_kept z_laid u.2.1 u.2.2) t) A) (nm := "march") (ds := "(I)I") (own := RX8) (maxL := 2) (cc := cX8_march) (ret := (some .int)) (by decide) rfl rfl (Nat.le_of_ble_eq_true rfl) (fun p e s m below meth c A C0 hin hK hN hA hP hD hS ls hl => ?_)
  obtain ⟨hx, hb, hr, hml, hown, hts, hlocks⟩ := id C0
  have hl : lv_has ls 2 [(0, .ref a_this), (1, .int x1)] := hl
  obtain ⟨H, hH⟩ : ∃ h : Heap, h = s.heap := ⟨_, rfl⟩
  obtain ⟨locs, hLc⟩ : ∃ L : List Loc, L = [] := ⟨_, rfl⟩
  have hS : va_S A s.heap H locs := by rw [hH, hLc]; exact hS
  rw [← hH] at hP
  rw [← hLc, ← hH]
  clear hH hLc
  refine lv_iload_n hx hb dX8_march_0 rfl (lv_at hl 1 rfl) ?_
  refine lv_iconst (v := (-1 : Int32)) hx hb dX8_march_1 (by decide) ?_
  refine lv_icmp_eq (tgt := 15) hx hb dX8_march_2 (by decide) (fun c1 => ?_) (fun c1 => ?_)
  · have hV := hV.1 c1
    exact qt_X8_march_J15 C0 hK hN hA z_letters z_at z_walked z_counts z_undos z_all z_planned z_scale z_least z_kept z_laid z_goesWith z_with x1 _ H locs ls hV hP hD hS (lv_sub hl [0, 1] rfl)
  · have hV := hV.2 c1
    refine lv_aload_n hx hb dX8_march_5 rfl (lv_at hl 0 rfl) ?_
    refine lv_iload_n hx hb dX8_march_6 rfl (lv_at hl 1 rfl) ?_
    refine vp_callSi (va_Run.run (va_runV (As := [.int x1]) (rest := []) ⟨hx, hb, hml, hown, hts⟩ (qm_X8_isFriend l dC dI cI cJ cC cG cW a_this a_this_laid a_this_text a_this_read a_this_numbers a_this_where a_this_sorts a_this_tells a_this_undone a_this_parts a_this_goesWith a_this_with a_this_keeps z_letters z_at z_walked z_counts z_undos z_all z_planned z_scale z_least z_kept z_laid x1 _ hV) (cwV 1 hts gX8_march_X8_isFriend rfl rfl rfl (by decide +kernel) ⟨Nat.le_of_ble_eq_true rfl, Nat.le_of_ble_eq_true rfl⟩) (preRV hK hN (hP.sub (ws' := (qw_X8_isFriend cI cJ cC cG cW a_this a_this_laid a_this_text a_this_read a_this_numbers a_this_where a_this_sorts a_this_tells a_this_undone a_this_parts a_this_goesWith a_this_with a_this_keeps z_letters z_at z_walked z_counts z_undos z_all z_planned z_scale z_least z_kept z_laid)) [0, 1] rfl) rfl rfl) rfl rfl hl.1 rfl (lv_room (Nat.le_of_ble_eq_true rfl)) dX8_march_7 ⟨Nat.le_of_ble_eq_true rfl, Nat.le_of_ble_eq_true rfl⟩)) (fun r5 hV => ?_)
    refine lv_if_ne (tgt := 15) hx hb dX8_march_10 (by decide) (fun c6 => ?_) (fun c6 => ?_)
    · have hV := hV.2 c6
      exact qt_X8_march_J15 C0 hK hN hA z_letters z_at z_walked z_counts z_undos z_all z_planned z_scale z_least z_kept z_laid z_goesWith z_with x1 _ H locs ls hV hP hD hS (lv_sub hl [0, 1] rfl)
    · have hV := hV.1 c6
      refine lv_iconst (v := (-1 : Int32)) hx hb dX8_march_13 (by decide) ?_
      exact W.iret hx hb hr (fun t ht hW => ⟨⟨_, (z_least, z_goesWith, z_with), rfl, hV, ⟨by rw [ht]; exact hP, va_K.moved hW.alike hK, hD⟩⟩, hS.F ht⟩) hS.2.2 dX8_march_14 hlocks

/-! StileCountsModel.schools(III)I -/
abbrev qw_X8_schools (cI cJ cC cG cW : ClassId) (a_this a_this_laid a_this_text a_this_read a_this_numbers a_this_where a_this_sorts a_this_tells a_this_undone a_this_parts a_this_goesWith a_this_with a_this_keeps : Nat) (z_letters : Int32) (z_at : Int32) (z_walked : Int32) (z_counts : Int32) (z_undos : Int32) (z_all : Int64) (z_planned : Int64) (z_scale : Int64) (z_least : Int32) (z_kept : Int32) : va_W := [(a_this, .inr (8, [.ref a_this_laid, .ref a_this_text, .int z_letters, .ref a_this_read, .int z_at, .ref a_this_numbers, .int z_walked, .int z_counts, .ref a_this_where, .ref a_this_sorts, .ref a_this_tells, .int z_undos, .ref a_this_undone, .ref a_this_parts, .long z_all, .long z_planned, .long z_scale, .ref a_this_goesWith, .int z_least, .ref a_this_with, .int z_kept, .ref a_this_keeps]))]
theorem ql_X8_schools_176 : (.constantLong RX8 176 (20 : Int64) : Cond) ∈ wsX8_schools := by decide +kernel
def qv_X8_schools (x1 : Int32) (x2 : Int32) (x3 : Int32) (Post : Int32 → Prop) : Prop := qv_X8_in (x1.toInt64) (0 : Int64) (20 : Int64) (fun r1 => (r1 = (0 : Int32) → Post (-1 : Int32)) ∧ (¬ r1 = (0 : Int32) → qv_X8_in (x2.toInt64) (0 : Int64) (20 : Int64) (fun r3 => (r3 = (0 : Int32) → Post (-1 : Int32)) ∧ (¬ r3 = (0 : Int32) → qv_X8_in (x3.toInt64) (0 : Int64) (1 : Int64) (fun r5 => (r5 = (0 : Int32) → Post (-1 : Int32)) ∧ (¬ r5 = (0 : Int32) → (x1 = (0 : Int32) → Post (0 : Int32)) ∧ (¬ x1 = (0 : Int32) → (x2 = (0 : Int32) → Post (0 : Int32)) ∧ (¬ x2 = (0 : Int32) → (x3 = (0 : Int32) → (x2 ≤ x1 → Post x2) ∧ (¬ x2 ≤ x1 → Post x1)) ∧ (¬ x3 = (0 : Int32) → Post ((x1 + x2) - (1 : Int32)))))))))))
set_option maxHeartbeats 4000000 in
set_option maxRecDepth 100000 in
theorem qm_X8_schools (l : Launch) (dC : Nat → ClassId) (dI : Nat → Nat → Nat) (cI cJ cC cG cW : ClassId) (a_this a_this_laid a_this_text a_this_read a_this_numbers a_this_where a_this_sorts a_this_tells a_this_undone a_this_parts a_this_goesWith a_this_with a_this_keeps : Nat) (z_letters : Int32) (z_at : Int32) (z_walked : Int32) (z_counts : Int32) (z_undos : Int32) (z_all : Int64) (z_planned : Int64) (z_scale : Int64) (z_least : Int32) (z_kept : Int32) (x1 : Int32) (x2 : Int32) (x3 : Int32) (Post : Int32 → Prop) (hV : qv_X8_schools x1 x2 x3 Post) : Met l yX8_schools wsX8_schools ({ frames := 1, cells := 0, slots := 0, locals := 25 } : Room) (va_Pc [.ref a_this, .int x1, .int x2, .int x3] (prR (dC, dI) (qw_X8_schools cI cJ cC cG cW a_this a_this_laid a_this_text a_this_read a_this_numbers a_this_where a_this_sorts a_this_tells a_this_undone a_this_parts a_this_goesWith a_this_with a_this_keeps z_letters z_at z_walked z_counts z_undos z_all z_planned z_scale z_least z_kept) (tyL cI cJ cC cG cW))) (vp_Si Post) 0 0 (fun _ => False) := by
  refine Met.ofR (nm := "schools") (ds := "(III)I") (own := RX8) (maxL := 4) (cc := cX8_schools) (ret := (some .int)) (by decide) rfl rfl (Nat.le_of_ble_eq_true rfl) (fun p e s m below meth c C0 hK hN hP ls hl => ?_)
  obtain ⟨hx, hb, hr, hml, hown, hts, hlocks⟩ := id C0
  have hl : lv_has ls 4 [(0, .ref a_this), (1, .int x1), (2, .int x2), (3, .int x3)] := hl
  refine lv_iload_n hx hb dX8_schools_0 rfl (lv_at hl 1 rfl) ?_
  refine lv_i2l hx hb dX8_schools_1 rfl ?_
  refine lv_lconst (v := (0 : Int64)) hx hb dX8_schools_2 (by decide) ?_
  refine lv_ldc2 (v := (20 : Int64)) hx hb hown (hts _ ql_X8_schools_176) dX8_schools_3 ?_
  refine vp_callSi (va_Run.run (va_runS (As := [.long (x1.toInt64), .long (0 : Int64), .long (20 : Int64)]) (rest := []) ⟨hx, hb, hml, hown, hts⟩ (qm_X8_in l dC dI cI cJ cC cG cW (x1.toInt64) (0 : Int64) (20 : Int64) _ hV) (va_cwS 3 hts gX8_schools_X8_in rfl rfl rfl (by decide +kernel) ⟨Nat.le_of_ble_eq_true rfl, Nat.le_of_ble_eq_true rfl⟩) (preRS hK hN (show va_P (dC, dI) vwCl (qw_X8_in cI cJ cC cG cW) s.heap from fun k q h => by simp at h)) rfl rfl hl.1 rfl (lv_room (Nat.le_of_ble_eq_true rfl)) dX8_schools_6 ⟨Nat.le_of_ble_eq_true rfl, Nat.le_of_ble_eq_true rfl⟩)) (fun r1 hV => ?_)
  refine lv_if_eq (tgt := 34) hx hb dX8_schools_9 (by decide) (fun c2 => ?_) (fun c2 => ?_)
  · have hV := hV.1 c2
    refine lv_iconst (v := (-1 : Int32)) hx hb dX8_schools_34 (by decide) ?_
    exact W.iret hx hb hr (fun t ht hW => ⟨_, rfl, hV, ht⟩) (fun q h => absurd h List.not_mem_nil) dX8_schools_35 hlocks
  · have hV := hV.2 c2
    refine lv_iload_n hx hb dX8_schools_12 rfl (lv_at hl 2 rfl) ?_
    refine lv_i2l hx hb dX8_schools_13 rfl ?_
    refine lv_lconst (v := (0 : Int64)) hx hb dX8_schools_14 (by decide) ?_
    refine lv_ldc2 (v := (20 : Int64)) hx hb hown (hts _ ql_X8_schools_176) dX8_schools_15 ?_
    refine vp_callSi (va_Run.run (va_runS (As := [.long (x2.toInt64), .long (0 : Int64), .long (20 : Int64)]) (rest := []) ⟨hx, hb, hml, hown, hts⟩ (qm_X8_in l dC dI cI cJ cC cG cW (x2.toInt64) (0 : Int64) (20 : Int64) _ hV) (va_cwS 3 hts gX8_schools_X8_in rfl rfl rfl (by decide +kernel) ⟨Nat.le_of_ble_eq_true rfl, Nat.le_of_ble_eq_true rfl⟩) (preRS hK hN (show va_P (dC, dI) vwCl (qw_X8_in cI cJ cC cG cW) s.heap from fun k q h => by simp at h)) rfl rfl hl.1 rfl (lv_room (Nat.le_of_ble_eq_true rfl)) dX8_schools_18 ⟨Nat.le_of_ble_eq_true rfl, Nat.le_of_ble_eq_true rfl⟩)) (fun r3 hV => ?_)
    refine lv_if_eq (tgt := 34) hx hb dX8_schools_21 (by decide) (fun c4 => ?_) (fun c4 => ?_)
    · have hV := hV.1 c4
      refine lv_iconst (v := (-1 : Int32)) hx hb dX8_schools_34 (by decide) ?_
      exact W.iret hx hb hr (fun t ht hW => ⟨_, rfl, hV, ht⟩) (fun q h => absurd h List.not_mem_nil) dX8_schools_35 hlocks
    · have hV := hV.2 c4
      refine lv_iload_n hx hb dX8_schools_24 rfl (lv_at hl 3 rfl) ?_
      refine lv_i2l hx hb dX8_schools_25 rfl ?_
      refine lv_lconst (v := (0 : Int64)) hx hb dX8_schools_26 (by decide) ?_
      refine lv_lconst (v := (1 : Int64)) hx hb dX8_schools_27 (by decide) ?_
      refine vp_callSi (va_Run.run (va_runS (As := [.long (x3.toInt64), .long (0 : Int64), .long (1 : Int64)]) (rest := []) ⟨hx, hb, hml, hown, hts⟩ (qm_X8_in l dC dI cI cJ cC cG cW (x3.toInt64) (0 : Int64) (1 : Int64) _ hV) (va_cwS 3 hts gX8_schools_X8_in rfl rfl rfl (by decide +kernel) ⟨Nat.le_of_ble_eq_true rfl, Nat.le_of_ble_eq_true rfl⟩) (preRS hK hN (show va_P (dC, dI) vwCl (qw_X8_in cI cJ cC cG cW) s.heap from fun k q h => by simp at h)) rfl rfl hl.1 rfl (lv_room (Nat.le_of_ble_eq_true rfl)) dX8_schools_28 ⟨Nat.le_of_ble_eq_true rfl, Nat.le_of_ble_eq_true rfl⟩)) (fun r5 hV => ?_)
      refine lv_if_ne (tgt := 36) hx hb dX8_schools_31 (by decide) (fun c6 => ?_) (fun c6 => ?_)
      · have hV := hV.2 c6
        refine lv_iload_n hx hb dX8_schools_36 rfl (lv_at hl 1 rfl) ?_
        refine lv_if_eq (tgt := 44) hx hb dX8_schools_37 (by decide) (fun c7 => ?_) (fun c7 => ?_)
        · have hV := hV.1 c7
          refine lv_iconst (v := (0 : Int32)) hx hb dX8_schools_44 (by decide) ?_
          refine lv_goto (tgt := 70) hx hb dX8_schools_45 (by decide) ?_
          exact W.iret hx hb hr (fun t ht hW => ⟨_, rfl, hV, ht⟩) (fun q h => absurd h List.not_mem_nil) dX8_schools_70 hlocks
        · have hV := hV.2 c7
          refine lv_iload_n hx hb dX8_schools_40 rfl (lv_at hl 2 rfl) ?_
          refine lv_if_ne (tgt := 48) hx hb dX8_schools_41 (by decide) (fun c8 => ?_) (fun c8 => ?_)
          · have hV := hV.2 c8
            refine lv_iload_n hx hb dX8_schools_48 rfl (lv_at hl 3 rfl) ?_
            refine lv_if_ne (tgt := 65) hx hb dX8_schools_49 (by decide) (fun c9 => ?_) (fun c9 => ?_)
            · have hV := hV.2 c9
              refine lv_iload_n hx hb dX8_schools_65 rfl (lv_at hl 1 rfl) ?_
              refine lv_iload_n hx hb dX8_schools_66 rfl (lv_at hl 2 rfl) ?_
              refine lv_iadd hx hb dX8_schools_67 ?_
              refine lv_iconst (v := (1 : Int32)) hx hb dX8_schools_68 (by decide) ?_
              refine lv_isub hx hb dX8_schools_69 ?_
              exact W.iret hx hb hr (fun t ht hW => ⟨_, rfl, hV, ht⟩) (fun q h => absurd h List.not_mem_nil) dX8_schools_70 hlocks
            · have hV := hV.1 c9
              refine lv_iload_n hx hb dX8_schools_52 rfl (lv_at hl 1 rfl) ?_
              refine lv_iload_n hx hb dX8_schools_53 rfl (lv_at hl 2 rfl) ?_
              refine lv_icmp_ge (tgt := 61) hx hb dX8_schools_54 (by decide) (fun c10 => ?_) (fun c10 => ?_)
              · have hV := hV.1 c10
                refine lv_iload_n hx hb dX8_schools_61 rfl (lv_at hl 2 rfl) ?_
                refine lv_goto (tgt := 70) hx hb dX8_schools_62 (by decide) ?_
                exact W.iret hx hb hr (fun t ht hW => ⟨_, rfl, hV, ht⟩) (fun q h => absurd h List.not_mem_nil) dX8_schools_70 hlocks
              · have hV := hV.2 c10
                refine lv_iload_n hx hb dX8_schools_57 rfl (lv_at hl 1 rfl) ?_
                refine lv_goto (tgt := 70) hx hb dX8_schools_58 (by decide) ?_
                exact W.iret hx hb hr (fun t ht hW => ⟨_, rfl, hV, ht⟩) (fun q h => absurd h List.not_mem_nil) dX8_schools_70 hlocks
          · have hV := hV.1 c8
            refine lv_iconst (v := (0 : Int32)) hx hb dX8_schools_44 (by decide) ?_
            refine lv_goto (tgt := 70) hx hb dX8_schools_45 (by decide) ?_
            exact W.iret hx hb hr (fun t ht hW => ⟨_, rfl, hV, ht⟩) (fun q h => absurd h List.not_mem_nil) dX8_schools_70 hlocks
      · have hV := hV.1 c6
        refine lv_iconst (v := (-1 : Int32)) hx hb dX8_schools_34 (by decide) ?_
        exact W.iret hx hb hr (fun t ht hW => ⟨_, rfl, hV, ht⟩) (fun q h => absurd h List.not_mem_nil) dX8_schools_35 hlocks

/-! StileCountsModel.day(III)I -/
abbrev qw_X8_day (cI cJ cC cG cW : ClassId) (a_this a_this_laid a_this_text a_this_read a_this_numbers a_this_where a_this_sorts a_this_tells a_this_undone a_this_parts a_this_goesWith a_this_with a_this_keeps : Nat) (z_letters : Int32) (z_at : Int32) (z_walked : Int32) (z_counts : Int32) (z_undos : Int32) (z_all : Int64) (z_planned : Int64) (z_scale : Int64) (z_least : Int32) (z_kept : Int32) (z_laid : Nat → Int32) : va_W := [(a_this, .inr (8, [.ref a_this_laid, .ref a_this_text, .int z_letters, .ref a_this_read, .int z_at, .ref a_this_numbers, .int z_walked, .int z_counts, .ref a_this_where, .ref a_this_sorts, .ref a_this_tells, .int z_undos, .ref a_this_undone, .ref a_this_parts, .long z_all, .long z_planned, .long z_scale, .ref a_this_goesWith, .int z_least, .ref a_this_with, .int z_kept, .ref a_this_keeps])), (a_this_laid, .inl (cI, 73, .inl z_laid))]
theorem ql_X8_day_206 : (.constantLong RX8 206 (9999 : Int64) : Cond) ∈ wsX8_day := by decide +kernel
theorem qi_X8_day_X8 : ∀ w ∈ wsX80, w ∈ wsX8_day := by decide +kernel
theorem ql_X8_day_7 : (.fieldLink RX8 7 "StileCountsModel" "laid" "[I" : Cond) ∈ wsX8_day := by decide +kernel
theorem ql_X8_day_208 : (.constantLong RX8 208 (7919 : Int64) : Cond) ∈ wsX8_day := by decide +kernel
theorem ql_X8_day_210 : (.constantLong RX8 210 (6151 : Int64) : Cond) ∈ wsX8_day := by decide +kernel
theorem ql_X8_day_212 : (.constantLong RX8 212 (65521 : Int64) : Cond) ∈ wsX8_day := by decide +kernel
theorem ql_X8_day_214 : (.constantLong RX8 214 (8 : Int64) : Cond) ∈ wsX8_day := by decide +kernel
theorem ql_X8_day_167 : (.constantLong RX8 167 (10 : Int64) : Cond) ∈ wsX8_day := by decide +kernel
def qv_X8_day_J199 (k0 : Int32) (k1 : Int32) (x1 : Int32) (x2 : Int32) (x3 : Int32) (x4 : Int32) (x6 : Int32) (x7 : Int32) (z_laid : Nat → Int32) (Post : Int32 → Prop) (K : (Int32) → (Int32) → (Int32) → (Int32) → Prop) (E : (Int32) → (Int32) → Prop) : Prop := (x4 = (0 : Int32) → K (0 : Int32) (k0 + k1) x6 (x7 + (1 : Int32))) ∧ (¬ x4 = (0 : Int32) → (((x2 >>> ((x7 - (1 : Int32)) &&& 31)) &&& (1 : Int32)) = (0 : Int32) → K (1 : Int32) (k0 + k1) x6 (x7 + (1 : Int32))) ∧ (¬ ((x2 >>> ((x7 - (1 : Int32)) &&& 31)) &&& (1 : Int32)) = (0 : Int32) → K (0 : Int32) (k0 + k1) x6 (x7 + (1 : Int32))))
set_option maxHeartbeats 4000000 in
set_option maxRecDepth 100000 in
theorem qt_X8_day_J199 {p : Program} {l : Launch} {e : Env} {s : State} {m : MethodId} {args : Array Value} {below : List Frame} {meth : Method} {c : Code} {dC : Nat → ClassId} {dI : Nat → Nat → Nat} {cI cJ cC cG cW : ClassId} {a_this a_this_laid a_this_text a_this_read a_this_numbers a_this_where a_this_sorts a_this_tells a_this_undone a_this_parts a_this_goesWith a_this_with a_this_keeps : Nat} (C0 : MC cX8_day 13 (some .int) RX8 wsX8_day p s m args meth c) (hK : va_K (dC, dI) vwCl (tyL cI cJ cC cG cW) s) (hN : NW s) (z_letters : Int32) (z_at : Int32) (z_walked : Int32) (z_counts : Int32) (z_undos : Int32) (z_all : Int64) (z_planned : Int64) (z_scale : Int64) (z_least : Int32) (z_kept : Int32) (z_laid : Nat → Int32) (hP : va_P (dC, dI) vwCl (qw_X8_day cI cJ cC cG cW a_this a_this_laid a_this_text a_this_read a_this_numbers a_this_where a_this_sorts a_this_tells a_this_undone a_this_parts a_this_goesWith a_this_with a_this_keeps z_letters z_at z_walked z_counts z_undos z_all z_planned z_scale z_least z_kept z_laid) s.heap) (k0 : Int32) (k1 : Int32) (x1 : Int32) (x2 : Int32) (x3 : Int32) (x4 : Int32) (x6 : Int32) (x7 : Int32) (Post : Int32 → Prop) (K : (Int32) → (Int32) → (Int32) → (Int32) → Prop) (E : (Int32) → (Int32) → Prop) (hKb : ∀ (x4 : Int32) (x5 : Int32) (x6 : Int32) (x7 : Int32) (ls : Array Slot), K x4 x5 x6 x7 → lv_has ls 13 [(0, .ref a_this), (1, .int x1), (2, .int x2), (3, .int x3), (4, .int x4), (5, .int x5), (6, .int x6), (7, .int x7)] → W p l e ({ frames := 1, cells := 0, slots := 0, locals := 25 } : Room) s m args below meth c s.heap [] 0 0 (MQ below (vp_Si Post) args s 0 0 (fun _ => False)) (F0 m 56 ls [])) (hE : ∀ (x5 : Int32) (x6 : Int32) (ls : Array Slot), E x5 x6 → lv_has ls 13 [(3, .int x3), (5, .int x5), (6, .int x6)] → W p l e ({ frames := 1, cells := 0, slots := 0, locals := 25 } : Room) s m args below meth c s.heap [] 0 0 (MQ below (vp_Si Post) args s 0 0 (fun _ => False)) (F0 m 231 ls [])) (ls : Array Slot) (hV : qv_X8_day_J199 k0 k1 x1 x2 x3 x4 x6 x7 z_laid Post K E) (hl : lv_has ls 13 [(0, .ref a_this), (1, .int x1), (2, .int x2), (3, .int x3), (4, .int x4), (6, .int x6), (7, .int x7)]) : W p l e ({ frames := 1, cells := 0, slots := 0, locals := 25 } : Room) s m args below meth c s.heap [] 0 0 (MQ below (vp_Si Post) args s 0 0 (fun _ => False)) (F0 m 199 ls [.int k1, .int k0]) := by
  obtain ⟨hx, hb, hr, hml, hown, hts, hlocks⟩ := id C0
  refine lv_iadd hx hb dX8_day_199 ?_
  refine lv_istore (lv' := [(5, .int (k0 + k1)), (0, .ref a_this), (1, .int x1), (2, .int x2), (3, .int x3), (4, .int x4), (6, .int x6), (7, .int x7)]) hx hb dX8_day_200 hl (by decide) rfl (fun ls hl => ?_)
  refine lv_iload hx hb dX8_day_202 (lv_at hl 5 rfl) ?_
  refine lv_if_eq (tgt := 222) hx hb dX8_day_204 (by decide) (fun c16 => ?_) (fun c16 => ?_)
  · have hV := hV.1 c16
    refine lv_iconst (v := (0 : Int32)) hx hb dX8_day_222 (by decide) ?_
    refine lv_istore (lv' := [(4, .int (0 : Int32)), (5, .int (k0 + k1)), (0, .ref a_this), (1, .int x1), (2, .int x2), (3, .int x3), (6, .int x6), (7, .int x7)]) hx hb dX8_day_223 hl (by decide) rfl (fun ls hl => ?_)
    refine lv_iinc (v := (x7 + (1 : Int32))) (lv' := [(7, .int (x7 + (1 : Int32))), (4, .int (0 : Int32)), (5, .int (k0 + k1)), (0, .ref a_this), (1, .int x1), (2, .int x2), (3, .int x3), (6, .int x6)]) hx hb dX8_day_225 hl (k := 7) rfl rfl (by decide) rfl (fun ls hl => ?_)
    refine lv_goto (tgt := 56) hx hb dX8_day_228 (by decide) ?_
    exact hKb (0 : Int32) (k0 + k1) x6 (x7 + (1 : Int32)) ls hV (lv_sub hl [3, 4, 5, 6, 1, 2, 7, 0] rfl)
  · have hV := hV.2 c16
    refine lv_iload_n hx hb dX8_day_207 rfl (lv_at hl 3 rfl) ?_
    refine lv_iload hx hb dX8_day_208 (lv_at hl 7 rfl) ?_
    refine lv_iconst (v := (1 : Int32)) hx hb dX8_day_210 (by decide) ?_
    refine lv_isub hx hb dX8_day_211 ?_
    refine lv_ishr hx hb dX8_day_212 ?_
    refine lv_iconst (v := (1 : Int32)) hx hb dX8_day_213 (by decide) ?_
    refine lv_iand hx hb dX8_day_214 ?_
    refine lv_if_ne (tgt := 222) hx hb dX8_day_215 (by decide) (fun c17 => ?_) (fun c17 => ?_)
    · have hV := hV.2 c17
      refine lv_iconst (v := (0 : Int32)) hx hb dX8_day_222 (by decide) ?_
      refine lv_istore (lv' := [(4, .int (0 : Int32)), (5, .int (k0 + k1)), (0, .ref a_this), (1, .int x1), (2, .int x2), (3, .int x3), (6, .int x6), (7, .int x7)]) hx hb dX8_day_223 hl (by decide) rfl (fun ls hl => ?_)
      refine lv_iinc (v := (x7 + (1 : Int32))) (lv' := [(7, .int (x7 + (1 : Int32))), (4, .int (0 : Int32)), (5, .int (k0 + k1)), (0, .ref a_this), (1, .int x1), (2, .int x2), (3, .int x3), (6, .int x6)]) hx hb dX8_day_225 hl (k := 7) rfl rfl (by decide) rfl (fun ls hl => ?_)
      refine lv_goto (tgt := 56) hx hb dX8_day_228 (by decide) ?_
      exact hKb (0 : Int32) (k0 + k1) x6 (x7 + (1 : Int32)) ls hV (lv_sub hl [3, 4, 5, 6, 1, 2, 7, 0] rfl)
    · have hV := hV.1 c17
      refine lv_iconst (v := (1 : Int32)) hx hb dX8_day_218 (by decide) ?_
      refine lv_goto (tgt := 223) hx hb dX8_day_219 (by decide) ?_
      refine lv_istore (lv' := [(4, .int (1 : Int32)), (5, .int (k0 + k1)), (0, .ref a_this), (1, .int x1), (2, .int x2), (3, .int x3), (6, .int x6), (7, .int x7)]) hx hb dX8_day_223 hl (by decide) rfl (fun ls hl => ?_)
      refine lv_iinc (v := (x7 + (1 : Int32))) (lv' := [(7, .int (x7 + (1 : Int32))), (4, .int (1 : Int32)), (5, .int (k0 + k1)), (0, .ref a_this), (1, .int x1), (2, .int x2), (3, .int x3), (6, .int x6)]) hx hb dX8_day_225 hl (k := 7) rfl rfl (by decide) rfl (fun ls hl => ?_)
      refine lv_goto (tgt := 56) hx hb dX8_day_228 (by decide) ?_
      exact hKb (1 : Int32) (k0 + k1) x6 (x7 + (1 : Int32)) ls hV (lv_sub hl [3, 4, 5, 6, 1, 2, 7, 0] rfl)
def qv_X8_day_J180 (k0 : Int32) (x1 : Int32) (x2 : Int32) (x3 : Int32) (x5 : Int32) (x6 : Int32) (x7 : Int32) (z_laid : Nat → Int32) (Post : Int32 → Prop) (K : (Int32) → (Int32) → (Int32) → (Int32) → Prop) (E : (Int32) → (Int32) → Prop) : Prop := (k0 = (0 : Int32) → qv_X8_day_J199 x5 (0 : Int32) x1 x2 x3 k0 x6 x7 z_laid Post K E) ∧ (¬ k0 = (0 : Int32) → qv_X8_m x7 z_laid (fun r18 => qv_X8_day_J199 x5 r18 x1 x2 x3 k0 x6 x7 z_laid Post K E))
set_option maxHeartbeats 4000000 in
set_option maxRecDepth 100000 in
theorem qt_X8_day_J180 {p : Program} {l : Launch} {e : Env} {s : State} {m : MethodId} {args : Array Value} {below : List Frame} {meth : Method} {c : Code} {dC : Nat → ClassId} {dI : Nat → Nat → Nat} {cI cJ cC cG cW : ClassId} {a_this a_this_laid a_this_text a_this_read a_this_numbers a_this_where a_this_sorts a_this_tells a_this_undone a_this_parts a_this_goesWith a_this_with a_this_keeps : Nat} (C0 : MC cX8_day 13 (some .int) RX8 wsX8_day p s m args meth c) (hK : va_K (dC, dI) vwCl (tyL cI cJ cC cG cW) s) (hN : NW s) (z_letters : Int32) (z_at : Int32) (z_walked : Int32) (z_counts : Int32) (z_undos : Int32) (z_all : Int64) (z_planned : Int64) (z_scale : Int64) (z_least : Int32) (z_kept : Int32) (z_laid : Nat → Int32) (hP : va_P (dC, dI) vwCl (qw_X8_day cI cJ cC cG cW a_this a_this_laid a_this_text a_this_read a_this_numbers a_this_where a_this_sorts a_this_tells a_this_undone a_this_parts a_this_goesWith a_this_with a_this_keeps z_letters z_at z_walked z_counts z_undos z_all z_planned z_scale z_least z_kept z_laid) s.heap) (k0 : Int32) (x1 : Int32) (x2 : Int32) (x3 : Int32) (x5 : Int32) (x6 : Int32) (x7 : Int32) (Post : Int32 → Prop) (K : (Int32) → (Int32) → (Int32) → (Int32) → Prop) (E : (Int32) → (Int32) → Prop) (hKb : ∀ (x4 : Int32) (x5 : Int32) (x6 : Int32) (x7 : Int32) (ls : Array Slot), K x4 x5 x6 x7 → lv_has ls 13 [(0, .ref a_this), (1, .int x1), (2, .int x2), (3, .int x3), (4, .int x4), (5, .int x5), (6, .int x6), (7, .int x7)] → W p l e ({ frames := 1, cells := 0, slots := 0, locals := 25 } : Room) s m args below meth c s.heap [] 0 0 (MQ below (vp_Si Post) args s 0 0 (fun _ => False)) (F0 m 56 ls [])) (hE : ∀ (x5 : Int32) (x6 : Int32) (ls : Array Slot), E x5 x6 → lv_has ls 13 [(3, .int x3), (5, .int x5), (6, .int x6)] → W p l e ({ frames := 1, cells := 0, slots := 0, locals := 25 } : Room) s m args below meth c s.heap [] 0 0 (MQ below (vp_Si Post) args s 0 0 (fun _ => False)) (F0 m 231 ls [])) (ls : Array Slot) (hV : qv_X8_day_J180 k0 x1 x2 x3 x5 x6 x7 z_laid Post K E) (hl : lv_has ls 13 [(0, .ref a_this), (1, .int x1), (2, .int x2), (3, .int x3), (5, .int x5), (6, .int x6), (7, .int x7)]) : W p l e ({ frames := 1, cells := 0, slots := 0, locals := 25 } : Room) s m args below meth c s.heap [] 0 0 (MQ below (vp_Si Post) args s 0 0 (fun _ => False)) (F0 m 180 ls [.int k0]) := by
  obtain ⟨hx, hb, hr, hml, hown, hts, hlocks⟩ := id C0
  refine lv_istore (lv' := [(4, .int k0), (0, .ref a_this), (1, .int x1), (2, .int x2), (3, .int x3), (5, .int x5), (6, .int x6), (7, .int x7)]) hx hb dX8_day_180 hl (by decide) rfl (fun ls hl => ?_)
  refine lv_iload hx hb dX8_day_182 (lv_at hl 5 rfl) ?_
  refine lv_iload hx hb dX8_day_184 (lv_at hl 0 rfl) ?_
  refine lv_if_eq (tgt := 198) hx hb dX8_day_186 (by decide) (fun c15 => ?_) (fun c15 => ?_)
  · have hV := hV.1 c15
    refine lv_iconst (v := (0 : Int32)) hx hb dX8_day_198 (by decide) ?_
    exact qt_X8_day_J199 C0 hK hN z_letters z_at z_walked z_counts z_undos z_all z_planned z_scale z_least z_kept z_laid hP x5 (0 : Int32) x1 x2 x3 k0 x6 x7 _ _ _ hKb hE ls hV (lv_sub hl [1, 2, 3, 4, 0, 6, 7] rfl)
  · have hV := hV.2 c15
    refine lv_aload_n hx hb dX8_day_189 rfl (lv_at hl 1 rfl) ?_
    refine lv_iload hx hb dX8_day_190 (lv_at hl 7 rfl) ?_
    refine vp_callSi (va_Run.run (va_runV (As := [.int x7]) (rest := [.int x5]) ⟨hx, hb, hml, hown, hts⟩ (qm_X8_m l dC dI cI cJ cC cG cW a_this a_this_laid a_this_text a_this_read a_this_numbers a_this_where a_this_sorts a_this_tells a_this_undone a_this_parts a_this_goesWith a_this_with a_this_keeps z_letters z_at z_walked z_counts z_undos z_all z_planned z_scale z_least z_kept z_laid x7 _ hV) (cwV 1 hts gX8_day_X8_m rfl rfl rfl (by decide +kernel) ⟨Nat.le_of_ble_eq_true rfl, Nat.le_of_ble_eq_true rfl⟩) (preRV hK hN (show va_P (dC, dI) vwCl (qw_X8_m cI cJ cC cG cW a_this a_this_laid a_this_text a_this_read a_this_numbers a_this_where a_this_sorts a_this_tells a_this_undone a_this_parts a_this_goesWith a_this_with a_this_keeps z_letters z_at z_walked z_counts z_undos z_all z_planned z_scale z_least z_kept z_laid) s.heap from hP) rfl rfl) rfl rfl hl.1 rfl (lv_room (Nat.le_of_ble_eq_true rfl)) dX8_day_192 ⟨Nat.le_of_ble_eq_true rfl, Nat.le_of_ble_eq_true rfl⟩)) (fun r18 hV => ?_)
    refine lv_goto (tgt := 199) hx hb dX8_day_195 (by decide) ?_
    exact qt_X8_day_J199 C0 hK hN z_letters z_at z_walked z_counts z_undos z_all z_planned z_scale z_least z_kept z_laid hP x5 r18 x1 x2 x3 k0 x6 x7 _ _ _ hKb hE ls hV (lv_sub hl [1, 2, 3, 4, 0, 6, 7] rfl)
def qv_X8_day_J165 (k0 : Int32) (k1 : Int32) (x1 : Int32) (x2 : Int32) (x3 : Int32) (x4 : Int32) (x5 : Int32) (x7 : Int32) (x12 : Int32) (z_laid : Nat → Int32) (Post : Int32 → Prop) (K : (Int32) → (Int32) → (Int32) → (Int32) → Prop) (E : (Int32) → (Int32) → Prop) : Prop := (x12 = x4 → qv_X8_day_J180 (0 : Int32) x1 x2 x3 x5 (k0 + k1) x7 z_laid Post K E) ∧ (¬ x12 = x4 → qv_X8_day_J180 (1 : Int32) x1 x2 x3 x5 (k0 + k1) x7 z_laid Post K E)
set_option maxHeartbeats 4000000 in
set_option maxRecDepth 100000 in
theorem qt_X8_day_J165 {p : Program} {l : Launch} {e : Env} {s : State} {m : MethodId} {args : Array Value} {below : List Frame} {meth : Method} {c : Code} {dC : Nat → ClassId} {dI : Nat → Nat → Nat} {cI cJ cC cG cW : ClassId} {a_this a_this_laid a_this_text a_this_read a_this_numbers a_this_where a_this_sorts a_this_tells a_this_undone a_this_parts a_this_goesWith a_this_with a_this_keeps : Nat} (C0 : MC cX8_day 13 (some .int) RX8 wsX8_day p s m args meth c) (hK : va_K (dC, dI) vwCl (tyL cI cJ cC cG cW) s) (hN : NW s) (z_letters : Int32) (z_at : Int32) (z_walked : Int32) (z_counts : Int32) (z_undos : Int32) (z_all : Int64) (z_planned : Int64) (z_scale : Int64) (z_least : Int32) (z_kept : Int32) (z_laid : Nat → Int32) (hP : va_P (dC, dI) vwCl (qw_X8_day cI cJ cC cG cW a_this a_this_laid a_this_text a_this_read a_this_numbers a_this_where a_this_sorts a_this_tells a_this_undone a_this_parts a_this_goesWith a_this_with a_this_keeps z_letters z_at z_walked z_counts z_undos z_all z_planned z_scale z_least z_kept z_laid) s.heap) (k0 : Int32) (k1 : Int32) (x1 : Int32) (x2 : Int32) (x3 : Int32) (x4 : Int32) (x5 : Int32) (x7 : Int32) (x12 : Int32) (Post : Int32 → Prop) (K : (Int32) → (Int32) → (Int32) → (Int32) → Prop) (E : (Int32) → (Int32) → Prop) (hKb : ∀ (x4 : Int32) (x5 : Int32) (x6 : Int32) (x7 : Int32) (ls : Array Slot), K x4 x5 x6 x7 → lv_has ls 13 [(0, .ref a_this), (1, .int x1), (2, .int x2), (3, .int x3), (4, .int x4), (5, .int x5), (6, .int x6), (7, .int x7)] → W p l e ({ frames := 1, cells := 0, slots := 0, locals := 25 } : Room) s m args below meth c s.heap [] 0 0 (MQ below (vp_Si Post) args s 0 0 (fun _ => False)) (F0 m 56 ls [])) (hE : ∀ (x5 : Int32) (x6 : Int32) (ls : Array Slot), E x5 x6 → lv_has ls 13 [(3, .int x3), (5, .int x5), (6, .int x6)] → W p l e ({ frames := 1, cells := 0, slots := 0, locals := 25 } : Room) s m args below meth c s.heap [] 0 0 (MQ below (vp_Si Post) args s 0 0 (fun _ => False)) (F0 m 231 ls [])) (ls : Array Slot) (hV : qv_X8_day_J165 k0 k1 x1 x2 x3 x4 x5 x7 x12 z_laid Post K E) (hl : lv_has ls 13 [(0, .ref a_this), (1, .int x1), (2, .int x2), (3, .int x3), (4, .int x4), (5, .int x5), (7, .int x7), (12, .int x12)]) : W p l e ({ frames := 1, cells := 0, slots := 0, locals := 25 } : Room) s m args below meth c s.heap [] 0 0 (MQ below (vp_Si Post) args s 0 0 (fun _ => False)) (F0 m 165 ls [.int k1, .int k0]) := by
  obtain ⟨hx, hb, hr, hml, hown, hts, hlocks⟩ := id C0
  refine lv_iadd hx hb dX8_day_165 ?_
  refine lv_istore (lv' := [(6, .int (k0 + k1)), (0, .ref a_this), (1, .int x1), (2, .int x2), (3, .int x3), (4, .int x4), (5, .int x5), (7, .int x7), (12, .int x12)]) hx hb dX8_day_166 hl (by decide) rfl (fun ls hl => ?_)
  refine lv_iload hx hb dX8_day_168 (lv_at hl 8 rfl) ?_
  refine lv_iload hx hb dX8_day_170 (lv_at hl 5 rfl) ?_
  refine lv_icmp_eq (tgt := 179) hx hb dX8_day_172 (by decide) (fun c14 => ?_) (fun c14 => ?_)
  · have hV := hV.1 c14
    refine lv_iconst (v := (0 : Int32)) hx hb dX8_day_179 (by decide) ?_
    exact qt_X8_day_J180 C0 hK hN z_letters z_at z_walked z_counts z_undos z_all z_planned z_scale z_least z_kept z_laid hP (0 : Int32) x1 x2 x3 x5 (k0 + k1) x7 _ _ _ hKb hE ls hV (lv_sub hl [1, 2, 3, 4, 6, 0, 7] rfl)
  · have hV := hV.2 c14
    refine lv_iconst (v := (1 : Int32)) hx hb dX8_day_175 (by decide) ?_
    refine lv_goto (tgt := 180) hx hb dX8_day_176 (by decide) ?_
    exact qt_X8_day_J180 C0 hK hN z_letters z_at z_walked z_counts z_undos z_all z_planned z_scale z_least z_kept z_laid hP (1 : Int32) x1 x2 x3 x5 (k0 + k1) x7 _ _ _ hKb hE ls hV (lv_sub hl [1, 2, 3, 4, 6, 0, 7] rfl)
def qv_X8_day_J146 (k0 : Int32) (x1 : Int32) (x2 : Int32) (x3 : Int32) (x4 : Int32) (x5 : Int32) (x6 : Int32) (x7 : Int32) (z_laid : Nat → Int32) (Post : Int32 → Prop) (K : (Int32) → (Int32) → (Int32) → (Int32) → Prop) (E : (Int32) → (Int32) → Prop) : Prop := (k0 = (0 : Int32) → qv_X8_day_J165 x6 (0 : Int32) x1 x2 x3 x4 x5 x7 k0 z_laid Post K E) ∧ (¬ k0 = (0 : Int32) → (x4 = (0 : Int32) → qv_X8_day_J165 x6 (1 : Int32) x1 x2 x3 x4 x5 x7 k0 z_laid Post K E) ∧ (¬ x4 = (0 : Int32) → qv_X8_day_J165 x6 (0 : Int32) x1 x2 x3 x4 x5 x7 k0 z_laid Post K E))
set_option maxHeartbeats 4000000 in
set_option maxRecDepth 100000 in
theorem qt_X8_day_J146 {p : Program} {l : Launch} {e : Env} {s : State} {m : MethodId} {args : Array Value} {below : List Frame} {meth : Method} {c : Code} {dC : Nat → ClassId} {dI : Nat → Nat → Nat} {cI cJ cC cG cW : ClassId} {a_this a_this_laid a_this_text a_this_read a_this_numbers a_this_where a_this_sorts a_this_tells a_this_undone a_this_parts a_this_goesWith a_this_with a_this_keeps : Nat} (C0 : MC cX8_day 13 (some .int) RX8 wsX8_day p s m args meth c) (hK : va_K (dC, dI) vwCl (tyL cI cJ cC cG cW) s) (hN : NW s) (z_letters : Int32) (z_at : Int32) (z_walked : Int32) (z_counts : Int32) (z_undos : Int32) (z_all : Int64) (z_planned : Int64) (z_scale : Int64) (z_least : Int32) (z_kept : Int32) (z_laid : Nat → Int32) (hP : va_P (dC, dI) vwCl (qw_X8_day cI cJ cC cG cW a_this a_this_laid a_this_text a_this_read a_this_numbers a_this_where a_this_sorts a_this_tells a_this_undone a_this_parts a_this_goesWith a_this_with a_this_keeps z_letters z_at z_walked z_counts z_undos z_all z_planned z_scale z_least z_kept z_laid) s.heap) (k0 : Int32) (x1 : Int32) (x2 : Int32) (x3 : Int32) (x4 : Int32) (x5 : Int32) (x6 : Int32) (x7 : Int32) (Post : Int32 → Prop) (K : (Int32) → (Int32) → (Int32) → (Int32) → Prop) (E : (Int32) → (Int32) → Prop) (hKb : ∀ (x4 : Int32) (x5 : Int32) (x6 : Int32) (x7 : Int32) (ls : Array Slot), K x4 x5 x6 x7 → lv_has ls 13 [(0, .ref a_this), (1, .int x1), (2, .int x2), (3, .int x3), (4, .int x4), (5, .int x5), (6, .int x6), (7, .int x7)] → W p l e ({ frames := 1, cells := 0, slots := 0, locals := 25 } : Room) s m args below meth c s.heap [] 0 0 (MQ below (vp_Si Post) args s 0 0 (fun _ => False)) (F0 m 56 ls [])) (hE : ∀ (x5 : Int32) (x6 : Int32) (ls : Array Slot), E x5 x6 → lv_has ls 13 [(3, .int x3), (5, .int x5), (6, .int x6)] → W p l e ({ frames := 1, cells := 0, slots := 0, locals := 25 } : Room) s m args below meth c s.heap [] 0 0 (MQ below (vp_Si Post) args s 0 0 (fun _ => False)) (F0 m 231 ls [])) (ls : Array Slot) (hV : qv_X8_day_J146 k0 x1 x2 x3 x4 x5 x6 x7 z_laid Post K E) (hl : lv_has ls 13 [(0, .ref a_this), (1, .int x1), (2, .int x2), (3, .int x3), (4, .int x4), (5, .int x5), (6, .int x6), (7, .int x7)]) : W p l e ({ frames := 1, cells := 0, slots := 0, locals := 25 } : Room) s m args below meth c s.heap [] 0 0 (MQ below (vp_Si Post) args s 0 0 (fun _ => False)) (F0 m 146 ls [.int k0]) := by
  obtain ⟨hx, hb, hr, hml, hown, hts, hlocks⟩ := id C0
  refine lv_istore (lv' := [(12, .int k0), (0, .ref a_this), (1, .int x1), (2, .int x2), (3, .int x3), (4, .int x4), (5, .int x5), (6, .int x6), (7, .int x7)]) hx hb dX8_day_146 hl (by decide) rfl (fun ls hl => ?_)
  refine lv_iload hx hb dX8_day_148 (lv_at hl 7 rfl) ?_
  refine lv_iload hx hb dX8_day_150 (lv_at hl 0 rfl) ?_
  refine lv_if_eq (tgt := 164) hx hb dX8_day_152 (by decide) (fun c13 => ?_) (fun c13 => ?_)
  · have hV := hV.1 c13
    refine lv_iconst (v := (0 : Int32)) hx hb dX8_day_164 (by decide) ?_
    exact qt_X8_day_J165 C0 hK hN z_letters z_at z_walked z_counts z_undos z_all z_planned z_scale z_least z_kept z_laid hP x6 (0 : Int32) x1 x2 x3 x4 x5 x7 k0 _ _ _ hKb hE ls hV (lv_sub hl [1, 2, 3, 4, 5, 6, 8, 0] rfl)
  · have hV := hV.2 c13
    refine lv_iload hx hb dX8_day_155 (lv_at hl 5 rfl) ?_
    refine lv_if_ne (tgt := 164) hx hb dX8_day_157 (by decide) (fun c19 => ?_) (fun c19 => ?_)
    · have hV := hV.2 c19
      refine lv_iconst (v := (0 : Int32)) hx hb dX8_day_164 (by decide) ?_
      exact qt_X8_day_J165 C0 hK hN z_letters z_at z_walked z_counts z_undos z_all z_planned z_scale z_least z_kept z_laid hP x6 (0 : Int32) x1 x2 x3 x4 x5 x7 k0 _ _ _ hKb hE ls hV (lv_sub hl [1, 2, 3, 4, 5, 6, 8, 0] rfl)
    · have hV := hV.1 c19
      refine lv_iconst (v := (1 : Int32)) hx hb dX8_day_160 (by decide) ?_
      refine lv_goto (tgt := 165) hx hb dX8_day_161 (by decide) ?_
      exact qt_X8_day_J165 C0 hK hN z_letters z_at z_walked z_counts z_undos z_all z_planned z_scale z_least z_kept z_laid hP x6 (1 : Int32) x1 x2 x3 x4 x5 x7 k0 _ _ _ hKb hE ls hV (lv_sub hl [1, 2, 3, 4, 5, 6, 8, 0] rfl)
def qv_X8_day_J136 (k0 : Int64) (k1 : Int32) (x1 : Int32) (x2 : Int32) (x3 : Int32) (x4 : Int32) (x5 : Int32) (x6 : Int32) (x7 : Int32) (z_laid : Nat → Int32) (Post : Int32 → Prop) (K : (Int32) → (Int32) → (Int32) → (Int32) → Prop) (E : (Int32) → (Int32) → Prop) : Prop := ((k1.toInt64) ≤ k0 → qv_X8_day_J146 (0 : Int32) x1 x2 x3 x4 x5 x6 x7 z_laid Post K E) ∧ (¬ (k1.toInt64) ≤ k0 → qv_X8_day_J146 (1 : Int32) x1 x2 x3 x4 x5 x6 x7 z_laid Post K E)
set_option maxHeartbeats 4000000 in
set_option maxRecDepth 100000 in
theorem qt_X8_day_J136 {p : Program} {l : Launch} {e : Env} {s : State} {m : MethodId} {args : Array Value} {below : List Frame} {meth : Method} {c : Code} {dC : Nat → ClassId} {dI : Nat → Nat → Nat} {cI cJ cC cG cW : ClassId} {a_this a_this_laid a_this_text a_this_read a_this_numbers a_this_where a_this_sorts a_this_tells a_this_undone a_this_parts a_this_goesWith a_this_with a_this_keeps : Nat} (C0 : MC cX8_day 13 (some .int) RX8 wsX8_day p s m args meth c) (hK : va_K (dC, dI) vwCl (tyL cI cJ cC cG cW) s) (hN : NW s) (z_letters : Int32) (z_at : Int32) (z_walked : Int32) (z_counts : Int32) (z_undos : Int32) (z_all : Int64) (z_planned : Int64) (z_scale : Int64) (z_least : Int32) (z_kept : Int32) (z_laid : Nat → Int32) (hP : va_P (dC, dI) vwCl (qw_X8_day cI cJ cC cG cW a_this a_this_laid a_this_text a_this_read a_this_numbers a_this_where a_this_sorts a_this_tells a_this_undone a_this_parts a_this_goesWith a_this_with a_this_keeps z_letters z_at z_walked z_counts z_undos z_all z_planned z_scale z_least z_kept z_laid) s.heap) (k0 : Int64) (k1 : Int32) (x1 : Int32) (x2 : Int32) (x3 : Int32) (x4 : Int32) (x5 : Int32) (x6 : Int32) (x7 : Int32) (Post : Int32 → Prop) (K : (Int32) → (Int32) → (Int32) → (Int32) → Prop) (E : (Int32) → (Int32) → Prop) (hKb : ∀ (x4 : Int32) (x5 : Int32) (x6 : Int32) (x7 : Int32) (ls : Array Slot), K x4 x5 x6 x7 → lv_has ls 13 [(0, .ref a_this), (1, .int x1), (2, .int x2), (3, .int x3), (4, .int x4), (5, .int x5), (6, .int x6), (7, .int x7)] → W p l e ({ frames := 1, cells := 0, slots := 0, locals := 25 } : Room) s m args below meth c s.heap [] 0 0 (MQ below (vp_Si Post) args s 0 0 (fun _ => False)) (F0 m 56 ls [])) (hE : ∀ (x5 : Int32) (x6 : Int32) (ls : Array Slot), E x5 x6 → lv_has ls 13 [(3, .int x3), (5, .int x5), (6, .int x6)] → W p l e ({ frames := 1, cells := 0, slots := 0, locals := 25 } : Room) s m args below meth c s.heap [] 0 0 (MQ below (vp_Si Post) args s 0 0 (fun _ => False)) (F0 m 231 ls [])) (ls : Array Slot) (hV : qv_X8_day_J136 k0 k1 x1 x2 x3 x4 x5 x6 x7 z_laid Post K E) (hl : lv_has ls 13 [(0, .ref a_this), (1, .int x1), (2, .int x2), (3, .int x3), (4, .int x4), (5, .int x5), (6, .int x6), (7, .int x7)]) : W p l e ({ frames := 1, cells := 0, slots := 0, locals := 25 } : Room) s m args below meth c s.heap [] 0 0 (MQ below (vp_Si Post) args s 0 0 (fun _ => False)) (F0 m 136 ls [.int k1, .long k0]) := by
  obtain ⟨hx, hb, hr, hml, hown, hts, hlocks⟩ := id C0
  refine lv_i2l hx hb dX8_day_136 rfl ?_
  refine W.lcmp hx hb dX8_day_137 ?_
  refine lv_if_ge (tgt := 145) hx hb dX8_day_138 (by decide) (fun c12 => ?_) (fun c12 => ?_)
  · have c12 := (lg_cmp_ge _ _).mp c12
    have hV := hV.1 c12
    refine lv_iconst (v := (0 : Int32)) hx hb dX8_day_145 (by decide) ?_
    exact qt_X8_day_J146 C0 hK hN z_letters z_at z_walked z_counts z_undos z_all z_planned z_scale z_least z_kept z_laid hP (0 : Int32) x1 x2 x3 x4 x5 x6 x7 _ _ _ hKb hE ls hV (lv_sub hl [0, 1, 2, 3, 4, 5, 6, 7] rfl)
  · have c12 := fun h => c12 ((lg_cmp_ge _ _).mpr h)
    have hV := hV.2 c12
    refine lv_iconst (v := (1 : Int32)) hx hb dX8_day_141 (by decide) ?_
    refine lv_goto (tgt := 146) hx hb dX8_day_142 (by decide) ?_
    exact qt_X8_day_J146 C0 hK hN z_letters z_at z_walked z_counts z_undos z_all z_planned z_scale z_least z_kept z_laid hP (1 : Int32) x1 x2 x3 x4 x5 x6 x7 _ _ _ hKb hE ls hV (lv_sub hl [0, 1, 2, 3, 4, 5, 6, 7] rfl)
def qv_X8_day_L56 (x1 : Int32) (x2 : Int32) (x3 : Int32) (z_laid : Nat → Int32) (Post : Int32 → Prop) (E : (Int32) → (Int32) → Prop) : Nat → (Int32) → (Int32) → (Int32) → (Int32) → Prop
  | 0, _, _, _, _ => False
  | n + 1, x4, x5, x6, x7 => vp_in (0 : Int32) 73 ∧ (((z_laid (0 : Int32).toNatClampNeg) < x7 → E x5 x6) ∧ (¬ (z_laid (0 : Int32).toNatClampNeg) < x7 → (x4 = (0 : Int32) → vp_in ((3 : Int32) + ((3 : Int32) * x7)) 73 ∧ (qv_X8_day_J136 ((((((((7919 : Int64) * (x1.toInt64)) + ((6151 : Int64) * (x7.toInt64))) + (1 : Int64)) * ((((7919 : Int64) * (x1.toInt64)) + ((6151 : Int64) * (x7.toInt64))) + (1 : Int64))) - (((((7919 : Int64) * (x1.toInt64)) + ((6151 : Int64) * (x7.toInt64))) + (1 : Int64)) * ((((7919 : Int64) * (x1.toInt64)) + ((6151 : Int64) * (x7.toInt64))) + (1 : Int64))) / (65521 : Int64) * (65521 : Int64)) / (8 : Int64)) - (((((((7919 : Int64) * (x1.toInt64)) + ((6151 : Int64) * (x7.toInt64))) + (1 : Int64)) * ((((7919 : Int64) * (x1.toInt64)) + ((6151 : Int64) * (x7.toInt64))) + (1 : Int64))) - (((((7919 : Int64) * (x1.toInt64)) + ((6151 : Int64) * (x7.toInt64))) + (1 : Int64)) * ((((7919 : Int64) * (x1.toInt64)) + ((6151 : Int64) * (x7.toInt64))) + (1 : Int64))) / (65521 : Int64) * (65521 : Int64)) / (8 : Int64)) / (10 : Int64) * (10 : Int64)) (z_laid ((3 : Int32) + ((3 : Int32) * x7)).toNatClampNeg) x1 x2 x3 x4 x5 x6 x7 z_laid Post (qv_X8_day_L56 x1 x2 x3 z_laid Post E n) E)) ∧ (¬ x4 = (0 : Int32) → vp_in ((4 : Int32) + ((3 : Int32) * x7)) 73 ∧ (qv_X8_day_J136 ((((((((7919 : Int64) * (x1.toInt64)) + ((6151 : Int64) * (x7.toInt64))) + (1 : Int64)) * ((((7919 : Int64) * (x1.toInt64)) + ((6151 : Int64) * (x7.toInt64))) + (1 : Int64))) - (((((7919 : Int64) * (x1.toInt64)) + ((6151 : Int64) * (x7.toInt64))) + (1 : Int64)) * ((((7919 : Int64) * (x1.toInt64)) + ((6151 : Int64) * (x7.toInt64))) + (1 : Int64))) / (65521 : Int64) * (65521 : Int64)) / (8 : Int64)) - (((((((7919 : Int64) * (x1.toInt64)) + ((6151 : Int64) * (x7.toInt64))) + (1 : Int64)) * ((((7919 : Int64) * (x1.toInt64)) + ((6151 : Int64) * (x7.toInt64))) + (1 : Int64))) - (((((7919 : Int64) * (x1.toInt64)) + ((6151 : Int64) * (x7.toInt64))) + (1 : Int64)) * ((((7919 : Int64) * (x1.toInt64)) + ((6151 : Int64) * (x7.toInt64))) + (1 : Int64))) / (65521 : Int64) * (65521 : Int64)) / (8 : Int64)) / (10 : Int64) * (10 : Int64)) (z_laid ((4 : Int32) + ((3 : Int32) * x7)).toNatClampNeg) x1 x2 x3 x4 x5 x6 x7 z_laid Post (qv_X8_day_L56 x1 x2 x3 z_laid Post E n) E))))
set_option maxHeartbeats 4000000 in
set_option maxRecDepth 100000 in
theorem qt_X8_day_L56 {p : Program} {l : Launch} {e : Env} {s : State} {m : MethodId} {args : Array Value} {below : List Frame} {meth : Method} {c : Code} {dC : Nat → ClassId} {dI : Nat → Nat → Nat} {cI cJ cC cG cW : ClassId} {a_this a_this_laid a_this_text a_this_read a_this_numbers a_this_where a_this_sorts a_this_tells a_this_undone a_this_parts a_this_goesWith a_this_with a_this_keeps : Nat} (C0 : MC cX8_day 13 (some .int) RX8 wsX8_day p s m args meth c) (hK : va_K (dC, dI) vwCl (tyL cI cJ cC cG cW) s) (hN : NW s) (z_letters : Int32) (z_at : Int32) (z_walked : Int32) (z_counts : Int32) (z_undos : Int32) (z_all : Int64) (z_planned : Int64) (z_scale : Int64) (z_least : Int32) (z_kept : Int32) (z_laid : Nat → Int32) (hP : va_P (dC, dI) vwCl (qw_X8_day cI cJ cC cG cW a_this a_this_laid a_this_text a_this_read a_this_numbers a_this_where a_this_sorts a_this_tells a_this_undone a_this_parts a_this_goesWith a_this_with a_this_keeps z_letters z_at z_walked z_counts z_undos z_all z_planned z_scale z_least z_kept z_laid) s.heap) (x1 : Int32) (x2 : Int32) (x3 : Int32) (Post : Int32 → Prop) (E : (Int32) → (Int32) → Prop) (hE : ∀ (x5 : Int32) (x6 : Int32) (ls : Array Slot), E x5 x6 → lv_has ls 13 [(3, .int x3), (5, .int x5), (6, .int x6)] → W p l e ({ frames := 1, cells := 0, slots := 0, locals := 25 } : Room) s m args below meth c s.heap [] 0 0 (MQ below (vp_Si Post) args s 0 0 (fun _ => False)) (F0 m 231 ls [])) : ∀ (n : Nat) (x4 : Int32) (x5 : Int32) (x6 : Int32) (x7 : Int32) (ls : Array Slot), qv_X8_day_L56 x1 x2 x3 z_laid Post E n x4 x5 x6 x7 → lv_has ls 13 [(0, .ref a_this), (1, .int x1), (2, .int x2), (3, .int x3), (4, .int x4), (5, .int x5), (6, .int x6), (7, .int x7)] → W p l e ({ frames := 1, cells := 0, slots := 0, locals := 25 } : Room) s m args below meth c s.heap [] 0 0 (MQ below (vp_Si Post) args s 0 0 (fun _ => False)) (F0 m 56 ls []) := by
  obtain ⟨hx, hb, hr, hml, hown, hts, hlocks⟩ := id C0
  intro n
  induction n with
  | zero =>
    intro x4 x5 x6 x7 ls hV
    exact False.elim hV
  | succ n ih =>
    intro x4 x5 x6 x7 ls hV hl
    refine lv_iload hx hb dX8_day_56 (lv_at hl 7 rfl) ?_
    refine lv_aload_n hx hb dX8_day_58 rfl (lv_at hl 0 rfl) ?_
    refine va_get (D := (dC, dI)) (ci := 8) (v := .ref a_this_laid) (C := RX8) (T := TX8) (N := 22) hx hb hts qi_X8_day_X8 hown hK hP 0 rfl rfl 0 (by decide) (hts _ ql_X8_day_7) (fun _ h9 => h9) rfl dX8_day_59 ?_
    refine lv_iconst (v := (0 : Int32)) hx hb dX8_day_62 (by decide) ?_
    obtain ⟨h8, hV⟩ := hV
    refine va_iald hx hb hK hP 1 0 rfl rfl h8 dX8_day_63 ?_
    refine lv_icmp_gt (tgt := 231) hx hb dX8_day_64 (by decide) (fun c9 => ?_) (fun c9 => ?_)
    · have hV := hV.1 c9
      exact hE x5 x6 ls hV (lv_sub hl [3, 5, 6] rfl)
    · have hV := hV.2 c9
      refine lv_ldc2 (v := (7919 : Int64)) hx hb hown (hts _ ql_X8_day_208) dX8_day_67 ?_
      refine lv_iload_n hx hb dX8_day_70 rfl (lv_at hl 1 rfl) ?_
      refine lv_i2l hx hb dX8_day_71 rfl ?_
      refine lv_lmul hx hb dX8_day_72 ?_
      refine lv_ldc2 (v := (6151 : Int64)) hx hb hown (hts _ ql_X8_day_210) dX8_day_73 ?_
      refine lv_iload hx hb dX8_day_76 (lv_at hl 7 rfl) ?_
      refine lv_i2l hx hb dX8_day_78 rfl ?_
      refine lv_lmul hx hb dX8_day_79 ?_
      refine lv_ladd hx hb dX8_day_80 ?_
      refine lv_lconst (v := (1 : Int64)) hx hb dX8_day_81 (by decide) ?_
      refine lv_ladd hx hb dX8_day_82 ?_
      refine lv_lstore (lv' := [(8, .long ((((7919 : Int64) * (x1.toInt64)) + ((6151 : Int64) * (x7.toInt64))) + (1 : Int64))), (0, .ref a_this), (1, .int x1), (2, .int x2), (3, .int x3), (4, .int x4), (5, .int x5), (6, .int x6), (7, .int x7)]) hx hb dX8_day_83 hl (by decide) rfl (fun ls hl => ?_)
      refine lv_lload hx hb dX8_day_85 (lv_at hl 0 rfl) ?_
      refine lv_lload hx hb dX8_day_87 (lv_at hl 0 rfl) ?_
      refine lv_lmul hx hb dX8_day_89 ?_
      refine lv_ldc2 (v := (65521 : Int64)) hx hb hown (hts _ ql_X8_day_212) dX8_day_90 ?_
      refine lv_lrem hx hb dX8_day_93 (by decide) ?_
      refine lv_ldc2 (v := (8 : Int64)) hx hb hown (hts _ ql_X8_day_214) dX8_day_94 ?_
      refine lv_ldiv hx hb dX8_day_97 (by decide) ?_
      refine lv_ldc2 (v := (10 : Int64)) hx hb hown (hts _ ql_X8_day_167) dX8_day_98 ?_
      refine lv_lrem hx hb dX8_day_101 (by decide) ?_
      refine lv_lstore (lv' := [(10, .long ((((((((7919 : Int64) * (x1.toInt64)) + ((6151 : Int64) * (x7.toInt64))) + (1 : Int64)) * ((((7919 : Int64) * (x1.toInt64)) + ((6151 : Int64) * (x7.toInt64))) + (1 : Int64))) - (((((7919 : Int64) * (x1.toInt64)) + ((6151 : Int64) * (x7.toInt64))) + (1 : Int64)) * ((((7919 : Int64) * (x1.toInt64)) + ((6151 : Int64) * (x7.toInt64))) + (1 : Int64))) / (65521 : Int64) * (65521 : Int64)) / (8 : Int64)) - (((((((7919 : Int64) * (x1.toInt64)) + ((6151 : Int64) * (x7.toInt64))) + (1 : Int64)) * ((((7919 : Int64) * (x1.toInt64)) + ((6151 : Int64) * (x7.toInt64))) + (1 : Int64))) - (((((7919 : Int64) * (x1.toInt64)) + ((6151 : Int64) * (x7.toInt64))) + (1 : Int64)) * ((((7919 : Int64) * (x1.toInt64)) + ((6151 : Int64) * (x7.toInt64))) + (1 : Int64))) / (65521 : Int64) * (65521 : Int64)) / (8 : Int64)) / (10 : Int64) * (10 : Int64))), (8, .long ((((7919 : Int64) * (x1.toInt64)) + ((6151 : Int64) * (x7.toInt64))) + (1 : Int64))), (0, .ref a_this), (1, .int x1), (2, .int x2), (3, .int x3), (4, .int x4), (5, .int x5), (6, .int x6), (7, .int x7)]) hx hb dX8_day_102 hl (by decide) rfl (fun ls hl => ?_)
      refine lv_lload hx hb dX8_day_104 (lv_at hl 0 rfl) ?_
      refine lv_iload hx hb dX8_day_106 (lv_at hl 6 rfl) ?_
      refine lv_if_eq (tgt := 125) hx hb dX8_day_108 (by decide) (fun c10 => ?_) (fun c10 => ?_)
      · have hV := hV.1 c10
        refine lv_aload_n hx hb dX8_day_125 rfl (lv_at hl 2 rfl) ?_
        refine va_get (D := (dC, dI)) (ci := 8) (v := .ref a_this_laid) (C := RX8) (T := TX8) (N := 22) hx hb hts qi_X8_day_X8 hown hK hP 0 rfl rfl 0 (by decide) (hts _ ql_X8_day_7) (fun _ h9 => h9) rfl dX8_day_126 ?_
        refine lv_iconst (v := (3 : Int32)) hx hb dX8_day_129 (by decide) ?_
        refine lv_iconst (v := (3 : Int32)) hx hb dX8_day_130 (by decide) ?_
        refine lv_iload hx hb dX8_day_131 (lv_at hl 9 rfl) ?_
        refine lv_imul hx hb dX8_day_133 ?_
        refine lv_iadd hx hb dX8_day_134 ?_
        obtain ⟨h11, hV⟩ := hV
        refine va_iald hx hb hK hP 1 0 rfl rfl h11 dX8_day_135 ?_
        exact qt_X8_day_J136 C0 hK hN z_letters z_at z_walked z_counts z_undos z_all z_planned z_scale z_least z_kept z_laid hP ((((((((7919 : Int64) * (x1.toInt64)) + ((6151 : Int64) * (x7.toInt64))) + (1 : Int64)) * ((((7919 : Int64) * (x1.toInt64)) + ((6151 : Int64) * (x7.toInt64))) + (1 : Int64))) - (((((7919 : Int64) * (x1.toInt64)) + ((6151 : Int64) * (x7.toInt64))) + (1 : Int64)) * ((((7919 : Int64) * (x1.toInt64)) + ((6151 : Int64) * (x7.toInt64))) + (1 : Int64))) / (65521 : Int64) * (65521 : Int64)) / (8 : Int64)) - (((((((7919 : Int64) * (x1.toInt64)) + ((6151 : Int64) * (x7.toInt64))) + (1 : Int64)) * ((((7919 : Int64) * (x1.toInt64)) + ((6151 : Int64) * (x7.toInt64))) + (1 : Int64))) - (((((7919 : Int64) * (x1.toInt64)) + ((6151 : Int64) * (x7.toInt64))) + (1 : Int64)) * ((((7919 : Int64) * (x1.toInt64)) + ((6151 : Int64) * (x7.toInt64))) + (1 : Int64))) / (65521 : Int64) * (65521 : Int64)) / (8 : Int64)) / (10 : Int64) * (10 : Int64)) (z_laid ((3 : Int32) + ((3 : Int32) * x7)).toNatClampNeg) x1 x2 x3 x4 x5 x6 x7 _ _ _ ih hE ls hV (lv_sub hl [2, 3, 4, 5, 6, 7, 8, 9] rfl)
      · have hV := hV.2 c10
        refine lv_aload_n hx hb dX8_day_111 rfl (lv_at hl 2 rfl) ?_
        refine va_get (D := (dC, dI)) (ci := 8) (v := .ref a_this_laid) (C := RX8) (T := TX8) (N := 22) hx hb hts qi_X8_day_X8 hown hK hP 0 rfl rfl 0 (by decide) (hts _ ql_X8_day_7) (fun _ h9 => h9) rfl dX8_day_112 ?_
        refine lv_iconst (v := (4 : Int32)) hx hb dX8_day_115 (by decide) ?_
        refine lv_iconst (v := (3 : Int32)) hx hb dX8_day_116 (by decide) ?_
        refine lv_iload hx hb dX8_day_117 (lv_at hl 9 rfl) ?_
        refine lv_imul hx hb dX8_day_119 ?_
        refine lv_iadd hx hb dX8_day_120 ?_
        obtain ⟨h20, hV⟩ := hV
        refine va_iald hx hb hK hP 1 0 rfl rfl h20 dX8_day_121 ?_
        refine lv_goto (tgt := 136) hx hb dX8_day_122 (by decide) ?_
        exact qt_X8_day_J136 C0 hK hN z_letters z_at z_walked z_counts z_undos z_all z_planned z_scale z_least z_kept z_laid hP ((((((((7919 : Int64) * (x1.toInt64)) + ((6151 : Int64) * (x7.toInt64))) + (1 : Int64)) * ((((7919 : Int64) * (x1.toInt64)) + ((6151 : Int64) * (x7.toInt64))) + (1 : Int64))) - (((((7919 : Int64) * (x1.toInt64)) + ((6151 : Int64) * (x7.toInt64))) + (1 : Int64)) * ((((7919 : Int64) * (x1.toInt64)) + ((6151 : Int64) * (x7.toInt64))) + (1 : Int64))) / (65521 : Int64) * (65521 : Int64)) / (8 : Int64)) - (((((((7919 : Int64) * (x1.toInt64)) + ((6151 : Int64) * (x7.toInt64))) + (1 : Int64)) * ((((7919 : Int64) * (x1.toInt64)) + ((6151 : Int64) * (x7.toInt64))) + (1 : Int64))) - (((((7919 : Int64) * (x1.toInt64)) + ((6151 : Int64) * (x7.toInt64))) + (1 : Int64)) * ((((7919 : Int64) * (x1.toInt64)) + ((6151 : Int64) * (x7.toInt64))) + (1 : Int64))) / (65521 : Int64) * (65521 : Int64)) / (8 : Int64)) / (10 : Int64) * (10 : Int64)) (z_laid ((4 : Int32) + ((3 : Int32) * x7)).toNatClampNeg) x1 x2 x3 x4 x5 x6 x7 _ _ _ ih hE ls hV (lv_sub hl [2, 3, 4, 5, 6, 7, 8, 9] rfl)
def qv_X8_day (x1 : Int32) (x2 : Int32) (x3 : Int32) (z_laid : Nat → Int32) (Post : Int32 → Prop) : Prop := qv_X8_in (x1.toInt64) (0 : Int64) (9999 : Int64) (fun r1 => (r1 = (0 : Int32) → Post (-1 : Int32)) ∧ (¬ r1 = (0 : Int32) → vp_in (0 : Int32) 73 ∧ (qv_X8_in (x2.toInt64) (0 : Int64) ((((1 : Int32) <<< ((z_laid (0 : Int32).toNatClampNeg) &&& 31)) - (1 : Int32)).toInt64) (fun r4 => (r4 = (0 : Int32) → Post (-1 : Int32)) ∧ (¬ r4 = (0 : Int32) → qv_X8_in (x3.toInt64) (0 : Int64) (1 : Int64) (fun r6 => (r6 = (0 : Int32) → Post (-1 : Int32)) ∧ (¬ r6 = (0 : Int32) → ∃ n21, qv_X8_day_L56 x1 x2 x3 z_laid Post (fun x5_21 x6_21 => (x3 = (0 : Int32) → Post x5_21) ∧ (¬ x3 = (0 : Int32) → Post x6_21)) n21 (0 : Int32) (0 : Int32) (0 : Int32) (1 : Int32))))))))
set_option maxHeartbeats 4000000 in
set_option maxRecDepth 100000 in
theorem qm_X8_day (l : Launch) (dC : Nat → ClassId) (dI : Nat → Nat → Nat) (cI cJ cC cG cW : ClassId) (a_this a_this_laid a_this_text a_this_read a_this_numbers a_this_where a_this_sorts a_this_tells a_this_undone a_this_parts a_this_goesWith a_this_with a_this_keeps : Nat) (z_letters : Int32) (z_at : Int32) (z_walked : Int32) (z_counts : Int32) (z_undos : Int32) (z_all : Int64) (z_planned : Int64) (z_scale : Int64) (z_least : Int32) (z_kept : Int32) (z_laid : Nat → Int32) (x1 : Int32) (x2 : Int32) (x3 : Int32) (Post : Int32 → Prop) (hV : qv_X8_day x1 x2 x3 z_laid Post) : Met l yX8_day wsX8_day ({ frames := 1, cells := 0, slots := 0, locals := 25 } : Room) (va_Pc [.ref a_this, .int x1, .int x2, .int x3] (prR (dC, dI) (qw_X8_day cI cJ cC cG cW a_this a_this_laid a_this_text a_this_read a_this_numbers a_this_where a_this_sorts a_this_tells a_this_undone a_this_parts a_this_goesWith a_this_with a_this_keeps z_letters z_at z_walked z_counts z_undos z_all z_planned z_scale z_least z_kept z_laid) (tyL cI cJ cC cG cW))) (vp_Si Post) 0 0 (fun _ => False) := by
  refine Met.ofR (nm := "day") (ds := "(III)I") (own := RX8) (maxL := 13) (cc := cX8_day) (ret := (some .int)) (by decide) rfl rfl (Nat.le_of_ble_eq_true rfl) (fun p e s m below meth c C0 hK hN hP ls hl => ?_)
  obtain ⟨hx, hb, hr, hml, hown, hts, hlocks⟩ := id C0
  have hl : lv_has ls 13 [(0, .ref a_this), (1, .int x1), (2, .int x2), (3, .int x3)] := hl
  refine lv_iload_n hx hb dX8_day_0 rfl (lv_at hl 1 rfl) ?_
  refine lv_i2l hx hb dX8_day_1 rfl ?_
  refine lv_lconst (v := (0 : Int64)) hx hb dX8_day_2 (by decide) ?_
  refine lv_ldc2 (v := (9999 : Int64)) hx hb hown (hts _ ql_X8_day_206) dX8_day_3 ?_
  refine vp_callSi (va_Run.run (va_runS (As := [.long (x1.toInt64), .long (0 : Int64), .long (9999 : Int64)]) (rest := []) ⟨hx, hb, hml, hown, hts⟩ (qm_X8_in l dC dI cI cJ cC cG cW (x1.toInt64) (0 : Int64) (9999 : Int64) _ hV) (va_cwS 3 hts gX8_day_X8_in rfl rfl rfl (by decide +kernel) ⟨Nat.le_of_ble_eq_true rfl, Nat.le_of_ble_eq_true rfl⟩) (preRS hK hN (show va_P (dC, dI) vwCl (qw_X8_in cI cJ cC cG cW) s.heap from fun k q h => by simp at h)) rfl rfl hl.1 rfl (lv_room (Nat.le_of_ble_eq_true rfl)) dX8_day_6 ⟨Nat.le_of_ble_eq_true rfl, Nat.le_of_ble_eq_true rfl⟩)) (fun r1 hV => ?_)
  refine lv_if_eq (tgt := 42) hx hb dX8_day_9 (by decide) (fun c2 => ?_) (fun c2 => ?_)
  · have hV := hV.1 c2
    refine lv_iconst (v := (-1 : Int32)) hx hb dX8_day_42 (by decide) ?_
    exact W.iret hx hb hr (fun t ht hW => ⟨_, rfl, hV, ht⟩) (fun q h => absurd h List.not_mem_nil) dX8_day_43 hlocks
  · have hV := hV.2 c2
    refine lv_iload_n hx hb dX8_day_12 rfl (lv_at hl 2 rfl) ?_
    refine lv_i2l hx hb dX8_day_13 rfl ?_
    refine lv_lconst (v := (0 : Int64)) hx hb dX8_day_14 (by decide) ?_
    refine lv_iconst (v := (1 : Int32)) hx hb dX8_day_15 (by decide) ?_
    refine lv_aload_n hx hb dX8_day_16 rfl (lv_at hl 0 rfl) ?_
    refine va_get (D := (dC, dI)) (ci := 8) (v := .ref a_this_laid) (C := RX8) (T := TX8) (N := 22) hx hb hts qi_X8_day_X8 hown hK hP 0 rfl rfl 0 (by decide) (hts _ ql_X8_day_7) (fun _ h9 => h9) rfl dX8_day_17 ?_
    refine lv_iconst (v := (0 : Int32)) hx hb dX8_day_20 (by decide) ?_
    obtain ⟨h3, hV⟩ := hV
    refine va_iald hx hb hK hP 1 0 rfl rfl h3 dX8_day_21 ?_
    refine lv_ishl hx hb dX8_day_22 ?_
    refine lv_iconst (v := (1 : Int32)) hx hb dX8_day_23 (by decide) ?_
    refine lv_isub hx hb dX8_day_24 ?_
    refine lv_i2l hx hb dX8_day_25 rfl ?_
    refine vp_callSi (va_Run.run (va_runS (As := [.long (x2.toInt64), .long (0 : Int64), .long ((((1 : Int32) <<< ((z_laid (0 : Int32).toNatClampNeg) &&& 31)) - (1 : Int32)).toInt64)]) (rest := []) ⟨hx, hb, hml, hown, hts⟩ (qm_X8_in l dC dI cI cJ cC cG cW (x2.toInt64) (0 : Int64) ((((1 : Int32) <<< ((z_laid (0 : Int32).toNatClampNeg) &&& 31)) - (1 : Int32)).toInt64) _ hV) (va_cwS 3 hts gX8_day_X8_in rfl rfl rfl (by decide +kernel) ⟨Nat.le_of_ble_eq_true rfl, Nat.le_of_ble_eq_true rfl⟩) (preRS hK hN (show va_P (dC, dI) vwCl (qw_X8_in cI cJ cC cG cW) s.heap from fun k q h => by simp at h)) rfl rfl hl.1 rfl (lv_room (Nat.le_of_ble_eq_true rfl)) dX8_day_26 ⟨Nat.le_of_ble_eq_true rfl, Nat.le_of_ble_eq_true rfl⟩)) (fun r4 hV => ?_)
    refine lv_if_eq (tgt := 42) hx hb dX8_day_29 (by decide) (fun c5 => ?_) (fun c5 => ?_)
    · have hV := hV.1 c5
      refine lv_iconst (v := (-1 : Int32)) hx hb dX8_day_42 (by decide) ?_
      exact W.iret hx hb hr (fun t ht hW => ⟨_, rfl, hV, ht⟩) (fun q h => absurd h List.not_mem_nil) dX8_day_43 hlocks
    · have hV := hV.2 c5
      refine lv_iload_n hx hb dX8_day_32 rfl (lv_at hl 3 rfl) ?_
      refine lv_i2l hx hb dX8_day_33 rfl ?_
      refine lv_lconst (v := (0 : Int64)) hx hb dX8_day_34 (by decide) ?_
      refine lv_lconst (v := (1 : Int64)) hx hb dX8_day_35 (by decide) ?_
      refine vp_callSi (va_Run.run (va_runS (As := [.long (x3.toInt64), .long (0 : Int64), .long (1 : Int64)]) (rest := []) ⟨hx, hb, hml, hown, hts⟩ (qm_X8_in l dC dI cI cJ cC cG cW (x3.toInt64) (0 : Int64) (1 : Int64) _ hV) (va_cwS 3 hts gX8_day_X8_in rfl rfl rfl (by decide +kernel) ⟨Nat.le_of_ble_eq_true rfl, Nat.le_of_ble_eq_true rfl⟩) (preRS hK hN (show va_P (dC, dI) vwCl (qw_X8_in cI cJ cC cG cW) s.heap from fun k q h => by simp at h)) rfl rfl hl.1 rfl (lv_room (Nat.le_of_ble_eq_true rfl)) dX8_day_36 ⟨Nat.le_of_ble_eq_true rfl, Nat.le_of_ble_eq_true rfl⟩)) (fun r6 hV => ?_)
      refine lv_if_ne (tgt := 44) hx hb dX8_day_39 (by decide) (fun c7 => ?_) (fun c7 => ?_)
      · have hV := hV.2 c7
        refine lv_iconst (v := (0 : Int32)) hx hb dX8_day_44 (by decide) ?_
        refine lv_istore (lv' := [(4, .int (0 : Int32)), (0, .ref a_this), (1, .int x1), (2, .int x2), (3, .int x3)]) hx hb dX8_day_45 hl (by decide) rfl (fun ls hl => ?_)
        refine lv_iconst (v := (0 : Int32)) hx hb dX8_day_47 (by decide) ?_
        refine lv_istore (lv' := [(5, .int (0 : Int32)), (4, .int (0 : Int32)), (0, .ref a_this), (1, .int x1), (2, .int x2), (3, .int x3)]) hx hb dX8_day_48 hl (by decide) rfl (fun ls hl => ?_)
        refine lv_iconst (v := (0 : Int32)) hx hb dX8_day_50 (by decide) ?_
        refine lv_istore (lv' := [(6, .int (0 : Int32)), (5, .int (0 : Int32)), (4, .int (0 : Int32)), (0, .ref a_this), (1, .int x1), (2, .int x2), (3, .int x3)]) hx hb dX8_day_51 hl (by decide) rfl (fun ls hl => ?_)
        refine lv_iconst (v := (1 : Int32)) hx hb dX8_day_53 (by decide) ?_
        refine lv_istore (lv' := [(7, .int (1 : Int32)), (6, .int (0 : Int32)), (5, .int (0 : Int32)), (4, .int (0 : Int32)), (0, .ref a_this), (1, .int x1), (2, .int x2), (3, .int x3)]) hx hb dX8_day_54 hl (by decide) rfl (fun ls hl => ?_)
        obtain ⟨n21, hV⟩ := hV
        refine qt_X8_day_L56 C0 hK hN z_letters z_at z_walked z_counts z_undos z_all z_planned z_scale z_least z_kept z_laid hP x1 x2 x3 _ _ (fun x5_21 x6_21 ls hV hl => ?_) n21 (0 : Int32) (0 : Int32) (0 : Int32) (1 : Int32) ls hV (lv_sub hl [4, 5, 6, 7, 3, 2, 1, 0] rfl)
        refine lv_iload_n hx hb dX8_day_231 rfl (lv_at hl 0 rfl) ?_
        refine lv_if_ne (tgt := 240) hx hb dX8_day_232 (by decide) (fun c22 => ?_) (fun c22 => ?_)
        · have hV := hV.2 c22
          refine lv_iload hx hb dX8_day_240 (lv_at hl 2 rfl) ?_
          exact W.iret hx hb hr (fun t ht hW => ⟨_, rfl, hV, ht⟩) (fun q h => absurd h List.not_mem_nil) dX8_day_242 hlocks
        · have hV := hV.1 c22
          refine lv_iload hx hb dX8_day_235 (lv_at hl 1 rfl) ?_
          refine lv_goto (tgt := 242) hx hb dX8_day_237 (by decide) ?_
          exact W.iret hx hb hr (fun t ht hW => ⟨_, rfl, hV, ht⟩) (fun q h => absurd h List.not_mem_nil) dX8_day_242 hlocks
      · have hV := hV.1 c7
        refine lv_iconst (v := (-1 : Int32)) hx hb dX8_day_42 (by decide) ?_
        exact W.iret hx hb hr (fun t ht hW => ⟨_, rfl, hV, ht⟩) (fun q h => absurd h List.not_mem_nil) dX8_day_43 hlocks

/-! StileCountsModel.keep()I -/
abbrev qw_X8_keep (cI cJ cC cG cW : ClassId) (a_this a_this_laid a_this_text a_this_read a_this_numbers a_this_where a_this_sorts a_this_tells a_this_undone a_this_parts a_this_goesWith a_this_with a_this_keeps : Nat) (z_letters : Int32) (z_at : Int32) (z_walked : Int32) (z_counts : Int32) (z_undos : Int32) (z_all : Int64) (z_planned : Int64) (z_scale : Int64) (z_least : Int32) (z_kept : Int32) (z_where : Nat → Int32) (z_sorts : Nat → Int32) (z_tells : Nat → Int32) (z_keeps : Nat → Int32) : va_W := [(a_this, .inr (8, [.ref a_this_laid, .ref a_this_text, .int z_letters, .ref a_this_read, .int z_at, .ref a_this_numbers, .int z_walked, .int z_counts, .ref a_this_where, .ref a_this_sorts, .ref a_this_tells, .int z_undos, .ref a_this_undone, .ref a_this_parts, .long z_all, .long z_planned, .long z_scale, .ref a_this_goesWith, .int z_least, .ref a_this_with, .int z_kept, .ref a_this_keeps])), (a_this_where, .inl (cI, 6, .inl z_where)), (a_this_sorts, .inl (cI, 6, .inl z_sorts)), (a_this_tells, .inl (cI, 6, .inl z_tells)), (a_this_keeps, .inl (cI, 40, .inl z_keeps))]
theorem qi_X8_keep_X8 : ∀ w ∈ wsX80, w ∈ wsX8_keep := by decide +kernel
theorem ql_X8_keep_120 : (.fieldLink RX8 120 "StileCountsModel" "kept" "I" : Cond) ∈ wsX8_keep := by decide +kernel
theorem ql_X8_keep_44 : (.fieldLink RX8 44 "StileCountsModel" "keeps" "[I" : Cond) ∈ wsX8_keep := by decide +kernel
theorem ql_X8_keep_111 : (.fieldLink RX8 111 "StileCountsModel" "walked" "I" : Cond) ∈ wsX8_keep := by decide +kernel
theorem ql_X8_keep_114 : (.fieldLink RX8 114 "StileCountsModel" "counts" "I" : Cond) ∈ wsX8_keep := by decide +kernel
theorem ql_X8_keep_22 : (.fieldLink RX8 22 "StileCountsModel" "where" "[I" : Cond) ∈ wsX8_keep := by decide +kernel
theorem ql_X8_keep_25 : (.fieldLink RX8 25 "StileCountsModel" "sorts" "[I" : Cond) ∈ wsX8_keep := by decide +kernel
theorem ql_X8_keep_28 : (.fieldLink RX8 28 "StileCountsModel" "tells" "[I" : Cond) ∈ wsX8_keep := by decide +kernel
def qv_X8_keep_L43 (x1 : Int32) (z_walked : Int32) (z_counts : Int32) (z_kept : Int32) (z_where : Nat → Int32) (z_sorts : Nat → Int32) (z_tells : Nat → Int32) (Post : Int32 → (Int32) → (Nat → Int32) → Prop) (E : (Nat → Int32) → Prop) : Nat → (Int32) → (Nat → Int32) → Prop
  | 0, _, _ => False
  | n + 1, x2, z_keeps => ((6 : Int32) ≤ x2 → E z_keeps) ∧ (¬ (6 : Int32) ≤ x2 → vp_in x2 6 ∧ (vp_in ((x1 + (2 : Int32)) + x2) 40 ∧ (vp_in x2 6 ∧ (vp_in ((x1 + (8 : Int32)) + x2) 40 ∧ (vp_in x2 6 ∧ (vp_in ((x1 + (14 : Int32)) + x2) 40 ∧ (qv_X8_keep_L43 x1 z_walked z_counts z_kept z_where z_sorts z_tells Post E n (x2 + (1 : Int32)) (upd (upd (upd z_keeps ((x1 + (2 : Int32)) + x2).toNatClampNeg (z_where x2.toNatClampNeg)) ((x1 + (8 : Int32)) + x2).toNatClampNeg (z_sorts x2.toNatClampNeg)) ((x1 + (14 : Int32)) + x2).toNatClampNeg (z_tells x2.toNatClampNeg)))))))))
set_option maxHeartbeats 4000000 in
set_option maxRecDepth 100000 in
theorem qt_X8_keep_L43 {p : Program} {l : Launch} {e : Env} {s : State} {m : MethodId} {args : Array Value} {below : List Frame} {meth : Method} {c : Code} {dC : Nat → ClassId} {dI : Nat → Nat → Nat} {cI cJ cC cG cW : ClassId} {a_this a_this_laid a_this_text a_this_read a_this_numbers a_this_where a_this_sorts a_this_tells a_this_undone a_this_parts a_this_goesWith a_this_with a_this_keeps : Nat} {A : Nat → Prop} (C0 : MC cX8_keep 3 (some .int) RX8 wsX8_keep p s m args meth c) (hK : va_K (dC, dI) vwCl (tyL cI cJ cC cG cW) s) (hN : NW s) (hA : ∀ q, s.heap.size ≤ q → A q) (z_letters : Int32) (z_at : Int32) (z_walked : Int32) (z_counts : Int32) (z_undos : Int32) (z_all : Int64) (z_planned : Int64) (z_scale : Int64) (z_least : Int32) (z_kept : Int32) (z_where : Nat → Int32) (z_sorts : Nat → Int32) (z_tells : Nat → Int32) (x1 : Int32) (Post : Int32 → (Int32) → (Nat → Int32) → Prop) (E : (Nat → Int32) → Prop) (hE : ∀ (z_keeps : Nat → Int32) (H : Heap) (locs : List Loc) (ls : Array Slot), E z_keeps → va_P (dC, dI) vwCl (qw_X8_keep cI cJ cC cG cW a_this a_this_laid a_this_text a_this_read a_this_numbers a_this_where a_this_sorts a_this_tells a_this_undone a_this_parts a_this_goesWith a_this_with a_this_keeps z_letters z_at z_walked z_counts z_undos z_all z_planned z_scale z_least z_kept z_where z_sorts z_tells z_keeps) H → va_D A (qw_X8_keep cI cJ cC cG cW a_this a_this_laid a_this_text a_this_read a_this_numbers a_this_where a_this_sorts a_this_tells a_this_undone a_this_parts a_this_goesWith a_this_with a_this_keeps z_letters z_at z_walked z_counts z_undos z_all z_planned z_scale z_least z_kept z_where z_sorts z_tells z_keeps) → va_S A s.heap H locs → lv_has ls 3 [(0, .ref a_this)] → W p l e ({ frames := 0, cells := 0, slots := 0, locals := 0 } : Room) s m args below meth c H locs 0 0 (MQ below (va_Qi (fun (r : Int32) (u : (Int32) × (Nat → Int32)) => Post r u.1 u.2) (fun u t => poW (dC, dI) (tyL cI cJ cC cG cW) A (qw_X8_keep cI cJ cC cG cW a_this a_this_laid a_this_text a_this_read a_this_numbers a_this_where a_this_sorts a_this_tells a_this_undone a_this_parts a_this_goesWith a_this_with a_this_keeps z_letters z_at z_walked z_counts z_undos z_all z_planned z_scale z_least u.1 z_where z_sorts z_tells u.2) t) A) args s 0 0 A) (F0 m 105 ls [])) : ∀ (n : Nat) (x2 : Int32) (z_keeps : Nat → Int32) (H : Heap) (locs : List Loc) (ls : Array Slot), qv_X8_keep_L43 x1 z_walked z_counts z_kept z_where z_sorts z_tells Post E n x2 z_keeps → va_P (dC, dI) vwCl (qw_X8_keep cI cJ cC cG cW a_this a_this_laid a_this_text a_this_read a_this_numbers a_this_where a_this_sorts a_this_tells a_this_undone a_this_parts a_this_goesWith a_this_with a_this_keeps z_letters z_at z_walked z_counts z_undos z_all z_planned z_scale z_least z_kept z_where z_sorts z_tells z_keeps) H → va_D A (qw_X8_keep cI cJ cC cG cW a_this a_this_laid a_this_text a_this_read a_this_numbers a_this_where a_this_sorts a_this_tells a_this_undone a_this_parts a_this_goesWith a_this_with a_this_keeps z_letters z_at z_walked z_counts z_undos z_all z_planned z_scale z_least z_kept z_where z_sorts z_tells z_keeps) → va_S A s.heap H locs → lv_has ls 3 [(0, .ref a_this), (1, .int x1), (2, .int x2)] → W p l e ({ frames := 0, cells := 0, slots := 0, locals := 0 } : Room) s m args below meth c H locs 0 0 (MQ below (va_Qi (fun (r : Int32) (u : (Int32) × (Nat → Int32)) => Post r u.1 u.2) (fun u t => poW (dC, dI) (tyL cI cJ cC cG cW) A (qw_X8_keep cI cJ cC cG cW a_this a_this_laid a_this_text a_this_read a_this_numbers a_this_where a_this_sorts a_this_tells a_this_undone a_this_parts a_this_goesWith a_this_with a_this_keeps z_letters z_at z_walked z_counts z_undos z_all z_planned z_scale z_least u.1 z_where z_sorts z_tells u.2) t) A) args s 0 0 A) (F0 m 43 ls []) := by
  obtain ⟨hx, hb, hr, hml, hown, hts, hlocks⟩ := id C0
  intro n
  induction n with
  | zero =>
    intro x2 z_keeps H locs ls hV
    exact False.elim hV
  | succ n ih =>
    intro x2 z_keeps H locs ls hV hP hD hS hl
    refine lv_iload_n hx hb dX8_keep_43 rfl (lv_at hl 2 rfl) ?_
    refine lv_bipush (v := (6 : Int32)) hx hb dX8_keep_44 (by decide) ?_
    refine lv_icmp_ge (tgt := 105) hx hb dX8_keep_46 (by decide) (fun c4 => ?_) (fun c4 => ?_)
    · have hV := hV.1 c4
      exact hE z_keeps H locs ls hV hP hD hS (lv_sub hl [0] rfl)
    · have hV := hV.2 c4
      refine lv_aload_n hx hb dX8_keep_49 rfl (lv_at hl 0 rfl) ?_
      refine va_get (D := (dC, dI)) (ci := 8) (v := .ref a_this_keeps) (C := RX8) (T := TX8) (N := 22) hx hb hts qi_X8_keep_X8 hown hK hP 0 rfl rfl 21 (by decide) (hts _ ql_X8_keep_44) (fun _ h9 => h9) rfl dX8_keep_50 ?_
      refine lv_iload_n hx hb dX8_keep_53 rfl (lv_at hl 1 rfl) ?_
      refine lv_iconst (v := (2 : Int32)) hx hb dX8_keep_54 (by decide) ?_
      refine lv_iadd hx hb dX8_keep_55 ?_
      refine lv_iload_n hx hb dX8_keep_56 rfl (lv_at hl 2 rfl) ?_
      refine lv_iadd hx hb dX8_keep_57 ?_
      refine lv_aload_n hx hb dX8_keep_58 rfl (lv_at hl 0 rfl) ?_
      refine va_get (D := (dC, dI)) (ci := 8) (v := .ref a_this_where) (C := RX8) (T := TX8) (N := 22) hx hb hts qi_X8_keep_X8 hown hK hP 0 rfl rfl 8 (by decide) (hts _ ql_X8_keep_22) (fun _ h9 => h9) rfl dX8_keep_59 ?_
      refine lv_iload_n hx hb dX8_keep_62 rfl (lv_at hl 2 rfl) ?_
      obtain ⟨h5, hV⟩ := hV
      refine va_iald hx hb hK hP 1 0 rfl rfl h5 dX8_keep_63 ?_
      obtain ⟨h6, hV⟩ := hV
      refine va_iast hx hb hK hP hD hS 4 0 rfl rfl h6 dX8_keep_64 (fun H locs hP hD hS => ?_)
      have hP : va_P (dC, dI) vwCl (qw_X8_keep cI cJ cC cG cW a_this a_this_laid a_this_text a_this_read a_this_numbers a_this_where a_this_sorts a_this_tells a_this_undone a_this_parts a_this_goesWith a_this_with a_this_keeps z_letters z_at z_walked z_counts z_undos z_all z_planned z_scale z_least z_kept z_where z_sorts z_tells (upd z_keeps ((x1 + (2 : Int32)) + x2).toNatClampNeg (z_where x2.toNatClampNeg))) H := hP
      have hD : va_D A (qw_X8_keep cI cJ cC cG cW a_this a_this_laid a_this_text a_this_read a_this_numbers a_this_where a_this_sorts a_this_tells a_this_undone a_this_parts a_this_goesWith a_this_with a_this_keeps z_letters z_at z_walked z_counts z_undos z_all z_planned z_scale z_least z_kept z_where z_sorts z_tells (upd z_keeps ((x1 + (2 : Int32)) + x2).toNatClampNeg (z_where x2.toNatClampNeg))) := hD
      refine lv_aload_n hx hb dX8_keep_65 rfl (lv_at hl 0 rfl) ?_
      refine va_get (D := (dC, dI)) (ci := 8) (v := .ref a_this_keeps) (C := RX8) (T := TX8) (N := 22) hx hb hts qi_X8_keep_X8 hown hK hP 0 rfl rfl 21 (by decide) (hts _ ql_X8_keep_44) (fun _ h9 => h9) rfl dX8_keep_66 ?_
      refine lv_iload_n hx hb dX8_keep_69 rfl (lv_at hl 1 rfl) ?_
      refine lv_bipush (v := (8 : Int32)) hx hb dX8_keep_70 (by decide) ?_
      refine lv_iadd hx hb dX8_keep_72 ?_
      refine lv_iload_n hx hb dX8_keep_73 rfl (lv_at hl 2 rfl) ?_
      refine lv_iadd hx hb dX8_keep_74 ?_
      refine lv_aload_n hx hb dX8_keep_75 rfl (lv_at hl 0 rfl) ?_
      refine va_get (D := (dC, dI)) (ci := 8) (v := .ref a_this_sorts) (C := RX8) (T := TX8) (N := 22) hx hb hts qi_X8_keep_X8 hown hK hP 0 rfl rfl 9 (by decide) (hts _ ql_X8_keep_25) (fun _ h9 => h9) rfl dX8_keep_76 ?_
      refine lv_iload_n hx hb dX8_keep_79 rfl (lv_at hl 2 rfl) ?_
      obtain ⟨h7, hV⟩ := hV
      refine va_iald hx hb hK hP 2 0 rfl rfl h7 dX8_keep_80 ?_
      obtain ⟨h8, hV⟩ := hV
      refine va_iast hx hb hK hP hD hS 4 0 rfl rfl h8 dX8_keep_81 (fun H locs hP hD hS => ?_)
      have hP : va_P (dC, dI) vwCl (qw_X8_keep cI cJ cC cG cW a_this a_this_laid a_this_text a_this_read a_this_numbers a_this_where a_this_sorts a_this_tells a_this_undone a_this_parts a_this_goesWith a_this_with a_this_keeps z_letters z_at z_walked z_counts z_undos z_all z_planned z_scale z_least z_kept z_where z_sorts z_tells (upd (upd z_keeps ((x1 + (2 : Int32)) + x2).toNatClampNeg (z_where x2.toNatClampNeg)) ((x1 + (8 : Int32)) + x2).toNatClampNeg (z_sorts x2.toNatClampNeg))) H := hP
      have hD : va_D A (qw_X8_keep cI cJ cC cG cW a_this a_this_laid a_this_text a_this_read a_this_numbers a_this_where a_this_sorts a_this_tells a_this_undone a_this_parts a_this_goesWith a_this_with a_this_keeps z_letters z_at z_walked z_counts z_undos z_all z_planned z_scale z_least z_kept z_where z_sorts z_tells (upd (upd z_keeps ((x1 + (2 : Int32)) + x2).toNatClampNeg (z_where x2.toNatClampNeg)) ((x1 + (8 : Int32)) + x2).toNatClampNeg (z_sorts x2.toNatClampNeg))) := hD
      refine lv_aload_n hx hb dX8_keep_82 rfl (lv_at hl 0 rfl) ?_
      refine va_get (D := (dC, dI)) (ci := 8) (v := .ref a_this_keeps) (C := RX8) (T := TX8) (N := 22) hx hb hts qi_X8_keep_X8 hown hK hP 0 rfl rfl 21 (by decide) (hts _ ql_X8_keep_44) (fun _ h9 => h9) rfl dX8_keep_83 ?_
      refine lv_iload_n hx hb dX8_keep_86 rfl (lv_at hl 1 rfl) ?_
      refine lv_bipush (v := (14 : Int32)) hx hb dX8_keep_87 (by decide) ?_
      refine lv_iadd hx hb dX8_keep_89 ?_
      refine lv_iload_n hx hb dX8_keep_90 rfl (lv_at hl 2 rfl) ?_
      refine lv_iadd hx hb dX8_keep_91 ?_
      refine lv_aload_n hx hb dX8_keep_92 rfl (lv_at hl 0 rfl) ?_
      refine va_get (D := (dC, dI)) (ci := 8) (v := .ref a_this_tells) (C := RX8) (T := TX8) (N := 22) hx hb hts qi_X8_keep_X8 hown hK hP 0 rfl rfl 10 (by decide) (hts _ ql_X8_keep_28) (fun _ h9 => h9) rfl dX8_keep_93 ?_
      refine lv_iload_n hx hb dX8_keep_96 rfl (lv_at hl 2 rfl) ?_
      obtain ⟨h9, hV⟩ := hV
      refine va_iald hx hb hK hP 3 0 rfl rfl h9 dX8_keep_97 ?_
      obtain ⟨h10, hV⟩ := hV
      refine va_iast hx hb hK hP hD hS 4 0 rfl rfl h10 dX8_keep_98 (fun H locs hP hD hS => ?_)
      have hP : va_P (dC, dI) vwCl (qw_X8_keep cI cJ cC cG cW a_this a_this_laid a_this_text a_this_read a_this_numbers a_this_where a_this_sorts a_this_tells a_this_undone a_this_parts a_this_goesWith a_this_with a_this_keeps z_letters z_at z_walked z_counts z_undos z_all z_planned z_scale z_least z_kept z_where z_sorts z_tells (upd (upd (upd z_keeps ((x1 + (2 : Int32)) + x2).toNatClampNeg (z_where x2.toNatClampNeg)) ((x1 + (8 : Int32)) + x2).toNatClampNeg (z_sorts x2.toNatClampNeg)) ((x1 + (14 : Int32)) + x2).toNatClampNeg (z_tells x2.toNatClampNeg))) H := hP
      have hD : va_D A (qw_X8_keep cI cJ cC cG cW a_this a_this_laid a_this_text a_this_read a_this_numbers a_this_where a_this_sorts a_this_tells a_this_undone a_this_parts a_this_goesWith a_this_with a_this_keeps z_letters z_at z_walked z_counts z_undos z_all z_planned z_scale z_least z_kept z_where z_sorts z_tells (upd (upd (upd z_keeps ((x1 + (2 : Int32)) + x2).toNatClampNeg (z_where x2.toNatClampNeg)) ((x1 + (8 : Int32)) + x2).toNatClampNeg (z_sorts x2.toNatClampNeg)) ((x1 + (14 : Int32)) + x2).toNatClampNeg (z_tells x2.toNatClampNeg))) := hD
      refine lv_iinc (v := (x2 + (1 : Int32))) (lv' := [(2, .int (x2 + (1 : Int32))), (0, .ref a_this), (1, .int x1)]) hx hb dX8_keep_99 hl (k := 2) rfl rfl (by decide) rfl (fun ls hl => ?_)
      refine lv_goto (tgt := 43) hx hb dX8_keep_102 (by decide) ?_
      exact ih (x2 + (1 : Int32)) (upd (upd (upd z_keeps ((x1 + (2 : Int32)) + x2).toNatClampNeg (z_where x2.toNatClampNeg)) ((x1 + (8 : Int32)) + x2).toNatClampNeg (z_sorts x2.toNatClampNeg)) ((x1 + (14 : Int32)) + x2).toNatClampNeg (z_tells x2.toNatClampNeg)) H locs ls hV hP hD hS (lv_sub hl [1, 2, 0] rfl)
def qv_X8_keep (z_walked : Int32) (z_counts : Int32) (z_kept : Int32) (z_where : Nat → Int32) (z_sorts : Nat → Int32) (z_tells : Nat → Int32) (z_keeps : Nat → Int32) (Post : Int32 → (Int32) → (Nat → Int32) → Prop) : Prop := (z_kept = (2 : Int32) → Post (-3 : Int32) z_kept z_keeps) ∧ (¬ z_kept = (2 : Int32) → vp_in ((20 : Int32) * z_kept) 40 ∧ (vp_in (((20 : Int32) * z_kept) + (1 : Int32)) 40 ∧ (∃ n11, qv_X8_keep_L43 ((20 : Int32) * z_kept) z_walked z_counts z_kept z_where z_sorts z_tells Post (fun z_keeps_11 => Post (z_kept + (1 : Int32)) (z_kept + (1 : Int32)) z_keeps_11) n11 (0 : Int32) (upd (upd z_keeps ((20 : Int32) * z_kept).toNatClampNeg z_walked) (((20 : Int32) * z_kept) + (1 : Int32)).toNatClampNeg z_counts))))
set_option maxHeartbeats 4000000 in
set_option maxRecDepth 100000 in
theorem qm_X8_keep (l : Launch) (dC : Nat → ClassId) (dI : Nat → Nat → Nat) (cI cJ cC cG cW : ClassId) (a_this a_this_laid a_this_text a_this_read a_this_numbers a_this_where a_this_sorts a_this_tells a_this_undone a_this_parts a_this_goesWith a_this_with a_this_keeps : Nat) (z_letters : Int32) (z_at : Int32) (z_walked : Int32) (z_counts : Int32) (z_undos : Int32) (z_all : Int64) (z_planned : Int64) (z_scale : Int64) (z_least : Int32) (z_kept : Int32) (z_where : Nat → Int32) (z_sorts : Nat → Int32) (z_tells : Nat → Int32) (z_keeps : Nat → Int32) (sz : Nat) (Post : Int32 → (Int32) → (Nat → Int32) → Prop) (hV : qv_X8_keep z_walked z_counts z_kept z_where z_sorts z_tells z_keeps Post) : Met l yX8_keep wsX8_keep ({ frames := 0, cells := 0, slots := 0, locals := 0 } : Room) (va_Pc [.ref a_this] (prW (dC, dI) (qw_X8_keep cI cJ cC cG cW a_this a_this_laid a_this_text a_this_read a_this_numbers a_this_where a_this_sorts a_this_tells a_this_undone a_this_parts a_this_goesWith a_this_with a_this_keeps z_letters z_at z_walked z_counts z_undos z_all z_planned z_scale z_least z_kept z_where z_sorts z_tells z_keeps) (tyL cI cJ cC cG cW) sz)) (va_Qi (fun (r : Int32) (u : (Int32) × (Nat → Int32)) => Post r u.1 u.2) (fun u t => poW (dC, dI) (tyL cI cJ cC cG cW) (va_A (qw_X8_keep cI cJ cC cG cW a_this a_this_laid a_this_text a_this_read a_this_numbers a_this_where a_this_sorts a_this_tells a_this_undone a_this_parts a_this_goesWith a_this_with a_this_keeps z_letters z_at z_walked z_counts z_undos z_all z_planned z_scale z_least z_kept z_where z_sorts z_tells z_keeps) sz) (qw_X8_keep cI cJ cC cG cW a_this a_this_laid a_this_text a_this_read a_this_numbers a_this_where a_this_sorts a_this_tells a_this_undone a_this_parts a_this_goesWith a_this_with a_this_keeps z_letters z_at z_walked z_counts z_undos z_all z_planned z_scale z_least u.1 z_where z_sorts z_tells u.2) t) (va_A (qw_X8_keep cI cJ cC cG cW a_this a_this_laid a_this_text a_this_read a_this_numbers a_this_where a_this_sorts a_this_tells a_this_undone a_this_parts a_this_goesWith a_this_with a_this_keeps z_letters z_at z_walked z_counts z_undos z_all z_planned z_scale z_least z_kept z_where z_sorts z_tells z_keeps) sz)) 0 0 (va_A (qw_X8_keep cI cJ cC cG cW a_this a_this_laid a_this_text a_this_read a_this_numbers a_this_where a_this_sorts a_this_tells a_this_undone a_this_parts a_this_goesWith a_this_with a_this_keeps z_letters z_at z_walked z_counts z_undos z_all z_planned z_scale z_least z_kept z_where z_sorts z_tells z_keeps) sz) := by
  refine Met.ofM (Qc := fun A => va_Qi (fun (r : Int32) (u : (Int32) × (Nat → Int32)) => Post r u.1 u.2) (fun u t => poW (dC, dI) (tyL cI cJ cC cG cW) A (qw_X8_keep cI cJ cC cG cW a_this a_this_laid a_this_text a_this_read a_this_numbers a_this_where a_this_sorts a_this_tells a_this_undone a_this_parts a_this_goesWith a_this_with a_this_keeps z_letters z_at z_walked z_counts z_undos z_all z_planned z_scale z_least u.1 z_where z_sorts z_tells u.2) t) A) (nm := "keep") (ds := "()I") (own := RX8) (maxL := 3) (cc := cX8_keep) (ret := (some .int)) (by decide) rfl rfl (Nat.le_of_ble_eq_true rfl) (fun p e s m below meth c A C0 hin hK hN hA hP hD hS ls hl => ?_)
  obtain ⟨hx, hb, hr, hml, hown, hts, hlocks⟩ := id C0
  have hl : lv_has ls 3 [(0, .ref a_this)] := hl
  obtain ⟨H, hH⟩ : ∃ h : Heap, h = s.heap := ⟨_, rfl⟩
  obtain ⟨locs, hLc⟩ : ∃ L : List Loc, L = [] := ⟨_, rfl⟩
  have hS : va_S A s.heap H locs := by rw [hH, hLc]; exact hS
  rw [← hH] at hP
  rw [← hLc, ← hH]
  clear hH hLc
  refine lv_aload_n hx hb dX8_keep_0 rfl (lv_at hl 0 rfl) ?_
  refine va_get (D := (dC, dI)) (ci := 8) (v := .int z_kept) (C := RX8) (T := TX8) (N := 22) hx hb hts qi_X8_keep_X8 hown hK hP 0 rfl rfl 20 (by decide) (hts _ ql_X8_keep_120) (fun _ h9 => h9) rfl dX8_keep_1 ?_
  refine lv_iconst (v := (2 : Int32)) hx hb dX8_keep_4 (by decide) ?_
  refine lv_icmp_ne (tgt := 11) hx hb dX8_keep_5 (by decide) (fun c1 => ?_) (fun c1 => ?_)
  · have hV := hV.2 c1
    refine lv_bipush (v := (20 : Int32)) hx hb dX8_keep_11 (by decide) ?_
    refine lv_aload_n hx hb dX8_keep_13 rfl (lv_at hl 0 rfl) ?_
    refine va_get (D := (dC, dI)) (ci := 8) (v := .int z_kept) (C := RX8) (T := TX8) (N := 22) hx hb hts qi_X8_keep_X8 hown hK hP 0 rfl rfl 20 (by decide) (hts _ ql_X8_keep_120) (fun _ h9 => h9) rfl dX8_keep_14 ?_
    refine lv_imul hx hb dX8_keep_17 ?_
    refine lv_istore_n (lv' := [(1, .int ((20 : Int32) * z_kept)), (0, .ref a_this)]) hx hb dX8_keep_18 rfl hl (by decide) rfl (fun ls hl => ?_)
    refine lv_aload_n hx hb dX8_keep_19 rfl (lv_at hl 1 rfl) ?_
    refine va_get (D := (dC, dI)) (ci := 8) (v := .ref a_this_keeps) (C := RX8) (T := TX8) (N := 22) hx hb hts qi_X8_keep_X8 hown hK hP 0 rfl rfl 21 (by decide) (hts _ ql_X8_keep_44) (fun _ h9 => h9) rfl dX8_keep_20 ?_
    refine lv_iload_n hx hb dX8_keep_23 rfl (lv_at hl 0 rfl) ?_
    refine lv_aload_n hx hb dX8_keep_24 rfl (lv_at hl 1 rfl) ?_
    refine va_get (D := (dC, dI)) (ci := 8) (v := .int z_walked) (C := RX8) (T := TX8) (N := 22) hx hb hts qi_X8_keep_X8 hown hK hP 0 rfl rfl 6 (by decide) (hts _ ql_X8_keep_111) (fun _ h9 => h9) rfl dX8_keep_25 ?_
    obtain ⟨h2, hV⟩ := hV
    refine va_iast hx hb hK hP hD hS 4 0 rfl rfl h2 dX8_keep_28 (fun H locs hP hD hS => ?_)
    have hP : va_P (dC, dI) vwCl (qw_X8_keep cI cJ cC cG cW a_this a_this_laid a_this_text a_this_read a_this_numbers a_this_where a_this_sorts a_this_tells a_this_undone a_this_parts a_this_goesWith a_this_with a_this_keeps z_letters z_at z_walked z_counts z_undos z_all z_planned z_scale z_least z_kept z_where z_sorts z_tells (upd z_keeps ((20 : Int32) * z_kept).toNatClampNeg z_walked)) H := hP
    have hD : va_D A (qw_X8_keep cI cJ cC cG cW a_this a_this_laid a_this_text a_this_read a_this_numbers a_this_where a_this_sorts a_this_tells a_this_undone a_this_parts a_this_goesWith a_this_with a_this_keeps z_letters z_at z_walked z_counts z_undos z_all z_planned z_scale z_least z_kept z_where z_sorts z_tells (upd z_keeps ((20 : Int32) * z_kept).toNatClampNeg z_walked)) := hD
    refine lv_aload_n hx hb dX8_keep_29 rfl (lv_at hl 1 rfl) ?_
    refine va_get (D := (dC, dI)) (ci := 8) (v := .ref a_this_keeps) (C := RX8) (T := TX8) (N := 22) hx hb hts qi_X8_keep_X8 hown hK hP 0 rfl rfl 21 (by decide) (hts _ ql_X8_keep_44) (fun _ h9 => h9) rfl dX8_keep_30 ?_
    refine lv_iload_n hx hb dX8_keep_33 rfl (lv_at hl 0 rfl) ?_
    refine lv_iconst (v := (1 : Int32)) hx hb dX8_keep_34 (by decide) ?_
    refine lv_iadd hx hb dX8_keep_35 ?_
    refine lv_aload_n hx hb dX8_keep_36 rfl (lv_at hl 1 rfl) ?_
    refine va_get (D := (dC, dI)) (ci := 8) (v := .int z_counts) (C := RX8) (T := TX8) (N := 22) hx hb hts qi_X8_keep_X8 hown hK hP 0 rfl rfl 7 (by decide) (hts _ ql_X8_keep_114) (fun _ h9 => h9) rfl dX8_keep_37 ?_
    obtain ⟨h3, hV⟩ := hV
    refine va_iast hx hb hK hP hD hS 4 0 rfl rfl h3 dX8_keep_40 (fun H locs hP hD hS => ?_)
    have hP : va_P (dC, dI) vwCl (qw_X8_keep cI cJ cC cG cW a_this a_this_laid a_this_text a_this_read a_this_numbers a_this_where a_this_sorts a_this_tells a_this_undone a_this_parts a_this_goesWith a_this_with a_this_keeps z_letters z_at z_walked z_counts z_undos z_all z_planned z_scale z_least z_kept z_where z_sorts z_tells (upd (upd z_keeps ((20 : Int32) * z_kept).toNatClampNeg z_walked) (((20 : Int32) * z_kept) + (1 : Int32)).toNatClampNeg z_counts)) H := hP
    have hD : va_D A (qw_X8_keep cI cJ cC cG cW a_this a_this_laid a_this_text a_this_read a_this_numbers a_this_where a_this_sorts a_this_tells a_this_undone a_this_parts a_this_goesWith a_this_with a_this_keeps z_letters z_at z_walked z_counts z_undos z_all z_planned z_scale z_least z_kept z_where z_sorts z_tells (upd (upd z_keeps ((20 : Int32) * z_kept).toNatClampNeg z_walked) (((20 : Int32) * z_kept) + (1 : Int32)).toNatClampNeg z_counts)) := hD
    refine lv_iconst (v := (0 : Int32)) hx hb dX8_keep_41 (by decide) ?_
    refine lv_istore_n (lv' := [(2, .int (0 : Int32)), (1, .int ((20 : Int32) * z_kept)), (0, .ref a_this)]) hx hb dX8_keep_42 rfl hl (by decide) rfl (fun ls hl => ?_)
    obtain ⟨n11, hV⟩ := hV
    refine qt_X8_keep_L43 C0 hK hN hA z_letters z_at z_walked z_counts z_undos z_all z_planned z_scale z_least z_kept z_where z_sorts z_tells ((20 : Int32) * z_kept) _ _ (fun z_keeps_11 H locs ls hV hP hD hS hl => ?_) n11 (0 : Int32) (upd (upd z_keeps ((20 : Int32) * z_kept).toNatClampNeg z_walked) (((20 : Int32) * z_kept) + (1 : Int32)).toNatClampNeg z_counts) H locs ls hV hP hD hS (lv_sub hl [2, 1, 0] rfl)
    refine lv_aload_n hx hb dX8_keep_105 rfl (lv_at hl 0 rfl) ?_
    refine lv_dup hx hb dX8_keep_106 rfl ?_
    refine va_get (D := (dC, dI)) (ci := 8) (v := .int z_kept) (C := RX8) (T := TX8) (N := 22) hx hb hts qi_X8_keep_X8 hown hK hP 0 rfl rfl 20 (by decide) (hts _ ql_X8_keep_120) (fun _ h9 => h9) rfl dX8_keep_107 ?_
    refine lv_iconst (v := (1 : Int32)) hx hb dX8_keep_110 (by decide) ?_
    refine lv_iadd hx hb dX8_keep_111 ?_
    refine va_put (D := (dC, dI)) (ci := 8) (v := .int (z_kept + (1 : Int32))) (ty := .int) (C := RX8) (T := TX8) (N := 22) hx hb hts qi_X8_keep_X8 tyX8 tyX8_ok nmX8 hown hK hP hD hS 0 rfl rfl 20 (by decide) (hts _ ql_X8_keep_120) (fun _ h9 => h9) rfl (by decide +kernel) rfl rfl (Nat.le_of_ble_eq_true rfl) dX8_keep_112 (fun H locs hP hD hS => ?_)
    have hP : va_P (dC, dI) vwCl (qw_X8_keep cI cJ cC cG cW a_this a_this_laid a_this_text a_this_read a_this_numbers a_this_where a_this_sorts a_this_tells a_this_undone a_this_parts a_this_goesWith a_this_with a_this_keeps z_letters z_at z_walked z_counts z_undos z_all z_planned z_scale z_least (z_kept + (1 : Int32)) z_where z_sorts z_tells z_keeps_11) H := hP
    have hD : va_D A (qw_X8_keep cI cJ cC cG cW a_this a_this_laid a_this_text a_this_read a_this_numbers a_this_where a_this_sorts a_this_tells a_this_undone a_this_parts a_this_goesWith a_this_with a_this_keeps z_letters z_at z_walked z_counts z_undos z_all z_planned z_scale z_least (z_kept + (1 : Int32)) z_where z_sorts z_tells z_keeps_11) := hD
    refine lv_aload_n hx hb dX8_keep_115 rfl (lv_at hl 0 rfl) ?_
    refine va_get (D := (dC, dI)) (ci := 8) (v := .int (z_kept + (1 : Int32))) (C := RX8) (T := TX8) (N := 22) hx hb hts qi_X8_keep_X8 hown hK hP 0 rfl rfl 20 (by decide) (hts _ ql_X8_keep_120) (fun _ h9 => h9) rfl dX8_keep_116 ?_
    exact W.iret hx hb hr (fun t ht hW => ⟨⟨_, ((z_kept + (1 : Int32)), z_keeps_11), rfl, hV, ⟨by rw [ht]; exact hP, va_K.moved hW.alike hK, hD⟩⟩, hS.F ht⟩) hS.2.2 dX8_keep_119 hlocks
  · have hV := hV.1 c1
    refine lv_bipush (v := (-3 : Int32)) hx hb dX8_keep_8 (by decide) ?_
    exact W.iret hx hb hr (fun t ht hW => ⟨⟨_, (z_kept, z_keeps), rfl, hV, ⟨by rw [ht]; exact hP, va_K.moved hW.alike hK, hD⟩⟩, hS.F ht⟩) hS.2.2 dX8_keep_10 hlocks

/-! StileCountsModel.back()I -/
abbrev qw_X8_back (cI cJ cC cG cW : ClassId) (a_this a_this_laid a_this_text a_this_read a_this_numbers a_this_where a_this_sorts a_this_tells a_this_undone a_this_parts a_this_goesWith a_this_with a_this_keeps : Nat) (z_letters : Int32) (z_at : Int32) (z_walked : Int32) (z_counts : Int32) (z_undos : Int32) (z_all : Int64) (z_planned : Int64) (z_scale : Int64) (z_least : Int32) (z_kept : Int32) (z_where : Nat → Int32) (z_sorts : Nat → Int32) (z_tells : Nat → Int32) (z_keeps : Nat → Int32) : va_W := [(a_this, .inr (8, [.ref a_this_laid, .ref a_this_text, .int z_letters, .ref a_this_read, .int z_at, .ref a_this_numbers, .int z_walked, .int z_counts, .ref a_this_where, .ref a_this_sorts, .ref a_this_tells, .int z_undos, .ref a_this_undone, .ref a_this_parts, .long z_all, .long z_planned, .long z_scale, .ref a_this_goesWith, .int z_least, .ref a_this_with, .int z_kept, .ref a_this_keeps])), (a_this_where, .inl (cI, 6, .inl z_where)), (a_this_sorts, .inl (cI, 6, .inl z_sorts)), (a_this_tells, .inl (cI, 6, .inl z_tells)), (a_this_keeps, .inl (cI, 40, .inl z_keeps))]
theorem qi_X8_back_X8 : ∀ w ∈ wsX80, w ∈ wsX8_back := by decide +kernel
theorem ql_X8_back_120 : (.fieldLink RX8 120 "StileCountsModel" "kept" "I" : Cond) ∈ wsX8_back := by decide +kernel
theorem ql_X8_back_44 : (.fieldLink RX8 44 "StileCountsModel" "keeps" "[I" : Cond) ∈ wsX8_back := by decide +kernel
theorem ql_X8_back_111 : (.fieldLink RX8 111 "StileCountsModel" "walked" "I" : Cond) ∈ wsX8_back := by decide +kernel
theorem ql_X8_back_114 : (.fieldLink RX8 114 "StileCountsModel" "counts" "I" : Cond) ∈ wsX8_back := by decide +kernel
theorem ql_X8_back_22 : (.fieldLink RX8 22 "StileCountsModel" "where" "[I" : Cond) ∈ wsX8_back := by decide +kernel
theorem ql_X8_back_25 : (.fieldLink RX8 25 "StileCountsModel" "sorts" "[I" : Cond) ∈ wsX8_back := by decide +kernel
theorem ql_X8_back_28 : (.fieldLink RX8 28 "StileCountsModel" "tells" "[I" : Cond) ∈ wsX8_back := by decide +kernel
theorem ql_X8_back_117 : (.fieldLink RX8 117 "StileCountsModel" "undos" "I" : Cond) ∈ wsX8_back := by decide +kernel
def qv_X8_back_L52 (x1 : Int32) (z_walked : Int32) (z_counts : Int32) (z_undos : Int32) (z_kept : Int32) (z_keeps : Nat → Int32) (Post : Int32 → (Int32) → (Int32) → (Int32) → (Int32) → (Nat → Int32) → (Nat → Int32) → (Nat → Int32) → Prop) (E : (Nat → Int32) → (Nat → Int32) → (Nat → Int32) → Prop) : Nat → (Int32) → (Nat → Int32) → (Nat → Int32) → (Nat → Int32) → Prop
  | 0, _, _, _, _ => False
  | n + 1, x2, z_where, z_sorts, z_tells => ((6 : Int32) ≤ x2 → E z_where z_sorts z_tells) ∧ (¬ (6 : Int32) ≤ x2 → vp_in ((x1 + (2 : Int32)) + x2) 40 ∧ (vp_in x2 6 ∧ (vp_in ((x1 + (8 : Int32)) + x2) 40 ∧ (vp_in x2 6 ∧ (vp_in ((x1 + (14 : Int32)) + x2) 40 ∧ (vp_in x2 6 ∧ (qv_X8_back_L52 x1 z_walked z_counts z_undos z_kept z_keeps Post E n (x2 + (1 : Int32)) (upd z_where x2.toNatClampNeg (z_keeps ((x1 + (2 : Int32)) + x2).toNatClampNeg)) (upd z_sorts x2.toNatClampNeg (z_keeps ((x1 + (8 : Int32)) + x2).toNatClampNeg)) (upd z_tells x2.toNatClampNeg (z_keeps ((x1 + (14 : Int32)) + x2).toNatClampNeg)))))))))
set_option maxHeartbeats 4000000 in
set_option maxRecDepth 100000 in
theorem qt_X8_back_L52 {p : Program} {l : Launch} {e : Env} {s : State} {m : MethodId} {args : Array Value} {below : List Frame} {meth : Method} {c : Code} {dC : Nat → ClassId} {dI : Nat → Nat → Nat} {cI cJ cC cG cW : ClassId} {a_this a_this_laid a_this_text a_this_read a_this_numbers a_this_where a_this_sorts a_this_tells a_this_undone a_this_parts a_this_goesWith a_this_with a_this_keeps : Nat} {A : Nat → Prop} (C0 : MC cX8_back 3 (some .int) RX8 wsX8_back p s m args meth c) (hK : va_K (dC, dI) vwCl (tyL cI cJ cC cG cW) s) (hN : NW s) (hA : ∀ q, s.heap.size ≤ q → A q) (z_letters : Int32) (z_at : Int32) (z_walked : Int32) (z_counts : Int32) (z_undos : Int32) (z_all : Int64) (z_planned : Int64) (z_scale : Int64) (z_least : Int32) (z_kept : Int32) (z_keeps : Nat → Int32) (x1 : Int32) (Post : Int32 → (Int32) → (Int32) → (Int32) → (Int32) → (Nat → Int32) → (Nat → Int32) → (Nat → Int32) → Prop) (E : (Nat → Int32) → (Nat → Int32) → (Nat → Int32) → Prop) (hE : ∀ (z_where : Nat → Int32) (z_sorts : Nat → Int32) (z_tells : Nat → Int32) (H : Heap) (locs : List Loc) (ls : Array Slot), E z_where z_sorts z_tells → va_P (dC, dI) vwCl (qw_X8_back cI cJ cC cG cW a_this a_this_laid a_this_text a_this_read a_this_numbers a_this_where a_this_sorts a_this_tells a_this_undone a_this_parts a_this_goesWith a_this_with a_this_keeps z_letters z_at z_walked z_counts z_undos z_all z_planned z_scale z_least z_kept z_where z_sorts z_tells z_keeps) H → va_D A (qw_X8_back cI cJ cC cG cW a_this a_this_laid a_this_text a_this_read a_this_numbers a_this_where a_this_sorts a_this_tells a_this_undone a_this_parts a_this_goesWith a_this_with a_this_keeps z_letters z_at z_walked z_counts z_undos z_all z_planned z_scale z_least z_kept z_where z_sorts z_tells z_keeps) → va_S A s.heap H locs → lv_has ls 3 [(0, .ref a_this)] → W p l e ({ frames := 0, cells := 0, slots := 0, locals := 0 } : Room) s m args below meth c H locs 0 0 (MQ below (va_Qi (fun (r : Int32) (u : (Int32) × (Int32) × (Int32) × (Int32) × (Nat → Int32) × (Nat → Int32) × (Nat → Int32)) => Post r u.1 u.2.1 u.2.2.1 u.2.2.2.1 u.2.2.2.2.1 u.2.2.2.2.2.1 u.2.2.2.2.2.2) (fun u t => poW (dC, dI) (tyL cI cJ cC cG cW) A (qw_X8_back cI cJ cC cG cW a_this a_this_laid a_this_text a_this_read a_this_numbers a_this_where a_this_sorts a_this_tells a_this_undone a_this_parts a_this_goesWith a_this_with a_this_keeps z_letters z_at u.1 u.2.1 u.2.2.1 z_all z_planned z_scale z_least u.2.2.2.1 u.2.2.2.2.1 u.2.2.2.2.2.1 u.2.2.2.2.2.2 z_keeps) t) A) args s 0 0 A) (F0 m 114 ls [])) : ∀ (n : Nat) (x2 : Int32) (z_where : Nat → Int32) (z_sorts : Nat → Int32) (z_tells : Nat → Int32) (H : Heap) (locs : List Loc) (ls : Array Slot), qv_X8_back_L52 x1 z_walked z_counts z_undos z_kept z_keeps Post E n x2 z_where z_sorts z_tells → va_P (dC, dI) vwCl (qw_X8_back cI cJ cC cG cW a_this a_this_laid a_this_text a_this_read a_this_numbers a_this_where a_this_sorts a_this_tells a_this_undone a_this_parts a_this_goesWith a_this_with a_this_keeps z_letters z_at z_walked z_counts z_undos z_all z_planned z_scale z_least z_kept z_where z_sorts z_tells z_keeps) H → va_D A (qw_X8_back cI cJ cC cG cW a_this a_this_laid a_this_text a_this_read a_this_numbers a_this_where a_this_sorts a_this_tells a_this_undone a_this_parts a_this_goesWith a_this_with a_this_keeps z_letters z_at z_walked z_counts z_undos z_all z_planned z_scale z_least z_kept z_where z_sorts z_tells z_keeps) → va_S A s.heap H locs → lv_has ls 3 [(0, .ref a_this), (1, .int x1), (2, .int x2)] → W p l e ({ frames := 0, cells := 0, slots := 0, locals := 0 } : Room) s m args below meth c H locs 0 0 (MQ below (va_Qi (fun (r : Int32) (u : (Int32) × (Int32) × (Int32) × (Int32) × (Nat → Int32) × (Nat → Int32) × (Nat → Int32)) => Post r u.1 u.2.1 u.2.2.1 u.2.2.2.1 u.2.2.2.2.1 u.2.2.2.2.2.1 u.2.2.2.2.2.2) (fun u t => poW (dC, dI) (tyL cI cJ cC cG cW) A (qw_X8_back cI cJ cC cG cW a_this a_this_laid a_this_text a_this_read a_this_numbers a_this_where a_this_sorts a_this_tells a_this_undone a_this_parts a_this_goesWith a_this_with a_this_keeps z_letters z_at u.1 u.2.1 u.2.2.1 z_all z_planned z_scale z_least u.2.2.2.1 u.2.2.2.2.1 u.2.2.2.2.2.1 u.2.2.2.2.2.2 z_keeps) t) A) args s 0 0 A) (F0 m 52 ls []) := by
  obtain ⟨hx, hb, hr, hml, hown, hts, hlocks⟩ := id C0
  intro n
  induction n with
  | zero =>
    intro x2 z_where z_sorts z_tells H locs ls hV
    exact False.elim hV
  | succ n ih =>
    intro x2 z_where z_sorts z_tells H locs ls hV hP hD hS hl
    refine lv_iload_n hx hb dX8_back_52 rfl (lv_at hl 2 rfl) ?_
    refine lv_bipush (v := (6 : Int32)) hx hb dX8_back_53 (by decide) ?_
    refine lv_icmp_ge (tgt := 114) hx hb dX8_back_55 (by decide) (fun c4 => ?_) (fun c4 => ?_)
    · have hV := hV.1 c4
      exact hE z_where z_sorts z_tells H locs ls hV hP hD hS (lv_sub hl [0] rfl)
    · have hV := hV.2 c4
      refine lv_aload_n hx hb dX8_back_58 rfl (lv_at hl 0 rfl) ?_
      refine va_get (D := (dC, dI)) (ci := 8) (v := .ref a_this_where) (C := RX8) (T := TX8) (N := 22) hx hb hts qi_X8_back_X8 hown hK hP 0 rfl rfl 8 (by decide) (hts _ ql_X8_back_22) (fun _ h9 => h9) rfl dX8_back_59 ?_
      refine lv_iload_n hx hb dX8_back_62 rfl (lv_at hl 2 rfl) ?_
      refine lv_aload_n hx hb dX8_back_63 rfl (lv_at hl 0 rfl) ?_
      refine va_get (D := (dC, dI)) (ci := 8) (v := .ref a_this_keeps) (C := RX8) (T := TX8) (N := 22) hx hb hts qi_X8_back_X8 hown hK hP 0 rfl rfl 21 (by decide) (hts _ ql_X8_back_44) (fun _ h9 => h9) rfl dX8_back_64 ?_
      refine lv_iload_n hx hb dX8_back_67 rfl (lv_at hl 1 rfl) ?_
      refine lv_iconst (v := (2 : Int32)) hx hb dX8_back_68 (by decide) ?_
      refine lv_iadd hx hb dX8_back_69 ?_
      refine lv_iload_n hx hb dX8_back_70 rfl (lv_at hl 2 rfl) ?_
      refine lv_iadd hx hb dX8_back_71 ?_
      obtain ⟨h5, hV⟩ := hV
      refine va_iald hx hb hK hP 4 0 rfl rfl h5 dX8_back_72 ?_
      obtain ⟨h6, hV⟩ := hV
      refine va_iast hx hb hK hP hD hS 1 0 rfl rfl h6 dX8_back_73 (fun H locs hP hD hS => ?_)
      have hP : va_P (dC, dI) vwCl (qw_X8_back cI cJ cC cG cW a_this a_this_laid a_this_text a_this_read a_this_numbers a_this_where a_this_sorts a_this_tells a_this_undone a_this_parts a_this_goesWith a_this_with a_this_keeps z_letters z_at z_walked z_counts z_undos z_all z_planned z_scale z_least z_kept (upd z_where x2.toNatClampNeg (z_keeps ((x1 + (2 : Int32)) + x2).toNatClampNeg)) z_sorts z_tells z_keeps) H := hP
      have hD : va_D A (qw_X8_back cI cJ cC cG cW a_this a_this_laid a_this_text a_this_read a_this_numbers a_this_where a_this_sorts a_this_tells a_this_undone a_this_parts a_this_goesWith a_this_with a_this_keeps z_letters z_at z_walked z_counts z_undos z_all z_planned z_scale z_least z_kept (upd z_where x2.toNatClampNeg (z_keeps ((x1 + (2 : Int32)) + x2).toNatClampNeg)) z_sorts z_tells z_keeps) := hD
      refine lv_aload_n hx hb dX8_back_74 rfl (lv_at hl 0 rfl) ?_
      refine va_get (D := (dC, dI)) (ci := 8) (v := .ref a_this_sorts) (C := RX8) (T := TX8) (N := 22) hx hb hts qi_X8_back_X8 hown hK hP 0 rfl rfl 9 (by decide) (hts _ ql_X8_back_25) (fun _ h9 => h9) rfl dX8_back_75 ?_
      refine lv_iload_n hx hb dX8_back_78 rfl (lv_at hl 2 rfl) ?_
      refine lv_aload_n hx hb dX8_back_79 rfl (lv_at hl 0 rfl) ?_
      refine va_get (D := (dC, dI)) (ci := 8) (v := .ref a_this_keeps) (C := RX8) (T := TX8) (N := 22) hx hb hts qi_X8_back_X8 hown hK hP 0 rfl rfl 21 (by decide) (hts _ ql_X8_back_44) (fun _ h9 => h9) rfl dX8_back_80 ?_
      refine lv_iload_n hx hb dX8_back_83 rfl (lv_at hl 1 rfl) ?_
      refine lv_bipush (v := (8 : Int32)) hx hb dX8_back_84 (by decide) ?_
      refine lv_iadd hx hb dX8_back_86 ?_
      refine lv_iload_n hx hb dX8_back_87 rfl (lv_at hl 2 rfl) ?_
      refine lv_iadd hx hb dX8_back_88 ?_
      obtain ⟨h7, hV⟩ := hV
      refine va_iald hx hb hK hP 4 0 rfl rfl h7 dX8_back_89 ?_
      obtain ⟨h8, hV⟩ := hV
      refine va_iast hx hb hK hP hD hS 2 0 rfl rfl h8 dX8_back_90 (fun H locs hP hD hS => ?_)
      have hP : va_P (dC, dI) vwCl (qw_X8_back cI cJ cC cG cW a_this a_this_laid a_this_text a_this_read a_this_numbers a_this_where a_this_sorts a_this_tells a_this_undone a_this_parts a_this_goesWith a_this_with a_this_keeps z_letters z_at z_walked z_counts z_undos z_all z_planned z_scale z_least z_kept (upd z_where x2.toNatClampNeg (z_keeps ((x1 + (2 : Int32)) + x2).toNatClampNeg)) (upd z_sorts x2.toNatClampNeg (z_keeps ((x1 + (8 : Int32)) + x2).toNatClampNeg)) z_tells z_keeps) H := hP
      have hD : va_D A (qw_X8_back cI cJ cC cG cW a_this a_this_laid a_this_text a_this_read a_this_numbers a_this_where a_this_sorts a_this_tells a_this_undone a_this_parts a_this_goesWith a_this_with a_this_keeps z_letters z_at z_walked z_counts z_undos z_all z_planned z_scale z_least z_kept (upd z_where x2.toNatClampNeg (z_keeps ((x1 + (2 : Int32)) + x2).toNatClampNeg)) (upd z_sorts x2.toNatClampNeg (z_keeps ((x1 + (8 : Int32)) + x2).toNatClampNeg)) z_tells z_keeps) := hD
      refine lv_aload_n hx hb dX8_back_91 rfl (lv_at hl 0 rfl) ?_
      refine va_get (D := (dC, dI)) (ci := 8) (v := .ref a_this_tells) (C := RX8) (T := TX8) (N := 22) hx hb hts qi_X8_back_X8 hown hK hP 0 rfl rfl 10 (by decide) (hts _ ql_X8_back_28) (fun _ h9 => h9) rfl dX8_back_92 ?_
      refine lv_iload_n hx hb dX8_back_95 rfl (lv_at hl 2 rfl) ?_
      refine lv_aload_n hx hb dX8_back_96 rfl (lv_at hl 0 rfl) ?_
      refine va_get (D := (dC, dI)) (ci := 8) (v := .ref a_this_keeps) (C := RX8) (T := TX8) (N := 22) hx hb hts qi_X8_back_X8 hown hK hP 0 rfl rfl 21 (by decide) (hts _ ql_X8_back_44) (fun _ h9 => h9) rfl dX8_back_97 ?_
      refine lv_iload_n hx hb dX8_back_100 rfl (lv_at hl 1 rfl) ?_
      refine lv_bipush (v := (14 : Int32)) hx hb dX8_back_101 (by decide) ?_
      refine lv_iadd hx hb dX8_back_103 ?_
      refine lv_iload_n hx hb dX8_back_104 rfl (lv_at hl 2 rfl) ?_
      refine lv_iadd hx hb dX8_back_105 ?_
      obtain ⟨h9, hV⟩ := hV
      refine va_iald hx hb hK hP 4 0 rfl rfl h9 dX8_back_106 ?_
      obtain ⟨h10, hV⟩ := hV
      refine va_iast hx hb hK hP hD hS 3 0 rfl rfl h10 dX8_back_107 (fun H locs hP hD hS => ?_)
      have hP : va_P (dC, dI) vwCl (qw_X8_back cI cJ cC cG cW a_this a_this_laid a_this_text a_this_read a_this_numbers a_this_where a_this_sorts a_this_tells a_this_undone a_this_parts a_this_goesWith a_this_with a_this_keeps z_letters z_at z_walked z_counts z_undos z_all z_planned z_scale z_least z_kept (upd z_where x2.toNatClampNeg (z_keeps ((x1 + (2 : Int32)) + x2).toNatClampNeg)) (upd z_sorts x2.toNatClampNeg (z_keeps ((x1 + (8 : Int32)) + x2).toNatClampNeg)) (upd z_tells x2.toNatClampNeg (z_keeps ((x1 + (14 : Int32)) + x2).toNatClampNeg)) z_keeps) H := hP
      have hD : va_D A (qw_X8_back cI cJ cC cG cW a_this a_this_laid a_this_text a_this_read a_this_numbers a_this_where a_this_sorts a_this_tells a_this_undone a_this_parts a_this_goesWith a_this_with a_this_keeps z_letters z_at z_walked z_counts z_undos z_all z_planned z_scale z_least z_kept (upd z_where x2.toNatClampNeg (z_keeps ((x1 + (2 : Int32)) + x2).toNatClampNeg)) (upd z_sorts x2.toNatClampNeg (z_keeps ((x1 + (8 : Int32)) + x2).toNatClampNeg)) (upd z_tells x2.toNatClampNeg (z_keeps ((x1 + (14 : Int32)) + x2).toNatClampNeg)) z_keeps) := hD
      refine lv_iinc (v := (x2 + (1 : Int32))) (lv' := [(2, .int (x2 + (1 : Int32))), (0, .ref a_this), (1, .int x1)]) hx hb dX8_back_108 hl (k := 2) rfl rfl (by decide) rfl (fun ls hl => ?_)
      refine lv_goto (tgt := 52) hx hb dX8_back_111 (by decide) ?_
      exact ih (x2 + (1 : Int32)) (upd z_where x2.toNatClampNeg (z_keeps ((x1 + (2 : Int32)) + x2).toNatClampNeg)) (upd z_sorts x2.toNatClampNeg (z_keeps ((x1 + (8 : Int32)) + x2).toNatClampNeg)) (upd z_tells x2.toNatClampNeg (z_keeps ((x1 + (14 : Int32)) + x2).toNatClampNeg)) H locs ls hV hP hD hS (lv_sub hl [1, 2, 0] rfl)
def qv_X8_back (z_walked : Int32) (z_counts : Int32) (z_undos : Int32) (z_kept : Int32) (z_where : Nat → Int32) (z_sorts : Nat → Int32) (z_tells : Nat → Int32) (z_keeps : Nat → Int32) (Post : Int32 → (Int32) → (Int32) → (Int32) → (Int32) → (Nat → Int32) → (Nat → Int32) → (Nat → Int32) → Prop) : Prop := (z_kept = (0 : Int32) → Post (-2 : Int32) z_walked z_counts z_undos z_kept z_where z_sorts z_tells) ∧ (¬ z_kept = (0 : Int32) → vp_in ((20 : Int32) * (z_kept - (1 : Int32))) 40 ∧ (vp_in (((20 : Int32) * (z_kept - (1 : Int32))) + (1 : Int32)) 40 ∧ (∃ n11, qv_X8_back_L52 ((20 : Int32) * (z_kept - (1 : Int32))) (z_keeps ((20 : Int32) * (z_kept - (1 : Int32))).toNatClampNeg) (z_keeps (((20 : Int32) * (z_kept - (1 : Int32))) + (1 : Int32)).toNatClampNeg) z_undos (z_kept - (1 : Int32)) z_keeps Post (fun z_where_11 z_sorts_11 z_tells_11 => Post (z_kept - (1 : Int32)) (z_keeps ((20 : Int32) * (z_kept - (1 : Int32))).toNatClampNeg) (z_keeps (((20 : Int32) * (z_kept - (1 : Int32))) + (1 : Int32)).toNatClampNeg) (0 : Int32) (z_kept - (1 : Int32)) z_where_11 z_sorts_11 z_tells_11) n11 (0 : Int32) z_where z_sorts z_tells)))
set_option maxHeartbeats 4000000 in
set_option maxRecDepth 100000 in
theorem qm_X8_back (l : Launch) (dC : Nat → ClassId) (dI : Nat → Nat → Nat) (cI cJ cC cG cW : ClassId) (a_this a_this_laid a_this_text a_this_read a_this_numbers a_this_where a_this_sorts a_this_tells a_this_undone a_this_parts a_this_goesWith a_this_with a_this_keeps : Nat) (z_letters : Int32) (z_at : Int32) (z_walked : Int32) (z_counts : Int32) (z_undos : Int32) (z_all : Int64) (z_planned : Int64) (z_scale : Int64) (z_least : Int32) (z_kept : Int32) (z_where : Nat → Int32) (z_sorts : Nat → Int32) (z_tells : Nat → Int32) (z_keeps : Nat → Int32) (sz : Nat) (Post : Int32 → (Int32) → (Int32) → (Int32) → (Int32) → (Nat → Int32) → (Nat → Int32) → (Nat → Int32) → Prop) (hV : qv_X8_back z_walked z_counts z_undos z_kept z_where z_sorts z_tells z_keeps Post) : Met l yX8_back wsX8_back ({ frames := 0, cells := 0, slots := 0, locals := 0 } : Room) (va_Pc [.ref a_this] (prW (dC, dI) (qw_X8_back cI cJ cC cG cW a_this a_this_laid a_this_text a_this_read a_this_numbers a_this_where a_this_sorts a_this_tells a_this_undone a_this_parts a_this_goesWith a_this_with a_this_keeps z_letters z_at z_walked z_counts z_undos z_all z_planned z_scale z_least z_kept z_where z_sorts z_tells z_keeps) (tyL cI cJ cC cG cW) sz)) (va_Qi (fun (r : Int32) (u : (Int32) × (Int32) × (Int32) × (Int32) × (Nat → Int32) × (Nat → Int32) × (Nat → Int32)) => Post r u.1 u.2.1 u.2.2.1 u.2.2.2.1 u.2.2.2.2.1 u.2.2.2.2.2.1 u.2.2.2.2.2.2) (fun u t => poW (dC, dI) (tyL cI cJ cC cG cW) (va_A (qw_X8_back cI cJ cC cG cW a_this a_this_laid a_this_text a_this_read a_this_numbers a_this_where a_this_sorts a_this_tells a_this_undone a_this_parts a_this_goesWith a_this_with a_this_keeps z_letters z_at z_walked z_counts z_undos z_all z_planned z_scale z_least z_kept z_where z_sorts z_tells z_keeps) sz) (qw_X8_back cI cJ cC cG cW a_this a_this_laid a_this_text a_this_read a_this_numbers a_this_where a_this_sorts a_this_tells a_this_undone a_this_parts a_this_goesWith a_this_with a_this_keeps z_letters z_at u.1 u.2.1 u.2.2.1 z_all z_planned z_scale z_least u.2.2.2.1 u.2.2.2.2.1 u.2.2.2.2.2.1 u.2.2.2.2.2.2 z_keeps) t) (va_A (qw_X8_back cI cJ cC cG cW a_this a_this_laid a_this_text a_this_read a_this_numbers a_this_where a_this_sorts a_this_tells a_this_undone a_this_parts a_this_goesWith a_this_with a_this_keeps z_letters z_at z_walked z_counts z_undos z_all z_planned z_scale z_least z_kept z_where z_sorts z_tells z_keeps) sz)) 0 0 (va_A (qw_X8_back cI cJ cC cG cW a_this a_this_laid a_this_text a_this_read a_this_numbers a_this_where a_this_sorts a_this_tells a_this_undone a_this_parts a_this_goesWith a_this_with a_this_keeps z_letters z_at z_walked z_counts z_undos z_all z_planned z_scale z_least z_kept z_where z_sorts z_tells z_keeps) sz) := by
  refine Met.ofM (Qc := fun A => va_Qi (fun (r : Int32) (u : (Int32) × (Int32) × (Int32) × (Int32) × (Nat → Int32) × (Nat → Int32) × (Nat → Int32)) => Post r u.1 u.2.1 u.2.2.1 u.2.2.2.1 u.2.2.2.2.1 u.2.2.2.2.2.1 u.2.2.2.2.2.2) (fun u t => poW (dC, dI) (tyL cI cJ cC cG cW) A (qw_X8_back cI cJ cC cG cW a_this a_this_laid a_this_text a_this_read a_this_numbers a_this_where a_this_sorts a_this_tells a_this_undone a_this_parts a_this_goesWith a_this_with a_this_keeps z_letters z_at u.1 u.2.1 u.2.2.1 z_all z_planned z_scale z_least u.2.2.2.1 u.2.2.2.2.1 u.2.2.2.2.2.1 u.2.2.2.2.2.2 z_keeps) t) A) (nm := "back") (ds := "()I") (own := RX8) (maxL := 3) (cc := cX8_back) (ret := (some .int)) (by decide) rfl rfl (Nat.le_of_ble_eq_true rfl) (fun p e s m below meth c A C0 hin hK hN hA hP hD hS ls hl => ?_)
  obtain ⟨hx, hb, hr, hml, hown, hts, hlocks⟩ := id C0
  have hl : lv_has ls 3 [(0, .ref a_this)] := hl
  obtain ⟨H, hH⟩ : ∃ h : Heap, h = s.heap := ⟨_, rfl⟩
  obtain ⟨locs, hLc⟩ : ∃ L : List Loc, L = [] := ⟨_, rfl⟩
  have hS : va_S A s.heap H locs := by rw [hH, hLc]; exact hS
  rw [← hH] at hP
  rw [← hLc, ← hH]
  clear hH hLc
  refine lv_aload_n hx hb dX8_back_0 rfl (lv_at hl 0 rfl) ?_
  refine va_get (D := (dC, dI)) (ci := 8) (v := .int z_kept) (C := RX8) (T := TX8) (N := 22) hx hb hts qi_X8_back_X8 hown hK hP 0 rfl rfl 20 (by decide) (hts _ ql_X8_back_120) (fun _ h9 => h9) rfl dX8_back_1 ?_
  refine lv_if_ne (tgt := 10) hx hb dX8_back_4 (by decide) (fun c1 => ?_) (fun c1 => ?_)
  · have hV := hV.2 c1
    refine lv_aload_n hx hb dX8_back_10 rfl (lv_at hl 0 rfl) ?_
    refine lv_dup hx hb dX8_back_11 rfl ?_
    refine va_get (D := (dC, dI)) (ci := 8) (v := .int z_kept) (C := RX8) (T := TX8) (N := 22) hx hb hts qi_X8_back_X8 hown hK hP 0 rfl rfl 20 (by decide) (hts _ ql_X8_back_120) (fun _ h9 => h9) rfl dX8_back_12 ?_
    refine lv_iconst (v := (1 : Int32)) hx hb dX8_back_15 (by decide) ?_
    refine lv_isub hx hb dX8_back_16 ?_
    refine va_put (D := (dC, dI)) (ci := 8) (v := .int (z_kept - (1 : Int32))) (ty := .int) (C := RX8) (T := TX8) (N := 22) hx hb hts qi_X8_back_X8 tyX8 tyX8_ok nmX8 hown hK hP hD hS 0 rfl rfl 20 (by decide) (hts _ ql_X8_back_120) (fun _ h9 => h9) rfl (by decide +kernel) rfl rfl (Nat.le_of_ble_eq_true rfl) dX8_back_17 (fun H locs hP hD hS => ?_)
    have hP : va_P (dC, dI) vwCl (qw_X8_back cI cJ cC cG cW a_this a_this_laid a_this_text a_this_read a_this_numbers a_this_where a_this_sorts a_this_tells a_this_undone a_this_parts a_this_goesWith a_this_with a_this_keeps z_letters z_at z_walked z_counts z_undos z_all z_planned z_scale z_least (z_kept - (1 : Int32)) z_where z_sorts z_tells z_keeps) H := hP
    have hD : va_D A (qw_X8_back cI cJ cC cG cW a_this a_this_laid a_this_text a_this_read a_this_numbers a_this_where a_this_sorts a_this_tells a_this_undone a_this_parts a_this_goesWith a_this_with a_this_keeps z_letters z_at z_walked z_counts z_undos z_all z_planned z_scale z_least (z_kept - (1 : Int32)) z_where z_sorts z_tells z_keeps) := hD
    refine lv_bipush (v := (20 : Int32)) hx hb dX8_back_20 (by decide) ?_
    refine lv_aload_n hx hb dX8_back_22 rfl (lv_at hl 0 rfl) ?_
    refine va_get (D := (dC, dI)) (ci := 8) (v := .int (z_kept - (1 : Int32))) (C := RX8) (T := TX8) (N := 22) hx hb hts qi_X8_back_X8 hown hK hP 0 rfl rfl 20 (by decide) (hts _ ql_X8_back_120) (fun _ h9 => h9) rfl dX8_back_23 ?_
    refine lv_imul hx hb dX8_back_26 ?_
    refine lv_istore_n (lv' := [(1, .int ((20 : Int32) * (z_kept - (1 : Int32)))), (0, .ref a_this)]) hx hb dX8_back_27 rfl hl (by decide) rfl (fun ls hl => ?_)
    refine lv_aload_n hx hb dX8_back_28 rfl (lv_at hl 1 rfl) ?_
    refine lv_aload_n hx hb dX8_back_29 rfl (lv_at hl 1 rfl) ?_
    refine va_get (D := (dC, dI)) (ci := 8) (v := .ref a_this_keeps) (C := RX8) (T := TX8) (N := 22) hx hb hts qi_X8_back_X8 hown hK hP 0 rfl rfl 21 (by decide) (hts _ ql_X8_back_44) (fun _ h9 => h9) rfl dX8_back_30 ?_
    refine lv_iload_n hx hb dX8_back_33 rfl (lv_at hl 0 rfl) ?_
    obtain ⟨h2, hV⟩ := hV
    refine va_iald hx hb hK hP 4 0 rfl rfl h2 dX8_back_34 ?_
    refine va_put (D := (dC, dI)) (ci := 8) (v := .int (z_keeps ((20 : Int32) * (z_kept - (1 : Int32))).toNatClampNeg)) (ty := .int) (C := RX8) (T := TX8) (N := 22) hx hb hts qi_X8_back_X8 tyX8 tyX8_ok nmX8 hown hK hP hD hS 0 rfl rfl 6 (by decide) (hts _ ql_X8_back_111) (fun _ h9 => h9) rfl (by decide +kernel) rfl rfl (Nat.le_of_ble_eq_true rfl) dX8_back_35 (fun H locs hP hD hS => ?_)
    have hP : va_P (dC, dI) vwCl (qw_X8_back cI cJ cC cG cW a_this a_this_laid a_this_text a_this_read a_this_numbers a_this_where a_this_sorts a_this_tells a_this_undone a_this_parts a_this_goesWith a_this_with a_this_keeps z_letters z_at (z_keeps ((20 : Int32) * (z_kept - (1 : Int32))).toNatClampNeg) z_counts z_undos z_all z_planned z_scale z_least (z_kept - (1 : Int32)) z_where z_sorts z_tells z_keeps) H := hP
    have hD : va_D A (qw_X8_back cI cJ cC cG cW a_this a_this_laid a_this_text a_this_read a_this_numbers a_this_where a_this_sorts a_this_tells a_this_undone a_this_parts a_this_goesWith a_this_with a_this_keeps z_letters z_at (z_keeps ((20 : Int32) * (z_kept - (1 : Int32))).toNatClampNeg) z_counts z_undos z_all z_planned z_scale z_least (z_kept - (1 : Int32)) z_where z_sorts z_tells z_keeps) := hD
    refine lv_aload_n hx hb dX8_back_38 rfl (lv_at hl 1 rfl) ?_
    refine lv_aload_n hx hb dX8_back_39 rfl (lv_at hl 1 rfl) ?_
    refine va_get (D := (dC, dI)) (ci := 8) (v := .ref a_this_keeps) (C := RX8) (T := TX8) (N := 22) hx hb hts qi_X8_back_X8 hown hK hP 0 rfl rfl 21 (by decide) (hts _ ql_X8_back_44) (fun _ h9 => h9) rfl dX8_back_40 ?_
    refine lv_iload_n hx hb dX8_back_43 rfl (lv_at hl 0 rfl) ?_
    refine lv_iconst (v := (1 : Int32)) hx hb dX8_back_44 (by decide) ?_
    refine lv_iadd hx hb dX8_back_45 ?_
    obtain ⟨h3, hV⟩ := hV
    refine va_iald hx hb hK hP 4 0 rfl rfl h3 dX8_back_46 ?_
    refine va_put (D := (dC, dI)) (ci := 8) (v := .int (z_keeps (((20 : Int32) * (z_kept - (1 : Int32))) + (1 : Int32)).toNatClampNeg)) (ty := .int) (C := RX8) (T := TX8) (N := 22) hx hb hts qi_X8_back_X8 tyX8 tyX8_ok nmX8 hown hK hP hD hS 0 rfl rfl 7 (by decide) (hts _ ql_X8_back_114) (fun _ h9 => h9) rfl (by decide +kernel) rfl rfl (Nat.le_of_ble_eq_true rfl) dX8_back_47 (fun H locs hP hD hS => ?_)
    have hP : va_P (dC, dI) vwCl (qw_X8_back cI cJ cC cG cW a_this a_this_laid a_this_text a_this_read a_this_numbers a_this_where a_this_sorts a_this_tells a_this_undone a_this_parts a_this_goesWith a_this_with a_this_keeps z_letters z_at (z_keeps ((20 : Int32) * (z_kept - (1 : Int32))).toNatClampNeg) (z_keeps (((20 : Int32) * (z_kept - (1 : Int32))) + (1 : Int32)).toNatClampNeg) z_undos z_all z_planned z_scale z_least (z_kept - (1 : Int32)) z_where z_sorts z_tells z_keeps) H := hP
    have hD : va_D A (qw_X8_back cI cJ cC cG cW a_this a_this_laid a_this_text a_this_read a_this_numbers a_this_where a_this_sorts a_this_tells a_this_undone a_this_parts a_this_goesWith a_this_with a_this_keeps z_letters z_at (z_keeps ((20 : Int32) * (z_kept - (1 : Int32))).toNatClampNeg) (z_keeps (((20 : Int32) * (z_kept - (1 : Int32))) + (1 : Int32)).toNatClampNeg) z_undos z_all z_planned z_scale z_least (z_kept - (1 : Int32)) z_where z_sorts z_tells z_keeps) := hD
    refine lv_iconst (v := (0 : Int32)) hx hb dX8_back_50 (by decide) ?_
    refine lv_istore_n (lv' := [(2, .int (0 : Int32)), (1, .int ((20 : Int32) * (z_kept - (1 : Int32)))), (0, .ref a_this)]) hx hb dX8_back_51 rfl hl (by decide) rfl (fun ls hl => ?_)
    obtain ⟨n11, hV⟩ := hV
    refine qt_X8_back_L52 C0 hK hN hA z_letters z_at (z_keeps ((20 : Int32) * (z_kept - (1 : Int32))).toNatClampNeg) (z_keeps (((20 : Int32) * (z_kept - (1 : Int32))) + (1 : Int32)).toNatClampNeg) z_undos z_all z_planned z_scale z_least (z_kept - (1 : Int32)) z_keeps ((20 : Int32) * (z_kept - (1 : Int32))) _ _ (fun z_where_11 z_sorts_11 z_tells_11 H locs ls hV hP hD hS hl => ?_) n11 (0 : Int32) z_where z_sorts z_tells H locs ls hV hP hD hS (lv_sub hl [2, 1, 0] rfl)
    refine lv_aload_n hx hb dX8_back_114 rfl (lv_at hl 0 rfl) ?_
    refine lv_iconst (v := (0 : Int32)) hx hb dX8_back_115 (by decide) ?_
    refine va_put (D := (dC, dI)) (ci := 8) (v := .int (0 : Int32)) (ty := .int) (C := RX8) (T := TX8) (N := 22) hx hb hts qi_X8_back_X8 tyX8 tyX8_ok nmX8 hown hK hP hD hS 0 rfl rfl 11 (by decide) (hts _ ql_X8_back_117) (fun _ h9 => h9) rfl (by decide +kernel) rfl rfl (Nat.le_of_ble_eq_true rfl) dX8_back_116 (fun H locs hP hD hS => ?_)
    have hP : va_P (dC, dI) vwCl (qw_X8_back cI cJ cC cG cW a_this a_this_laid a_this_text a_this_read a_this_numbers a_this_where a_this_sorts a_this_tells a_this_undone a_this_parts a_this_goesWith a_this_with a_this_keeps z_letters z_at (z_keeps ((20 : Int32) * (z_kept - (1 : Int32))).toNatClampNeg) (z_keeps (((20 : Int32) * (z_kept - (1 : Int32))) + (1 : Int32)).toNatClampNeg) (0 : Int32) z_all z_planned z_scale z_least (z_kept - (1 : Int32)) z_where_11 z_sorts_11 z_tells_11 z_keeps) H := hP
    have hD : va_D A (qw_X8_back cI cJ cC cG cW a_this a_this_laid a_this_text a_this_read a_this_numbers a_this_where a_this_sorts a_this_tells a_this_undone a_this_parts a_this_goesWith a_this_with a_this_keeps z_letters z_at (z_keeps ((20 : Int32) * (z_kept - (1 : Int32))).toNatClampNeg) (z_keeps (((20 : Int32) * (z_kept - (1 : Int32))) + (1 : Int32)).toNatClampNeg) (0 : Int32) z_all z_planned z_scale z_least (z_kept - (1 : Int32)) z_where_11 z_sorts_11 z_tells_11 z_keeps) := hD
    refine lv_aload_n hx hb dX8_back_119 rfl (lv_at hl 0 rfl) ?_
    refine va_get (D := (dC, dI)) (ci := 8) (v := .int (z_kept - (1 : Int32))) (C := RX8) (T := TX8) (N := 22) hx hb hts qi_X8_back_X8 hown hK hP 0 rfl rfl 20 (by decide) (hts _ ql_X8_back_120) (fun _ h9 => h9) rfl dX8_back_120 ?_
    exact W.iret hx hb hr (fun t ht hW => ⟨⟨_, ((z_keeps ((20 : Int32) * (z_kept - (1 : Int32))).toNatClampNeg), (z_keeps (((20 : Int32) * (z_kept - (1 : Int32))) + (1 : Int32)).toNatClampNeg), (0 : Int32), (z_kept - (1 : Int32)), z_where_11, z_sorts_11, z_tells_11), rfl, hV, ⟨by rw [ht]; exact hP, va_K.moved hW.alike hK, hD⟩⟩, hS.F ht⟩) hS.2.2 dX8_back_123 hlocks
  · have hV := hV.1 c1
    refine lv_bipush (v := (-2 : Int32)) hx hb dX8_back_7 (by decide) ?_
    exact W.iret hx hb hr (fun t ht hW => ⟨⟨_, (z_walked, z_counts, z_undos, z_kept, z_where, z_sorts, z_tells), rfl, hV, ⟨by rw [ht]; exact hP, va_K.moved hW.alike hK, hD⟩⟩, hS.F ht⟩) hS.2.2 dX8_back_9 hlocks

/-! StileCountsModel.minutes()I -/
abbrev qw_X8_minutes (cI cJ cC cG cW : ClassId) (a_this a_this_laid a_this_text a_this_read a_this_numbers a_this_where a_this_sorts a_this_tells a_this_undone a_this_parts a_this_goesWith a_this_with a_this_keeps : Nat) (z_letters : Int32) (z_at : Int32) (z_walked : Int32) (z_counts : Int32) (z_undos : Int32) (z_all : Int64) (z_planned : Int64) (z_scale : Int64) (z_least : Int32) (z_kept : Int32) (z_laid : Nat → Int32) (z_sorts : Nat → Int32) : va_W := [(a_this, .inr (8, [.ref a_this_laid, .ref a_this_text, .int z_letters, .ref a_this_read, .int z_at, .ref a_this_numbers, .int z_walked, .int z_counts, .ref a_this_where, .ref a_this_sorts, .ref a_this_tells, .int z_undos, .ref a_this_undone, .ref a_this_parts, .long z_all, .long z_planned, .long z_scale, .ref a_this_goesWith, .int z_least, .ref a_this_with, .int z_kept, .ref a_this_keeps])), (a_this_laid, .inl (cI, 73, .inl z_laid)), (a_this_sorts, .inl (cI, 6, .inl z_sorts))]
theorem qi_X8_minutes_X8 : ∀ w ∈ wsX80, w ∈ wsX8_minutes := by decide +kernel
theorem ql_X8_minutes_111 : (.fieldLink RX8 111 "StileCountsModel" "walked" "I" : Cond) ∈ wsX8_minutes := by decide +kernel
theorem ql_X8_minutes_114 : (.fieldLink RX8 114 "StileCountsModel" "counts" "I" : Cond) ∈ wsX8_minutes := by decide +kernel
theorem ql_X8_minutes_7 : (.fieldLink RX8 7 "StileCountsModel" "laid" "[I" : Cond) ∈ wsX8_minutes := by decide +kernel
theorem ql_X8_minutes_25 : (.fieldLink RX8 25 "StileCountsModel" "sorts" "[I" : Cond) ∈ wsX8_minutes := by decide +kernel
def qv_X8_minutes_L4 (z_walked : Int32) (z_counts : Int32) (z_laid : Nat → Int32) (z_sorts : Nat → Int32) (Post : Int32 → Prop) (E : (Int32) → Prop) : Nat → (Int32) → (Int32) → Prop
  | 0, _, _ => False
  | n + 1, x1, x2 => (z_walked < x2 → E x1) ∧ (¬ z_walked < x2 → qv_X8_m x2 z_laid (fun r2 => qv_X8_minutes_L4 z_walked z_counts z_laid z_sorts Post E n (x1 + r2) (x2 + (1 : Int32))))
set_option maxHeartbeats 4000000 in
set_option maxRecDepth 100000 in
theorem qt_X8_minutes_L4 {p : Program} {l : Launch} {e : Env} {s : State} {m : MethodId} {args : Array Value} {below : List Frame} {meth : Method} {c : Code} {dC : Nat → ClassId} {dI : Nat → Nat → Nat} {cI cJ cC cG cW : ClassId} {a_this a_this_laid a_this_text a_this_read a_this_numbers a_this_where a_this_sorts a_this_tells a_this_undone a_this_parts a_this_goesWith a_this_with a_this_keeps : Nat} (C0 : MC cX8_minutes 3 (some .int) RX8 wsX8_minutes p s m args meth c) (hK : va_K (dC, dI) vwCl (tyL cI cJ cC cG cW) s) (hN : NW s) (z_letters : Int32) (z_at : Int32) (z_walked : Int32) (z_counts : Int32) (z_undos : Int32) (z_all : Int64) (z_planned : Int64) (z_scale : Int64) (z_least : Int32) (z_kept : Int32) (z_laid : Nat → Int32) (z_sorts : Nat → Int32) (hP : va_P (dC, dI) vwCl (qw_X8_minutes cI cJ cC cG cW a_this a_this_laid a_this_text a_this_read a_this_numbers a_this_where a_this_sorts a_this_tells a_this_undone a_this_parts a_this_goesWith a_this_with a_this_keeps z_letters z_at z_walked z_counts z_undos z_all z_planned z_scale z_least z_kept z_laid z_sorts) s.heap) (Post : Int32 → Prop) (E : (Int32) → Prop) (hE : ∀ (x1 : Int32) (ls : Array Slot), E x1 → lv_has ls 3 [(0, .ref a_this), (1, .int x1)] → W p l e ({ frames := 1, cells := 0, slots := 0, locals := 21 } : Room) s m args below meth c s.heap [] 0 0 (MQ below (vp_Si Post) args s 0 0 (fun _ => False)) (F0 m 26 ls [])) : ∀ (n : Nat) (x1 : Int32) (x2 : Int32) (ls : Array Slot), qv_X8_minutes_L4 z_walked z_counts z_laid z_sorts Post E n x1 x2 → lv_has ls 3 [(0, .ref a_this), (1, .int x1), (2, .int x2)] → W p l e ({ frames := 1, cells := 0, slots := 0, locals := 21 } : Room) s m args below meth c s.heap [] 0 0 (MQ below (vp_Si Post) args s 0 0 (fun _ => False)) (F0 m 4 ls []) := by
  obtain ⟨hx, hb, hr, hml, hown, hts, hlocks⟩ := id C0
  intro n
  induction n with
  | zero =>
    intro x1 x2 ls hV
    exact False.elim hV
  | succ n ih =>
    intro x1 x2 ls hV hl
    refine lv_iload_n hx hb dX8_minutes_4 rfl (lv_at hl 2 rfl) ?_
    refine lv_aload_n hx hb dX8_minutes_5 rfl (lv_at hl 0 rfl) ?_
    refine va_get (D := (dC, dI)) (ci := 8) (v := .int z_walked) (C := RX8) (T := TX8) (N := 22) hx hb hts qi_X8_minutes_X8 hown hK hP 0 rfl rfl 6 (by decide) (hts _ ql_X8_minutes_111) (fun _ h9 => h9) rfl dX8_minutes_6 ?_
    refine lv_icmp_gt (tgt := 26) hx hb dX8_minutes_9 (by decide) (fun c1 => ?_) (fun c1 => ?_)
    · have hV := hV.1 c1
      exact hE x1 ls hV (lv_sub hl [0, 1] rfl)
    · have hV := hV.2 c1
      refine lv_iload_n hx hb dX8_minutes_12 rfl (lv_at hl 1 rfl) ?_
      refine lv_aload_n hx hb dX8_minutes_13 rfl (lv_at hl 0 rfl) ?_
      refine lv_iload_n hx hb dX8_minutes_14 rfl (lv_at hl 2 rfl) ?_
      refine vp_callSi (va_Run.run (va_runV (As := [.int x2]) (rest := [.int x1]) ⟨hx, hb, hml, hown, hts⟩ (qm_X8_m l dC dI cI cJ cC cG cW a_this a_this_laid a_this_text a_this_read a_this_numbers a_this_where a_this_sorts a_this_tells a_this_undone a_this_parts a_this_goesWith a_this_with a_this_keeps z_letters z_at z_walked z_counts z_undos z_all z_planned z_scale z_least z_kept z_laid x2 _ hV) (cwV 1 hts gX8_minutes_X8_m rfl rfl rfl (by decide +kernel) ⟨Nat.le_of_ble_eq_true rfl, Nat.le_of_ble_eq_true rfl⟩) (preRV hK hN (hP.sub (ws' := (qw_X8_m cI cJ cC cG cW a_this a_this_laid a_this_text a_this_read a_this_numbers a_this_where a_this_sorts a_this_tells a_this_undone a_this_parts a_this_goesWith a_this_with a_this_keeps z_letters z_at z_walked z_counts z_undos z_all z_planned z_scale z_least z_kept z_laid)) [0, 1] rfl) rfl rfl) rfl rfl hl.1 rfl (lv_room (Nat.le_of_ble_eq_true rfl)) dX8_minutes_15 ⟨Nat.le_of_ble_eq_true rfl, Nat.le_of_ble_eq_true rfl⟩)) (fun r2 hV => ?_)
      refine lv_iadd hx hb dX8_minutes_18 ?_
      refine lv_istore_n (lv' := [(1, .int (x1 + r2)), (0, .ref a_this), (2, .int x2)]) hx hb dX8_minutes_19 rfl hl (by decide) rfl (fun ls hl => ?_)
      refine lv_iinc (v := (x2 + (1 : Int32))) (lv' := [(2, .int (x2 + (1 : Int32))), (1, .int (x1 + r2)), (0, .ref a_this)]) hx hb dX8_minutes_20 hl (k := 2) rfl rfl (by decide) rfl (fun ls hl => ?_)
      refine lv_goto (tgt := 4) hx hb dX8_minutes_23 (by decide) ?_
      exact ih (x1 + r2) (x2 + (1 : Int32)) ls hV (lv_sub hl [2, 1, 0] rfl)
def qv_X8_minutes_L28 (z_walked : Int32) (z_counts : Int32) (z_laid : Nat → Int32) (z_sorts : Nat → Int32) (Post : Int32 → Prop) (E : (Int32) → Prop) : Nat → (Int32) → (Int32) → Prop
  | 0, _, _ => False
  | n + 1, x1, x2 => (z_counts ≤ x2 → E x1) ∧ (¬ z_counts ≤ x2 → vp_in x2 6 ∧ (vp_in (((29 : Int32) + ((2 : Int32) * (z_sorts x2.toNatClampNeg))) + (1 : Int32)) 73 ∧ (qv_X8_minutes_L28 z_walked z_counts z_laid z_sorts Post E n (x1 + (z_laid (((29 : Int32) + ((2 : Int32) * (z_sorts x2.toNatClampNeg))) + (1 : Int32)).toNatClampNeg)) (x2 + (1 : Int32)))))
set_option maxHeartbeats 4000000 in
set_option maxRecDepth 100000 in
theorem qt_X8_minutes_L28 {p : Program} {l : Launch} {e : Env} {s : State} {m : MethodId} {args : Array Value} {below : List Frame} {meth : Method} {c : Code} {dC : Nat → ClassId} {dI : Nat → Nat → Nat} {cI cJ cC cG cW : ClassId} {a_this a_this_laid a_this_text a_this_read a_this_numbers a_this_where a_this_sorts a_this_tells a_this_undone a_this_parts a_this_goesWith a_this_with a_this_keeps : Nat} (C0 : MC cX8_minutes 3 (some .int) RX8 wsX8_minutes p s m args meth c) (hK : va_K (dC, dI) vwCl (tyL cI cJ cC cG cW) s) (hN : NW s) (z_letters : Int32) (z_at : Int32) (z_walked : Int32) (z_counts : Int32) (z_undos : Int32) (z_all : Int64) (z_planned : Int64) (z_scale : Int64) (z_least : Int32) (z_kept : Int32) (z_laid : Nat → Int32) (z_sorts : Nat → Int32) (hP : va_P (dC, dI) vwCl (qw_X8_minutes cI cJ cC cG cW a_this a_this_laid a_this_text a_this_read a_this_numbers a_this_where a_this_sorts a_this_tells a_this_undone a_this_parts a_this_goesWith a_this_with a_this_keeps z_letters z_at z_walked z_counts z_undos z_all z_planned z_scale z_least z_kept z_laid z_sorts) s.heap) (Post : Int32 → Prop) (E : (Int32) → Prop) (hE : ∀ (x1 : Int32) (ls : Array Slot), E x1 → lv_has ls 3 [(1, .int x1)] → W p l e ({ frames := 1, cells := 0, slots := 0, locals := 21 } : Room) s m args below meth c s.heap [] 0 0 (MQ below (vp_Si Post) args s 0 0 (fun _ => False)) (F0 m 63 ls [])) : ∀ (n : Nat) (x1 : Int32) (x2 : Int32) (ls : Array Slot), qv_X8_minutes_L28 z_walked z_counts z_laid z_sorts Post E n x1 x2 → lv_has ls 3 [(0, .ref a_this), (1, .int x1), (2, .int x2)] → W p l e ({ frames := 1, cells := 0, slots := 0, locals := 21 } : Room) s m args below meth c s.heap [] 0 0 (MQ below (vp_Si Post) args s 0 0 (fun _ => False)) (F0 m 28 ls []) := by
  obtain ⟨hx, hb, hr, hml, hown, hts, hlocks⟩ := id C0
  intro n
  induction n with
  | zero =>
    intro x1 x2 ls hV
    exact False.elim hV
  | succ n ih =>
    intro x1 x2 ls hV hl
    refine lv_iload_n hx hb dX8_minutes_28 rfl (lv_at hl 2 rfl) ?_
    refine lv_aload_n hx hb dX8_minutes_29 rfl (lv_at hl 0 rfl) ?_
    refine va_get (D := (dC, dI)) (ci := 8) (v := .int z_counts) (C := RX8) (T := TX8) (N := 22) hx hb hts qi_X8_minutes_X8 hown hK hP 0 rfl rfl 7 (by decide) (hts _ ql_X8_minutes_114) (fun _ h9 => h9) rfl dX8_minutes_30 ?_
    refine lv_icmp_ge (tgt := 63) hx hb dX8_minutes_33 (by decide) (fun c4 => ?_) (fun c4 => ?_)
    · have hV := hV.1 c4
      exact hE x1 ls hV (lv_sub hl [1] rfl)
    · have hV := hV.2 c4
      refine lv_iload_n hx hb dX8_minutes_36 rfl (lv_at hl 1 rfl) ?_
      refine lv_aload_n hx hb dX8_minutes_37 rfl (lv_at hl 0 rfl) ?_
      refine va_get (D := (dC, dI)) (ci := 8) (v := .ref a_this_laid) (C := RX8) (T := TX8) (N := 22) hx hb hts qi_X8_minutes_X8 hown hK hP 0 rfl rfl 0 (by decide) (hts _ ql_X8_minutes_7) (fun _ h9 => h9) rfl dX8_minutes_38 ?_
      refine lv_bipush (v := (29 : Int32)) hx hb dX8_minutes_41 (by decide) ?_
      refine lv_iconst (v := (2 : Int32)) hx hb dX8_minutes_43 (by decide) ?_
      refine lv_aload_n hx hb dX8_minutes_44 rfl (lv_at hl 0 rfl) ?_
      refine va_get (D := (dC, dI)) (ci := 8) (v := .ref a_this_sorts) (C := RX8) (T := TX8) (N := 22) hx hb hts qi_X8_minutes_X8 hown hK hP 0 rfl rfl 9 (by decide) (hts _ ql_X8_minutes_25) (fun _ h9 => h9) rfl dX8_minutes_45 ?_
      refine lv_iload_n hx hb dX8_minutes_48 rfl (lv_at hl 2 rfl) ?_
      obtain ⟨h5, hV⟩ := hV
      refine va_iald hx hb hK hP 2 0 rfl rfl h5 dX8_minutes_49 ?_
      refine lv_imul hx hb dX8_minutes_50 ?_
      refine lv_iadd hx hb dX8_minutes_51 ?_
      refine lv_iconst (v := (1 : Int32)) hx hb dX8_minutes_52 (by decide) ?_
      refine lv_iadd hx hb dX8_minutes_53 ?_
      obtain ⟨h6, hV⟩ := hV
      refine va_iald hx hb hK hP 1 0 rfl rfl h6 dX8_minutes_54 ?_
      refine lv_iadd hx hb dX8_minutes_55 ?_
      refine lv_istore_n (lv' := [(1, .int (x1 + (z_laid (((29 : Int32) + ((2 : Int32) * (z_sorts x2.toNatClampNeg))) + (1 : Int32)).toNatClampNeg))), (0, .ref a_this), (2, .int x2)]) hx hb dX8_minutes_56 rfl hl (by decide) rfl (fun ls hl => ?_)
      refine lv_iinc (v := (x2 + (1 : Int32))) (lv' := [(2, .int (x2 + (1 : Int32))), (1, .int (x1 + (z_laid (((29 : Int32) + ((2 : Int32) * (z_sorts x2.toNatClampNeg))) + (1 : Int32)).toNatClampNeg))), (0, .ref a_this)]) hx hb dX8_minutes_57 hl (k := 2) rfl rfl (by decide) rfl (fun ls hl => ?_)
      refine lv_goto (tgt := 28) hx hb dX8_minutes_60 (by decide) ?_
      exact ih (x1 + (z_laid (((29 : Int32) + ((2 : Int32) * (z_sorts x2.toNatClampNeg))) + (1 : Int32)).toNatClampNeg)) (x2 + (1 : Int32)) ls hV (lv_sub hl [2, 1, 0] rfl)
def qv_X8_minutes (z_walked : Int32) (z_counts : Int32) (z_laid : Nat → Int32) (z_sorts : Nat → Int32) (Post : Int32 → Prop) : Prop := ∃ n3, qv_X8_minutes_L4 z_walked z_counts z_laid z_sorts Post (fun x1_3 => ∃ n7, qv_X8_minutes_L28 z_walked z_counts z_laid z_sorts Post (fun x1_7 => Post x1_7) n7 x1_3 (0 : Int32)) n3 (0 : Int32) (1 : Int32)
set_option maxHeartbeats 4000000 in
set_option maxRecDepth 100000 in
theorem qm_X8_minutes (l : Launch) (dC : Nat → ClassId) (dI : Nat → Nat → Nat) (cI cJ cC cG cW : ClassId) (a_this a_this_laid a_this_text a_this_read a_this_numbers a_this_where a_this_sorts a_this_tells a_this_undone a_this_parts a_this_goesWith a_this_with a_this_keeps : Nat) (z_letters : Int32) (z_at : Int32) (z_walked : Int32) (z_counts : Int32) (z_undos : Int32) (z_all : Int64) (z_planned : Int64) (z_scale : Int64) (z_least : Int32) (z_kept : Int32) (z_laid : Nat → Int32) (z_sorts : Nat → Int32) (Post : Int32 → Prop) (hV : qv_X8_minutes z_walked z_counts z_laid z_sorts Post) : Met l yX8_minutes wsX8_minutes ({ frames := 1, cells := 0, slots := 0, locals := 21 } : Room) (va_Pc [.ref a_this] (prR (dC, dI) (qw_X8_minutes cI cJ cC cG cW a_this a_this_laid a_this_text a_this_read a_this_numbers a_this_where a_this_sorts a_this_tells a_this_undone a_this_parts a_this_goesWith a_this_with a_this_keeps z_letters z_at z_walked z_counts z_undos z_all z_planned z_scale z_least z_kept z_laid z_sorts) (tyL cI cJ cC cG cW))) (vp_Si Post) 0 0 (fun _ => False) := by
  refine Met.ofR (nm := "minutes") (ds := "()I") (own := RX8) (maxL := 3) (cc := cX8_minutes) (ret := (some .int)) (by decide) rfl rfl (Nat.le_of_ble_eq_true rfl) (fun p e s m below meth c C0 hK hN hP ls hl => ?_)
  obtain ⟨hx, hb, hr, hml, hown, hts, hlocks⟩ := id C0
  have hl : lv_has ls 3 [(0, .ref a_this)] := hl
  refine lv_iconst (v := (0 : Int32)) hx hb dX8_minutes_0 (by decide) ?_
  refine lv_istore_n (lv' := [(1, .int (0 : Int32)), (0, .ref a_this)]) hx hb dX8_minutes_1 rfl hl (by decide) rfl (fun ls hl => ?_)
  refine lv_iconst (v := (1 : Int32)) hx hb dX8_minutes_2 (by decide) ?_
  refine lv_istore_n (lv' := [(2, .int (1 : Int32)), (1, .int (0 : Int32)), (0, .ref a_this)]) hx hb dX8_minutes_3 rfl hl (by decide) rfl (fun ls hl => ?_)
  obtain ⟨n3, hV⟩ := hV
  refine qt_X8_minutes_L4 C0 hK hN z_letters z_at z_walked z_counts z_undos z_all z_planned z_scale z_least z_kept z_laid z_sorts hP _ _ (fun x1_3 ls hV hl => ?_) n3 (0 : Int32) (1 : Int32) ls hV (lv_sub hl [2, 1, 0] rfl)
  refine lv_iconst (v := (0 : Int32)) hx hb dX8_minutes_26 (by decide) ?_
  refine lv_istore_n (lv' := [(2, .int (0 : Int32)), (0, .ref a_this), (1, .int x1_3)]) hx hb dX8_minutes_27 rfl hl (by decide) rfl (fun ls hl => ?_)
  obtain ⟨n7, hV⟩ := hV
  refine qt_X8_minutes_L28 C0 hK hN z_letters z_at z_walked z_counts z_undos z_all z_planned z_scale z_least z_kept z_laid z_sorts hP _ _ (fun x1_7 ls hV hl => ?_) n7 x1_3 (0 : Int32) ls hV (lv_sub hl [1, 2, 0] rfl)
  refine lv_iload_n hx hb dX8_minutes_63 rfl (lv_at hl 0 rfl) ?_
  exact W.iret hx hb hr (fun t ht hW => ⟨_, rfl, hV, ht⟩) (fun q h => absurd h List.not_mem_nil) dX8_minutes_64 hlocks

/-! StileCountsModel.many(I)I -/
abbrev qw_X8_many (cI cJ cC cG cW : ClassId) (a_this a_this_laid a_this_text a_this_read a_this_numbers a_this_where a_this_sorts a_this_tells a_this_undone a_this_parts a_this_goesWith a_this_with a_this_keeps : Nat) (z_letters : Int32) (z_at : Int32) (z_walked : Int32) (z_counts : Int32) (z_undos : Int32) (z_all : Int64) (z_planned : Int64) (z_scale : Int64) (z_least : Int32) (z_kept : Int32) (z_laid : Nat → Int32) (z_sorts : Nat → Int32) : va_W := [(a_this, .inr (8, [.ref a_this_laid, .ref a_this_text, .int z_letters, .ref a_this_read, .int z_at, .ref a_this_numbers, .int z_walked, .int z_counts, .ref a_this_where, .ref a_this_sorts, .ref a_this_tells, .int z_undos, .ref a_this_undone, .ref a_this_parts, .long z_all, .long z_planned, .long z_scale, .ref a_this_goesWith, .int z_least, .ref a_this_with, .int z_kept, .ref a_this_keeps])), (a_this_laid, .inl (cI, 73, .inl z_laid)), (a_this_sorts, .inl (cI, 6, .inl z_sorts))]
theorem qi_X8_many_X8 : ∀ w ∈ wsX80, w ∈ wsX8_many := by decide +kernel
theorem ql_X8_many_7 : (.fieldLink RX8 7 "StileCountsModel" "laid" "[I" : Cond) ∈ wsX8_many := by decide +kernel
theorem ql_X8_many_111 : (.fieldLink RX8 111 "StileCountsModel" "walked" "I" : Cond) ∈ wsX8_many := by decide +kernel
theorem ql_X8_many_114 : (.fieldLink RX8 114 "StileCountsModel" "counts" "I" : Cond) ∈ wsX8_many := by decide +kernel
theorem ql_X8_many_117 : (.fieldLink RX8 117 "StileCountsModel" "undos" "I" : Cond) ∈ wsX8_many := by decide +kernel
theorem ql_X8_many_120 : (.fieldLink RX8 120 "StileCountsModel" "kept" "I" : Cond) ∈ wsX8_many := by decide +kernel
theorem ql_X8_many_67 : (.fieldLink RX8 67 "StileCountsModel" "letters" "I" : Cond) ∈ wsX8_many := by decide +kernel
def qv_X8_many (x1 : Int32) (z_letters : Int32) (z_walked : Int32) (z_counts : Int32) (z_undos : Int32) (z_kept : Int32) (z_laid : Nat → Int32) (z_sorts : Nat → Int32) (Post : Int32 → Prop) : Prop := (x1 = (0 : Int32) → vp_in (0 : Int32) 73 ∧ (Post (z_laid (0 : Int32).toNatClampNeg))) ∧ (x1 = (1 : Int32) → Post z_walked) ∧ (x1 = (2 : Int32) → Post z_counts) ∧ (x1 = (3 : Int32) → vp_in (1 : Int32) 73 ∧ (Post (z_laid (1 : Int32).toNatClampNeg))) ∧ (x1 = (4 : Int32) → qv_X8_minutes z_walked z_counts z_laid z_sorts (fun r4 => Post r4)) ∧ (x1 = (5 : Int32) → Post z_undos) ∧ (x1 = (6 : Int32) → Post z_kept) ∧ (x1 = (7 : Int32) → Post z_letters) ∧ (((x1).toInt < 0 ∨ 7 < (x1).toInt) → Post (-1 : Int32))
set_option maxHeartbeats 4000000 in
set_option maxRecDepth 100000 in
theorem qm_X8_many (l : Launch) (dC : Nat → ClassId) (dI : Nat → Nat → Nat) (cI cJ cC cG cW : ClassId) (a_this a_this_laid a_this_text a_this_read a_this_numbers a_this_where a_this_sorts a_this_tells a_this_undone a_this_parts a_this_goesWith a_this_with a_this_keeps : Nat) (z_letters : Int32) (z_at : Int32) (z_walked : Int32) (z_counts : Int32) (z_undos : Int32) (z_all : Int64) (z_planned : Int64) (z_scale : Int64) (z_least : Int32) (z_kept : Int32) (z_laid : Nat → Int32) (z_sorts : Nat → Int32) (x1 : Int32) (Post : Int32 → Prop) (hV : qv_X8_many x1 z_letters z_walked z_counts z_undos z_kept z_laid z_sorts Post) : Met l yX8_many wsX8_many ({ frames := 2, cells := 0, slots := 0, locals := 43 } : Room) (va_Pc [.ref a_this, .int x1] (prR (dC, dI) (qw_X8_many cI cJ cC cG cW a_this a_this_laid a_this_text a_this_read a_this_numbers a_this_where a_this_sorts a_this_tells a_this_undone a_this_parts a_this_goesWith a_this_with a_this_keeps z_letters z_at z_walked z_counts z_undos z_all z_planned z_scale z_least z_kept z_laid z_sorts) (tyL cI cJ cC cG cW))) (vp_Si Post) 0 0 (fun _ => False) := by
  refine Met.ofR (nm := "many") (ds := "(I)I") (own := RX8) (maxL := 2) (cc := cX8_many) (ret := (some .int)) (by decide) rfl rfl (Nat.le_of_ble_eq_true rfl) (fun p e s m below meth c C0 hK hN hP ls hl => ?_)
  obtain ⟨hx, hb, hr, hml, hown, hts, hlocks⟩ := id C0
  have hl : lv_has ls 2 [(0, .ref a_this), (1, .int x1)] := hl
  refine lv_iload_n hx hb dX8_many_0 rfl (lv_at hl 1 rfl) ?_
  rcases sw_8 x1 with c1 | c1 | c1 | c1 | c1 | c1 | c1 | c1 | c1
  · have hV := hV.1 c1
    refine lv_tableIn (off := 47) (tgt := 48) hx hb dX8_many_1 (by rw [c1]; decide) (by rw [c1]; decide) (by rw [c1]; rfl) (by decide) ?_
    refine lv_aload_n hx hb dX8_many_48 rfl (lv_at hl 0 rfl) ?_
    refine va_get (D := (dC, dI)) (ci := 8) (v := .ref a_this_laid) (C := RX8) (T := TX8) (N := 22) hx hb hts qi_X8_many_X8 hown hK hP 0 rfl rfl 0 (by decide) (hts _ ql_X8_many_7) (fun _ h9 => h9) rfl dX8_many_49 ?_
    refine lv_iconst (v := (0 : Int32)) hx hb dX8_many_52 (by decide) ?_
    obtain ⟨h2, hV⟩ := hV
    refine va_iald hx hb hK hP 1 0 rfl rfl h2 dX8_many_53 ?_
    exact W.iret hx hb hr (fun t ht hW => ⟨_, rfl, hV, ht⟩) (fun q h => absurd h List.not_mem_nil) dX8_many_54 hlocks
  · have hV := hV.2.1 c1
    refine lv_tableIn (off := 54) (tgt := 55) hx hb dX8_many_1 (by rw [c1]; decide) (by rw [c1]; decide) (by rw [c1]; rfl) (by decide) ?_
    refine lv_aload_n hx hb dX8_many_55 rfl (lv_at hl 0 rfl) ?_
    refine va_get (D := (dC, dI)) (ci := 8) (v := .int z_walked) (C := RX8) (T := TX8) (N := 22) hx hb hts qi_X8_many_X8 hown hK hP 0 rfl rfl 6 (by decide) (hts _ ql_X8_many_111) (fun _ h9 => h9) rfl dX8_many_56 ?_
    exact W.iret hx hb hr (fun t ht hW => ⟨_, rfl, hV, ht⟩) (fun q h => absurd h List.not_mem_nil) dX8_many_59 hlocks
  · have hV := hV.2.2.1 c1
    refine lv_tableIn (off := 59) (tgt := 60) hx hb dX8_many_1 (by rw [c1]; decide) (by rw [c1]; decide) (by rw [c1]; rfl) (by decide) ?_
    refine lv_aload_n hx hb dX8_many_60 rfl (lv_at hl 0 rfl) ?_
    refine va_get (D := (dC, dI)) (ci := 8) (v := .int z_counts) (C := RX8) (T := TX8) (N := 22) hx hb hts qi_X8_many_X8 hown hK hP 0 rfl rfl 7 (by decide) (hts _ ql_X8_many_114) (fun _ h9 => h9) rfl dX8_many_61 ?_
    exact W.iret hx hb hr (fun t ht hW => ⟨_, rfl, hV, ht⟩) (fun q h => absurd h List.not_mem_nil) dX8_many_64 hlocks
  · have hV := hV.2.2.2.1 c1
    refine lv_tableIn (off := 64) (tgt := 65) hx hb dX8_many_1 (by rw [c1]; decide) (by rw [c1]; decide) (by rw [c1]; rfl) (by decide) ?_
    refine lv_aload_n hx hb dX8_many_65 rfl (lv_at hl 0 rfl) ?_
    refine va_get (D := (dC, dI)) (ci := 8) (v := .ref a_this_laid) (C := RX8) (T := TX8) (N := 22) hx hb hts qi_X8_many_X8 hown hK hP 0 rfl rfl 0 (by decide) (hts _ ql_X8_many_7) (fun _ h9 => h9) rfl dX8_many_66 ?_
    refine lv_iconst (v := (1 : Int32)) hx hb dX8_many_69 (by decide) ?_
    obtain ⟨h3, hV⟩ := hV
    refine va_iald hx hb hK hP 1 0 rfl rfl h3 dX8_many_70 ?_
    exact W.iret hx hb hr (fun t ht hW => ⟨_, rfl, hV, ht⟩) (fun q h => absurd h List.not_mem_nil) dX8_many_71 hlocks
  · have hV := hV.2.2.2.2.1 c1
    refine lv_tableIn (off := 71) (tgt := 72) hx hb dX8_many_1 (by rw [c1]; decide) (by rw [c1]; decide) (by rw [c1]; rfl) (by decide) ?_
    refine lv_aload_n hx hb dX8_many_72 rfl (lv_at hl 0 rfl) ?_
    refine vp_callSi (va_Run.run (va_runV (As := []) (rest := []) ⟨hx, hb, hml, hown, hts⟩ (qm_X8_minutes l dC dI cI cJ cC cG cW a_this a_this_laid a_this_text a_this_read a_this_numbers a_this_where a_this_sorts a_this_tells a_this_undone a_this_parts a_this_goesWith a_this_with a_this_keeps z_letters z_at z_walked z_counts z_undos z_all z_planned z_scale z_least z_kept z_laid z_sorts _ hV) (cwV 0 hts gX8_many_X8_minutes rfl rfl rfl (by decide +kernel) ⟨Nat.le_of_ble_eq_true rfl, Nat.le_of_ble_eq_true rfl⟩) (preRV hK hN (show va_P (dC, dI) vwCl (qw_X8_minutes cI cJ cC cG cW a_this a_this_laid a_this_text a_this_read a_this_numbers a_this_where a_this_sorts a_this_tells a_this_undone a_this_parts a_this_goesWith a_this_with a_this_keeps z_letters z_at z_walked z_counts z_undos z_all z_planned z_scale z_least z_kept z_laid z_sorts) s.heap from hP) rfl rfl) rfl rfl hl.1 rfl (lv_room (Nat.le_of_ble_eq_true rfl)) dX8_many_73 ⟨Nat.le_of_ble_eq_true rfl, Nat.le_of_ble_eq_true rfl⟩)) (fun r4 hV => ?_)
    exact W.iret hx hb hr (fun t ht hW => ⟨_, rfl, hV, ht⟩) (fun q h => absurd h List.not_mem_nil) dX8_many_76 hlocks
  · have hV := hV.2.2.2.2.2.1 c1
    refine lv_tableIn (off := 76) (tgt := 77) hx hb dX8_many_1 (by rw [c1]; decide) (by rw [c1]; decide) (by rw [c1]; rfl) (by decide) ?_
    refine lv_aload_n hx hb dX8_many_77 rfl (lv_at hl 0 rfl) ?_
    refine va_get (D := (dC, dI)) (ci := 8) (v := .int z_undos) (C := RX8) (T := TX8) (N := 22) hx hb hts qi_X8_many_X8 hown hK hP 0 rfl rfl 11 (by decide) (hts _ ql_X8_many_117) (fun _ h9 => h9) rfl dX8_many_78 ?_
    exact W.iret hx hb hr (fun t ht hW => ⟨_, rfl, hV, ht⟩) (fun q h => absurd h List.not_mem_nil) dX8_many_81 hlocks
  · have hV := hV.2.2.2.2.2.2.1 c1
    refine lv_tableIn (off := 81) (tgt := 82) hx hb dX8_many_1 (by rw [c1]; decide) (by rw [c1]; decide) (by rw [c1]; rfl) (by decide) ?_
    refine lv_aload_n hx hb dX8_many_82 rfl (lv_at hl 0 rfl) ?_
    refine va_get (D := (dC, dI)) (ci := 8) (v := .int z_kept) (C := RX8) (T := TX8) (N := 22) hx hb hts qi_X8_many_X8 hown hK hP 0 rfl rfl 20 (by decide) (hts _ ql_X8_many_120) (fun _ h9 => h9) rfl dX8_many_83 ?_
    exact W.iret hx hb hr (fun t ht hW => ⟨_, rfl, hV, ht⟩) (fun q h => absurd h List.not_mem_nil) dX8_many_86 hlocks
  · have hV := hV.2.2.2.2.2.2.2.1 c1
    refine lv_tableIn (off := 86) (tgt := 87) hx hb dX8_many_1 (by rw [c1]; decide) (by rw [c1]; decide) (by rw [c1]; rfl) (by decide) ?_
    refine lv_aload_n hx hb dX8_many_87 rfl (lv_at hl 0 rfl) ?_
    refine va_get (D := (dC, dI)) (ci := 8) (v := .int z_letters) (C := RX8) (T := TX8) (N := 22) hx hb hts qi_X8_many_X8 hown hK hP 0 rfl rfl 2 (by decide) (hts _ ql_X8_many_67) (fun _ h9 => h9) rfl dX8_many_88 ?_
    exact W.iret hx hb hr (fun t ht hW => ⟨_, rfl, hV, ht⟩) (fun q h => absurd h List.not_mem_nil) dX8_many_91 hlocks
  · have hV := hV.2.2.2.2.2.2.2.2 c1
    refine lv_tableOut (tgt := 92) hx hb dX8_many_1 c1 (by decide) ?_
    refine lv_iconst (v := (-1 : Int32)) hx hb dX8_many_92 (by decide) ?_
    exact W.iret hx hb hr (fun t ht hW => ⟨_, rfl, hV, ht⟩) (fun q h => absurd h List.not_mem_nil) dX8_many_93 hlocks
