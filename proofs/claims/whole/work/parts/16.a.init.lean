theorem cb_int {n : Nat} (h : n ≤ 1000) : n * componentBytes .int ≤ 536870912 := by
  have e : componentBytes .int = 4 := rfl
  rw [e]; omega
theorem cb_long {n : Nat} (h : n ≤ 1000) : n * componentBytes .long ≤ 536870912 := by
  have e : componentBytes .long = 8 := rfl
  rw [e]; omega
theorem cb_char {n : Nat} (h : n ≤ 1000) : n * componentBytes .char ≤ 536870912 := by
  have e : componentBytes .char = 2 := rfl
  rw [e]; omega
theorem qrows {f : Nat → va_E} {r : Nat → Nat} {e : va_E} {X : va_W} : X ++ va_pl ([] ++ (List.range 6).map r) (vr_up f ((List.range 6).map r) e) = X ++ [(r 0, e), (r 1, e), (r 2, e), (r 3, e), (r 4, e), (r 5, e)] := by
  have h : ∀ i, i < 6 → vr_up f ((List.range 6).map r) e (r i) = e := fun i hi => vr_up_in (List.mem_map.mpr ⟨i, List.mem_range.mpr hi, rfl⟩)
  show X ++ [(r 0, vr_up f ((List.range 6).map r) e (r 0)), (r 1, vr_up f ((List.range 6).map r) e (r 1)), (r 2, vr_up f ((List.range 6).map r) e (r 2)), (r 3, vr_up f ((List.range 6).map r) e (r 3)), (r 4, vr_up f ((List.range 6).map r) e (r 4)), (r 5, vr_up f ((List.range 6).map r) e (r 5))] = _
  rw [h 0 (by decide), h 1 (by decide), h 2 (by decide), h 3 (by decide), h 4 (by decide), h 5 (by decide)]

/-! StileCounts$Text.<init>()V -/
abbrev qw_X5_init (cI cJ cC cG cW : ClassId) (a_this a_this_letters : Nat) (z_length : Int32) (z_letters : Nat → Int32) : va_W := [(a_this, .inr (5, [.ref a_this_letters, .int z_length])), (a_this_letters, .inl (cC, 200, .inl z_letters))]
theorem qi_X5_init_X5 : ∀ w ∈ wsX50, w ∈ wsX5_init := by decide +kernel
theorem ql_X5_init_9 : (.fieldLink RX5 9 "StileCounts$Text" "letters" "[C" : Cond) ∈ wsX5_init := by decide +kernel
theorem ql_X5_init_15 : (.fieldLink RX5 15 "StileCounts$Text" "length" "I" : Cond) ∈ wsX5_init := by decide +kernel
def qv_X5_init (Post : (Int32) → (Nat → Int32) → Prop) : Prop := Post (0 : Int32) (fun _ => 0)
set_option maxHeartbeats 800000 in
set_option maxRecDepth 100000 in
theorem qm_X5_init (l : Launch) (dC : Nat → ClassId) (dI : Nat → Nat → Nat) (cI cJ cC cG cW : ClassId) (a_this : Nat) (sz : Nat) (Post : (Int32) → (Nat → Int32) → Prop) (hV : qv_X5_init Post) : Met l yX5_init wsX5_init ({ frames := 1, cells := 1, slots := 200, locals := 20 } : Room) (va_Pc [.ref a_this] (prW (dC, dI) [(a_this, .inr (5, [.null, .int 0]))] (tyL cI cJ cC cG cW) sz)) (va_Qv (fun w : va_W => ∃ (a_this_letters : Nat) (z_length : Int32) (z_letters : Nat → Int32), Post z_length z_letters ∧ w = (qw_X5_init cI cJ cC cG cW a_this a_this_letters z_length z_letters)) (fun w t => poW (dC, dI) (tyL cI cJ cC cG cW) (va_A [(a_this, .inr (5, [.null, .int 0]))] sz) w t) (va_A [(a_this, .inr (5, [.null, .int 0]))] sz)) 1 200 (va_A [(a_this, .inr (5, [.null, .int 0]))] sz) := by
  refine Met.ofM (Qc := fun A => va_Qv (fun w : va_W => ∃ (a_this_letters : Nat) (z_length : Int32) (z_letters : Nat → Int32), Post z_length z_letters ∧ w = (qw_X5_init cI cJ cC cG cW a_this a_this_letters z_length z_letters)) (fun w t => poW (dC, dI) (tyL cI cJ cC cG cW) A w t) A) (nm := "<init>") (ds := "()V") (own := RX5) (maxL := 1) (cc := cX5_init) (ret := none) (by decide) rfl rfl (Nat.le_of_ble_eq_true rfl) (fun p e s m below meth c A C0 hin hK hN hA hP hD hS ls hl => ?_)
  obtain ⟨hx, hb, hr, hml, hown, hts, hlocks⟩ := id C0
  have hl : lv_has ls 1 [(0, .ref a_this)] := hl
  obtain ⟨H, hH⟩ : ∃ h : Heap, h = s.heap := ⟨_, rfl⟩
  obtain ⟨locs, hLc⟩ : ∃ L : List Loc, L = [] := ⟨_, rfl⟩
  have hS : va_S A s.heap H locs := by rw [hH, hLc]; exact hS
  rw [← hH] at hP
  rw [← hLc, ← hH]
  clear hH hLc
  refine lv_aload_n hx hb dX5_init_0 rfl (lv_at hl 0 rfl) ?_
  refine W.objInit hx hb hown (hts (.methodLink RX5 3 objectInit) (by decide +kernel)) (hts (.instanceMethod objectInit) (by decide +kernel)) (hts (.code objectInit ⟨#[0xb1]⟩ 1 none) (by decide +kernel)) rfl (by rw [hml]; exact hl.1) rfl dX5_init_1 (Nat.le_of_ble_eq_true rfl) (Nat.le_of_ble_eq_true rfl) ?_
  refine W.eq (g2 := F0 m 4 ls []) rfl ?_
  refine lv_aload_n hx hb dX5_init_4 rfl (lv_at hl 0 rfl) ?_
  refine lv_sipush (v := (200 : Int32)) hx hb dX5_init_5 (by decide) ?_
  refine va_newa (atype := .char) (ty := .char) (a0 := (200, .inl (fun _ => 0))) (N' := 200) hx hb (hts (.arrayClass .char) (by decide +kernel)) rfl hK hP hD hS hA (fun _ => rfl) (by decide) (by decide) (cb_char (by decide)) (Nat.le_of_ble_eq_true rfl) (Nat.le_of_ble_eq_true rfl) dX5_init_8 (fun a_this_letters cA1 H hK2 hP hD hS => ?_)
  have eA : cA1 = cC := Option.some.inj (Eq.trans (Eq.symm (hK2.2 5 _ rfl).2) (hK.2 2 _ rfl).2)
  rw [eA] at hP hD
  clear hK2 eA
  have hP : va_P (dC, dI) vwCl [(a_this, .inr (5, [.null, .int 0])), (a_this_letters, .inl (cC, 200, .inl (fun _ => 0)))] H := hP
  have hD : va_D A [(a_this, .inr (5, [.null, .int 0])), (a_this_letters, .inl (cC, 200, .inl (fun _ => 0)))] := hD
  refine W.widen (k := 1) (n := 200) (by decide) (by decide) ?_
  refine va_putF (D := (dC, dI)) (ci := 5) (v := .ref a_this_letters) (ty := .array .char) (C := RX5) (T := TX5) (N := 2) hx hb hts qi_X5_init_X5 tyX5 tyX5_ok nmX5 hown hK hP hD hS 0 rfl rfl 0 (by decide) (hts _ ql_X5_init_9) (fun _ h9 => h9) rfl (hin rfl) rfl (by decide +kernel) rfl rfl (Nat.le_of_ble_eq_true rfl) dX5_init_10 (fun H locs hP hD hS => ?_)
  have hP : va_P (dC, dI) vwCl [(a_this, .inr (5, [.ref a_this_letters, .int 0])), (a_this_letters, .inl (cC, 200, .inl (fun _ => 0)))] H := hP
  have hD : va_D A [(a_this, .inr (5, [.ref a_this_letters, .int 0])), (a_this_letters, .inl (cC, 200, .inl (fun _ => 0)))] := hD
  have hP := hP.sub (ws' := (qw_X5_init cI cJ cC cG cW a_this a_this_letters (0 : Int32) (fun _ => 0))) [0, 1] rfl
  have hD := hD.sub (ws' := (qw_X5_init cI cJ cC cG cW a_this a_this_letters (0 : Int32) (fun _ => 0))) [0, 1] (by decide) rfl
  refine lv_aload_n hx hb dX5_init_13 rfl (lv_at hl 0 rfl) ?_
  refine lv_iconst (v := (0 : Int32)) hx hb dX5_init_14 (by decide) ?_
  refine va_put (D := (dC, dI)) (ci := 5) (v := .int (0 : Int32)) (ty := .int) (C := RX5) (T := TX5) (N := 2) hx hb hts qi_X5_init_X5 tyX5 tyX5_ok nmX5 hown hK hP hD hS 0 rfl rfl 1 (by decide) (hts _ ql_X5_init_15) (fun _ h9 => h9) rfl (by decide +kernel) rfl rfl (Nat.le_of_ble_eq_true rfl) dX5_init_15 (fun H locs hP hD hS => ?_)
  have hP : va_P (dC, dI) vwCl (qw_X5_init cI cJ cC cG cW a_this a_this_letters (0 : Int32) (fun _ => 0)) H := hP
  have hD : va_D A (qw_X5_init cI cJ cC cG cW a_this a_this_letters (0 : Int32) (fun _ => 0)) := hD
  exact W.vret hx hb hr (fun t ht hW => ⟨⟨_, rfl, ⟨a_this_letters, (0 : Int32), (fun _ => 0), hV, rfl⟩, ⟨by rw [ht]; exact hP, va_K.moved hW.alike hK, hD⟩⟩, hS.F ht⟩) hS.2.2 dX5_init_18 hlocks

/-! StileCounts$Reader.<init>()V -/
abbrev qw_X4_init (cI cJ cC cG cW : ClassId) (a_this a_this_numbers : Nat) (z_place : Int32) (z_numbers : Nat → Int32) : va_W := [(a_this, .inr (4, [.ref a_this_numbers, .int z_place])), (a_this_numbers, .inl (cI, 3, .inl z_numbers))]
theorem qi_X4_init_X4 : ∀ w ∈ wsX40, w ∈ wsX4_init := by decide +kernel
theorem ql_X4_init_11 : (.fieldLink RX4 11 "StileCounts$Reader" "numbers" "[I" : Cond) ∈ wsX4_init := by decide +kernel
def qv_X4_init (Post : (Int32) → (Nat → Int32) → Prop) : Prop := Post (0 : Int32) (fun _ => 0)
set_option maxHeartbeats 800000 in
set_option maxRecDepth 100000 in
theorem qm_X4_init (l : Launch) (dC : Nat → ClassId) (dI : Nat → Nat → Nat) (cI cJ cC cG cW : ClassId) (a_this : Nat) (sz : Nat) (Post : (Int32) → (Nat → Int32) → Prop) (hV : qv_X4_init Post) : Met l yX4_init wsX4_init ({ frames := 1, cells := 1, slots := 3, locals := 20 } : Room) (va_Pc [.ref a_this] (prW (dC, dI) [(a_this, .inr (4, [.null, .int 0]))] (tyL cI cJ cC cG cW) sz)) (va_Qv (fun w : va_W => ∃ (a_this_numbers : Nat) (z_place : Int32) (z_numbers : Nat → Int32), Post z_place z_numbers ∧ w = (qw_X4_init cI cJ cC cG cW a_this a_this_numbers z_place z_numbers)) (fun w t => poW (dC, dI) (tyL cI cJ cC cG cW) (va_A [(a_this, .inr (4, [.null, .int 0]))] sz) w t) (va_A [(a_this, .inr (4, [.null, .int 0]))] sz)) 1 3 (va_A [(a_this, .inr (4, [.null, .int 0]))] sz) := by
  refine Met.ofM (Qc := fun A => va_Qv (fun w : va_W => ∃ (a_this_numbers : Nat) (z_place : Int32) (z_numbers : Nat → Int32), Post z_place z_numbers ∧ w = (qw_X4_init cI cJ cC cG cW a_this a_this_numbers z_place z_numbers)) (fun w t => poW (dC, dI) (tyL cI cJ cC cG cW) A w t) A) (nm := "<init>") (ds := "()V") (own := RX4) (maxL := 1) (cc := cX4_init) (ret := none) (by decide) rfl rfl (Nat.le_of_ble_eq_true rfl) (fun p e s m below meth c A C0 hin hK hN hA hP hD hS ls hl => ?_)
  obtain ⟨hx, hb, hr, hml, hown, hts, hlocks⟩ := id C0
  have hl : lv_has ls 1 [(0, .ref a_this)] := hl
  obtain ⟨H, hH⟩ : ∃ h : Heap, h = s.heap := ⟨_, rfl⟩
  obtain ⟨locs, hLc⟩ : ∃ L : List Loc, L = [] := ⟨_, rfl⟩
  have hS : va_S A s.heap H locs := by rw [hH, hLc]; exact hS
  rw [← hH] at hP
  rw [← hLc, ← hH]
  clear hH hLc
  refine lv_aload_n hx hb dX4_init_0 rfl (lv_at hl 0 rfl) ?_
  refine W.objInit hx hb hown (hts (.methodLink RX4 3 objectInit) (by decide +kernel)) (hts (.instanceMethod objectInit) (by decide +kernel)) (hts (.code objectInit ⟨#[0xb1]⟩ 1 none) (by decide +kernel)) rfl (by rw [hml]; exact hl.1) rfl dX4_init_1 (Nat.le_of_ble_eq_true rfl) (Nat.le_of_ble_eq_true rfl) ?_
  refine W.eq (g2 := F0 m 4 ls []) rfl ?_
  refine lv_aload_n hx hb dX4_init_4 rfl (lv_at hl 0 rfl) ?_
  refine lv_iconst (v := (3 : Int32)) hx hb dX4_init_5 (by decide) ?_
  refine va_newa (atype := .int) (ty := .int) (a0 := (3, .inl (fun _ => 0))) (N' := 3) hx hb (hts (.arrayClass .int) (by decide +kernel)) rfl hK hP hD hS hA (fun _ => rfl) (by decide) (by decide) (cb_int (by decide)) (Nat.le_of_ble_eq_true rfl) (Nat.le_of_ble_eq_true rfl) dX4_init_6 (fun a_this_numbers cA1 H hK2 hP hD hS => ?_)
  have eA : cA1 = cI := Option.some.inj (Eq.trans (Eq.symm (hK2.2 5 _ rfl).2) (hK.2 0 _ rfl).2)
  rw [eA] at hP hD
  clear hK2 eA
  have hP : va_P (dC, dI) vwCl [(a_this, .inr (4, [.null, .int 0])), (a_this_numbers, .inl (cI, 3, .inl (fun _ => 0)))] H := hP
  have hD : va_D A [(a_this, .inr (4, [.null, .int 0])), (a_this_numbers, .inl (cI, 3, .inl (fun _ => 0)))] := hD
  refine W.widen (k := 1) (n := 3) (by decide) (by decide) ?_
  refine va_putF (D := (dC, dI)) (ci := 4) (v := .ref a_this_numbers) (ty := .array .int) (C := RX4) (T := TX4) (N := 2) hx hb hts qi_X4_init_X4 tyX4 tyX4_ok nmX4 hown hK hP hD hS 0 rfl rfl 0 (by decide) (hts _ ql_X4_init_11) (fun _ h9 => h9) rfl (hin rfl) rfl (by decide +kernel) rfl rfl (Nat.le_of_ble_eq_true rfl) dX4_init_8 (fun H locs hP hD hS => ?_)
  have hP : va_P (dC, dI) vwCl [(a_this, .inr (4, [.ref a_this_numbers, .int 0])), (a_this_numbers, .inl (cI, 3, .inl (fun _ => 0)))] H := hP
  have hD : va_D A [(a_this, .inr (4, [.ref a_this_numbers, .int 0])), (a_this_numbers, .inl (cI, 3, .inl (fun _ => 0)))] := hD
  have hP := hP.sub (ws' := (qw_X4_init cI cJ cC cG cW a_this a_this_numbers (0 : Int32) (fun _ => 0))) [0, 1] rfl
  have hD := hD.sub (ws' := (qw_X4_init cI cJ cC cG cW a_this a_this_numbers (0 : Int32) (fun _ => 0))) [0, 1] (by decide) rfl
  exact W.vret hx hb hr (fun t ht hW => ⟨⟨_, rfl, ⟨a_this_numbers, (0 : Int32), (fun _ => 0), hV, rfl⟩, ⟨by rw [ht]; exact hP, va_K.moved hW.alike hK, hD⟩⟩, hS.F ht⟩) hS.2.2 dX4_init_11 hlocks

/-! StileCounts$Chances.<init>()V -/
abbrev qw_X0_init (cI cJ cC cG cW : ClassId) (a_this a_this_of : Nat) (z_away : Int64) (z_all : Int64) (z_of : Nat → Int64) : va_W := [(a_this, .inr (0, [.ref a_this_of, .long z_away, .long z_all])), (a_this_of, .inl (cJ, 9, .inr (.inl z_of)))]
theorem qi_X0_init_X0 : ∀ w ∈ wsX00, w ∈ wsX0_init := by decide +kernel
theorem ql_X0_init_9 : (.fieldLink RX0 9 "StileCounts$Chances" "of" "[J" : Cond) ∈ wsX0_init := by decide +kernel
def qv_X0_init (Post : (Int64) → (Int64) → (Nat → Int64) → Prop) : Prop := Post (0 : Int64) (0 : Int64) (fun _ => 0)
set_option maxHeartbeats 800000 in
set_option maxRecDepth 100000 in
theorem qm_X0_init (l : Launch) (dC : Nat → ClassId) (dI : Nat → Nat → Nat) (cI cJ cC cG cW : ClassId) (a_this : Nat) (sz : Nat) (Post : (Int64) → (Int64) → (Nat → Int64) → Prop) (hV : qv_X0_init Post) : Met l yX0_init wsX0_init ({ frames := 1, cells := 1, slots := 9, locals := 20 } : Room) (va_Pc [.ref a_this] (prW (dC, dI) [(a_this, .inr (0, [.null, .long 0, .long 0]))] (tyL cI cJ cC cG cW) sz)) (va_Qv (fun w : va_W => ∃ (a_this_of : Nat) (z_away : Int64) (z_all : Int64) (z_of : Nat → Int64), Post z_away z_all z_of ∧ w = (qw_X0_init cI cJ cC cG cW a_this a_this_of z_away z_all z_of)) (fun w t => poW (dC, dI) (tyL cI cJ cC cG cW) (va_A [(a_this, .inr (0, [.null, .long 0, .long 0]))] sz) w t) (va_A [(a_this, .inr (0, [.null, .long 0, .long 0]))] sz)) 1 9 (va_A [(a_this, .inr (0, [.null, .long 0, .long 0]))] sz) := by
  refine Met.ofM (Qc := fun A => va_Qv (fun w : va_W => ∃ (a_this_of : Nat) (z_away : Int64) (z_all : Int64) (z_of : Nat → Int64), Post z_away z_all z_of ∧ w = (qw_X0_init cI cJ cC cG cW a_this a_this_of z_away z_all z_of)) (fun w t => poW (dC, dI) (tyL cI cJ cC cG cW) A w t) A) (nm := "<init>") (ds := "()V") (own := RX0) (maxL := 1) (cc := cX0_init) (ret := none) (by decide) rfl rfl (Nat.le_of_ble_eq_true rfl) (fun p e s m below meth c A C0 hin hK hN hA hP hD hS ls hl => ?_)
  obtain ⟨hx, hb, hr, hml, hown, hts, hlocks⟩ := id C0
  have hl : lv_has ls 1 [(0, .ref a_this)] := hl
  obtain ⟨H, hH⟩ : ∃ h : Heap, h = s.heap := ⟨_, rfl⟩
  obtain ⟨locs, hLc⟩ : ∃ L : List Loc, L = [] := ⟨_, rfl⟩
  have hS : va_S A s.heap H locs := by rw [hH, hLc]; exact hS
  rw [← hH] at hP
  rw [← hLc, ← hH]
  clear hH hLc
  refine lv_aload_n hx hb dX0_init_0 rfl (lv_at hl 0 rfl) ?_
  refine W.objInit hx hb hown (hts (.methodLink RX0 3 objectInit) (by decide +kernel)) (hts (.instanceMethod objectInit) (by decide +kernel)) (hts (.code objectInit ⟨#[0xb1]⟩ 1 none) (by decide +kernel)) rfl (by rw [hml]; exact hl.1) rfl dX0_init_1 (Nat.le_of_ble_eq_true rfl) (Nat.le_of_ble_eq_true rfl) ?_
  refine W.eq (g2 := F0 m 4 ls []) rfl ?_
  refine lv_aload_n hx hb dX0_init_4 rfl (lv_at hl 0 rfl) ?_
  refine lv_bipush (v := (9 : Int32)) hx hb dX0_init_5 (by decide) ?_
  refine va_newa (atype := .long) (ty := .long) (a0 := (9, .inr (.inl (fun _ => 0)))) (N' := 9) hx hb (hts (.arrayClass .long) (by decide +kernel)) rfl hK hP hD hS hA (fun _ => rfl) (by decide) (by decide) (cb_long (by decide)) (Nat.le_of_ble_eq_true rfl) (Nat.le_of_ble_eq_true rfl) dX0_init_7 (fun a_this_of cA1 H hK2 hP hD hS => ?_)
  have eA : cA1 = cJ := Option.some.inj (Eq.trans (Eq.symm (hK2.2 5 _ rfl).2) (hK.2 1 _ rfl).2)
  rw [eA] at hP hD
  clear hK2 eA
  have hP : va_P (dC, dI) vwCl [(a_this, .inr (0, [.null, .long 0, .long 0])), (a_this_of, .inl (cJ, 9, .inr (.inl (fun _ => 0))))] H := hP
  have hD : va_D A [(a_this, .inr (0, [.null, .long 0, .long 0])), (a_this_of, .inl (cJ, 9, .inr (.inl (fun _ => 0))))] := hD
  refine W.widen (k := 1) (n := 9) (by decide) (by decide) ?_
  refine va_putF (D := (dC, dI)) (ci := 0) (v := .ref a_this_of) (ty := .array .long) (C := RX0) (T := TX0) (N := 3) hx hb hts qi_X0_init_X0 tyX0 tyX0_ok nmX0 hown hK hP hD hS 0 rfl rfl 0 (by decide) (hts _ ql_X0_init_9) (fun _ h9 => h9) rfl (hin rfl) rfl (by decide +kernel) rfl rfl (Nat.le_of_ble_eq_true rfl) dX0_init_9 (fun H locs hP hD hS => ?_)
  have hP : va_P (dC, dI) vwCl [(a_this, .inr (0, [.ref a_this_of, .long 0, .long 0])), (a_this_of, .inl (cJ, 9, .inr (.inl (fun _ => 0))))] H := hP
  have hD : va_D A [(a_this, .inr (0, [.ref a_this_of, .long 0, .long 0])), (a_this_of, .inl (cJ, 9, .inr (.inl (fun _ => 0))))] := hD
  have hP := hP.sub (ws' := (qw_X0_init cI cJ cC cG cW a_this a_this_of (0 : Int64) (0 : Int64) (fun _ => 0))) [0, 1] rfl
  have hD := hD.sub (ws' := (qw_X0_init cI cJ cC cG cW a_this a_this_of (0 : Int64) (0 : Int64) (fun _ => 0))) [0, 1] (by decide) rfl
  exact W.vret hx hb hr (fun t ht hW => ⟨⟨_, rfl, ⟨a_this_of, (0 : Int64), (0 : Int64), (fun _ => 0), hV, rfl⟩, ⟨by rw [ht]; exact hP, va_K.moved hW.alike hK, hD⟩⟩, hS.F ht⟩) hS.2.2 dX0_init_12 hlocks

/-! StileCounts$Choice.<init>()V -/
abbrev qw_X1_init (cI cJ cC cG cW : ClassId) (a_this : Nat) (z_which : Int32) (z_above : Int64) (z_below : Int64) : va_W := [(a_this, .inr (1, [.int z_which, .long z_above, .long z_below]))]
def qv_X1_init (Post : (Int32) → (Int64) → (Int64) → Prop) : Prop := Post (0 : Int32) (0 : Int64) (0 : Int64)
set_option maxHeartbeats 800000 in
set_option maxRecDepth 100000 in
theorem qm_X1_init (l : Launch) (dC : Nat → ClassId) (dI : Nat → Nat → Nat) (cI cJ cC cG cW : ClassId) (a_this : Nat) (sz : Nat) (Post : (Int32) → (Int64) → (Int64) → Prop) (hV : qv_X1_init Post) : Met l yX1_init wsX1_init ({ frames := 1, cells := 0, slots := 0, locals := 20 } : Room) (va_Pc [.ref a_this] (prW (dC, dI) [(a_this, .inr (1, [.int 0, .long 0, .long 0]))] (tyL cI cJ cC cG cW) sz)) (va_Qv (fun w : va_W => ∃ (z_which : Int32) (z_above : Int64) (z_below : Int64), Post z_which z_above z_below ∧ w = (qw_X1_init cI cJ cC cG cW a_this z_which z_above z_below)) (fun w t => poW (dC, dI) (tyL cI cJ cC cG cW) (va_A [(a_this, .inr (1, [.int 0, .long 0, .long 0]))] sz) w t) (va_A [(a_this, .inr (1, [.int 0, .long 0, .long 0]))] sz)) 0 0 (va_A [(a_this, .inr (1, [.int 0, .long 0, .long 0]))] sz) := by
  refine Met.ofM (Qc := fun A => va_Qv (fun w : va_W => ∃ (z_which : Int32) (z_above : Int64) (z_below : Int64), Post z_which z_above z_below ∧ w = (qw_X1_init cI cJ cC cG cW a_this z_which z_above z_below)) (fun w t => poW (dC, dI) (tyL cI cJ cC cG cW) A w t) A) (nm := "<init>") (ds := "()V") (own := RX1) (maxL := 1) (cc := cX1_init) (ret := none) (by decide) rfl rfl (Nat.le_of_ble_eq_true rfl) (fun p e s m below meth c A C0 hin hK hN hA hP hD hS ls hl => ?_)
  obtain ⟨hx, hb, hr, hml, hown, hts, hlocks⟩ := id C0
  have hl : lv_has ls 1 [(0, .ref a_this)] := hl
  obtain ⟨H, hH⟩ : ∃ h : Heap, h = s.heap := ⟨_, rfl⟩
  obtain ⟨locs, hLc⟩ : ∃ L : List Loc, L = [] := ⟨_, rfl⟩
  have hS : va_S A s.heap H locs := by rw [hH, hLc]; exact hS
  rw [← hH] at hP
  rw [← hLc, ← hH]
  clear hH hLc
  refine lv_aload_n hx hb dX1_init_0 rfl (lv_at hl 0 rfl) ?_
  refine W.objInit hx hb hown (hts (.methodLink RX1 3 objectInit) (by decide +kernel)) (hts (.instanceMethod objectInit) (by decide +kernel)) (hts (.code objectInit ⟨#[0xb1]⟩ 1 none) (by decide +kernel)) rfl (by rw [hml]; exact hl.1) rfl dX1_init_1 (Nat.le_of_ble_eq_true rfl) (Nat.le_of_ble_eq_true rfl) ?_
  refine W.eq (g2 := F0 m 4 ls []) rfl ?_
  have hP := hP.sub (ws' := (qw_X1_init cI cJ cC cG cW a_this (0 : Int32) (0 : Int64) (0 : Int64))) [0] rfl
  have hD := hD.sub (ws' := (qw_X1_init cI cJ cC cG cW a_this (0 : Int32) (0 : Int64) (0 : Int64))) [0] (by decide) rfl
  exact W.vret hx hb hr (fun t ht hW => ⟨⟨_, rfl, ⟨(0 : Int32), (0 : Int64), (0 : Int64), hV, rfl⟩, ⟨by rw [ht]; exact hP, va_K.moved hW.alike hK, hD⟩⟩, hS.F ht⟩) hS.2.2 dX1_init_4 hlocks

/-! StileCounts$Pairing.<init>()V -/
abbrev qw_X3_init (cI cJ cC cG cW : ClassId) (a_this a_this_with a_this_best : Nat) (z_least : Int32) (z_found : Int32) (z_with : Nat → Int32) (z_best : Nat → Int32) : va_W := [(a_this, .inr (3, [.ref a_this_with, .ref a_this_best, .int z_least, .int z_found])), (a_this_with, .inl (cI, 6, .inl z_with)), (a_this_best, .inl (cI, 6, .inl z_best))]
theorem qi_X3_init_X3 : ∀ w ∈ wsX30, w ∈ wsX3_init := by decide +kernel
theorem ql_X3_init_9 : (.fieldLink RX3 9 "StileCounts$Pairing" "with" "[I" : Cond) ∈ wsX3_init := by decide +kernel
theorem ql_X3_init_15 : (.fieldLink RX3 15 "StileCounts$Pairing" "best" "[I" : Cond) ∈ wsX3_init := by decide +kernel
def qv_X3_init (Post : (Int32) → (Int32) → (Nat → Int32) → (Nat → Int32) → Prop) : Prop := Post (0 : Int32) (0 : Int32) (fun _ => 0) (fun _ => 0)
set_option maxHeartbeats 800000 in
set_option maxRecDepth 100000 in
theorem qm_X3_init (l : Launch) (dC : Nat → ClassId) (dI : Nat → Nat → Nat) (cI cJ cC cG cW : ClassId) (a_this : Nat) (sz : Nat) (Post : (Int32) → (Int32) → (Nat → Int32) → (Nat → Int32) → Prop) (hV : qv_X3_init Post) : Met l yX3_init wsX3_init ({ frames := 1, cells := 2, slots := 12, locals := 20 } : Room) (va_Pc [.ref a_this] (prW (dC, dI) [(a_this, .inr (3, [.null, .null, .int 0, .int 0]))] (tyL cI cJ cC cG cW) sz)) (va_Qv (fun w : va_W => ∃ (a_this_with a_this_best : Nat) (z_least : Int32) (z_found : Int32) (z_with : Nat → Int32) (z_best : Nat → Int32), Post z_least z_found z_with z_best ∧ w = (qw_X3_init cI cJ cC cG cW a_this a_this_with a_this_best z_least z_found z_with z_best)) (fun w t => poW (dC, dI) (tyL cI cJ cC cG cW) (va_A [(a_this, .inr (3, [.null, .null, .int 0, .int 0]))] sz) w t) (va_A [(a_this, .inr (3, [.null, .null, .int 0, .int 0]))] sz)) 2 12 (va_A [(a_this, .inr (3, [.null, .null, .int 0, .int 0]))] sz) := by
  refine Met.ofM (Qc := fun A => va_Qv (fun w : va_W => ∃ (a_this_with a_this_best : Nat) (z_least : Int32) (z_found : Int32) (z_with : Nat → Int32) (z_best : Nat → Int32), Post z_least z_found z_with z_best ∧ w = (qw_X3_init cI cJ cC cG cW a_this a_this_with a_this_best z_least z_found z_with z_best)) (fun w t => poW (dC, dI) (tyL cI cJ cC cG cW) A w t) A) (nm := "<init>") (ds := "()V") (own := RX3) (maxL := 1) (cc := cX3_init) (ret := none) (by decide) rfl rfl (Nat.le_of_ble_eq_true rfl) (fun p e s m below meth c A C0 hin hK hN hA hP hD hS ls hl => ?_)
  obtain ⟨hx, hb, hr, hml, hown, hts, hlocks⟩ := id C0
  have hl : lv_has ls 1 [(0, .ref a_this)] := hl
  obtain ⟨H, hH⟩ : ∃ h : Heap, h = s.heap := ⟨_, rfl⟩
  obtain ⟨locs, hLc⟩ : ∃ L : List Loc, L = [] := ⟨_, rfl⟩
  have hS : va_S A s.heap H locs := by rw [hH, hLc]; exact hS
  rw [← hH] at hP
  rw [← hLc, ← hH]
  clear hH hLc
  refine lv_aload_n hx hb dX3_init_0 rfl (lv_at hl 0 rfl) ?_
  refine W.objInit hx hb hown (hts (.methodLink RX3 3 objectInit) (by decide +kernel)) (hts (.instanceMethod objectInit) (by decide +kernel)) (hts (.code objectInit ⟨#[0xb1]⟩ 1 none) (by decide +kernel)) rfl (by rw [hml]; exact hl.1) rfl dX3_init_1 (Nat.le_of_ble_eq_true rfl) (Nat.le_of_ble_eq_true rfl) ?_
  refine W.eq (g2 := F0 m 4 ls []) rfl ?_
  refine lv_aload_n hx hb dX3_init_4 rfl (lv_at hl 0 rfl) ?_
  refine lv_bipush (v := (6 : Int32)) hx hb dX3_init_5 (by decide) ?_
  refine va_newa (atype := .int) (ty := .int) (a0 := (6, .inl (fun _ => 0))) (N' := 6) hx hb (hts (.arrayClass .int) (by decide +kernel)) rfl hK hP hD hS hA (fun _ => rfl) (by decide) (by decide) (cb_int (by decide)) (Nat.le_of_ble_eq_true rfl) (Nat.le_of_ble_eq_true rfl) dX3_init_7 (fun a_this_with cA1 H hK2 hP hD hS => ?_)
  have eA : cA1 = cI := Option.some.inj (Eq.trans (Eq.symm (hK2.2 5 _ rfl).2) (hK.2 0 _ rfl).2)
  rw [eA] at hP hD
  clear hK2 eA
  have hP : va_P (dC, dI) vwCl [(a_this, .inr (3, [.null, .null, .int 0, .int 0])), (a_this_with, .inl (cI, 6, .inl (fun _ => 0)))] H := hP
  have hD : va_D A [(a_this, .inr (3, [.null, .null, .int 0, .int 0])), (a_this_with, .inl (cI, 6, .inl (fun _ => 0)))] := hD
  refine W.widen (k := 1) (n := 6) (by decide) (by decide) ?_
  refine va_putF (D := (dC, dI)) (ci := 3) (v := .ref a_this_with) (ty := .array .int) (C := RX3) (T := TX3) (N := 4) hx hb hts qi_X3_init_X3 tyX3 tyX3_ok nmX3 hown hK hP hD hS 0 rfl rfl 0 (by decide) (hts _ ql_X3_init_9) (fun _ h9 => h9) rfl (hin rfl) rfl (by decide +kernel) rfl rfl (Nat.le_of_ble_eq_true rfl) dX3_init_9 (fun H locs hP hD hS => ?_)
  have hP : va_P (dC, dI) vwCl [(a_this, .inr (3, [.ref a_this_with, .null, .int 0, .int 0])), (a_this_with, .inl (cI, 6, .inl (fun _ => 0)))] H := hP
  have hD : va_D A [(a_this, .inr (3, [.ref a_this_with, .null, .int 0, .int 0])), (a_this_with, .inl (cI, 6, .inl (fun _ => 0)))] := hD
  refine lv_aload_n hx hb dX3_init_12 rfl (lv_at hl 0 rfl) ?_
  refine lv_bipush (v := (6 : Int32)) hx hb dX3_init_13 (by decide) ?_
  refine va_newa (atype := .int) (ty := .int) (a0 := (6, .inl (fun _ => 0))) (N' := 6) hx hb (hts (.arrayClass .int) (by decide +kernel)) rfl hK hP hD hS hA (fun _ => rfl) (by decide) (by decide) (cb_int (by decide)) (Nat.le_of_ble_eq_true rfl) (Nat.le_of_ble_eq_true rfl) dX3_init_15 (fun a_this_best cA2 H hK2 hP hD hS => ?_)
  have eA : cA2 = cI := Option.some.inj (Eq.trans (Eq.symm (hK2.2 5 _ rfl).2) (hK.2 0 _ rfl).2)
  rw [eA] at hP hD
  clear hK2 eA
  have hP : va_P (dC, dI) vwCl [(a_this, .inr (3, [.ref a_this_with, .null, .int 0, .int 0])), (a_this_with, .inl (cI, 6, .inl (fun _ => 0))), (a_this_best, .inl (cI, 6, .inl (fun _ => 0)))] H := hP
  have hD : va_D A [(a_this, .inr (3, [.ref a_this_with, .null, .int 0, .int 0])), (a_this_with, .inl (cI, 6, .inl (fun _ => 0))), (a_this_best, .inl (cI, 6, .inl (fun _ => 0)))] := hD
  refine W.widen (k := 2) (n := 12) (by decide) (by decide) ?_
  refine va_putF (D := (dC, dI)) (ci := 3) (v := .ref a_this_best) (ty := .array .int) (C := RX3) (T := TX3) (N := 4) hx hb hts qi_X3_init_X3 tyX3 tyX3_ok nmX3 hown hK hP hD hS 0 rfl rfl 1 (by decide) (hts _ ql_X3_init_15) (fun _ h9 => h9) rfl (hin rfl) rfl (by decide +kernel) rfl rfl (Nat.le_of_ble_eq_true rfl) dX3_init_17 (fun H locs hP hD hS => ?_)
  have hP : va_P (dC, dI) vwCl [(a_this, .inr (3, [.ref a_this_with, .ref a_this_best, .int 0, .int 0])), (a_this_with, .inl (cI, 6, .inl (fun _ => 0))), (a_this_best, .inl (cI, 6, .inl (fun _ => 0)))] H := hP
  have hD : va_D A [(a_this, .inr (3, [.ref a_this_with, .ref a_this_best, .int 0, .int 0])), (a_this_with, .inl (cI, 6, .inl (fun _ => 0))), (a_this_best, .inl (cI, 6, .inl (fun _ => 0)))] := hD
  have hP := hP.sub (ws' := (qw_X3_init cI cJ cC cG cW a_this a_this_with a_this_best (0 : Int32) (0 : Int32) (fun _ => 0) (fun _ => 0))) [0, 1, 2] rfl
  have hD := hD.sub (ws' := (qw_X3_init cI cJ cC cG cW a_this a_this_with a_this_best (0 : Int32) (0 : Int32) (fun _ => 0) (fun _ => 0))) [0, 1, 2] (by decide) rfl
  exact W.vret hx hb hr (fun t ht hW => ⟨⟨_, rfl, ⟨a_this_with, a_this_best, (0 : Int32), (0 : Int32), (fun _ => 0), (fun _ => 0), hV, rfl⟩, ⟨by rw [ht]; exact hP, va_K.moved hW.alike hK, hD⟩⟩, hS.F ht⟩) hS.2.2 dX3_init_20 hlocks

/-! StileCounts$Way.<init>()V -/
abbrev qw_X6_init (cI cJ cC cG cW : ClassId) (a_this a_this_behind a_this_sorts a_this_tells : Nat) (z_walked : Int32) (z_counts : Int32) (z_undoable : Int32) (z_behind : Nat → Int32) (z_sorts : Nat → Int32) (z_tells : Nat → Int32) : va_W := [(a_this, .inr (6, [.int z_walked, .int z_counts, .ref a_this_behind, .ref a_this_sorts, .ref a_this_tells, .int z_undoable])), (a_this_behind, .inl (cI, 6, .inl z_behind)), (a_this_sorts, .inl (cI, 6, .inl z_sorts)), (a_this_tells, .inl (cI, 6, .inl z_tells))]
theorem qi_X6_init_X6 : ∀ w ∈ wsX60, w ∈ wsX6_init := by decide +kernel
theorem ql_X6_init_9 : (.fieldLink RX6 9 "StileCounts$Way" "walked" "I" : Cond) ∈ wsX6_init := by decide +kernel
theorem ql_X6_init_15 : (.fieldLink RX6 15 "StileCounts$Way" "counts" "I" : Cond) ∈ wsX6_init := by decide +kernel
theorem ql_X6_init_18 : (.fieldLink RX6 18 "StileCounts$Way" "behind" "[I" : Cond) ∈ wsX6_init := by decide +kernel
theorem ql_X6_init_22 : (.fieldLink RX6 22 "StileCounts$Way" "sorts" "[I" : Cond) ∈ wsX6_init := by decide +kernel
theorem ql_X6_init_25 : (.fieldLink RX6 25 "StileCounts$Way" "tells" "[I" : Cond) ∈ wsX6_init := by decide +kernel
theorem ql_X6_init_28 : (.fieldLink RX6 28 "StileCounts$Way" "undoable" "I" : Cond) ∈ wsX6_init := by decide +kernel
def qv_X6_init (Post : (Int32) → (Int32) → (Int32) → (Nat → Int32) → (Nat → Int32) → (Nat → Int32) → Prop) : Prop := Post (0 : Int32) (0 : Int32) (0 : Int32) (fun _ => 0) (fun _ => 0) (fun _ => 0)
set_option maxHeartbeats 800000 in
set_option maxRecDepth 100000 in
theorem qm_X6_init (l : Launch) (dC : Nat → ClassId) (dI : Nat → Nat → Nat) (cI cJ cC cG cW : ClassId) (a_this : Nat) (sz : Nat) (Post : (Int32) → (Int32) → (Int32) → (Nat → Int32) → (Nat → Int32) → (Nat → Int32) → Prop) (hV : qv_X6_init Post) : Met l yX6_init wsX6_init ({ frames := 1, cells := 3, slots := 18, locals := 20 } : Room) (va_Pc [.ref a_this] (prW (dC, dI) [(a_this, .inr (6, [.int 0, .int 0, .null, .null, .null, .int 0]))] (tyL cI cJ cC cG cW) sz)) (va_Qv (fun w : va_W => ∃ (a_this_behind a_this_sorts a_this_tells : Nat) (z_walked : Int32) (z_counts : Int32) (z_undoable : Int32) (z_behind : Nat → Int32) (z_sorts : Nat → Int32) (z_tells : Nat → Int32), Post z_walked z_counts z_undoable z_behind z_sorts z_tells ∧ w = (qw_X6_init cI cJ cC cG cW a_this a_this_behind a_this_sorts a_this_tells z_walked z_counts z_undoable z_behind z_sorts z_tells)) (fun w t => poW (dC, dI) (tyL cI cJ cC cG cW) (va_A [(a_this, .inr (6, [.int 0, .int 0, .null, .null, .null, .int 0]))] sz) w t) (va_A [(a_this, .inr (6, [.int 0, .int 0, .null, .null, .null, .int 0]))] sz)) 3 18 (va_A [(a_this, .inr (6, [.int 0, .int 0, .null, .null, .null, .int 0]))] sz) := by
  refine Met.ofM (Qc := fun A => va_Qv (fun w : va_W => ∃ (a_this_behind a_this_sorts a_this_tells : Nat) (z_walked : Int32) (z_counts : Int32) (z_undoable : Int32) (z_behind : Nat → Int32) (z_sorts : Nat → Int32) (z_tells : Nat → Int32), Post z_walked z_counts z_undoable z_behind z_sorts z_tells ∧ w = (qw_X6_init cI cJ cC cG cW a_this a_this_behind a_this_sorts a_this_tells z_walked z_counts z_undoable z_behind z_sorts z_tells)) (fun w t => poW (dC, dI) (tyL cI cJ cC cG cW) A w t) A) (nm := "<init>") (ds := "()V") (own := RX6) (maxL := 1) (cc := cX6_init) (ret := none) (by decide) rfl rfl (Nat.le_of_ble_eq_true rfl) (fun p e s m below meth c A C0 hin hK hN hA hP hD hS ls hl => ?_)
  obtain ⟨hx, hb, hr, hml, hown, hts, hlocks⟩ := id C0
  have hl : lv_has ls 1 [(0, .ref a_this)] := hl
  obtain ⟨H, hH⟩ : ∃ h : Heap, h = s.heap := ⟨_, rfl⟩
  obtain ⟨locs, hLc⟩ : ∃ L : List Loc, L = [] := ⟨_, rfl⟩
  have hS : va_S A s.heap H locs := by rw [hH, hLc]; exact hS
  rw [← hH] at hP
  rw [← hLc, ← hH]
  clear hH hLc
  refine lv_aload_n hx hb dX6_init_0 rfl (lv_at hl 0 rfl) ?_
  refine W.objInit hx hb hown (hts (.methodLink RX6 3 objectInit) (by decide +kernel)) (hts (.instanceMethod objectInit) (by decide +kernel)) (hts (.code objectInit ⟨#[0xb1]⟩ 1 none) (by decide +kernel)) rfl (by rw [hml]; exact hl.1) rfl dX6_init_1 (Nat.le_of_ble_eq_true rfl) (Nat.le_of_ble_eq_true rfl) ?_
  refine W.eq (g2 := F0 m 4 ls []) rfl ?_
  refine lv_aload_n hx hb dX6_init_4 rfl (lv_at hl 0 rfl) ?_
  refine lv_iconst (v := (0 : Int32)) hx hb dX6_init_5 (by decide) ?_
  refine va_put (D := (dC, dI)) (ci := 6) (v := .int (0 : Int32)) (ty := .int) (C := RX6) (T := TX6) (N := 6) hx hb hts qi_X6_init_X6 tyX6 tyX6_ok nmX6 hown hK hP hD hS 0 rfl rfl 0 (by decide) (hts _ ql_X6_init_9) (fun _ h9 => h9) rfl (by decide +kernel) rfl rfl (Nat.le_of_ble_eq_true rfl) dX6_init_6 (fun H locs hP hD hS => ?_)
  have hP : va_P (dC, dI) vwCl [(a_this, .inr (6, [.int (0 : Int32), .int 0, .null, .null, .null, .int 0]))] H := hP
  have hD : va_D A [(a_this, .inr (6, [.int (0 : Int32), .int 0, .null, .null, .null, .int 0]))] := hD
  refine lv_aload_n hx hb dX6_init_9 rfl (lv_at hl 0 rfl) ?_
  refine lv_iconst (v := (0 : Int32)) hx hb dX6_init_10 (by decide) ?_
  refine va_put (D := (dC, dI)) (ci := 6) (v := .int (0 : Int32)) (ty := .int) (C := RX6) (T := TX6) (N := 6) hx hb hts qi_X6_init_X6 tyX6 tyX6_ok nmX6 hown hK hP hD hS 0 rfl rfl 1 (by decide) (hts _ ql_X6_init_15) (fun _ h9 => h9) rfl (by decide +kernel) rfl rfl (Nat.le_of_ble_eq_true rfl) dX6_init_11 (fun H locs hP hD hS => ?_)
  have hP : va_P (dC, dI) vwCl [(a_this, .inr (6, [.int (0 : Int32), .int (0 : Int32), .null, .null, .null, .int 0]))] H := hP
  have hD : va_D A [(a_this, .inr (6, [.int (0 : Int32), .int (0 : Int32), .null, .null, .null, .int 0]))] := hD
  refine lv_aload_n hx hb dX6_init_14 rfl (lv_at hl 0 rfl) ?_
  refine lv_bipush (v := (6 : Int32)) hx hb dX6_init_15 (by decide) ?_
  refine va_newa (atype := .int) (ty := .int) (a0 := (6, .inl (fun _ => 0))) (N' := 6) hx hb (hts (.arrayClass .int) (by decide +kernel)) rfl hK hP hD hS hA (fun _ => rfl) (by decide) (by decide) (cb_int (by decide)) (Nat.le_of_ble_eq_true rfl) (Nat.le_of_ble_eq_true rfl) dX6_init_17 (fun a_this_behind cA1 H hK2 hP hD hS => ?_)
  have eA : cA1 = cI := Option.some.inj (Eq.trans (Eq.symm (hK2.2 5 _ rfl).2) (hK.2 0 _ rfl).2)
  rw [eA] at hP hD
  clear hK2 eA
  have hP : va_P (dC, dI) vwCl [(a_this, .inr (6, [.int (0 : Int32), .int (0 : Int32), .null, .null, .null, .int 0])), (a_this_behind, .inl (cI, 6, .inl (fun _ => 0)))] H := hP
  have hD : va_D A [(a_this, .inr (6, [.int (0 : Int32), .int (0 : Int32), .null, .null, .null, .int 0])), (a_this_behind, .inl (cI, 6, .inl (fun _ => 0)))] := hD
  refine W.widen (k := 1) (n := 6) (by decide) (by decide) ?_
  refine va_putF (D := (dC, dI)) (ci := 6) (v := .ref a_this_behind) (ty := .array .int) (C := RX6) (T := TX6) (N := 6) hx hb hts qi_X6_init_X6 tyX6 tyX6_ok nmX6 hown hK hP hD hS 0 rfl rfl 2 (by decide) (hts _ ql_X6_init_18) (fun _ h9 => h9) rfl (hin rfl) rfl (by decide +kernel) rfl rfl (Nat.le_of_ble_eq_true rfl) dX6_init_19 (fun H locs hP hD hS => ?_)
  have hP : va_P (dC, dI) vwCl [(a_this, .inr (6, [.int (0 : Int32), .int (0 : Int32), .ref a_this_behind, .null, .null, .int 0])), (a_this_behind, .inl (cI, 6, .inl (fun _ => 0)))] H := hP
  have hD : va_D A [(a_this, .inr (6, [.int (0 : Int32), .int (0 : Int32), .ref a_this_behind, .null, .null, .int 0])), (a_this_behind, .inl (cI, 6, .inl (fun _ => 0)))] := hD
  refine lv_aload_n hx hb dX6_init_22 rfl (lv_at hl 0 rfl) ?_
  refine lv_bipush (v := (6 : Int32)) hx hb dX6_init_23 (by decide) ?_
  refine va_newa (atype := .int) (ty := .int) (a0 := (6, .inl (fun _ => 0))) (N' := 6) hx hb (hts (.arrayClass .int) (by decide +kernel)) rfl hK hP hD hS hA (fun _ => rfl) (by decide) (by decide) (cb_int (by decide)) (Nat.le_of_ble_eq_true rfl) (Nat.le_of_ble_eq_true rfl) dX6_init_25 (fun a_this_sorts cA2 H hK2 hP hD hS => ?_)
  have eA : cA2 = cI := Option.some.inj (Eq.trans (Eq.symm (hK2.2 5 _ rfl).2) (hK.2 0 _ rfl).2)
  rw [eA] at hP hD
  clear hK2 eA
  have hP : va_P (dC, dI) vwCl [(a_this, .inr (6, [.int (0 : Int32), .int (0 : Int32), .ref a_this_behind, .null, .null, .int 0])), (a_this_behind, .inl (cI, 6, .inl (fun _ => 0))), (a_this_sorts, .inl (cI, 6, .inl (fun _ => 0)))] H := hP
  have hD : va_D A [(a_this, .inr (6, [.int (0 : Int32), .int (0 : Int32), .ref a_this_behind, .null, .null, .int 0])), (a_this_behind, .inl (cI, 6, .inl (fun _ => 0))), (a_this_sorts, .inl (cI, 6, .inl (fun _ => 0)))] := hD
  refine W.widen (k := 2) (n := 12) (by decide) (by decide) ?_
  refine va_putF (D := (dC, dI)) (ci := 6) (v := .ref a_this_sorts) (ty := .array .int) (C := RX6) (T := TX6) (N := 6) hx hb hts qi_X6_init_X6 tyX6 tyX6_ok nmX6 hown hK hP hD hS 0 rfl rfl 3 (by decide) (hts _ ql_X6_init_22) (fun _ h9 => h9) rfl (hin rfl) rfl (by decide +kernel) rfl rfl (Nat.le_of_ble_eq_true rfl) dX6_init_27 (fun H locs hP hD hS => ?_)
  have hP : va_P (dC, dI) vwCl [(a_this, .inr (6, [.int (0 : Int32), .int (0 : Int32), .ref a_this_behind, .ref a_this_sorts, .null, .int 0])), (a_this_behind, .inl (cI, 6, .inl (fun _ => 0))), (a_this_sorts, .inl (cI, 6, .inl (fun _ => 0)))] H := hP
  have hD : va_D A [(a_this, .inr (6, [.int (0 : Int32), .int (0 : Int32), .ref a_this_behind, .ref a_this_sorts, .null, .int 0])), (a_this_behind, .inl (cI, 6, .inl (fun _ => 0))), (a_this_sorts, .inl (cI, 6, .inl (fun _ => 0)))] := hD
  refine lv_aload_n hx hb dX6_init_30 rfl (lv_at hl 0 rfl) ?_
  refine lv_bipush (v := (6 : Int32)) hx hb dX6_init_31 (by decide) ?_
  refine va_newa (atype := .int) (ty := .int) (a0 := (6, .inl (fun _ => 0))) (N' := 6) hx hb (hts (.arrayClass .int) (by decide +kernel)) rfl hK hP hD hS hA (fun _ => rfl) (by decide) (by decide) (cb_int (by decide)) (Nat.le_of_ble_eq_true rfl) (Nat.le_of_ble_eq_true rfl) dX6_init_33 (fun a_this_tells cA3 H hK2 hP hD hS => ?_)
  have eA : cA3 = cI := Option.some.inj (Eq.trans (Eq.symm (hK2.2 5 _ rfl).2) (hK.2 0 _ rfl).2)
  rw [eA] at hP hD
  clear hK2 eA
  have hP : va_P (dC, dI) vwCl [(a_this, .inr (6, [.int (0 : Int32), .int (0 : Int32), .ref a_this_behind, .ref a_this_sorts, .null, .int 0])), (a_this_behind, .inl (cI, 6, .inl (fun _ => 0))), (a_this_sorts, .inl (cI, 6, .inl (fun _ => 0))), (a_this_tells, .inl (cI, 6, .inl (fun _ => 0)))] H := hP
  have hD : va_D A [(a_this, .inr (6, [.int (0 : Int32), .int (0 : Int32), .ref a_this_behind, .ref a_this_sorts, .null, .int 0])), (a_this_behind, .inl (cI, 6, .inl (fun _ => 0))), (a_this_sorts, .inl (cI, 6, .inl (fun _ => 0))), (a_this_tells, .inl (cI, 6, .inl (fun _ => 0)))] := hD
  refine W.widen (k := 3) (n := 18) (by decide) (by decide) ?_
  refine va_putF (D := (dC, dI)) (ci := 6) (v := .ref a_this_tells) (ty := .array .int) (C := RX6) (T := TX6) (N := 6) hx hb hts qi_X6_init_X6 tyX6 tyX6_ok nmX6 hown hK hP hD hS 0 rfl rfl 4 (by decide) (hts _ ql_X6_init_25) (fun _ h9 => h9) rfl (hin rfl) rfl (by decide +kernel) rfl rfl (Nat.le_of_ble_eq_true rfl) dX6_init_35 (fun H locs hP hD hS => ?_)
  have hP : va_P (dC, dI) vwCl [(a_this, .inr (6, [.int (0 : Int32), .int (0 : Int32), .ref a_this_behind, .ref a_this_sorts, .ref a_this_tells, .int 0])), (a_this_behind, .inl (cI, 6, .inl (fun _ => 0))), (a_this_sorts, .inl (cI, 6, .inl (fun _ => 0))), (a_this_tells, .inl (cI, 6, .inl (fun _ => 0)))] H := hP
  have hD : va_D A [(a_this, .inr (6, [.int (0 : Int32), .int (0 : Int32), .ref a_this_behind, .ref a_this_sorts, .ref a_this_tells, .int 0])), (a_this_behind, .inl (cI, 6, .inl (fun _ => 0))), (a_this_sorts, .inl (cI, 6, .inl (fun _ => 0))), (a_this_tells, .inl (cI, 6, .inl (fun _ => 0)))] := hD
  have hP := hP.sub (ws' := (qw_X6_init cI cJ cC cG cW a_this a_this_behind a_this_sorts a_this_tells (0 : Int32) (0 : Int32) (0 : Int32) (fun _ => 0) (fun _ => 0) (fun _ => 0))) [0, 1, 2, 3] rfl
  have hD := hD.sub (ws' := (qw_X6_init cI cJ cC cG cW a_this a_this_behind a_this_sorts a_this_tells (0 : Int32) (0 : Int32) (0 : Int32) (fun _ => 0) (fun _ => 0) (fun _ => 0))) [0, 1, 2, 3] (by decide) rfl
  refine lv_aload_n hx hb dX6_init_38 rfl (lv_at hl 0 rfl) ?_
  refine lv_iconst (v := (0 : Int32)) hx hb dX6_init_39 (by decide) ?_
  refine va_put (D := (dC, dI)) (ci := 6) (v := .int (0 : Int32)) (ty := .int) (C := RX6) (T := TX6) (N := 6) hx hb hts qi_X6_init_X6 tyX6 tyX6_ok nmX6 hown hK hP hD hS 0 rfl rfl 5 (by decide) (hts _ ql_X6_init_28) (fun _ h9 => h9) rfl (by decide +kernel) rfl rfl (Nat.le_of_ble_eq_true rfl) dX6_init_40 (fun H locs hP hD hS => ?_)
  have hP : va_P (dC, dI) vwCl (qw_X6_init cI cJ cC cG cW a_this a_this_behind a_this_sorts a_this_tells (0 : Int32) (0 : Int32) (0 : Int32) (fun _ => 0) (fun _ => 0) (fun _ => 0)) H := hP
  have hD : va_D A (qw_X6_init cI cJ cC cG cW a_this a_this_behind a_this_sorts a_this_tells (0 : Int32) (0 : Int32) (0 : Int32) (fun _ => 0) (fun _ => 0) (fun _ => 0)) := hD
  exact W.vret hx hb hr (fun t ht hW => ⟨⟨_, rfl, ⟨a_this_behind, a_this_sorts, a_this_tells, (0 : Int32), (0 : Int32), (0 : Int32), (fun _ => 0), (fun _ => 0), (fun _ => 0), hV, rfl⟩, ⟨by rw [ht]; exact hP, va_K.moved hW.alike hK, hD⟩⟩, hS.F ht⟩) hS.2.2 dX6_init_43 hlocks

/-! StileCounts$Laid.<init>()V -/
abbrev qw_X2_init (cI cJ cC cG cW : ClassId) (a_this a_this_minutes a_this_lostBy a_this_backBy a_this_slips a_this_takes a_this_ties : Nat) (r_this_ties : Nat → Nat) (z_stretches : Int32) (z_costOn : Int32) (z_costBack : Int32) (z_foundBy : Int32) (z_friends : Int32) (z_minutes : Nat → Int32) (z_lostBy : Nat → Int32) (z_backBy : Nat → Int32) (z_slips : Nat → Int32) (z_takes : Nat → Int32) (z_ties : Nat → Nat → Int32) : va_W := [(a_this, .inr (2, [.int z_stretches, .ref a_this_minutes, .ref a_this_lostBy, .ref a_this_backBy, .ref a_this_slips, .ref a_this_takes, .int z_costOn, .int z_costBack, .int z_foundBy, .int z_friends, .ref a_this_ties])), (a_this_minutes, .inl (cI, 9, .inl z_minutes)), (a_this_lostBy, .inl (cI, 9, .inl z_lostBy)), (a_this_backBy, .inl (cI, 9, .inl z_backBy)), (a_this_slips, .inl (cI, 4, .inl z_slips)), (a_this_takes, .inl (cI, 4, .inl z_takes)), (a_this_ties, .inl (cG, 6, .inr (.inr (.inr (.inr (gG r_this_ties)))))), (r_this_ties 0, .inl (cI, 6, .inl (z_ties 0))), (r_this_ties 1, .inl (cI, 6, .inl (z_ties 1))), (r_this_ties 2, .inl (cI, 6, .inl (z_ties 2))), (r_this_ties 3, .inl (cI, 6, .inl (z_ties 3))), (r_this_ties 4, .inl (cI, 6, .inl (z_ties 4))), (r_this_ties 5, .inl (cI, 6, .inl (z_ties 5)))]
theorem qi_X2_init_X2 : ∀ w ∈ wsX20, w ∈ wsX2_init := by decide +kernel
theorem ql_X2_init_9 : (.fieldLink RX2 9 "StileCounts$Laid" "minutes" "[I" : Cond) ∈ wsX2_init := by decide +kernel
theorem ql_X2_init_15 : (.fieldLink RX2 15 "StileCounts$Laid" "lostBy" "[I" : Cond) ∈ wsX2_init := by decide +kernel
theorem ql_X2_init_18 : (.fieldLink RX2 18 "StileCounts$Laid" "backBy" "[I" : Cond) ∈ wsX2_init := by decide +kernel
theorem ql_X2_init_21 : (.fieldLink RX2 21 "StileCounts$Laid" "slips" "[I" : Cond) ∈ wsX2_init := by decide +kernel
theorem ql_X2_init_24 : (.fieldLink RX2 24 "StileCounts$Laid" "takes" "[I" : Cond) ∈ wsX2_init := by decide +kernel
theorem ql_X2_init_29 : (.fieldLink RX2 29 "StileCounts$Laid" "ties" "[[I" : Cond) ∈ wsX2_init := by decide +kernel
def qv_X2_init (Post : (Int32) → (Int32) → (Int32) → (Int32) → (Int32) → (Nat → Int32) → (Nat → Int32) → (Nat → Int32) → (Nat → Int32) → (Nat → Int32) → (Nat → Nat → Int32) → Prop) : Prop := Post (0 : Int32) (0 : Int32) (0 : Int32) (0 : Int32) (0 : Int32) (fun _ => 0) (fun _ => 0) (fun _ => 0) (fun _ => 0) (fun _ => 0) (fun _ _ => 0)
set_option maxHeartbeats 800000 in
set_option maxRecDepth 100000 in
theorem qm_X2_init (l : Launch) (dC : Nat → ClassId) (dI : Nat → Nat → Nat) (cI cJ cC cG cW : ClassId) (a_this : Nat) (sz : Nat) (Post : (Int32) → (Int32) → (Int32) → (Int32) → (Int32) → (Nat → Int32) → (Nat → Int32) → (Nat → Int32) → (Nat → Int32) → (Nat → Int32) → (Nat → Nat → Int32) → Prop) (hV : qv_X2_init Post) : Met l yX2_init wsX2_init ({ frames := 1, cells := 12, slots := 77, locals := 20 } : Room) (va_Pc [.ref a_this] (prW (dC, dI) [(a_this, .inr (2, [.int 0, .null, .null, .null, .null, .null, .int 0, .int 0, .int 0, .int 0, .null]))] (tyL cI cJ cC cG cW) sz)) (va_Qv (fun w : va_W => ∃ (a_this_minutes a_this_lostBy a_this_backBy a_this_slips a_this_takes a_this_ties : Nat) (r_this_ties : Nat → Nat) (z_stretches : Int32) (z_costOn : Int32) (z_costBack : Int32) (z_foundBy : Int32) (z_friends : Int32) (z_minutes : Nat → Int32) (z_lostBy : Nat → Int32) (z_backBy : Nat → Int32) (z_slips : Nat → Int32) (z_takes : Nat → Int32) (z_ties : Nat → Nat → Int32), Post z_stretches z_costOn z_costBack z_foundBy z_friends z_minutes z_lostBy z_backBy z_slips z_takes z_ties ∧ w = (qw_X2_init cI cJ cC cG cW a_this a_this_minutes a_this_lostBy a_this_backBy a_this_slips a_this_takes a_this_ties r_this_ties z_stretches z_costOn z_costBack z_foundBy z_friends z_minutes z_lostBy z_backBy z_slips z_takes z_ties)) (fun w t => poW (dC, dI) (tyL cI cJ cC cG cW) (va_A [(a_this, .inr (2, [.int 0, .null, .null, .null, .null, .null, .int 0, .int 0, .int 0, .int 0, .null]))] sz) w t) (va_A [(a_this, .inr (2, [.int 0, .null, .null, .null, .null, .null, .int 0, .int 0, .int 0, .int 0, .null]))] sz)) 12 77 (va_A [(a_this, .inr (2, [.int 0, .null, .null, .null, .null, .null, .int 0, .int 0, .int 0, .int 0, .null]))] sz) := by
  refine Met.ofM (Qc := fun A => va_Qv (fun w : va_W => ∃ (a_this_minutes a_this_lostBy a_this_backBy a_this_slips a_this_takes a_this_ties : Nat) (r_this_ties : Nat → Nat) (z_stretches : Int32) (z_costOn : Int32) (z_costBack : Int32) (z_foundBy : Int32) (z_friends : Int32) (z_minutes : Nat → Int32) (z_lostBy : Nat → Int32) (z_backBy : Nat → Int32) (z_slips : Nat → Int32) (z_takes : Nat → Int32) (z_ties : Nat → Nat → Int32), Post z_stretches z_costOn z_costBack z_foundBy z_friends z_minutes z_lostBy z_backBy z_slips z_takes z_ties ∧ w = (qw_X2_init cI cJ cC cG cW a_this a_this_minutes a_this_lostBy a_this_backBy a_this_slips a_this_takes a_this_ties r_this_ties z_stretches z_costOn z_costBack z_foundBy z_friends z_minutes z_lostBy z_backBy z_slips z_takes z_ties)) (fun w t => poW (dC, dI) (tyL cI cJ cC cG cW) A w t) A) (nm := "<init>") (ds := "()V") (own := RX2) (maxL := 1) (cc := cX2_init) (ret := none) (by decide) rfl rfl (Nat.le_of_ble_eq_true rfl) (fun p e s m below meth c A C0 hin hK hN hA hP hD hS ls hl => ?_)
  obtain ⟨hx, hb, hr, hml, hown, hts, hlocks⟩ := id C0
  have hl : lv_has ls 1 [(0, .ref a_this)] := hl
  obtain ⟨H, hH⟩ : ∃ h : Heap, h = s.heap := ⟨_, rfl⟩
  obtain ⟨locs, hLc⟩ : ∃ L : List Loc, L = [] := ⟨_, rfl⟩
  have hS : va_S A s.heap H locs := by rw [hH, hLc]; exact hS
  rw [← hH] at hP
  rw [← hLc, ← hH]
  clear hH hLc
  refine lv_aload_n hx hb dX2_init_0 rfl (lv_at hl 0 rfl) ?_
  refine W.objInit hx hb hown (hts (.methodLink RX2 3 objectInit) (by decide +kernel)) (hts (.instanceMethod objectInit) (by decide +kernel)) (hts (.code objectInit ⟨#[0xb1]⟩ 1 none) (by decide +kernel)) rfl (by rw [hml]; exact hl.1) rfl dX2_init_1 (Nat.le_of_ble_eq_true rfl) (Nat.le_of_ble_eq_true rfl) ?_
  refine W.eq (g2 := F0 m 4 ls []) rfl ?_
  refine lv_aload_n hx hb dX2_init_4 rfl (lv_at hl 0 rfl) ?_
  refine lv_bipush (v := (9 : Int32)) hx hb dX2_init_5 (by decide) ?_
  refine va_newa (atype := .int) (ty := .int) (a0 := (9, .inl (fun _ => 0))) (N' := 9) hx hb (hts (.arrayClass .int) (by decide +kernel)) rfl hK hP hD hS hA (fun _ => rfl) (by decide) (by decide) (cb_int (by decide)) (Nat.le_of_ble_eq_true rfl) (Nat.le_of_ble_eq_true rfl) dX2_init_7 (fun a_this_minutes cA1 H hK2 hP hD hS => ?_)
  have eA : cA1 = cI := Option.some.inj (Eq.trans (Eq.symm (hK2.2 5 _ rfl).2) (hK.2 0 _ rfl).2)
  rw [eA] at hP hD
  clear hK2 eA
  have hP : va_P (dC, dI) vwCl [(a_this, .inr (2, [.int 0, .null, .null, .null, .null, .null, .int 0, .int 0, .int 0, .int 0, .null])), (a_this_minutes, .inl (cI, 9, .inl (fun _ => 0)))] H := hP
  have hD : va_D A [(a_this, .inr (2, [.int 0, .null, .null, .null, .null, .null, .int 0, .int 0, .int 0, .int 0, .null])), (a_this_minutes, .inl (cI, 9, .inl (fun _ => 0)))] := hD
  refine W.widen (k := 1) (n := 9) (by decide) (by decide) ?_
  refine va_putF (D := (dC, dI)) (ci := 2) (v := .ref a_this_minutes) (ty := .array .int) (C := RX2) (T := TX2) (N := 11) hx hb hts qi_X2_init_X2 tyX2 tyX2_ok nmX2 hown hK hP hD hS 0 rfl rfl 1 (by decide) (hts _ ql_X2_init_9) (fun _ h9 => h9) rfl (hin rfl) rfl (by decide +kernel) rfl rfl (Nat.le_of_ble_eq_true rfl) dX2_init_9 (fun H locs hP hD hS => ?_)
  have hP : va_P (dC, dI) vwCl [(a_this, .inr (2, [.int 0, .ref a_this_minutes, .null, .null, .null, .null, .int 0, .int 0, .int 0, .int 0, .null])), (a_this_minutes, .inl (cI, 9, .inl (fun _ => 0)))] H := hP
  have hD : va_D A [(a_this, .inr (2, [.int 0, .ref a_this_minutes, .null, .null, .null, .null, .int 0, .int 0, .int 0, .int 0, .null])), (a_this_minutes, .inl (cI, 9, .inl (fun _ => 0)))] := hD
  refine lv_aload_n hx hb dX2_init_12 rfl (lv_at hl 0 rfl) ?_
  refine lv_bipush (v := (9 : Int32)) hx hb dX2_init_13 (by decide) ?_
  refine va_newa (atype := .int) (ty := .int) (a0 := (9, .inl (fun _ => 0))) (N' := 9) hx hb (hts (.arrayClass .int) (by decide +kernel)) rfl hK hP hD hS hA (fun _ => rfl) (by decide) (by decide) (cb_int (by decide)) (Nat.le_of_ble_eq_true rfl) (Nat.le_of_ble_eq_true rfl) dX2_init_15 (fun a_this_lostBy cA2 H hK2 hP hD hS => ?_)
  have eA : cA2 = cI := Option.some.inj (Eq.trans (Eq.symm (hK2.2 5 _ rfl).2) (hK.2 0 _ rfl).2)
  rw [eA] at hP hD
  clear hK2 eA
  have hP : va_P (dC, dI) vwCl [(a_this, .inr (2, [.int 0, .ref a_this_minutes, .null, .null, .null, .null, .int 0, .int 0, .int 0, .int 0, .null])), (a_this_minutes, .inl (cI, 9, .inl (fun _ => 0))), (a_this_lostBy, .inl (cI, 9, .inl (fun _ => 0)))] H := hP
  have hD : va_D A [(a_this, .inr (2, [.int 0, .ref a_this_minutes, .null, .null, .null, .null, .int 0, .int 0, .int 0, .int 0, .null])), (a_this_minutes, .inl (cI, 9, .inl (fun _ => 0))), (a_this_lostBy, .inl (cI, 9, .inl (fun _ => 0)))] := hD
  refine W.widen (k := 2) (n := 18) (by decide) (by decide) ?_
  refine va_putF (D := (dC, dI)) (ci := 2) (v := .ref a_this_lostBy) (ty := .array .int) (C := RX2) (T := TX2) (N := 11) hx hb hts qi_X2_init_X2 tyX2 tyX2_ok nmX2 hown hK hP hD hS 0 rfl rfl 2 (by decide) (hts _ ql_X2_init_15) (fun _ h9 => h9) rfl (hin rfl) rfl (by decide +kernel) rfl rfl (Nat.le_of_ble_eq_true rfl) dX2_init_17 (fun H locs hP hD hS => ?_)
  have hP : va_P (dC, dI) vwCl [(a_this, .inr (2, [.int 0, .ref a_this_minutes, .ref a_this_lostBy, .null, .null, .null, .int 0, .int 0, .int 0, .int 0, .null])), (a_this_minutes, .inl (cI, 9, .inl (fun _ => 0))), (a_this_lostBy, .inl (cI, 9, .inl (fun _ => 0)))] H := hP
  have hD : va_D A [(a_this, .inr (2, [.int 0, .ref a_this_minutes, .ref a_this_lostBy, .null, .null, .null, .int 0, .int 0, .int 0, .int 0, .null])), (a_this_minutes, .inl (cI, 9, .inl (fun _ => 0))), (a_this_lostBy, .inl (cI, 9, .inl (fun _ => 0)))] := hD
  refine lv_aload_n hx hb dX2_init_20 rfl (lv_at hl 0 rfl) ?_
  refine lv_bipush (v := (9 : Int32)) hx hb dX2_init_21 (by decide) ?_
  refine va_newa (atype := .int) (ty := .int) (a0 := (9, .inl (fun _ => 0))) (N' := 9) hx hb (hts (.arrayClass .int) (by decide +kernel)) rfl hK hP hD hS hA (fun _ => rfl) (by decide) (by decide) (cb_int (by decide)) (Nat.le_of_ble_eq_true rfl) (Nat.le_of_ble_eq_true rfl) dX2_init_23 (fun a_this_backBy cA3 H hK2 hP hD hS => ?_)
  have eA : cA3 = cI := Option.some.inj (Eq.trans (Eq.symm (hK2.2 5 _ rfl).2) (hK.2 0 _ rfl).2)
  rw [eA] at hP hD
  clear hK2 eA
  have hP : va_P (dC, dI) vwCl [(a_this, .inr (2, [.int 0, .ref a_this_minutes, .ref a_this_lostBy, .null, .null, .null, .int 0, .int 0, .int 0, .int 0, .null])), (a_this_minutes, .inl (cI, 9, .inl (fun _ => 0))), (a_this_lostBy, .inl (cI, 9, .inl (fun _ => 0))), (a_this_backBy, .inl (cI, 9, .inl (fun _ => 0)))] H := hP
  have hD : va_D A [(a_this, .inr (2, [.int 0, .ref a_this_minutes, .ref a_this_lostBy, .null, .null, .null, .int 0, .int 0, .int 0, .int 0, .null])), (a_this_minutes, .inl (cI, 9, .inl (fun _ => 0))), (a_this_lostBy, .inl (cI, 9, .inl (fun _ => 0))), (a_this_backBy, .inl (cI, 9, .inl (fun _ => 0)))] := hD
  refine W.widen (k := 3) (n := 27) (by decide) (by decide) ?_
  refine va_putF (D := (dC, dI)) (ci := 2) (v := .ref a_this_backBy) (ty := .array .int) (C := RX2) (T := TX2) (N := 11) hx hb hts qi_X2_init_X2 tyX2 tyX2_ok nmX2 hown hK hP hD hS 0 rfl rfl 3 (by decide) (hts _ ql_X2_init_18) (fun _ h9 => h9) rfl (hin rfl) rfl (by decide +kernel) rfl rfl (Nat.le_of_ble_eq_true rfl) dX2_init_25 (fun H locs hP hD hS => ?_)
  have hP : va_P (dC, dI) vwCl [(a_this, .inr (2, [.int 0, .ref a_this_minutes, .ref a_this_lostBy, .ref a_this_backBy, .null, .null, .int 0, .int 0, .int 0, .int 0, .null])), (a_this_minutes, .inl (cI, 9, .inl (fun _ => 0))), (a_this_lostBy, .inl (cI, 9, .inl (fun _ => 0))), (a_this_backBy, .inl (cI, 9, .inl (fun _ => 0)))] H := hP
  have hD : va_D A [(a_this, .inr (2, [.int 0, .ref a_this_minutes, .ref a_this_lostBy, .ref a_this_backBy, .null, .null, .int 0, .int 0, .int 0, .int 0, .null])), (a_this_minutes, .inl (cI, 9, .inl (fun _ => 0))), (a_this_lostBy, .inl (cI, 9, .inl (fun _ => 0))), (a_this_backBy, .inl (cI, 9, .inl (fun _ => 0)))] := hD
  refine lv_aload_n hx hb dX2_init_28 rfl (lv_at hl 0 rfl) ?_
  refine lv_iconst (v := (4 : Int32)) hx hb dX2_init_29 (by decide) ?_
  refine va_newa (atype := .int) (ty := .int) (a0 := (4, .inl (fun _ => 0))) (N' := 4) hx hb (hts (.arrayClass .int) (by decide +kernel)) rfl hK hP hD hS hA (fun _ => rfl) (by decide) (by decide) (cb_int (by decide)) (Nat.le_of_ble_eq_true rfl) (Nat.le_of_ble_eq_true rfl) dX2_init_30 (fun a_this_slips cA4 H hK2 hP hD hS => ?_)
  have eA : cA4 = cI := Option.some.inj (Eq.trans (Eq.symm (hK2.2 5 _ rfl).2) (hK.2 0 _ rfl).2)
  rw [eA] at hP hD
  clear hK2 eA
  have hP : va_P (dC, dI) vwCl [(a_this, .inr (2, [.int 0, .ref a_this_minutes, .ref a_this_lostBy, .ref a_this_backBy, .null, .null, .int 0, .int 0, .int 0, .int 0, .null])), (a_this_minutes, .inl (cI, 9, .inl (fun _ => 0))), (a_this_lostBy, .inl (cI, 9, .inl (fun _ => 0))), (a_this_backBy, .inl (cI, 9, .inl (fun _ => 0))), (a_this_slips, .inl (cI, 4, .inl (fun _ => 0)))] H := hP
  have hD : va_D A [(a_this, .inr (2, [.int 0, .ref a_this_minutes, .ref a_this_lostBy, .ref a_this_backBy, .null, .null, .int 0, .int 0, .int 0, .int 0, .null])), (a_this_minutes, .inl (cI, 9, .inl (fun _ => 0))), (a_this_lostBy, .inl (cI, 9, .inl (fun _ => 0))), (a_this_backBy, .inl (cI, 9, .inl (fun _ => 0))), (a_this_slips, .inl (cI, 4, .inl (fun _ => 0)))] := hD
  refine W.widen (k := 4) (n := 31) (by decide) (by decide) ?_
  refine va_putF (D := (dC, dI)) (ci := 2) (v := .ref a_this_slips) (ty := .array .int) (C := RX2) (T := TX2) (N := 11) hx hb hts qi_X2_init_X2 tyX2 tyX2_ok nmX2 hown hK hP hD hS 0 rfl rfl 4 (by decide) (hts _ ql_X2_init_21) (fun _ h9 => h9) rfl (hin rfl) rfl (by decide +kernel) rfl rfl (Nat.le_of_ble_eq_true rfl) dX2_init_32 (fun H locs hP hD hS => ?_)
  have hP : va_P (dC, dI) vwCl [(a_this, .inr (2, [.int 0, .ref a_this_minutes, .ref a_this_lostBy, .ref a_this_backBy, .ref a_this_slips, .null, .int 0, .int 0, .int 0, .int 0, .null])), (a_this_minutes, .inl (cI, 9, .inl (fun _ => 0))), (a_this_lostBy, .inl (cI, 9, .inl (fun _ => 0))), (a_this_backBy, .inl (cI, 9, .inl (fun _ => 0))), (a_this_slips, .inl (cI, 4, .inl (fun _ => 0)))] H := hP
  have hD : va_D A [(a_this, .inr (2, [.int 0, .ref a_this_minutes, .ref a_this_lostBy, .ref a_this_backBy, .ref a_this_slips, .null, .int 0, .int 0, .int 0, .int 0, .null])), (a_this_minutes, .inl (cI, 9, .inl (fun _ => 0))), (a_this_lostBy, .inl (cI, 9, .inl (fun _ => 0))), (a_this_backBy, .inl (cI, 9, .inl (fun _ => 0))), (a_this_slips, .inl (cI, 4, .inl (fun _ => 0)))] := hD
  refine lv_aload_n hx hb dX2_init_35 rfl (lv_at hl 0 rfl) ?_
  refine lv_iconst (v := (4 : Int32)) hx hb dX2_init_36 (by decide) ?_
  refine va_newa (atype := .int) (ty := .int) (a0 := (4, .inl (fun _ => 0))) (N' := 4) hx hb (hts (.arrayClass .int) (by decide +kernel)) rfl hK hP hD hS hA (fun _ => rfl) (by decide) (by decide) (cb_int (by decide)) (Nat.le_of_ble_eq_true rfl) (Nat.le_of_ble_eq_true rfl) dX2_init_37 (fun a_this_takes cA5 H hK2 hP hD hS => ?_)
  have eA : cA5 = cI := Option.some.inj (Eq.trans (Eq.symm (hK2.2 5 _ rfl).2) (hK.2 0 _ rfl).2)
  rw [eA] at hP hD
  clear hK2 eA
  have hP : va_P (dC, dI) vwCl [(a_this, .inr (2, [.int 0, .ref a_this_minutes, .ref a_this_lostBy, .ref a_this_backBy, .ref a_this_slips, .null, .int 0, .int 0, .int 0, .int 0, .null])), (a_this_minutes, .inl (cI, 9, .inl (fun _ => 0))), (a_this_lostBy, .inl (cI, 9, .inl (fun _ => 0))), (a_this_backBy, .inl (cI, 9, .inl (fun _ => 0))), (a_this_slips, .inl (cI, 4, .inl (fun _ => 0))), (a_this_takes, .inl (cI, 4, .inl (fun _ => 0)))] H := hP
  have hD : va_D A [(a_this, .inr (2, [.int 0, .ref a_this_minutes, .ref a_this_lostBy, .ref a_this_backBy, .ref a_this_slips, .null, .int 0, .int 0, .int 0, .int 0, .null])), (a_this_minutes, .inl (cI, 9, .inl (fun _ => 0))), (a_this_lostBy, .inl (cI, 9, .inl (fun _ => 0))), (a_this_backBy, .inl (cI, 9, .inl (fun _ => 0))), (a_this_slips, .inl (cI, 4, .inl (fun _ => 0))), (a_this_takes, .inl (cI, 4, .inl (fun _ => 0)))] := hD
  refine W.widen (k := 5) (n := 35) (by decide) (by decide) ?_
  refine va_putF (D := (dC, dI)) (ci := 2) (v := .ref a_this_takes) (ty := .array .int) (C := RX2) (T := TX2) (N := 11) hx hb hts qi_X2_init_X2 tyX2 tyX2_ok nmX2 hown hK hP hD hS 0 rfl rfl 5 (by decide) (hts _ ql_X2_init_24) (fun _ h9 => h9) rfl (hin rfl) rfl (by decide +kernel) rfl rfl (Nat.le_of_ble_eq_true rfl) dX2_init_39 (fun H locs hP hD hS => ?_)
  have hP : va_P (dC, dI) vwCl [(a_this, .inr (2, [.int 0, .ref a_this_minutes, .ref a_this_lostBy, .ref a_this_backBy, .ref a_this_slips, .ref a_this_takes, .int 0, .int 0, .int 0, .int 0, .null])), (a_this_minutes, .inl (cI, 9, .inl (fun _ => 0))), (a_this_lostBy, .inl (cI, 9, .inl (fun _ => 0))), (a_this_backBy, .inl (cI, 9, .inl (fun _ => 0))), (a_this_slips, .inl (cI, 4, .inl (fun _ => 0))), (a_this_takes, .inl (cI, 4, .inl (fun _ => 0)))] H := hP
  have hD : va_D A [(a_this, .inr (2, [.int 0, .ref a_this_minutes, .ref a_this_lostBy, .ref a_this_backBy, .ref a_this_slips, .ref a_this_takes, .int 0, .int 0, .int 0, .int 0, .null])), (a_this_minutes, .inl (cI, 9, .inl (fun _ => 0))), (a_this_lostBy, .inl (cI, 9, .inl (fun _ => 0))), (a_this_backBy, .inl (cI, 9, .inl (fun _ => 0))), (a_this_slips, .inl (cI, 4, .inl (fun _ => 0))), (a_this_takes, .inl (cI, 4, .inl (fun _ => 0)))] := hD
  refine lv_aload_n hx hb dX2_init_42 rfl (lv_at hl 0 rfl) ?_
  refine lv_bipush (v := (6 : Int32)) hx hb dX2_init_43 (by decide) ?_
  refine lv_bipush (v := (6 : Int32)) hx hb dX2_init_45 (by decide) ?_
  refine va_mna (X := [(a_this, .inr (2, [.int 0, .ref a_this_minutes, .ref a_this_lostBy, .ref a_this_backBy, .ref a_this_slips, .ref a_this_takes, .int 0, .int 0, .int 0, .int 0, .null])), (a_this_minutes, .inl (cI, 9, .inl (fun _ => 0))), (a_this_lostBy, .inl (cI, 9, .inl (fun _ => 0))), (a_this_backBy, .inl (cI, 9, .inl (fun _ => 0))), (a_this_slips, .inl (cI, 4, .inl (fun _ => 0))), (a_this_takes, .inl (cI, 4, .inl (fun _ => 0)))]) (L := []) (f := fun _ => .inr (0, [])) (N' := 6) (K' := 6) (z := (6, .inl (fun _ => 0))) (ty := .int) (cy := cI) hx hb hown (hts (.classLink RX2 27 ("[" ++ (FieldType.array .int).toString)) (by decide +kernel)) hN.2.2 (hts (.arrayClass .int) (by decide +kernel)) (hK.2 0 _ rfl).2 hK (show va_P (dC, dI) vwCl [(a_this, .inr (2, [.int 0, .ref a_this_minutes, .ref a_this_lostBy, .ref a_this_backBy, .ref a_this_slips, .ref a_this_takes, .int 0, .int 0, .int 0, .int 0, .null])), (a_this_minutes, .inl (cI, 9, .inl (fun _ => 0))), (a_this_lostBy, .inl (cI, 9, .inl (fun _ => 0))), (a_this_backBy, .inl (cI, 9, .inl (fun _ => 0))), (a_this_slips, .inl (cI, 4, .inl (fun _ => 0))), (a_this_takes, .inl (cI, 4, .inl (fun _ => 0)))] H from hP) (show va_D A [(a_this, .inr (2, [.int 0, .ref a_this_minutes, .ref a_this_lostBy, .ref a_this_backBy, .ref a_this_slips, .ref a_this_takes, .int 0, .int 0, .int 0, .int 0, .null])), (a_this_minutes, .inl (cI, 9, .inl (fun _ => 0))), (a_this_lostBy, .inl (cI, 9, .inl (fun _ => 0))), (a_this_backBy, .inl (cI, 9, .inl (fun _ => 0))), (a_this_slips, .inl (cI, 4, .inl (fun _ => 0))), (a_this_takes, .inl (cI, 4, .inl (fun _ => 0)))] from hD) hS hA (by decide) (by decide) (by decide) (by decide) (by omega) (cb_int (by decide)) (by omega) (by decide) (by decide) (Nat.le_of_ble_eq_true rfl) (Nat.le_of_ble_eq_true rfl) (fun _ => rfl) dX2_init_47 (fun a_this_ties r_this_ties cAg H _ _ hK2 hP hD hS => ?_)
  have eA : cAg = cG := Option.some.inj (Eq.trans (Eq.symm (hK2.2 5 _ rfl).2) (hK.2 3 _ rfl).2)
  rw [eA] at hP hD
  clear hK2 eA
  rw [qrows] at hP hD
  have hP : va_P (dC, dI) vwCl [(a_this, .inr (2, [.int 0, .ref a_this_minutes, .ref a_this_lostBy, .ref a_this_backBy, .ref a_this_slips, .ref a_this_takes, .int 0, .int 0, .int 0, .int 0, .null])), (a_this_minutes, .inl (cI, 9, .inl (fun _ => 0))), (a_this_lostBy, .inl (cI, 9, .inl (fun _ => 0))), (a_this_backBy, .inl (cI, 9, .inl (fun _ => 0))), (a_this_slips, .inl (cI, 4, .inl (fun _ => 0))), (a_this_takes, .inl (cI, 4, .inl (fun _ => 0))), (a_this_ties, .inl (cG, 6, .inr (.inr (.inr (.inr (gG r_this_ties)))))), (r_this_ties 0, .inl (cI, 6, .inl (fun _ => 0))), (r_this_ties 1, .inl (cI, 6, .inl (fun _ => 0))), (r_this_ties 2, .inl (cI, 6, .inl (fun _ => 0))), (r_this_ties 3, .inl (cI, 6, .inl (fun _ => 0))), (r_this_ties 4, .inl (cI, 6, .inl (fun _ => 0))), (r_this_ties 5, .inl (cI, 6, .inl (fun _ => 0)))] H := hP
  have hD : va_D A [(a_this, .inr (2, [.int 0, .ref a_this_minutes, .ref a_this_lostBy, .ref a_this_backBy, .ref a_this_slips, .ref a_this_takes, .int 0, .int 0, .int 0, .int 0, .null])), (a_this_minutes, .inl (cI, 9, .inl (fun _ => 0))), (a_this_lostBy, .inl (cI, 9, .inl (fun _ => 0))), (a_this_backBy, .inl (cI, 9, .inl (fun _ => 0))), (a_this_slips, .inl (cI, 4, .inl (fun _ => 0))), (a_this_takes, .inl (cI, 4, .inl (fun _ => 0))), (a_this_ties, .inl (cG, 6, .inr (.inr (.inr (.inr (gG r_this_ties)))))), (r_this_ties 0, .inl (cI, 6, .inl (fun _ => 0))), (r_this_ties 1, .inl (cI, 6, .inl (fun _ => 0))), (r_this_ties 2, .inl (cI, 6, .inl (fun _ => 0))), (r_this_ties 3, .inl (cI, 6, .inl (fun _ => 0))), (r_this_ties 4, .inl (cI, 6, .inl (fun _ => 0))), (r_this_ties 5, .inl (cI, 6, .inl (fun _ => 0)))] := hD
  refine W.widen (k := 12) (n := 77) (by decide) (by decide) ?_
  refine va_putF (D := (dC, dI)) (ci := 2) (v := .ref a_this_ties) (ty := .array (.array .int)) (C := RX2) (T := TX2) (N := 11) hx hb hts qi_X2_init_X2 tyX2 tyX2_ok nmX2 hown hK hP hD hS 0 rfl rfl 10 (by decide) (hts _ ql_X2_init_29) (fun _ h9 => h9) rfl (hin rfl) rfl (by decide +kernel) rfl rfl (Nat.le_of_ble_eq_true rfl) dX2_init_51 (fun H locs hP hD hS => ?_)
  have hP : va_P (dC, dI) vwCl [(a_this, .inr (2, [.int 0, .ref a_this_minutes, .ref a_this_lostBy, .ref a_this_backBy, .ref a_this_slips, .ref a_this_takes, .int 0, .int 0, .int 0, .int 0, .ref a_this_ties])), (a_this_minutes, .inl (cI, 9, .inl (fun _ => 0))), (a_this_lostBy, .inl (cI, 9, .inl (fun _ => 0))), (a_this_backBy, .inl (cI, 9, .inl (fun _ => 0))), (a_this_slips, .inl (cI, 4, .inl (fun _ => 0))), (a_this_takes, .inl (cI, 4, .inl (fun _ => 0))), (a_this_ties, .inl (cG, 6, .inr (.inr (.inr (.inr (gG r_this_ties)))))), (r_this_ties 0, .inl (cI, 6, .inl (fun _ => 0))), (r_this_ties 1, .inl (cI, 6, .inl (fun _ => 0))), (r_this_ties 2, .inl (cI, 6, .inl (fun _ => 0))), (r_this_ties 3, .inl (cI, 6, .inl (fun _ => 0))), (r_this_ties 4, .inl (cI, 6, .inl (fun _ => 0))), (r_this_ties 5, .inl (cI, 6, .inl (fun _ => 0)))] H := hP
  have hD : va_D A [(a_this, .inr (2, [.int 0, .ref a_this_minutes, .ref a_this_lostBy, .ref a_this_backBy, .ref a_this_slips, .ref a_this_takes, .int 0, .int 0, .int 0, .int 0, .ref a_this_ties])), (a_this_minutes, .inl (cI, 9, .inl (fun _ => 0))), (a_this_lostBy, .inl (cI, 9, .inl (fun _ => 0))), (a_this_backBy, .inl (cI, 9, .inl (fun _ => 0))), (a_this_slips, .inl (cI, 4, .inl (fun _ => 0))), (a_this_takes, .inl (cI, 4, .inl (fun _ => 0))), (a_this_ties, .inl (cG, 6, .inr (.inr (.inr (.inr (gG r_this_ties)))))), (r_this_ties 0, .inl (cI, 6, .inl (fun _ => 0))), (r_this_ties 1, .inl (cI, 6, .inl (fun _ => 0))), (r_this_ties 2, .inl (cI, 6, .inl (fun _ => 0))), (r_this_ties 3, .inl (cI, 6, .inl (fun _ => 0))), (r_this_ties 4, .inl (cI, 6, .inl (fun _ => 0))), (r_this_ties 5, .inl (cI, 6, .inl (fun _ => 0)))] := hD
  have hP := hP.sub (ws' := (qw_X2_init cI cJ cC cG cW a_this a_this_minutes a_this_lostBy a_this_backBy a_this_slips a_this_takes a_this_ties r_this_ties (0 : Int32) (0 : Int32) (0 : Int32) (0 : Int32) (0 : Int32) (fun _ => 0) (fun _ => 0) (fun _ => 0) (fun _ => 0) (fun _ => 0) (fun _ _ => 0))) [0, 1, 2, 3, 4, 5, 6, 7, 8, 9, 10, 11, 12] rfl
  have hD := hD.sub (ws' := (qw_X2_init cI cJ cC cG cW a_this a_this_minutes a_this_lostBy a_this_backBy a_this_slips a_this_takes a_this_ties r_this_ties (0 : Int32) (0 : Int32) (0 : Int32) (0 : Int32) (0 : Int32) (fun _ => 0) (fun _ => 0) (fun _ => 0) (fun _ => 0) (fun _ => 0) (fun _ _ => 0))) [0, 1, 2, 3, 4, 5, 6, 7, 8, 9, 10, 11, 12] (by decide) rfl
  exact W.vret hx hb hr (fun t ht hW => ⟨⟨_, rfl, ⟨a_this_minutes, a_this_lostBy, a_this_backBy, a_this_slips, a_this_takes, a_this_ties, r_this_ties, (0 : Int32), (0 : Int32), (0 : Int32), (0 : Int32), (0 : Int32), (fun _ => 0), (fun _ => 0), (fun _ => 0), (fun _ => 0), (fun _ => 0), (fun _ _ => 0), hV, rfl⟩, ⟨by rw [ht]; exact hP, va_K.moved hW.alike hK, hD⟩⟩, hS.F ht⟩) hS.2.2 dX2_init_54 hlocks
