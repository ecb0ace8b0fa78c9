/-! StileCounts$Choice.anotherCount(LStileCounts$Laid;LStileCounts$Chances;)V -/
abbrev qw_X1_anotherCount (cI cJ cC cG cW : ClassId) (a_this a_p0 a_p0_minutes a_p0_lostBy a_p0_backBy a_p0_slips a_p0_takes a_p0_ties a_p1 a_p1_of : Nat) (z_which : Int32) (z_above : Int64) (z_below : Int64) (z_p0_stretches : Int32) (z_p0_costOn : Int32) (z_p0_costBack : Int32) (z_p0_foundBy : Int32) (z_p0_friends : Int32) (z_p1_away : Int64) (z_p1_all : Int64) (z_p0_slips : Nat → Int32) (z_p0_takes : Nat → Int32) (z_p1_of : Nat → Int64) : va_W := [(a_this, .inr (1, [.int z_which, .long z_above, .long z_below])), (a_p0, .inr (2, [.int z_p0_stretches, .ref a_p0_minutes, .ref a_p0_lostBy, .ref a_p0_backBy, .ref a_p0_slips, .ref a_p0_takes, .int z_p0_costOn, .int z_p0_costBack, .int z_p0_foundBy, .int z_p0_friends, .ref a_p0_ties])), (a_p1, .inr (0, [.ref a_p1_of, .long z_p1_away, .long z_p1_all])), (a_p0_slips, .inl (cI, 4, .inl z_p0_slips)), (a_p0_takes, .inl (cI, 4, .inl z_p0_takes)), (a_p1_of, .inl (cJ, 9, .inr (.inl z_p1_of)))]
theorem qi_X1_anotherCount_X1 : ∀ w ∈ wsX10, w ∈ wsX1_anotherCount := by decide +kernel
theorem ql_X1_anotherCount_17 : (.fieldLink RX1 17 "StileCounts$Choice" "which" "I" : Cond) ∈ wsX1_anotherCount := by decide +kernel
theorem ql_X1_anotherCount_21 : (.fieldLink RX1 21 "StileCounts$Choice" "above" "J" : Cond) ∈ wsX1_anotherCount := by decide +kernel
theorem ql_X1_anotherCount_58 : (.constantLong RX1 58 (10 : Int64) : Cond) ∈ wsX1_anotherCount := by decide +kernel
theorem ql_X1_anotherCount_9 : (.fieldLink RX1 9 "StileCounts$Choice" "below" "J" : Cond) ∈ wsX1_anotherCount := by decide +kernel
theorem qi_X1_anotherCount_X2 : ∀ w ∈ wsX20, w ∈ wsX1_anotherCount := by decide +kernel
theorem ql_X1_anotherCount_60 : (.fieldLink RX1 60 "StileCounts$Laid" "takes" "[I" : Cond) ∈ wsX1_anotherCount := by decide +kernel
def qv_X1_anotherCount_L38 (z_below : Int64) (z_p0_costOn : Int32) (z_p0_costBack : Int32) (z_p1_away : Int64) (z_p1_all : Int64) (z_p0_slips : Nat → Int32) (z_p0_takes : Nat → Int32) (z_p1_of : Nat → Int64) (Post : (Int32) → (Int64) → (Int64) → Prop) (E : (Int32) → (Int64) → Prop) : Nat → (Int32) → (Int32) → (Int64) → Prop
  | 0, _, _, _ => False
  | n + 1, x3, z_which, z_above => ((4 : Int32) ≤ x3 → E z_which z_above) ∧ (¬ (4 : Int32) ≤ x3 → vp_in x3 4 ∧ (qv_X1_decidedBehind x3 z_p0_costOn z_p0_costBack z_p1_away z_p0_slips z_p1_of (fun r4 => (z_above ≤ ((((z_p0_takes x3.toNatClampNeg).toInt64) * z_below) + r4) → qv_X1_anotherCount_L38 z_below z_p0_costOn z_p0_costBack z_p1_away z_p1_all z_p0_slips z_p0_takes z_p1_of Post E n (x3 + (1 : Int32)) z_which z_above) ∧ (¬ z_above ≤ ((((z_p0_takes x3.toNatClampNeg).toInt64) * z_below) + r4) → qv_X1_anotherCount_L38 z_below z_p0_costOn z_p0_costBack z_p1_away z_p1_all z_p0_slips z_p0_takes z_p1_of Post E n (x3 + (1 : Int32)) x3 ((((z_p0_takes x3.toNatClampNeg).toInt64) * z_below) + r4)))))
set_option maxHeartbeats 4000000 in
set_option maxRecDepth 100000 in
theorem qt_X1_anotherCount_L38 {p : Program} {l : Launch} {e : Env} {s : State} {m : MethodId} {args : Array Value} {below : List Frame} {meth : Method} {c : Code} {dC : Nat → ClassId} {dI : Nat → Nat → Nat} {cI cJ cC cG cW : ClassId} {a_this a_p0 a_p0_minutes a_p0_lostBy a_p0_backBy a_p0_slips a_p0_takes a_p0_ties a_p1 a_p1_of : Nat} {A : Nat → Prop} (C0 : MC cX1_anotherCount 6 none RX1 wsX1_anotherCount p s m args meth c) (hK : va_K (dC, dI) vwCl (tyL cI cJ cC cG cW) s) (hN : NW s) (hA : ∀ q, s.heap.size ≤ q → A q) (z_below : Int64) (z_p0_stretches : Int32) (z_p0_costOn : Int32) (z_p0_costBack : Int32) (z_p0_foundBy : Int32) (z_p0_friends : Int32) (z_p1_away : Int64) (z_p1_all : Int64) (z_p0_slips : Nat → Int32) (z_p0_takes : Nat → Int32) (z_p1_of : Nat → Int64) (Post : (Int32) → (Int64) → (Int64) → Prop) (E : (Int32) → (Int64) → Prop) (hE : ∀ (z_which : Int32) (z_above : Int64) (H : Heap) (locs : List Loc) (ls : Array Slot), E z_which z_above → va_P (dC, dI) vwCl (qw_X1_anotherCount cI cJ cC cG cW a_this a_p0 a_p0_minutes a_p0_lostBy a_p0_backBy a_p0_slips a_p0_takes a_p0_ties a_p1 a_p1_of z_which z_above z_below z_p0_stretches z_p0_costOn z_p0_costBack z_p0_foundBy z_p0_friends z_p1_away z_p1_all z_p0_slips z_p0_takes z_p1_of) H → va_D A (qw_X1_anotherCount cI cJ cC cG cW a_this a_p0 a_p0_minutes a_p0_lostBy a_p0_backBy a_p0_slips a_p0_takes a_p0_ties a_p1 a_p1_of z_which z_above z_below z_p0_stretches z_p0_costOn z_p0_costBack z_p0_foundBy z_p0_friends z_p1_away z_p1_all z_p0_slips z_p0_takes z_p1_of) → va_S A s.heap H locs → lv_has ls 6 [] → W p l e ({ frames := 2, cells := 0, slots := 0, locals := 53 } : Room) s m args below meth c H locs 0 0 (MQ below (va_Qv (fun (u : (Int32) × (Int64) × (Int64)) => Post u.1 u.2.1 u.2.2) (fun u t => poW (dC, dI) (tyL cI cJ cC cG cW) A (qw_X1_anotherCount cI cJ cC cG cW a_this a_p0 a_p0_minutes a_p0_lostBy a_p0_backBy a_p0_slips a_p0_takes a_p0_ties a_p1 a_p1_of u.1 u.2.1 u.2.2 z_p0_stretches z_p0_costOn z_p0_costBack z_p0_foundBy z_p0_friends z_p1_away z_p1_all z_p0_slips z_p0_takes z_p1_of) t) A) args s 0 0 A) (F0 m 91 ls [])) : ∀ (n : Nat) (x3 : Int32) (z_which : Int32) (z_above : Int64) (H : Heap) (locs : List Loc) (ls : Array Slot), qv_X1_anotherCount_L38 z_below z_p0_costOn z_p0_costBack z_p1_away z_p1_all z_p0_slips z_p0_takes z_p1_of Post E n x3 z_which z_above → va_P (dC, dI) vwCl (qw_X1_anotherCount cI cJ cC cG cW a_this a_p0 a_p0_minutes a_p0_lostBy a_p0_backBy a_p0_slips a_p0_takes a_p0_ties a_p1 a_p1_of z_which z_above z_below z_p0_stretches z_p0_costOn z_p0_costBack z_p0_foundBy z_p0_friends z_p1_away z_p1_all z_p0_slips z_p0_takes z_p1_of) H → va_D A (qw_X1_anotherCount cI cJ cC cG cW a_this a_p0 a_p0_minutes a_p0_lostBy a_p0_backBy a_p0_slips a_p0_takes a_p0_ties a_p1 a_p1_of z_which z_above z_below z_p0_stretches z_p0_costOn z_p0_costBack z_p0_foundBy z_p0_friends z_p1_away z_p1_all z_p0_slips z_p0_takes z_p1_of) → va_S A s.heap H locs → lv_has ls 6 [(0, .ref a_this), (1, .ref a_p0), (2, .ref a_p1), (3, .int x3)] → W p l e ({ frames := 2, cells := 0, slots := 0, locals := 53 } : Room) s m args below meth c H locs 0 0 (MQ below (va_Qv (fun (u : (Int32) × (Int64) × (Int64)) => Post u.1 u.2.1 u.2.2) (fun u t => poW (dC, dI) (tyL cI cJ cC cG cW) A (qw_X1_anotherCount cI cJ cC cG cW a_this a_p0 a_p0_minutes a_p0_lostBy a_p0_backBy a_p0_slips a_p0_takes a_p0_ties a_p1 a_p1_of u.1 u.2.1 u.2.2 z_p0_stretches z_p0_costOn z_p0_costBack z_p0_foundBy z_p0_friends z_p1_away z_p1_all z_p0_slips z_p0_takes z_p1_of) t) A) args s 0 0 A) (F0 m 38 ls []) := by
  obtain ⟨hx, hb, hr, hml, hown, hts, hlocks⟩ := id C0
  intro n
  induction n with
  | zero =>
    intro x3 z_which z_above H locs ls hV
    exact False.elim hV
  | succ n ih =>
    intro x3 z_which z_above H locs ls hV hP hD hS hl
    refine lv_iload_n hx hb dX1_anotherCount_38 rfl (lv_at hl 3 rfl) ?_
    refine lv_iconst (v := (4 : Int32)) hx hb dX1_anotherCount_39 (by decide) ?_
    refine lv_icmp_ge (tgt := 91) hx hb dX1_anotherCount_40 (by decide) (fun c2 => ?_) (fun c2 => ?_)
    · have hV := hV.1 c2
      exact hE z_which z_above H locs ls hV hP hD hS (lv_sub hl [] rfl)
    · have hV := hV.2 c2
      refine lv_aload_n hx hb dX1_anotherCount_43 rfl (lv_at hl 1 rfl) ?_
      refine va_get (D := (dC, dI)) (ci := 2) (v := .ref a_p0_takes) (C := RX2) (T := TX2) (N := 11) hx hb hts qi_X1_anotherCount_X2 hown hK hP 1 rfl rfl 5 (by decide) (hts _ ql_X1_anotherCount_60) (fun _ h9 => h9) rfl dX1_anotherCount_44 ?_
      refine lv_iload_n hx hb dX1_anotherCount_47 rfl (lv_at hl 3 rfl) ?_
      obtain ⟨h3, hV⟩ := hV
      refine va_iald hx hb hK hP 4 0 rfl rfl h3 dX1_anotherCount_48 ?_
      refine lv_i2l hx hb dX1_anotherCount_49 rfl ?_
      refine lv_aload_n hx hb dX1_anotherCount_50 rfl (lv_at hl 0 rfl) ?_
      refine va_get (D := (dC, dI)) (ci := 1) (v := .long z_below) (C := RX1) (T := TX1) (N := 3) hx hb hts qi_X1_anotherCount_X1 hown hK hP 0 rfl rfl 2 (by decide) (hts _ ql_X1_anotherCount_9) (fun _ h9 => h9) rfl dX1_anotherCount_51 ?_
      refine lv_lmul hx hb dX1_anotherCount_54 ?_
      refine lv_aload_n hx hb dX1_anotherCount_55 rfl (lv_at hl 1 rfl) ?_
      refine lv_aload_n hx hb dX1_anotherCount_56 rfl (lv_at hl 2 rfl) ?_
      refine lv_iload_n hx hb dX1_anotherCount_57 rfl (lv_at hl 3 rfl) ?_
      refine vp_callSl (va_Run.run (va_runS (As := [.ref a_p0, .ref a_p1, .int x3]) (rest := [.long (((z_p0_takes x3.toNatClampNeg).toInt64) * z_below)]) ⟨hx, hb, hml, hown, hts⟩ (qm_X1_decidedBehind l dC dI cI cJ cC cG cW a_p0 a_p0_minutes a_p0_lostBy a_p0_backBy a_p0_slips a_p0_takes a_p0_ties a_p1 a_p1_of z_p0_stretches z_p0_costOn z_p0_costBack z_p0_foundBy z_p0_friends z_p1_away z_p1_all z_p0_slips z_p1_of x3 _ hV) (va_cwS 3 hts gX1_anotherCount_X1_decidedBehind rfl rfl rfl (by decide +kernel) ⟨Nat.le_of_ble_eq_true rfl, Nat.le_of_ble_eq_true rfl⟩) (preRS hK hN (hP.sub (ws' := (qw_X1_decidedBehind cI cJ cC cG cW a_p0 a_p0_minutes a_p0_lostBy a_p0_backBy a_p0_slips a_p0_takes a_p0_ties a_p1 a_p1_of z_p0_stretches z_p0_costOn z_p0_costBack z_p0_foundBy z_p0_friends z_p1_away z_p1_all z_p0_slips z_p1_of)) [1, 2, 3, 5] rfl)) rfl rfl hl.1 rfl (lv_room (Nat.le_of_ble_eq_true rfl)) dX1_anotherCount_58 ⟨Nat.le_of_ble_eq_true rfl, Nat.le_of_ble_eq_true rfl⟩)) (fun r4 hV => ?_)
      refine lv_ladd hx hb dX1_anotherCount_61 ?_
      refine lv_lstore (lv' := [(4, .long ((((z_p0_takes x3.toNatClampNeg).toInt64) * z_below) + r4)), (0, .ref a_this), (1, .ref a_p0), (2, .ref a_p1), (3, .int x3)]) hx hb dX1_anotherCount_62 hl (by decide) rfl (fun ls hl => ?_)
      refine lv_lload hx hb dX1_anotherCount_64 (lv_at hl 0 rfl) ?_
      refine lv_aload_n hx hb dX1_anotherCount_66 rfl (lv_at hl 1 rfl) ?_
      refine va_get (D := (dC, dI)) (ci := 1) (v := .long z_above) (C := RX1) (T := TX1) (N := 3) hx hb hts qi_X1_anotherCount_X1 hown hK hP 0 rfl rfl 1 (by decide) (hts _ ql_X1_anotherCount_21) (fun _ h9 => h9) rfl dX1_anotherCount_67 ?_
      refine W.lcmp hx hb dX1_anotherCount_70 ?_
      refine lv_if_ge (tgt := 85) hx hb dX1_anotherCount_71 (by decide) (fun c5 => ?_) (fun c5 => ?_)
      · have c5 := (lg_cmp_ge _ _).mp c5
        have hV := hV.1 c5
        refine lv_iinc (v := (x3 + (1 : Int32))) (lv' := [(3, .int (x3 + (1 : Int32))), (4, .long ((((z_p0_takes x3.toNatClampNeg).toInt64) * z_below) + r4)), (0, .ref a_this), (1, .ref a_p0), (2, .ref a_p1)]) hx hb dX1_anotherCount_85 hl (k := 4) rfl rfl (by decide) rfl (fun ls hl => ?_)
        refine lv_goto (tgt := 38) hx hb dX1_anotherCount_88 (by decide) ?_
        exact ih (x3 + (1 : Int32)) z_which z_above H locs ls hV hP hD hS (lv_sub hl [2, 3, 4, 0] rfl)
      · have c5 := fun h => c5 ((lg_cmp_ge _ _).mpr h)
        have hV := hV.2 c5
        refine lv_aload_n hx hb dX1_anotherCount_74 rfl (lv_at hl 1 rfl) ?_
        refine lv_lload hx hb dX1_anotherCount_75 (lv_at hl 0 rfl) ?_
        refine va_put (D := (dC, dI)) (ci := 1) (v := .long ((((z_p0_takes x3.toNatClampNeg).toInt64) * z_below) + r4)) (ty := .long) (C := RX1) (T := TX1) (N := 3) hx hb hts qi_X1_anotherCount_X1 tyX1 tyX1_ok nmX1 hown hK hP hD hS 0 rfl rfl 1 (by decide) (hts _ ql_X1_anotherCount_21) (fun _ h9 => h9) rfl (by decide +kernel) rfl rfl (Nat.le_of_ble_eq_true rfl) dX1_anotherCount_77 (fun H locs hP hD hS => ?_)
        have hP : va_P (dC, dI) vwCl (qw_X1_anotherCount cI cJ cC cG cW a_this a_p0 a_p0_minutes a_p0_lostBy a_p0_backBy a_p0_slips a_p0_takes a_p0_ties a_p1 a_p1_of z_which ((((z_p0_takes x3.toNatClampNeg).toInt64) * z_below) + r4) z_below z_p0_stretches z_p0_costOn z_p0_costBack z_p0_foundBy z_p0_friends z_p1_away z_p1_all z_p0_slips z_p0_takes z_p1_of) H := hP
        have hD : va_D A (qw_X1_anotherCount cI cJ cC cG cW a_this a_p0 a_p0_minutes a_p0_lostBy a_p0_backBy a_p0_slips a_p0_takes a_p0_ties a_p1 a_p1_of z_which ((((z_p0_takes x3.toNatClampNeg).toInt64) * z_below) + r4) z_below z_p0_stretches z_p0_costOn z_p0_costBack z_p0_foundBy z_p0_friends z_p1_away z_p1_all z_p0_slips z_p0_takes z_p1_of) := hD
        refine lv_aload_n hx hb dX1_anotherCount_80 rfl (lv_at hl 1 rfl) ?_
        refine lv_iload_n hx hb dX1_anotherCount_81 rfl (lv_at hl 4 rfl) ?_
        refine va_put (D := (dC, dI)) (ci := 1) (v := .int x3) (ty := .int) (C := RX1) (T := TX1) (N := 3) hx hb hts qi_X1_anotherCount_X1 tyX1 tyX1_ok nmX1 hown hK hP hD hS 0 rfl rfl 0 (by decide) (hts _ ql_X1_anotherCount_17) (fun _ h9 => h9) rfl (by decide +kernel) rfl rfl (Nat.le_of_ble_eq_true rfl) dX1_anotherCount_82 (fun H locs hP hD hS => ?_)
        have hP : va_P (dC, dI) vwCl (qw_X1_anotherCount cI cJ cC cG cW a_this a_p0 a_p0_minutes a_p0_lostBy a_p0_backBy a_p0_slips a_p0_takes a_p0_ties a_p1 a_p1_of x3 ((((z_p0_takes x3.toNatClampNeg).toInt64) * z_below) + r4) z_below z_p0_stretches z_p0_costOn z_p0_costBack z_p0_foundBy z_p0_friends z_p1_away z_p1_all z_p0_slips z_p0_takes z_p1_of) H := hP
        have hD : va_D A (qw_X1_anotherCount cI cJ cC cG cW a_this a_p0 a_p0_minutes a_p0_lostBy a_p0_backBy a_p0_slips a_p0_takes a_p0_ties a_p1 a_p1_of x3 ((((z_p0_takes x3.toNatClampNeg).toInt64) * z_below) + r4) z_below z_p0_stretches z_p0_costOn z_p0_costBack z_p0_foundBy z_p0_friends z_p1_away z_p1_all z_p0_slips z_p0_takes z_p1_of) := hD
        refine lv_iinc (v := (x3 + (1 : Int32))) (lv' := [(3, .int (x3 + (1 : Int32))), (4, .long ((((z_p0_takes x3.toNatClampNeg).toInt64) * z_below) + r4)), (0, .ref a_this), (1, .ref a_p0), (2, .ref a_p1)]) hx hb dX1_anotherCount_85 hl (k := 4) rfl rfl (by decide) rfl (fun ls hl => ?_)
        refine lv_goto (tgt := 38) hx hb dX1_anotherCount_88 (by decide) ?_
        exact ih (x3 + (1 : Int32)) x3 ((((z_p0_takes x3.toNatClampNeg).toInt64) * z_below) + r4) H locs ls hV hP hD hS (lv_sub hl [2, 3, 4, 0] rfl)
def qv_X1_anotherCount (z_which : Int32) (z_above : Int64) (z_below : Int64) (z_p0_costOn : Int32) (z_p0_costBack : Int32) (z_p1_away : Int64) (z_p1_all : Int64) (z_p0_slips : Nat → Int32) (z_p0_takes : Nat → Int32) (z_p1_of : Nat → Int64) (Post : (Int32) → (Int64) → (Int64) → Prop) : Prop := qv_X1_onOrBack z_which z_above z_below z_p0_costOn z_p0_costBack z_p1_away z_p1_all z_p1_of (fun z_which_1 z_above_1 z_below_1 => ∃ n6, qv_X1_anotherCount_L38 (z_below_1 * (10 : Int64)) z_p0_costOn z_p0_costBack z_p1_away z_p1_all z_p0_slips z_p0_takes z_p1_of Post (fun z_which_6 z_above_6 => Post z_which_6 z_above_6 (z_below_1 * (10 : Int64))) n6 (0 : Int32) (-4 : Int32) (z_above_1 * (10 : Int64)))
set_option maxHeartbeats 4000000 in
set_option maxRecDepth 100000 in
theorem qm_X1_anotherCount (l : Launch) (dC : Nat → ClassId) (dI : Nat → Nat → Nat) (cI cJ cC cG cW : ClassId) (a_this a_p0 a_p0_minutes a_p0_lostBy a_p0_backBy a_p0_slips a_p0_takes a_p0_ties a_p1 a_p1_of : Nat) (z_which : Int32) (z_above : Int64) (z_below : Int64) (z_p0_stretches : Int32) (z_p0_costOn : Int32) (z_p0_costBack : Int32) (z_p0_foundBy : Int32) (z_p0_friends : Int32) (z_p1_away : Int64) (z_p1_all : Int64) (z_p0_slips : Nat → Int32) (z_p0_takes : Nat → Int32) (z_p1_of : Nat → Int64) (sz : Nat) (Post : (Int32) → (Int64) → (Int64) → Prop) (hV : qv_X1_anotherCount z_which z_above z_below z_p0_costOn z_p0_costBack z_p1_away z_p1_all z_p0_slips z_p0_takes z_p1_of Post) : Met l yX1_anotherCount wsX1_anotherCount ({ frames := 2, cells := 0, slots := 0, locals := 53 } : Room) (va_Pc [.ref a_this, .ref a_p0, .ref a_p1] (prW (dC, dI) (qw_X1_anotherCount cI cJ cC cG cW a_this a_p0 a_p0_minutes a_p0_lostBy a_p0_backBy a_p0_slips a_p0_takes a_p0_ties a_p1 a_p1_of z_which z_above z_below z_p0_stretches z_p0_costOn z_p0_costBack z_p0_foundBy z_p0_friends z_p1_away z_p1_all z_p0_slips z_p0_takes z_p1_of) (tyL cI cJ cC cG cW) sz)) (va_Qv (fun (u : (Int32) × (Int64) × (Int64)) => Post u.1 u.2.1 u.2.2) (fun u t => poW (dC, dI) (tyL cI cJ cC cG cW) (va_A (qw_X1_anotherCount cI cJ cC cG cW a_this a_p0 a_p0_minutes a_p0_lostBy a_p0_backBy a_p0_slips a_p0_takes a_p0_ties a_p1 a_p1_of z_which z_above z_below z_p0_stretches z_p0_costOn z_p0_costBack z_p0_foundBy z_p0_friends z_p1_away z_p1_all z_p0_slips z_p0_takes z_p1_of) sz) (qw_X1_anotherCount cI cJ cC cG cW a_this a_p0 a_p0_minutes a_p0_lostBy a_p0_backBy a_p0_slips a_p0_takes a_p0_ties a_p1 a_p1_of u.1 u.2.1 u.2.2 z_p0_stretches z_p0_costOn z_p0_costBack z_p0_foundBy z_p0_friends z_p1_away z_p1_all z_p0_slips z_p0_takes z_p1_of) t) (va_A (qw_X1_anotherCount cI cJ cC cG cW a_this a_p0 a_p0_minutes a_p0_lostBy a_p0_backBy a_p0_slips a_p0_takes a_p0_ties a_p1 a_p1_of z_which z_above z_below z_p0_stretches z_p0_costOn z_p0_costBack z_p0_foundBy z_p0_friends z_p1_away z_p1_all z_p0_slips z_p0_takes z_p1_of) sz)) 0 0 (va_A (qw_X1_anotherCount cI cJ cC cG cW a_this a_p0 a_p0_minutes a_p0_lostBy a_p0_backBy a_p0_slips a_p0_takes a_p0_ties a_p1 a_p1_of z_which z_above z_below z_p0_stretches z_p0_costOn z_p0_costBack z_p0_foundBy z_p0_friends z_p1_away z_p1_all z_p0_slips z_p0_takes z_p1_of) sz) := by
  refine Met.ofM (Qc := fun A => va_Qv (fun (u : (Int32) × (Int64) × (Int64)) => Post u.1 u.2.1 u.2.2) (fun u t => poW (dC, dI) (tyL cI cJ cC cG cW) A (qw_X1_anotherCount cI cJ cC cG cW a_this a_p0 a_p0_minutes a_p0_lostBy a_p0_backBy a_p0_slips a_p0_takes a_p0_ties a_p1 a_p1_of u.1 u.2.1 u.2.2 z_p0_stretches z_p0_costOn z_p0_costBack z_p0_foundBy z_p0_friends z_p1_away z_p1_all z_p0_slips z_p0_takes z_p1_of) t) A) (nm := "anotherCount") (ds := "(LStileCounts$Laid;LStileCounts$Chances;)V") (own := RX1) (maxL := 6) (cc := cX1_anotherCount) (ret := none) (by decide) rfl rfl (Nat.le_of_ble_eq_true rfl) (fun p e s m below meth c A C0 hin hK hN hA hP hD hS ls hl => ?_)
  obtain ⟨hx, hb, hr, hml, hown, hts, hlocks⟩ := id C0
  have hl : lv_has ls 6 [(0, .ref a_this), (1, .ref a_p0), (2, .ref a_p1)] := hl
  obtain ⟨H, hH⟩ : ∃ h : Heap, h = s.heap := ⟨_, rfl⟩
  obtain ⟨locs, hLc⟩ : ∃ L : List Loc, L = [] := ⟨_, rfl⟩
  have hS : va_S A s.heap H locs := by rw [hH, hLc]; exact hS
  rw [← hH] at hP
  rw [← hLc, ← hH]
  clear hH hLc
  refine lv_aload_n hx hb dX1_anotherCount_0 rfl (lv_at hl 0 rfl) ?_
  refine lv_aload_n hx hb dX1_anotherCount_1 rfl (lv_at hl 1 rfl) ?_
  refine lv_aload_n hx hb dX1_anotherCount_2 rfl (lv_at hl 2 rfl) ?_
  refine kW_v (wc := (qw_X1_onOrBack cI cJ cC cG cW a_this a_p0 a_p0_minutes a_p0_lostBy a_p0_backBy a_p0_slips a_p0_takes a_p0_ties a_p1 a_p1_of z_which z_above z_below z_p0_stretches z_p0_costOn z_p0_costBack z_p0_foundBy z_p0_friends z_p1_away z_p1_all z_p1_of)) (wr := List.filterMap (fun (i : Nat) => (qw_X1_anotherCount cI cJ cC cG cW a_this a_p0 a_p0_minutes a_p0_lostBy a_p0_backBy a_p0_slips a_p0_takes a_p0_ties a_p1 a_p1_of z_which z_above z_below z_p0_stretches z_p0_costOn z_p0_costBack z_p0_foundBy z_p0_friends z_p1_away z_p1_all z_p0_slips z_p0_takes z_p1_of)[i]?) [3, 4]) (w1 := fun (u : (Int32) × (Int64) × (Int64)) => (qw_X1_onOrBack cI cJ cC cG cW a_this a_p0 a_p0_minutes a_p0_lostBy a_p0_backBy a_p0_slips a_p0_takes a_p0_ties a_p1 a_p1_of u.1 u.2.1 u.2.2 z_p0_stretches z_p0_costOn z_p0_costBack z_p0_foundBy z_p0_friends z_p1_away z_p1_all z_p1_of)) (va_runV (As := [.ref a_p0, .ref a_p1]) (rest := []) ⟨hx, hb, hml, hown, hts⟩ (qm_X1_onOrBack l dC dI cI cJ cC cG cW a_this a_p0 a_p0_minutes a_p0_lostBy a_p0_backBy a_p0_slips a_p0_takes a_p0_ties a_p1 a_p1_of z_which z_above z_below z_p0_stretches z_p0_costOn z_p0_costBack z_p0_foundBy z_p0_friends z_p1_away z_p1_all z_p1_of H.size _ hV) (cwV 2 hts gX1_anotherCount_X1_onOrBack rfl rfl rfl (by decide +kernel) ⟨Nat.le_of_ble_eq_true rfl, Nat.le_of_ble_eq_true rfl⟩) (preWV hK hN (hP.sub (ws' := (qw_X1_onOrBack cI cJ cC cG cW a_this a_p0 a_p0_minutes a_p0_lostBy a_p0_backBy a_p0_slips a_p0_takes a_p0_ties a_p1 a_p1_of z_which z_above z_below z_p0_stretches z_p0_costOn z_p0_costBack z_p0_foundBy z_p0_friends z_p1_away z_p1_all z_p1_of)) [0, 1, 2, 5] rfl) (hD.sub (ws' := (qw_X1_onOrBack cI cJ cC cG cW a_this a_p0 a_p0_minutes a_p0_lostBy a_p0_backBy a_p0_slips a_p0_takes a_p0_ties a_p1 a_p1_of z_which z_above z_below z_p0_stretches z_p0_costOn z_p0_costBack z_p0_foundBy z_p0_friends z_p1_away z_p1_all z_p1_of)) [0, 1, 2, 5] (by decide) rfl) rfl rfl) rfl rfl hl.1 rfl (lv_room (Nat.le_of_ble_eq_true rfl)) dX1_anotherCount_3 ⟨Nat.le_of_ble_eq_true rfl, Nat.le_of_ble_eq_true rfl⟩) hP hD hS hA [0, 1, 2, 5] [3, 4] rfl rfl (by decide) (by decide) (fun u H locs hV hP hD hS => ?_)
  obtain ⟨z_which_1, z_above_1, z_below_1⟩ := u
  try dsimp only at hV
  have hP := hP.sub (ws' := (qw_X1_anotherCount cI cJ cC cG cW a_this a_p0 a_p0_minutes a_p0_lostBy a_p0_backBy a_p0_slips a_p0_takes a_p0_ties a_p1 a_p1_of z_which_1 z_above_1 z_below_1 z_p0_stretches z_p0_costOn z_p0_costBack z_p0_foundBy z_p0_friends z_p1_away z_p1_all z_p0_slips z_p0_takes z_p1_of)) [2, 3, 4, 0, 1, 5] rfl
  have hD := hD.sub (ws' := (qw_X1_anotherCount cI cJ cC cG cW a_this a_p0 a_p0_minutes a_p0_lostBy a_p0_backBy a_p0_slips a_p0_takes a_p0_ties a_p1 a_p1_of z_which_1 z_above_1 z_below_1 z_p0_stretches z_p0_costOn z_p0_costBack z_p0_foundBy z_p0_friends z_p1_away z_p1_all z_p0_slips z_p0_takes z_p1_of)) [2, 3, 4, 0, 1, 5] (by decide) rfl
  refine lv_aload_n hx hb dX1_anotherCount_6 rfl (lv_at hl 0 rfl) ?_
  refine lv_bipush (v := (-4 : Int32)) hx hb dX1_anotherCount_7 (by decide) ?_
  refine va_put (D := (dC, dI)) (ci := 1) (v := .int (-4 : Int32)) (ty := .int) (C := RX1) (T := TX1) (N := 3) hx hb hts qi_X1_anotherCount_X1 tyX1 tyX1_ok nmX1 hown hK hP hD hS 0 rfl rfl 0 (by decide) (hts _ ql_X1_anotherCount_17) (fun _ h9 => h9) rfl (by decide +kernel) rfl rfl (Nat.le_of_ble_eq_true rfl) dX1_anotherCount_9 (fun H locs hP hD hS => ?_)
  have hP : va_P (dC, dI) vwCl (qw_X1_anotherCount cI cJ cC cG cW a_this a_p0 a_p0_minutes a_p0_lostBy a_p0_backBy a_p0_slips a_p0_takes a_p0_ties a_p1 a_p1_of (-4 : Int32) z_above_1 z_below_1 z_p0_stretches z_p0_costOn z_p0_costBack z_p0_foundBy z_p0_friends z_p1_away z_p1_all z_p0_slips z_p0_takes z_p1_of) H := hP
  have hD : va_D A (qw_X1_anotherCount cI cJ cC cG cW a_this a_p0 a_p0_minutes a_p0_lostBy a_p0_backBy a_p0_slips a_p0_takes a_p0_ties a_p1 a_p1_of (-4 : Int32) z_above_1 z_below_1 z_p0_stretches z_p0_costOn z_p0_costBack z_p0_foundBy z_p0_friends z_p1_away z_p1_all z_p0_slips z_p0_takes z_p1_of) := hD
  refine lv_aload_n hx hb dX1_anotherCount_12 rfl (lv_at hl 0 rfl) ?_
  refine lv_dup hx hb dX1_anotherCount_13 rfl ?_
  refine va_get (D := (dC, dI)) (ci := 1) (v := .long z_above_1) (C := RX1) (T := TX1) (N := 3) hx hb hts qi_X1_anotherCount_X1 hown hK hP 0 rfl rfl 1 (by decide) (hts _ ql_X1_anotherCount_21) (fun _ h9 => h9) rfl dX1_anotherCount_14 ?_
  refine lv_ldc2 (v := (10 : Int64)) hx hb hown (hts _ ql_X1_anotherCount_58) dX1_anotherCount_17 ?_
  refine lv_lmul hx hb dX1_anotherCount_20 ?_
  refine va_put (D := (dC, dI)) (ci := 1) (v := .long (z_above_1 * (10 : Int64))) (ty := .long) (C := RX1) (T := TX1) (N := 3) hx hb hts qi_X1_anotherCount_X1 tyX1 tyX1_ok nmX1 hown hK hP hD hS 0 rfl rfl 1 (by decide) (hts _ ql_X1_anotherCount_21) (fun _ h9 => h9) rfl (by decide +kernel) rfl rfl (Nat.le_of_ble_eq_true rfl) dX1_anotherCount_21 (fun H locs hP hD hS => ?_)
  have hP : va_P (dC, dI) vwCl (qw_X1_anotherCount cI cJ cC cG cW a_this a_p0 a_p0_minutes a_p0_lostBy a_p0_backBy a_p0_slips a_p0_takes a_p0_ties a_p1 a_p1_of (-4 : Int32) (z_above_1 * (10 : Int64)) z_below_1 z_p0_stretches z_p0_costOn z_p0_costBack z_p0_foundBy z_p0_friends z_p1_away z_p1_all z_p0_slips z_p0_takes z_p1_of) H := hP
  have hD : va_D A (qw_X1_anotherCount cI cJ cC cG cW a_this a_p0 a_p0_minutes a_p0_lostBy a_p0_backBy a_p0_slips a_p0_takes a_p0_ties a_p1 a_p1_of (-4 : Int32) (z_above_1 * (10 : Int64)) z_below_1 z_p0_stretches z_p0_costOn z_p0_costBack z_p0_foundBy z_p0_friends z_p1_away z_p1_all z_p0_slips z_p0_takes z_p1_of) := hD
  refine lv_aload_n hx hb dX1_anotherCount_24 rfl (lv_at hl 0 rfl) ?_
  refine lv_dup hx hb dX1_anotherCount_25 rfl ?_
  refine va_get (D := (dC, dI)) (ci := 1) (v := .long z_below_1) (C := RX1) (T := TX1) (N := 3) hx hb hts qi_X1_anotherCount_X1 hown hK hP 0 rfl rfl 2 (by decide) (hts _ ql_X1_anotherCount_9) (fun _ h9 => h9) rfl dX1_anotherCount_26 ?_
  refine lv_ldc2 (v := (10 : Int64)) hx hb hown (hts _ ql_X1_anotherCount_58) dX1_anotherCount_29 ?_
  refine lv_lmul hx hb dX1_anotherCount_32 ?_
  refine va_put (D := (dC, dI)) (ci := 1) (v := .long (z_below_1 * (10 : Int64))) (ty := .long) (C := RX1) (T := TX1) (N := 3) hx hb hts qi_X1_anotherCount_X1 tyX1 tyX1_ok nmX1 hown hK hP hD hS 0 rfl rfl 2 (by decide) (hts _ ql_X1_anotherCount_9) (fun _ h9 => h9) rfl (by decide +kernel) rfl rfl (Nat.le_of_ble_eq_true rfl) dX1_anotherCount_33 (fun H locs hP hD hS => ?_)
  have hP : va_P (dC, dI) vwCl (qw_X1_anotherCount cI cJ cC cG cW a_this a_p0 a_p0_minutes a_p0_lostBy a_p0_backBy a_p0_slips a_p0_takes a_p0_ties a_p1 a_p1_of (-4 : Int32) (z_above_1 * (10 : Int64)) (z_below_1 * (10 : Int64)) z_p0_stretches z_p0_costOn z_p0_costBack z_p0_foundBy z_p0_friends z_p1_away z_p1_all z_p0_slips z_p0_takes z_p1_of) H := hP
  have hD : va_D A (qw_X1_anotherCount cI cJ cC cG cW a_this a_p0 a_p0_minutes a_p0_lostBy a_p0_backBy a_p0_slips a_p0_takes a_p0_ties a_p1 a_p1_of (-4 : Int32) (z_above_1 * (10 : Int64)) (z_below_1 * (10 : Int64)) z_p0_stretches z_p0_costOn z_p0_costBack z_p0_foundBy z_p0_friends z_p1_away z_p1_all z_p0_slips z_p0_takes z_p1_of) := hD
  refine lv_iconst (v := (0 : Int32)) hx hb dX1_anotherCount_36 (by decide) ?_
  refine lv_istore_n (lv' := [(3, .int (0 : Int32)), (0, .ref a_this), (1, .ref a_p0), (2, .ref a_p1)]) hx hb dX1_anotherCount_37 rfl hl (by decide) rfl (fun ls hl => ?_)
  obtain ⟨n6, hV⟩ := hV
  refine qt_X1_anotherCount_L38 C0 hK hN hA (z_below_1 * (10 : Int64)) z_p0_stretches z_p0_costOn z_p0_costBack z_p0_foundBy z_p0_friends z_p1_away z_p1_all z_p0_slips z_p0_takes z_p1_of _ _ (fun z_which_6 z_above_6 H locs ls hV hP hD hS hl => ?_) n6 (0 : Int32) (-4 : Int32) (z_above_1 * (10 : Int64)) H locs ls hV hP hD hS (lv_sub hl [1, 2, 3, 0] rfl)
  exact W.vret hx hb hr (fun t ht hW => ⟨⟨(z_which_6, z_above_6, (z_below_1 * (10 : Int64))), rfl, hV, ⟨by rw [ht]; exact hP, va_K.moved hW.alike hK, hD⟩⟩, hS.F ht⟩) hS.2.2 dX1_anotherCount_91 hlocks

/-! StileCounts$Laid.minutesOver(II)I -/
abbrev qw_X2_minutesOver (cI cJ cC cG cW : ClassId) (a_this a_this_minutes a_this_lostBy a_this_backBy a_this_slips a_this_takes a_this_ties : Nat) (z_stretches : Int32) (z_costOn : Int32) (z_costBack : Int32) (z_foundBy : Int32) (z_friends : Int32) (z_minutes : Nat → Int32) : va_W := [(a_this, .inr (2, [.int z_stretches, .ref a_this_minutes, .ref a_this_lostBy, .ref a_this_backBy, .ref a_this_slips, .ref a_this_takes, .int z_costOn, .int z_costBack, .int z_foundBy, .int z_friends, .ref a_this_ties])), (a_this_minutes, .inl (cI, 9, .inl z_minutes))]
theorem qi_X2_minutesOver_X2 : ∀ w ∈ wsX20, w ∈ wsX2_minutesOver := by decide +kernel
theorem ql_X2_minutesOver_9 : (.fieldLink RX2 9 "StileCounts$Laid" "minutes" "[I" : Cond) ∈ wsX2_minutesOver := by decide +kernel
def qv_X2_minutesOver_L5 (x2 : Int32) (z_minutes : Nat → Int32) (Post : Int32 → Prop) (E : (Int32) → Prop) : Nat → (Int32) → (Int32) → Prop
  | 0, _, _ => False
  | n + 1, x3, x4 => (x2 < x4 → E x3) ∧ (¬ x2 < x4 → vp_in x4 9 ∧ (qv_X2_minutesOver_L5 x2 z_minutes Post E n (x3 + (z_minutes x4.toNatClampNeg)) (x4 + (1 : Int32))))
set_option maxHeartbeats 4000000 in
set_option maxRecDepth 100000 in
theorem qt_X2_minutesOver_L5 {p : Program} {l : Launch} {e : Env} {s : State} {m : MethodId} {args : Array Value} {below : List Frame} {meth : Method} {c : Code} {dC : Nat → ClassId} {dI : Nat → Nat → Nat} {cI cJ cC cG cW : ClassId} {a_this a_this_minutes a_this_lostBy a_this_backBy a_this_slips a_this_takes a_this_ties : Nat} (C0 : MC cX2_minutesOver 5 (some .int) RX2 wsX2_minutesOver p s m args meth c) (hK : va_K (dC, dI) vwCl (tyL cI cJ cC cG cW) s) (hN : NW s) (z_stretches : Int32) (z_costOn : Int32) (z_costBack : Int32) (z_foundBy : Int32) (z_friends : Int32) (z_minutes : Nat → Int32) (hP : va_P (dC, dI) vwCl (qw_X2_minutesOver cI cJ cC cG cW a_this a_this_minutes a_this_lostBy a_this_backBy a_this_slips a_this_takes a_this_ties z_stretches z_costOn z_costBack z_foundBy z_friends z_minutes) s.heap) (x2 : Int32) (Post : Int32 → Prop) (E : (Int32) → Prop) (hE : ∀ (x3 : Int32) (ls : Array Slot), E x3 → lv_has ls 5 [(3, .int x3)] → W p l e ({ frames := 0, cells := 0, slots := 0, locals := 0 } : Room) s m args below meth c s.heap [] 0 0 (MQ below (vp_Si Post) args s 0 0 (fun _ => False)) (F0 m 27 ls [])) : ∀ (n : Nat) (x3 : Int32) (x4 : Int32) (ls : Array Slot), qv_X2_minutesOver_L5 x2 z_minutes Post E n x3 x4 → lv_has ls 5 [(0, .ref a_this), (2, .int x2), (3, .int x3), (4, .int x4)] → W p l e ({ frames := 0, cells := 0, slots := 0, locals := 0 } : Room) s m args below meth c s.heap [] 0 0 (MQ below (vp_Si Post) args s 0 0 (fun _ => False)) (F0 m 5 ls []) := by
  obtain ⟨hx, hb, hr, hml, hown, hts, hlocks⟩ := id C0
  intro n
  induction n with
  | zero =>
    intro x3 x4 ls hV
    exact False.elim hV
  | succ n ih =>
    intro x3 x4 ls hV hl
    refine lv_iload hx hb dX2_minutesOver_5 (lv_at hl 3 rfl) ?_
    refine lv_iload_n hx hb dX2_minutesOver_7 rfl (lv_at hl 1 rfl) ?_
    refine lv_icmp_gt (tgt := 27) hx hb dX2_minutesOver_8 (by decide) (fun c1 => ?_) (fun c1 => ?_)
    · have hV := hV.1 c1
      exact hE x3 ls hV (lv_sub hl [2] rfl)
    · have hV := hV.2 c1
      refine lv_iload_n hx hb dX2_minutesOver_11 rfl (lv_at hl 2 rfl) ?_
      refine lv_aload_n hx hb dX2_minutesOver_12 rfl (lv_at hl 0 rfl) ?_
      refine va_get (D := (dC, dI)) (ci := 2) (v := .ref a_this_minutes) (C := RX2) (T := TX2) (N := 11) hx hb hts qi_X2_minutesOver_X2 hown hK hP 0 rfl rfl 1 (by decide) (hts _ ql_X2_minutesOver_9) (fun _ h9 => h9) rfl dX2_minutesOver_13 ?_
      refine lv_iload hx hb dX2_minutesOver_16 (lv_at hl 3 rfl) ?_
      obtain ⟨h2, hV⟩ := hV
      refine va_iald hx hb hK hP 1 0 rfl rfl h2 dX2_minutesOver_18 ?_
      refine lv_iadd hx hb dX2_minutesOver_19 ?_
      refine lv_istore_n (lv' := [(3, .int (x3 + (z_minutes x4.toNatClampNeg))), (0, .ref a_this), (2, .int x2), (4, .int x4)]) hx hb dX2_minutesOver_20 rfl hl (by decide) rfl (fun ls hl => ?_)
      refine lv_iinc (v := (x4 + (1 : Int32))) (lv' := [(4, .int (x4 + (1 : Int32))), (3, .int (x3 + (z_minutes x4.toNatClampNeg))), (0, .ref a_this), (2, .int x2)]) hx hb dX2_minutesOver_21 hl (k := 3) rfl rfl (by decide) rfl (fun ls hl => ?_)
      refine lv_goto (tgt := 5) hx hb dX2_minutesOver_24 (by decide) ?_
      exact ih (x3 + (z_minutes x4.toNatClampNeg)) (x4 + (1 : Int32)) ls hV (lv_sub hl [2, 3, 1, 0] rfl)
def qv_X2_minutesOver (x1 : Int32) (x2 : Int32) (z_minutes : Nat → Int32) (Post : Int32 → Prop) : Prop := ∃ n3, qv_X2_minutesOver_L5 x2 z_minutes Post (fun x3_3 => Post x3_3) n3 (0 : Int32) x1
set_option maxHeartbeats 4000000 in
set_option maxRecDepth 100000 in
theorem qm_X2_minutesOver (l : Launch) (dC : Nat → ClassId) (dI : Nat → Nat → Nat) (cI cJ cC cG cW : ClassId) (a_this a_this_minutes a_this_lostBy a_this_backBy a_this_slips a_this_takes a_this_ties : Nat) (z_stretches : Int32) (z_costOn : Int32) (z_costBack : Int32) (z_foundBy : Int32) (z_friends : Int32) (z_minutes : Nat → Int32) (x1 : Int32) (x2 : Int32) (Post : Int32 → Prop) (hV : qv_X2_minutesOver x1 x2 z_minutes Post) : Met l yX2_minutesOver wsX2_minutesOver ({ frames := 0, cells := 0, slots := 0, locals := 0 } : Room) (va_Pc [.ref a_this, .int x1, .int x2] (prR (dC, dI) (qw_X2_minutesOver cI cJ cC cG cW a_this a_this_minutes a_this_lostBy a_this_backBy a_this_slips a_this_takes a_this_ties z_stretches z_costOn z_costBack z_foundBy z_friends z_minutes) (tyL cI cJ cC cG cW))) (vp_Si Post) 0 0 (fun _ => False) := by
  refine Met.ofR (nm := "minutesOver") (ds := "(II)I") (own := RX2) (maxL := 5) (cc := cX2_minutesOver) (ret := (some .int)) (by decide) rfl rfl (Nat.le_of_ble_eq_true rfl) (fun p e s m below meth c C0 hK hN hP ls hl => ?_)
  obtain ⟨hx, hb, hr, hml, hown, hts, hlocks⟩ := id C0
  have hl : lv_has ls 5 [(0, .ref a_this), (1, .int x1), (2, .int x2)] := hl
  refine lv_iconst (v := (0 : Int32)) hx hb dX2_minutesOver_0 (by decide) ?_
  refine lv_istore_n (lv' := [(3, .int (0 : Int32)), (0, .ref a_this), (1, .int x1), (2, .int x2)]) hx hb dX2_minutesOver_1 rfl hl (by decide) rfl (fun ls hl => ?_)
  refine lv_iload_n hx hb dX2_minutesOver_2 rfl (lv_at hl 2 rfl) ?_
  refine lv_istore (lv' := [(4, .int x1), (3, .int (0 : Int32)), (0, .ref a_this), (1, .int x1), (2, .int x2)]) hx hb dX2_minutesOver_3 hl (by decide) rfl (fun ls hl => ?_)
  obtain ⟨n3, hV⟩ := hV
  refine qt_X2_minutesOver_L5 C0 hK hN z_stretches z_costOn z_costBack z_foundBy z_friends z_minutes hP x2 _ _ (fun x3_3 ls hV hl => ?_) n3 (0 : Int32) x1 ls hV (lv_sub hl [2, 4, 1, 0] rfl)
  refine lv_iload_n hx hb dX2_minutesOver_27 rfl (lv_at hl 0 rfl) ?_
  exact W.iret hx hb hr (fun t ht hW => ⟨_, rfl, hV, ht⟩) (fun q h => absurd h List.not_mem_nil) dX2_minutesOver_28 hlocks

/-! StileCounts$Choice.howFarBack(LStileCounts$Laid;LStileCounts$Chances;I)V -/
abbrev qw_X1_howFarBack (cI cJ cC cG cW : ClassId) (a_this a_p0 a_p0_minutes a_p0_lostBy a_p0_backBy a_p0_slips a_p0_takes a_p0_ties a_p1 a_p1_of : Nat) (z_which : Int32) (z_above : Int64) (z_below : Int64) (z_p0_stretches : Int32) (z_p0_costOn : Int32) (z_p0_costBack : Int32) (z_p0_foundBy : Int32) (z_p0_friends : Int32) (z_p1_away : Int64) (z_p1_all : Int64) (z_p0_minutes : Nat → Int32) (z_p1_of : Nat → Int64) : va_W := [(a_this, .inr (1, [.int z_which, .long z_above, .long z_below])), (a_p0, .inr (2, [.int z_p0_stretches, .ref a_p0_minutes, .ref a_p0_lostBy, .ref a_p0_backBy, .ref a_p0_slips, .ref a_p0_takes, .int z_p0_costOn, .int z_p0_costBack, .int z_p0_foundBy, .int z_p0_friends, .ref a_p0_ties])), (a_p1, .inr (0, [.ref a_p1_of, .long z_p1_away, .long z_p1_all])), (a_p0_minutes, .inl (cI, 9, .inl z_p0_minutes)), (a_p1_of, .inl (cJ, 9, .inr (.inl z_p1_of)))]
theorem qi_X1_howFarBack_X1 : ∀ w ∈ wsX10, w ∈ wsX1_howFarBack := by decide +kernel
theorem ql_X1_howFarBack_17 : (.fieldLink RX1 17 "StileCounts$Choice" "which" "I" : Cond) ∈ wsX1_howFarBack := by decide +kernel
theorem qi_X1_howFarBack_X2 : ∀ w ∈ wsX20, w ∈ wsX1_howFarBack := by decide +kernel
theorem ql_X1_howFarBack_28 : (.fieldLink RX1 28 "StileCounts$Laid" "costOn" "I" : Cond) ∈ wsX1_howFarBack := by decide +kernel
theorem qi_X1_howFarBack_X0 : ∀ w ∈ wsX00, w ∈ wsX1_howFarBack := by decide +kernel
theorem ql_X1_howFarBack_33 : (.fieldLink RX1 33 "StileCounts$Chances" "away" "J" : Cond) ∈ wsX1_howFarBack := by decide +kernel
theorem ql_X1_howFarBack_21 : (.fieldLink RX1 21 "StileCounts$Choice" "above" "J" : Cond) ∈ wsX1_howFarBack := by decide +kernel
theorem ql_X1_howFarBack_58 : (.constantLong RX1 58 (10 : Int64) : Cond) ∈ wsX1_howFarBack := by decide +kernel
theorem ql_X1_howFarBack_51 : (.fieldLink RX1 51 "StileCounts$Chances" "all" "J" : Cond) ∈ wsX1_howFarBack := by decide +kernel
theorem ql_X1_howFarBack_9 : (.fieldLink RX1 9 "StileCounts$Choice" "below" "J" : Cond) ∈ wsX1_howFarBack := by decide +kernel
theorem ql_X1_howFarBack_75 : (.fieldLink RX1 75 "StileCounts$Laid" "foundBy" "I" : Cond) ∈ wsX1_howFarBack := by decide +kernel
theorem ql_X1_howFarBack_41 : (.fieldLink RX1 41 "StileCounts$Chances" "of" "[J" : Cond) ∈ wsX1_howFarBack := by decide +kernel
def qv_X1_howFarBack_L40 (x3 : Int32) (z_below : Int64) (z_p0_costOn : Int32) (z_p0_foundBy : Int32) (z_p1_away : Int64) (z_p1_all : Int64) (z_p0_minutes : Nat → Int32) (z_p1_of : Nat → Int64) (Post : (Int32) → (Int64) → (Int64) → Prop) (E : (Int32) → (Int64) → Prop) : Nat → (Int64) → (Int32) → (Int32) → (Int64) → Prop
  | 0, _, _, _, _ => False
  | n + 1, x4, x6, z_which, z_above => (x3 < x6 → E z_which z_above) ∧ (¬ x3 < x6 → vp_in ((x3 - x6) + (1 : Int32)) 9 ∧ (qv_X2_minutesOver ((x3 - x6) + (1 : Int32)) x3 z_p0_minutes (fun r3 => (z_above ≤ (((((2 : Int32) * r3).toInt64) * z_below) + ((z_p0_costOn.toInt64) * (((10 : Int64) * z_p1_away) - (x4 + ((z_p0_foundBy.toInt64) * (z_p1_of ((x3 - x6) + (1 : Int32)).toNatClampNeg)))))) → qv_X1_howFarBack_L40 x3 z_below z_p0_costOn z_p0_foundBy z_p1_away z_p1_all z_p0_minutes z_p1_of Post E n (x4 + ((z_p0_foundBy.toInt64) * (z_p1_of ((x3 - x6) + (1 : Int32)).toNatClampNeg))) (x6 + (1 : Int32)) z_which z_above) ∧ (¬ z_above ≤ (((((2 : Int32) * r3).toInt64) * z_below) + ((z_p0_costOn.toInt64) * (((10 : Int64) * z_p1_away) - (x4 + ((z_p0_foundBy.toInt64) * (z_p1_of ((x3 - x6) + (1 : Int32)).toNatClampNeg)))))) → qv_X1_howFarBack_L40 x3 z_below z_p0_costOn z_p0_foundBy z_p1_away z_p1_all z_p0_minutes z_p1_of Post E n (x4 + ((z_p0_foundBy.toInt64) * (z_p1_of ((x3 - x6) + (1 : Int32)).toNatClampNeg))) (x6 + (1 : Int32)) x6 (((((2 : Int32) * r3).toInt64) * z_below) + ((z_p0_costOn.toInt64) * (((10 : Int64) * z_p1_away) - (x4 + ((z_p0_foundBy.toInt64) * (z_p1_of ((x3 - x6) + (1 : Int32)).toNatClampNeg))))))))))
set_option maxHeartbeats 4000000 in
set_option maxRecDepth 100000 in
theorem qt_X1_howFarBack_L40 {p : Program} {l : Launch} {e : Env} {s : State} {m : MethodId} {args : Array Value} {below : List Frame} {meth : Method} {c : Code} {dC : Nat → ClassId} {dI : Nat → Nat → Nat} {cI cJ cC cG cW : ClassId} {a_this a_p0 a_p0_minutes a_p0_lostBy a_p0_backBy a_p0_slips a_p0_takes a_p0_ties a_p1 a_p1_of : Nat} {A : Nat → Prop} (C0 : MC cX1_howFarBack 10 none RX1 wsX1_howFarBack p s m args meth c) (hK : va_K (dC, dI) vwCl (tyL cI cJ cC cG cW) s) (hN : NW s) (hA : ∀ q, s.heap.size ≤ q → A q) (z_below : Int64) (z_p0_stretches : Int32) (z_p0_costOn : Int32) (z_p0_costBack : Int32) (z_p0_foundBy : Int32) (z_p0_friends : Int32) (z_p1_away : Int64) (z_p1_all : Int64) (z_p0_minutes : Nat → Int32) (z_p1_of : Nat → Int64) (x3 : Int32) (Post : (Int32) → (Int64) → (Int64) → Prop) (E : (Int32) → (Int64) → Prop) (hE : ∀ (z_which : Int32) (z_above : Int64) (H : Heap) (locs : List Loc) (ls : Array Slot), E z_which z_above → va_P (dC, dI) vwCl (qw_X1_howFarBack cI cJ cC cG cW a_this a_p0 a_p0_minutes a_p0_lostBy a_p0_backBy a_p0_slips a_p0_takes a_p0_ties a_p1 a_p1_of z_which z_above z_below z_p0_stretches z_p0_costOn z_p0_costBack z_p0_foundBy z_p0_friends z_p1_away z_p1_all z_p0_minutes z_p1_of) H → va_D A (qw_X1_howFarBack cI cJ cC cG cW a_this a_p0 a_p0_minutes a_p0_lostBy a_p0_backBy a_p0_slips a_p0_takes a_p0_ties a_p1 a_p1_of z_which z_above z_below z_p0_stretches z_p0_costOn z_p0_costBack z_p0_foundBy z_p0_friends z_p1_away z_p1_all z_p0_minutes z_p1_of) → va_S A s.heap H locs → lv_has ls 10 [] → W p l e ({ frames := 1, cells := 0, slots := 0, locals := 24 } : Room) s m args below meth c H locs 0 0 (MQ below (va_Qv (fun (u : (Int32) × (Int64) × (Int64)) => Post u.1 u.2.1 u.2.2) (fun u t => poW (dC, dI) (tyL cI cJ cC cG cW) A (qw_X1_howFarBack cI cJ cC cG cW a_this a_p0 a_p0_minutes a_p0_lostBy a_p0_backBy a_p0_slips a_p0_takes a_p0_ties a_p1 a_p1_of u.1 u.2.1 u.2.2 z_p0_stretches z_p0_costOn z_p0_costBack z_p0_foundBy z_p0_friends z_p1_away z_p1_all z_p0_minutes z_p1_of) t) A) args s 0 0 A) (F0 m 135 ls [])) : ∀ (n : Nat) (x4 : Int64) (x6 : Int32) (z_which : Int32) (z_above : Int64) (H : Heap) (locs : List Loc) (ls : Array Slot), qv_X1_howFarBack_L40 x3 z_below z_p0_costOn z_p0_foundBy z_p1_away z_p1_all z_p0_minutes z_p1_of Post E n x4 x6 z_which z_above → va_P (dC, dI) vwCl (qw_X1_howFarBack cI cJ cC cG cW a_this a_p0 a_p0_minutes a_p0_lostBy a_p0_backBy a_p0_slips a_p0_takes a_p0_ties a_p1 a_p1_of z_which z_above z_below z_p0_stretches z_p0_costOn z_p0_costBack z_p0_foundBy z_p0_friends z_p1_away z_p1_all z_p0_minutes z_p1_of) H → va_D A (qw_X1_howFarBack cI cJ cC cG cW a_this a_p0 a_p0_minutes a_p0_lostBy a_p0_backBy a_p0_slips a_p0_takes a_p0_ties a_p1 a_p1_of z_which z_above z_below z_p0_stretches z_p0_costOn z_p0_costBack z_p0_foundBy z_p0_friends z_p1_away z_p1_all z_p0_minutes z_p1_of) → va_S A s.heap H locs → lv_has ls 10 [(0, .ref a_this), (1, .ref a_p0), (2, .ref a_p1), (3, .int x3), (4, .long x4), (6, .int x6)] → W p l e ({ frames := 1, cells := 0, slots := 0, locals := 24 } : Room) s m args below meth c H locs 0 0 (MQ below (va_Qv (fun (u : (Int32) × (Int64) × (Int64)) => Post u.1 u.2.1 u.2.2) (fun u t => poW (dC, dI) (tyL cI cJ cC cG cW) A (qw_X1_howFarBack cI cJ cC cG cW a_this a_p0 a_p0_minutes a_p0_lostBy a_p0_backBy a_p0_slips a_p0_takes a_p0_ties a_p1 a_p1_of u.1 u.2.1 u.2.2 z_p0_stretches z_p0_costOn z_p0_costBack z_p0_foundBy z_p0_friends z_p1_away z_p1_all z_p0_minutes z_p1_of) t) A) args s 0 0 A) (F0 m 40 ls []) := by
  obtain ⟨hx, hb, hr, hml, hown, hts, hlocks⟩ := id C0
  intro n
  induction n with
  | zero =>
    intro x4 x6 z_which z_above H locs ls hV
    exact False.elim hV
  | succ n ih =>
    intro x4 x6 z_which z_above H locs ls hV hP hD hS hl
    refine lv_iload hx hb dX1_howFarBack_40 (lv_at hl 5 rfl) ?_
    refine lv_iload_n hx hb dX1_howFarBack_42 rfl (lv_at hl 3 rfl) ?_
    refine lv_icmp_gt (tgt := 135) hx hb dX1_howFarBack_43 (by decide) (fun c1 => ?_) (fun c1 => ?_)
    · have hV := hV.1 c1
      exact hE z_which z_above H locs ls hV hP hD hS (lv_sub hl [] rfl)
    · have hV := hV.2 c1
      refine lv_iload_n hx hb dX1_howFarBack_46 rfl (lv_at hl 3 rfl) ?_
      refine lv_iload hx hb dX1_howFarBack_47 (lv_at hl 5 rfl) ?_
      refine lv_isub hx hb dX1_howFarBack_49 ?_
      refine lv_iconst (v := (1 : Int32)) hx hb dX1_howFarBack_50 (by decide) ?_
      refine lv_iadd hx hb dX1_howFarBack_51 ?_
      refine lv_istore (lv' := [(7, .int ((x3 - x6) + (1 : Int32))), (0, .ref a_this), (1, .ref a_p0), (2, .ref a_p1), (3, .int x3), (4, .long x4), (6, .int x6)]) hx hb dX1_howFarBack_52 hl (by decide) rfl (fun ls hl => ?_)
      refine lv_lload hx hb dX1_howFarBack_54 (lv_at hl 5 rfl) ?_
      refine lv_aload_n hx hb dX1_howFarBack_56 rfl (lv_at hl 2 rfl) ?_
      refine va_get (D := (dC, dI)) (ci := 2) (v := .int z_p0_foundBy) (C := RX2) (T := TX2) (N := 11) hx hb hts qi_X1_howFarBack_X2 hown hK hP 1 rfl rfl 8 (by decide) (hts _ ql_X1_howFarBack_75) (fun _ h9 => h9) rfl dX1_howFarBack_57 ?_
      refine lv_i2l hx hb dX1_howFarBack_60 rfl ?_
      refine lv_aload_n hx hb dX1_howFarBack_61 rfl (lv_at hl 3 rfl) ?_
      refine va_get (D := (dC, dI)) (ci := 0) (v := .ref a_p1_of) (C := RX0) (T := TX0) (N := 3) hx hb hts qi_X1_howFarBack_X0 hown hK hP 2 rfl rfl 0 (by decide) (hts _ ql_X1_howFarBack_41) (fun _ h9 => h9) rfl dX1_howFarBack_62 ?_
      refine lv_iload hx hb dX1_howFarBack_65 (lv_at hl 0 rfl) ?_
      obtain ⟨h2, hV⟩ := hV
      refine va_lald hx hb hK hP 4 1 rfl rfl h2 dX1_howFarBack_67 ?_
      refine lv_lmul hx hb dX1_howFarBack_68 ?_
      refine lv_ladd hx hb dX1_howFarBack_69 ?_
      refine lv_lstore (lv' := [(4, .long (x4 + ((z_p0_foundBy.toInt64) * (z_p1_of ((x3 - x6) + (1 : Int32)).toNatClampNeg)))), (7, .int ((x3 - x6) + (1 : Int32))), (0, .ref a_this), (1, .ref a_p0), (2, .ref a_p1), (3, .int x3), (6, .int x6)]) hx hb dX1_howFarBack_70 hl (by decide) rfl (fun ls hl => ?_)
      refine lv_iconst (v := (2 : Int32)) hx hb dX1_howFarBack_72 (by decide) ?_
      refine lv_aload_n hx hb dX1_howFarBack_73 rfl (lv_at hl 3 rfl) ?_
      refine lv_iload hx hb dX1_howFarBack_74 (lv_at hl 1 rfl) ?_
      refine lv_iload_n hx hb dX1_howFarBack_76 rfl (lv_at hl 5 rfl) ?_
      refine vp_callSi (va_Run.run (va_runV (As := [.int ((x3 - x6) + (1 : Int32)), .int x3]) (rest := [.int (2 : Int32)]) ⟨hx, hb, hml, hown, hts⟩ (qm_X2_minutesOver l dC dI cI cJ cC cG cW a_p0 a_p0_minutes a_p0_lostBy a_p0_backBy a_p0_slips a_p0_takes a_p0_ties z_p0_stretches z_p0_costOn z_p0_costBack z_p0_foundBy z_p0_friends z_p0_minutes ((x3 - x6) + (1 : Int32)) x3 _ hV) (cwV 2 hts gX1_howFarBack_X2_minutesOver rfl rfl rfl (by decide +kernel) ⟨Nat.le_of_ble_eq_true rfl, Nat.le_of_ble_eq_true rfl⟩) (preRV hK hN (hP.sub (ws' := (qw_X2_minutesOver cI cJ cC cG cW a_p0 a_p0_minutes a_p0_lostBy a_p0_backBy a_p0_slips a_p0_takes a_p0_ties z_p0_stretches z_p0_costOn z_p0_costBack z_p0_foundBy z_p0_friends z_p0_minutes)) [1, 3] rfl) rfl rfl) rfl rfl hl.1 rfl (lv_room (Nat.le_of_ble_eq_true rfl)) dX1_howFarBack_77 ⟨Nat.le_of_ble_eq_true rfl, Nat.le_of_ble_eq_true rfl⟩)) (fun r3 hV => ?_)
      refine lv_imul hx hb dX1_howFarBack_80 ?_
      refine lv_i2l hx hb dX1_howFarBack_81 rfl ?_
      refine lv_aload_n hx hb dX1_howFarBack_82 rfl (lv_at hl 2 rfl) ?_
      refine va_get (D := (dC, dI)) (ci := 1) (v := .long z_below) (C := RX1) (T := TX1) (N := 3) hx hb hts qi_X1_howFarBack_X1 hown hK hP 0 rfl rfl 2 (by decide) (hts _ ql_X1_howFarBack_9) (fun _ h9 => h9) rfl dX1_howFarBack_83 ?_
      refine lv_lmul hx hb dX1_howFarBack_86 ?_
      refine lv_aload_n hx hb dX1_howFarBack_87 rfl (lv_at hl 3 rfl) ?_
      refine va_get (D := (dC, dI)) (ci := 2) (v := .int z_p0_costOn) (C := RX2) (T := TX2) (N := 11) hx hb hts qi_X1_howFarBack_X2 hown hK hP 1 rfl rfl 6 (by decide) (hts _ ql_X1_howFarBack_28) (fun _ h9 => h9) rfl dX1_howFarBack_88 ?_
      refine lv_i2l hx hb dX1_howFarBack_91 rfl ?_
      refine lv_ldc2 (v := (10 : Int64)) hx hb hown (hts _ ql_X1_howFarBack_58) dX1_howFarBack_92 ?_
      refine lv_aload_n hx hb dX1_howFarBack_95 rfl (lv_at hl 4 rfl) ?_
      refine va_get (D := (dC, dI)) (ci := 0) (v := .long z_p1_away) (C := RX0) (T := TX0) (N := 3) hx hb hts qi_X1_howFarBack_X0 hown hK hP 2 rfl rfl 1 (by decide) (hts _ ql_X1_howFarBack_33) (fun _ h9 => h9) rfl dX1_howFarBack_96 ?_
      refine lv_lmul hx hb dX1_howFarBack_99 ?_
      refine lv_lload hx hb dX1_howFarBack_100 (lv_at hl 0 rfl) ?_
      refine lv_lsub hx hb dX1_howFarBack_102 ?_
      refine lv_lmul hx hb dX1_howFarBack_103 ?_
      refine lv_ladd hx hb dX1_howFarBack_104 ?_
      refine lv_lstore (lv' := [(8, .long (((((2 : Int32) * r3).toInt64) * z_below) + ((z_p0_costOn.toInt64) * (((10 : Int64) * z_p1_away) - (x4 + ((z_p0_foundBy.toInt64) * (z_p1_of ((x3 - x6) + (1 : Int32)).toNatClampNeg))))))), (4, .long (x4 + ((z_p0_foundBy.toInt64) * (z_p1_of ((x3 - x6) + (1 : Int32)).toNatClampNeg)))), (7, .int ((x3 - x6) + (1 : Int32))), (0, .ref a_this), (1, .ref a_p0), (2, .ref a_p1), (3, .int x3), (6, .int x6)]) hx hb dX1_howFarBack_105 hl (by decide) rfl (fun ls hl => ?_)
      refine lv_lload hx hb dX1_howFarBack_107 (lv_at hl 0 rfl) ?_
      refine lv_aload_n hx hb dX1_howFarBack_109 rfl (lv_at hl 3 rfl) ?_
      refine va_get (D := (dC, dI)) (ci := 1) (v := .long z_above) (C := RX1) (T := TX1) (N := 3) hx hb hts qi_X1_howFarBack_X1 hown hK hP 0 rfl rfl 1 (by decide) (hts _ ql_X1_howFarBack_21) (fun _ h9 => h9) rfl dX1_howFarBack_110 ?_
      refine W.lcmp hx hb dX1_howFarBack_113 ?_
      refine lv_if_ge (tgt := 129) hx hb dX1_howFarBack_114 (by decide) (fun c4 => ?_) (fun c4 => ?_)
      · have c4 := (lg_cmp_ge _ _).mp c4
        have hV := hV.1 c4
        refine lv_iinc (v := (x6 + (1 : Int32))) (lv' := [(6, .int (x6 + (1 : Int32))), (8, .long (((((2 : Int32) * r3).toInt64) * z_below) + ((z_p0_costOn.toInt64) * (((10 : Int64) * z_p1_away) - (x4 + ((z_p0_foundBy.toInt64) * (z_p1_of ((x3 - x6) + (1 : Int32)).toNatClampNeg))))))), (4, .long (x4 + ((z_p0_foundBy.toInt64) * (z_p1_of ((x3 - x6) + (1 : Int32)).toNatClampNeg)))), (7, .int ((x3 - x6) + (1 : Int32))), (0, .ref a_this), (1, .ref a_p0), (2, .ref a_p1), (3, .int x3)]) hx hb dX1_howFarBack_129 hl (k := 7) rfl rfl (by decide) rfl (fun ls hl => ?_)
        refine lv_goto (tgt := 40) hx hb dX1_howFarBack_132 (by decide) ?_
        exact ih (x4 + ((z_p0_foundBy.toInt64) * (z_p1_of ((x3 - x6) + (1 : Int32)).toNatClampNeg))) (x6 + (1 : Int32)) z_which z_above H locs ls hV hP hD hS (lv_sub hl [4, 5, 6, 7, 2, 0] rfl)
      · have c4 := fun h => c4 ((lg_cmp_ge _ _).mpr h)
        have hV := hV.2 c4
        refine lv_aload_n hx hb dX1_howFarBack_117 rfl (lv_at hl 3 rfl) ?_
        refine lv_lload hx hb dX1_howFarBack_118 (lv_at hl 0 rfl) ?_
        refine va_put (D := (dC, dI)) (ci := 1) (v := .long (((((2 : Int32) * r3).toInt64) * z_below) + ((z_p0_costOn.toInt64) * (((10 : Int64) * z_p1_away) - (x4 + ((z_p0_foundBy.toInt64) * (z_p1_of ((x3 - x6) + (1 : Int32)).toNatClampNeg))))))) (ty := .long) (C := RX1) (T := TX1) (N := 3) hx hb hts qi_X1_howFarBack_X1 tyX1 tyX1_ok nmX1 hown hK hP hD hS 0 rfl rfl 1 (by decide) (hts _ ql_X1_howFarBack_21) (fun _ h9 => h9) rfl (by decide +kernel) rfl rfl (Nat.le_of_ble_eq_true rfl) dX1_howFarBack_120 (fun H locs hP hD hS => ?_)
        have hP : va_P (dC, dI) vwCl (qw_X1_howFarBack cI cJ cC cG cW a_this a_p0 a_p0_minutes a_p0_lostBy a_p0_backBy a_p0_slips a_p0_takes a_p0_ties a_p1 a_p1_of z_which (((((2 : Int32) * r3).toInt64) * z_below) + ((z_p0_costOn.toInt64) * (((10 : Int64) * z_p1_away) - (x4 + ((z_p0_foundBy.toInt64) * (z_p1_of ((x3 - x6) + (1 : Int32)).toNatClampNeg)))))) z_below z_p0_stretches z_p0_costOn z_p0_costBack z_p0_foundBy z_p0_friends z_p1_away z_p1_all z_p0_minutes z_p1_of) H := hP
        have hD : va_D A (qw_X1_howFarBack cI cJ cC cG cW a_this a_p0 a_p0_minutes a_p0_lostBy a_p0_backBy a_p0_slips a_p0_takes a_p0_ties a_p1 a_p1_of z_which (((((2 : Int32) * r3).toInt64) * z_below) + ((z_p0_costOn.toInt64) * (((10 : Int64) * z_p1_away) - (x4 + ((z_p0_foundBy.toInt64) * (z_p1_of ((x3 - x6) + (1 : Int32)).toNatClampNeg)))))) z_below z_p0_stretches z_p0_costOn z_p0_costBack z_p0_foundBy z_p0_friends z_p1_away z_p1_all z_p0_minutes z_p1_of) := hD
        refine lv_aload_n hx hb dX1_howFarBack_123 rfl (lv_at hl 3 rfl) ?_
        refine lv_iload hx hb dX1_howFarBack_124 (lv_at hl 7 rfl) ?_
        refine va_put (D := (dC, dI)) (ci := 1) (v := .int x6) (ty := .int) (C := RX1) (T := TX1) (N := 3) hx hb hts qi_X1_howFarBack_X1 tyX1 tyX1_ok nmX1 hown hK hP hD hS 0 rfl rfl 0 (by decide) (hts _ ql_X1_howFarBack_17) (fun _ h9 => h9) rfl (by decide +kernel) rfl rfl (Nat.le_of_ble_eq_true rfl) dX1_howFarBack_126 (fun H locs hP hD hS => ?_)
        have hP : va_P (dC, dI) vwCl (qw_X1_howFarBack cI cJ cC cG cW a_this a_p0 a_p0_minutes a_p0_lostBy a_p0_backBy a_p0_slips a_p0_takes a_p0_ties a_p1 a_p1_of x6 (((((2 : Int32) * r3).toInt64) * z_below) + ((z_p0_costOn.toInt64) * (((10 : Int64) * z_p1_away) - (x4 + ((z_p0_foundBy.toInt64) * (z_p1_of ((x3 - x6) + (1 : Int32)).toNatClampNeg)))))) z_below z_p0_stretches z_p0_costOn z_p0_costBack z_p0_foundBy z_p0_friends z_p1_away z_p1_all z_p0_minutes z_p1_of) H := hP
        have hD : va_D A (qw_X1_howFarBack cI cJ cC cG cW a_this a_p0 a_p0_minutes a_p0_lostBy a_p0_backBy a_p0_slips a_p0_takes a_p0_ties a_p1 a_p1_of x6 (((((2 : Int32) * r3).toInt64) * z_below) + ((z_p0_costOn.toInt64) * (((10 : Int64) * z_p1_away) - (x4 + ((z_p0_foundBy.toInt64) * (z_p1_of ((x3 - x6) + (1 : Int32)).toNatClampNeg)))))) z_below z_p0_stretches z_p0_costOn z_p0_costBack z_p0_foundBy z_p0_friends z_p1_away z_p1_all z_p0_minutes z_p1_of) := hD
        refine lv_iinc (v := (x6 + (1 : Int32))) (lv' := [(6, .int (x6 + (1 : Int32))), (8, .long (((((2 : Int32) * r3).toInt64) * z_below) + ((z_p0_costOn.toInt64) * (((10 : Int64) * z_p1_away) - (x4 + ((z_p0_foundBy.toInt64) * (z_p1_of ((x3 - x6) + (1 : Int32)).toNatClampNeg))))))), (4, .long (x4 + ((z_p0_foundBy.toInt64) * (z_p1_of ((x3 - x6) + (1 : Int32)).toNatClampNeg)))), (7, .int ((x3 - x6) + (1 : Int32))), (0, .ref a_this), (1, .ref a_p0), (2, .ref a_p1), (3, .int x3)]) hx hb dX1_howFarBack_129 hl (k := 7) rfl rfl (by decide) rfl (fun ls hl => ?_)
        refine lv_goto (tgt := 40) hx hb dX1_howFarBack_132 (by decide) ?_
        exact ih (x4 + ((z_p0_foundBy.toInt64) * (z_p1_of ((x3 - x6) + (1 : Int32)).toNatClampNeg))) (x6 + (1 : Int32)) x6 (((((2 : Int32) * r3).toInt64) * z_below) + ((z_p0_costOn.toInt64) * (((10 : Int64) * z_p1_away) - (x4 + ((z_p0_foundBy.toInt64) * (z_p1_of ((x3 - x6) + (1 : Int32)).toNatClampNeg)))))) H locs ls hV hP hD hS (lv_sub hl [4, 5, 6, 7, 2, 0] rfl)
def qv_X1_howFarBack (x3 : Int32) (z_which : Int32) (z_above : Int64) (z_below : Int64) (z_p0_costOn : Int32) (z_p0_foundBy : Int32) (z_p1_away : Int64) (z_p1_all : Int64) (z_p0_minutes : Nat → Int32) (z_p1_of : Nat → Int64) (Post : (Int32) → (Int64) → (Int64) → Prop) : Prop := ∃ n5, qv_X1_howFarBack_L40 x3 ((10 : Int64) * z_p1_all) z_p0_costOn z_p0_foundBy z_p1_away z_p1_all z_p0_minutes z_p1_of Post (fun z_which_5 z_above_5 => Post z_which_5 z_above_5 ((10 : Int64) * z_p1_all)) n5 (0 : Int64) (1 : Int32) (0 : Int32) (((z_p0_costOn * (10 : Int32)).toInt64) * z_p1_away)
set_option maxHeartbeats 4000000 in
set_option maxRecDepth 100000 in
theorem qm_X1_howFarBack (l : Launch) (dC : Nat → ClassId) (dI : Nat → Nat → Nat) (cI cJ cC cG cW : ClassId) (a_this a_p0 a_p0_minutes a_p0_lostBy a_p0_backBy a_p0_slips a_p0_takes a_p0_ties a_p1 a_p1_of : Nat) (z_which : Int32) (z_above : Int64) (z_below : Int64) (z_p0_stretches : Int32) (z_p0_costOn : Int32) (z_p0_costBack : Int32) (z_p0_foundBy : Int32) (z_p0_friends : Int32) (z_p1_away : Int64) (z_p1_all : Int64) (z_p0_minutes : Nat → Int32) (z_p1_of : Nat → Int64) (sz : Nat) (x3 : Int32) (Post : (Int32) → (Int64) → (Int64) → Prop) (hV : qv_X1_howFarBack x3 z_which z_above z_below z_p0_costOn z_p0_foundBy z_p1_away z_p1_all z_p0_minutes z_p1_of Post) : Met l yX1_howFarBack wsX1_howFarBack ({ frames := 1, cells := 0, slots := 0, locals := 24 } : Room) (va_Pc [.ref a_this, .ref a_p0, .ref a_p1, .int x3] (prW (dC, dI) (qw_X1_howFarBack cI cJ cC cG cW a_this a_p0 a_p0_minutes a_p0_lostBy a_p0_backBy a_p0_slips a_p0_takes a_p0_ties a_p1 a_p1_of z_which z_above z_below z_p0_stretches z_p0_costOn z_p0_costBack z_p0_foundBy z_p0_friends z_p1_away z_p1_all z_p0_minutes z_p1_of) (tyL cI cJ cC cG cW) sz)) (va_Qv (fun (u : (Int32) × (Int64) × (Int64)) => Post u.1 u.2.1 u.2.2) (fun u t => poW (dC, dI) (tyL cI cJ cC cG cW) (va_A (qw_X1_howFarBack cI cJ cC cG cW a_this a_p0 a_p0_minutes a_p0_lostBy a_p0_backBy a_p0_slips a_p0_takes a_p0_ties a_p1 a_p1_of z_which z_above z_below z_p0_stretches z_p0_costOn z_p0_costBack z_p0_foundBy z_p0_friends z_p1_away z_p1_all z_p0_minutes z_p1_of) sz) (qw_X1_howFarBack cI cJ cC cG cW a_this a_p0 a_p0_minutes a_p0_lostBy a_p0_backBy a_p0_slips a_p0_takes a_p0_ties a_p1 a_p1_of u.1 u.2.1 u.2.2 z_p0_stretches z_p0_costOn z_p0_costBack z_p0_foundBy z_p0_friends z_p1_away z_p1_all z_p0_minutes z_p1_of) t) (va_A (qw_X1_howFarBack cI cJ cC cG cW a_this a_p0 a_p0_minutes a_p0_lostBy a_p0_backBy a_p0_slips a_p0_takes a_p0_ties a_p1 a_p1_of z_which z_above z_below z_p0_stretches z_p0_costOn z_p0_costBack z_p0_foundBy z_p0_friends z_p1_away z_p1_all z_p0_minutes z_p1_of) sz)) 0 0 (va_A (qw_X1_howFarBack cI cJ cC cG cW a_this a_p0 a_p0_minutes a_p0_lostBy a_p0_backBy a_p0_slips a_p0_takes a_p0_ties a_p1 a_p1_of z_which z_above z_below z_p0_stretches z_p0_costOn z_p0_costBack z_p0_foundBy z_p0_friends z_p1_away z_p1_all z_p0_minutes z_p1_of) sz) := by
  refine Met.ofM (Qc := fun A => va_Qv (fun (u : (Int32) × (Int64) × (Int64)) => Post u.1 u.2.1 u.2.2) (fun u t => poW (dC, dI) (tyL cI cJ cC cG cW) A (qw_X1_howFarBack cI cJ cC cG cW a_this a_p0 a_p0_minutes a_p0_lostBy a_p0_backBy a_p0_slips a_p0_takes a_p0_ties a_p1 a_p1_of u.1 u.2.1 u.2.2 z_p0_stretches z_p0_costOn z_p0_costBack z_p0_foundBy z_p0_friends z_p1_away z_p1_all z_p0_minutes z_p1_of) t) A) (nm := "howFarBack") (ds := "(LStileCounts$Laid;LStileCounts$Chances;I)V") (own := RX1) (maxL := 10) (cc := cX1_howFarBack) (ret := none) (by decide) rfl rfl (Nat.le_of_ble_eq_true rfl) (fun p e s m below meth c A C0 hin hK hN hA hP hD hS ls hl => ?_)
  obtain ⟨hx, hb, hr, hml, hown, hts, hlocks⟩ := id C0
  have hl : lv_has ls 10 [(0, .ref a_this), (1, .ref a_p0), (2, .ref a_p1), (3, .int x3)] := hl
  obtain ⟨H, hH⟩ : ∃ h : Heap, h = s.heap := ⟨_, rfl⟩
  obtain ⟨locs, hLc⟩ : ∃ L : List Loc, L = [] := ⟨_, rfl⟩
  have hS : va_S A s.heap H locs := by rw [hH, hLc]; exact hS
  rw [← hH] at hP
  rw [← hLc, ← hH]
  clear hH hLc
  refine lv_aload_n hx hb dX1_howFarBack_0 rfl (lv_at hl 0 rfl) ?_
  refine lv_iconst (v := (0 : Int32)) hx hb dX1_howFarBack_1 (by decide) ?_
  refine va_put (D := (dC, dI)) (ci := 1) (v := .int (0 : Int32)) (ty := .int) (C := RX1) (T := TX1) (N := 3) hx hb hts qi_X1_howFarBack_X1 tyX1 tyX1_ok nmX1 hown hK hP hD hS 0 rfl rfl 0 (by decide) (hts _ ql_X1_howFarBack_17) (fun _ h9 => h9) rfl (by decide +kernel) rfl rfl (Nat.le_of_ble_eq_true rfl) dX1_howFarBack_2 (fun H locs hP hD hS => ?_)
  have hP : va_P (dC, dI) vwCl (qw_X1_howFarBack cI cJ cC cG cW a_this a_p0 a_p0_minutes a_p0_lostBy a_p0_backBy a_p0_slips a_p0_takes a_p0_ties a_p1 a_p1_of (0 : Int32) z_above z_below z_p0_stretches z_p0_costOn z_p0_costBack z_p0_foundBy z_p0_friends z_p1_away z_p1_all z_p0_minutes z_p1_of) H := hP
  have hD : va_D A (qw_X1_howFarBack cI cJ cC cG cW a_this a_p0 a_p0_minutes a_p0_lostBy a_p0_backBy a_p0_slips a_p0_takes a_p0_ties a_p1 a_p1_of (0 : Int32) z_above z_below z_p0_stretches z_p0_costOn z_p0_costBack z_p0_foundBy z_p0_friends z_p1_away z_p1_all z_p0_minutes z_p1_of) := hD
  refine lv_aload_n hx hb dX1_howFarBack_5 rfl (lv_at hl 0 rfl) ?_
  refine lv_aload_n hx hb dX1_howFarBack_6 rfl (lv_at hl 1 rfl) ?_
  refine va_get (D := (dC, dI)) (ci := 2) (v := .int z_p0_costOn) (C := RX2) (T := TX2) (N := 11) hx hb hts qi_X1_howFarBack_X2 hown hK hP 1 rfl rfl 6 (by decide) (hts _ ql_X1_howFarBack_28) (fun _ h9 => h9) rfl dX1_howFarBack_7 ?_
  refine lv_bipush (v := (10 : Int32)) hx hb dX1_howFarBack_10 (by decide) ?_
  refine lv_imul hx hb dX1_howFarBack_12 ?_
  refine lv_i2l hx hb dX1_howFarBack_13 rfl ?_
  refine lv_aload_n hx hb dX1_howFarBack_14 rfl (lv_at hl 2 rfl) ?_
  refine va_get (D := (dC, dI)) (ci := 0) (v := .long z_p1_away) (C := RX0) (T := TX0) (N := 3) hx hb hts qi_X1_howFarBack_X0 hown hK hP 2 rfl rfl 1 (by decide) (hts _ ql_X1_howFarBack_33) (fun _ h9 => h9) rfl dX1_howFarBack_15 ?_
  refine lv_lmul hx hb dX1_howFarBack_18 ?_
  refine va_put (D := (dC, dI)) (ci := 1) (v := .long (((z_p0_costOn * (10 : Int32)).toInt64) * z_p1_away)) (ty := .long) (C := RX1) (T := TX1) (N := 3) hx hb hts qi_X1_howFarBack_X1 tyX1 tyX1_ok nmX1 hown hK hP hD hS 0 rfl rfl 1 (by decide) (hts _ ql_X1_howFarBack_21) (fun _ h9 => h9) rfl (by decide +kernel) rfl rfl (Nat.le_of_ble_eq_true rfl) dX1_howFarBack_19 (fun H locs hP hD hS => ?_)
  have hP : va_P (dC, dI) vwCl (qw_X1_howFarBack cI cJ cC cG cW a_this a_p0 a_p0_minutes a_p0_lostBy a_p0_backBy a_p0_slips a_p0_takes a_p0_ties a_p1 a_p1_of (0 : Int32) (((z_p0_costOn * (10 : Int32)).toInt64) * z_p1_away) z_below z_p0_stretches z_p0_costOn z_p0_costBack z_p0_foundBy z_p0_friends z_p1_away z_p1_all z_p0_minutes z_p1_of) H := hP
  have hD : va_D A (qw_X1_howFarBack cI cJ cC cG cW a_this a_p0 a_p0_minutes a_p0_lostBy a_p0_backBy a_p0_slips a_p0_takes a_p0_ties a_p1 a_p1_of (0 : Int32) (((z_p0_costOn * (10 : Int32)).toInt64) * z_p1_away) z_below z_p0_stretches z_p0_costOn z_p0_costBack z_p0_foundBy z_p0_friends z_p1_away z_p1_all z_p0_minutes z_p1_of) := hD
  refine lv_aload_n hx hb dX1_howFarBack_22 rfl (lv_at hl 0 rfl) ?_
  refine lv_ldc2 (v := (10 : Int64)) hx hb hown (hts _ ql_X1_howFarBack_58) dX1_howFarBack_23 ?_
  refine lv_aload_n hx hb dX1_howFarBack_26 rfl (lv_at hl 2 rfl) ?_
  refine va_get (D := (dC, dI)) (ci := 0) (v := .long z_p1_all) (C := RX0) (T := TX0) (N := 3) hx hb hts qi_X1_howFarBack_X0 hown hK hP 2 rfl rfl 2 (by decide) (hts _ ql_X1_howFarBack_51) (fun _ h9 => h9) rfl dX1_howFarBack_27 ?_
  refine lv_lmul hx hb dX1_howFarBack_30 ?_
  refine va_put (D := (dC, dI)) (ci := 1) (v := .long ((10 : Int64) * z_p1_all)) (ty := .long) (C := RX1) (T := TX1) (N := 3) hx hb hts qi_X1_howFarBack_X1 tyX1 tyX1_ok nmX1 hown hK hP hD hS 0 rfl rfl 2 (by decide) (hts _ ql_X1_howFarBack_9) (fun _ h9 => h9) rfl (by decide +kernel) rfl rfl (Nat.le_of_ble_eq_true rfl) dX1_howFarBack_31 (fun H locs hP hD hS => ?_)
  have hP : va_P (dC, dI) vwCl (qw_X1_howFarBack cI cJ cC cG cW a_this a_p0 a_p0_minutes a_p0_lostBy a_p0_backBy a_p0_slips a_p0_takes a_p0_ties a_p1 a_p1_of (0 : Int32) (((z_p0_costOn * (10 : Int32)).toInt64) * z_p1_away) ((10 : Int64) * z_p1_all) z_p0_stretches z_p0_costOn z_p0_costBack z_p0_foundBy z_p0_friends z_p1_away z_p1_all z_p0_minutes z_p1_of) H := hP
  have hD : va_D A (qw_X1_howFarBack cI cJ cC cG cW a_this a_p0 a_p0_minutes a_p0_lostBy a_p0_backBy a_p0_slips a_p0_takes a_p0_ties a_p1 a_p1_of (0 : Int32) (((z_p0_costOn * (10 : Int32)).toInt64) * z_p1_away) ((10 : Int64) * z_p1_all) z_p0_stretches z_p0_costOn z_p0_costBack z_p0_foundBy z_p0_friends z_p1_away z_p1_all z_p0_minutes z_p1_of) := hD
  refine lv_lconst (v := (0 : Int64)) hx hb dX1_howFarBack_34 (by decide) ?_
  refine lv_lstore (lv' := [(4, .long (0 : Int64)), (0, .ref a_this), (1, .ref a_p0), (2, .ref a_p1), (3, .int x3)]) hx hb dX1_howFarBack_35 hl (by decide) rfl (fun ls hl => ?_)
  refine lv_iconst (v := (1 : Int32)) hx hb dX1_howFarBack_37 (by decide) ?_
  refine lv_istore (lv' := [(6, .int (1 : Int32)), (4, .long (0 : Int64)), (0, .ref a_this), (1, .ref a_p0), (2, .ref a_p1), (3, .int x3)]) hx hb dX1_howFarBack_38 hl (by decide) rfl (fun ls hl => ?_)
  obtain ⟨n5, hV⟩ := hV
  refine qt_X1_howFarBack_L40 C0 hK hN hA ((10 : Int64) * z_p1_all) z_p0_stretches z_p0_costOn z_p0_costBack z_p0_foundBy z_p0_friends z_p1_away z_p1_all z_p0_minutes z_p1_of x3 _ _ (fun z_which_5 z_above_5 H locs ls hV hP hD hS hl => ?_) n5 (0 : Int64) (1 : Int32) (0 : Int32) (((z_p0_costOn * (10 : Int32)).toInt64) * z_p1_away) H locs ls hV hP hD hS (lv_sub hl [2, 3, 4, 5, 1, 0] rfl)
  exact W.vret hx hb hr (fun t ht hW => ⟨⟨(z_which_5, z_above_5, ((10 : Int64) * z_p1_all)), rfl, hV, ⟨by rw [ht]; exact hP, va_K.moved hW.alike hK, hD⟩⟩, hS.F ht⟩) hS.2.2 dX1_howFarBack_135 hlocks

/-! StileCounts.holds(II)Z -/
abbrev qw_X7_holds (cI cJ cC cG cW : ClassId) : va_W := []
def qv_X7_holds (x0 : Int32) (x1 : Int32) (Post : Int32 → Prop) : Prop := (((x0 >>> ((x1 - (1 : Int32)) &&& 31)) &&& (1 : Int32)) = (0 : Int32) → Post (0 : Int32)) ∧ (¬ ((x0 >>> ((x1 - (1 : Int32)) &&& 31)) &&& (1 : Int32)) = (0 : Int32) → Post (1 : Int32))
set_option maxHeartbeats 4000000 in
set_option maxRecDepth 100000 in
theorem qm_X7_holds (l : Launch) (dC : Nat → ClassId) (dI : Nat → Nat → Nat) (cI cJ cC cG cW : ClassId) (x0 : Int32) (x1 : Int32) (Post : Int32 → Prop) (hV : qv_X7_holds x0 x1 Post) : Met l yX7_holds wsX7_holds ({ frames := 0, cells := 0, slots := 0, locals := 0 } : Room) (va_Pc [.int x0, .int x1] (prR (dC, dI) (qw_X7_holds cI cJ cC cG cW) (tyL cI cJ cC cG cW))) (vp_Si Post) 0 0 (fun _ => False) := by
  refine Met.ofR (nm := "holds") (ds := "(II)Z") (own := RX7) (maxL := 2) (cc := cX7_holds) (ret := (some .boolean)) (by decide) rfl rfl (Nat.le_of_ble_eq_true rfl) (fun p e s m below meth c C0 hK hN hP ls hl => ?_)
  obtain ⟨hx, hb, hr, hml, hown, hts, hlocks⟩ := id C0
  have hl : lv_has ls 2 [(0, .int x0), (1, .int x1)] := hl
  refine lv_iload_n hx hb dX7_holds_0 rfl (lv_at hl 0 rfl) ?_
  refine lv_iload_n hx hb dX7_holds_1 rfl (lv_at hl 1 rfl) ?_
  refine lv_iconst (v := (1 : Int32)) hx hb dX7_holds_2 (by decide) ?_
  refine lv_isub hx hb dX7_holds_3 ?_
  refine lv_ishr hx hb dX7_holds_4 ?_
  refine lv_iconst (v := (1 : Int32)) hx hb dX7_holds_5 (by decide) ?_
  refine lv_iand hx hb dX7_holds_6 ?_
  refine lv_if_eq (tgt := 14) hx hb dX7_holds_7 (by decide) (fun c1 => ?_) (fun c1 => ?_)
  · have hV := hV.1 c1
    refine lv_iconst (v := (0 : Int32)) hx hb dX7_holds_14 (by decide) ?_
    exact W.zret hx hb hr rfl (fun t ht hW => ⟨_, rfl, hV, ht⟩) (fun q h => absurd h List.not_mem_nil) dX7_holds_15 hlocks
  · have hV := hV.2 c1
    refine lv_iconst (v := (1 : Int32)) hx hb dX7_holds_10 (by decide) ?_
    refine lv_goto (tgt := 15) hx hb dX7_holds_11 (by decide) ?_
    exact W.zret hx hb hr rfl (fun t ht hW => ⟨_, rfl, hV, ht⟩) (fun q h => absurd h List.not_mem_nil) dX7_holds_15 hlocks

/-! StileCounts$Choice.sumOfMinutes(LStileCounts$Laid;LStileCounts$Chances;II)J -/
abbrev qw_X1_sumOfMinutes (cI cJ cC cG cW : ClassId) (a_p0 a_p0_minutes a_p0_lostBy a_p0_backBy a_p0_slips a_p0_takes a_p0_ties a_p1 a_p1_of : Nat) (z_p0_stretches : Int32) (z_p0_costOn : Int32) (z_p0_costBack : Int32) (z_p0_foundBy : Int32) (z_p0_friends : Int32) (z_p1_away : Int64) (z_p1_all : Int64) (z_p0_minutes : Nat → Int32) (z_p0_lostBy : Nat → Int32) (z_p0_backBy : Nat → Int32) : va_W := [(a_p0, .inr (2, [.int z_p0_stretches, .ref a_p0_minutes, .ref a_p0_lostBy, .ref a_p0_backBy, .ref a_p0_slips, .ref a_p0_takes, .int z_p0_costOn, .int z_p0_costBack, .int z_p0_foundBy, .int z_p0_friends, .ref a_p0_ties])), (a_p1, .inr (0, [.ref a_p1_of, .long z_p1_away, .long z_p1_all])), (a_p0_minutes, .inl (cI, 9, .inl z_p0_minutes)), (a_p0_lostBy, .inl (cI, 9, .inl z_p0_lostBy)), (a_p0_backBy, .inl (cI, 9, .inl z_p0_backBy))]
theorem qi_X1_sumOfMinutes_X0 : ∀ w ∈ wsX00, w ∈ wsX1_sumOfMinutes := by decide +kernel
theorem ql_X1_sumOfMinutes_33 : (.fieldLink RX1 33 "StileCounts$Chances" "away" "J" : Cond) ∈ wsX1_sumOfMinutes := by decide +kernel
theorem ql_X1_sumOfMinutes_51 : (.fieldLink RX1 51 "StileCounts$Chances" "all" "J" : Cond) ∈ wsX1_sumOfMinutes := by decide +kernel
theorem qi_X1_sumOfMinutes_X2 : ∀ w ∈ wsX20, w ∈ wsX1_sumOfMinutes := by decide +kernel
theorem ql_X1_sumOfMinutes_86 : (.fieldLink RX1 86 "StileCounts$Laid" "stretches" "I" : Cond) ∈ wsX1_sumOfMinutes := by decide +kernel
theorem ql_X1_sumOfMinutes_98 : (.fieldLink RX1 98 "StileCounts$Laid" "backBy" "[I" : Cond) ∈ wsX1_sumOfMinutes := by decide +kernel
theorem ql_X1_sumOfMinutes_101 : (.fieldLink RX1 101 "StileCounts$Laid" "lostBy" "[I" : Cond) ∈ wsX1_sumOfMinutes := by decide +kernel
theorem ql_X1_sumOfMinutes_58 : (.constantLong RX1 58 (10 : Int64) : Cond) ∈ wsX1_sumOfMinutes := by decide +kernel
theorem ql_X1_sumOfMinutes_104 : (.fieldLink RX1 104 "StileCounts$Laid" "minutes" "[I" : Cond) ∈ wsX1_sumOfMinutes := by decide +kernel
theorem qk_X1_sumOfMinutes_107_i : (.initialized RX7 : Cond) ∈ wsX1_sumOfMinutes := by decide +kernel
theorem qk_X1_sumOfMinutes_107_s : (.static yX7_holds : Cond) ∈ wsX1_sumOfMinutes := by decide +kernel
def qv_X1_sumOfMinutes_L20 (x3 : Int32) (z_p0_stretches : Int32) (z_p1_away : Int64) (z_p1_all : Int64) (z_p0_minutes : Nat → Int32) (z_p0_lostBy : Nat → Int32) (z_p0_backBy : Nat → Int32) (Post : Int64 → Prop) (E : (Int64) → Prop) : Nat → (Int64) → (Int64) → (Int64) → (Int32) → Prop
  | 0, _, _, _, _ => False
  | n + 1, x4, x6, x8, x10 => (z_p0_stretches < x10 → E x8) ∧ (¬ z_p0_stretches < x10 → vp_in x10 9 ∧ (vp_in x10 9 ∧ (vp_in x10 9 ∧ (qv_X7_holds x3 x10 (fun r5 => (r5 = (0 : Int32) → qv_X1_sumOfMinutes_L20 x3 z_p0_stretches z_p1_away z_p1_all z_p0_minutes z_p0_lostBy z_p0_backBy Post E n ((x4 * (((10 : Int32) - (z_p0_backBy x10.toNatClampNeg)).toInt64)) + ((x6 - x4) * ((z_p0_lostBy x10.toNatClampNeg).toInt64))) (x6 * (10 : Int64)) ((x8 * (10 : Int64)) + (((z_p0_minutes x10.toNatClampNeg).toInt64) * ((x4 * (((10 : Int32) - (z_p0_backBy x10.toNatClampNeg)).toInt64)) + ((x6 - x4) * ((z_p0_lostBy x10.toNatClampNeg).toInt64))))) (x10 + (1 : Int32))) ∧ (¬ r5 = (0 : Int32) → qv_X1_sumOfMinutes_L20 x3 z_p0_stretches z_p1_away z_p1_all z_p0_minutes z_p0_lostBy z_p0_backBy Post E n (0 : Int64) (x6 * (10 : Int64)) ((x8 * (10 : Int64)) + (((z_p0_minutes x10.toNatClampNeg).toInt64) * ((x4 * (((10 : Int32) - (z_p0_backBy x10.toNatClampNeg)).toInt64)) + ((x6 - x4) * ((z_p0_lostBy x10.toNatClampNeg).toInt64))))) (x10 + (1 : Int32))))))))
set_option maxHeartbeats 4000000 in
set_option maxRecDepth 100000 in
theorem qt_X1_sumOfMinutes_L20 {p : Program} {l : Launch} {e : Env} {s : State} {m : MethodId} {args : Array Value} {below : List Frame} {meth : Method} {c : Code} {dC : Nat → ClassId} {dI : Nat → Nat → Nat} {cI cJ cC cG cW : ClassId} {a_p0 a_p0_minutes a_p0_lostBy a_p0_backBy a_p0_slips a_p0_takes a_p0_ties a_p1 a_p1_of : Nat} (C0 : MC cX1_sumOfMinutes 11 (some .long) RX1 wsX1_sumOfMinutes p s m args meth c) (hK : va_K (dC, dI) vwCl (tyL cI cJ cC cG cW) s) (hN : NW s) (z_p0_stretches : Int32) (z_p0_costOn : Int32) (z_p0_costBack : Int32) (z_p0_foundBy : Int32) (z_p0_friends : Int32) (z_p1_away : Int64) (z_p1_all : Int64) (z_p0_minutes : Nat → Int32) (z_p0_lostBy : Nat → Int32) (z_p0_backBy : Nat → Int32) (hP : va_P (dC, dI) vwCl (qw_X1_sumOfMinutes cI cJ cC cG cW a_p0 a_p0_minutes a_p0_lostBy a_p0_backBy a_p0_slips a_p0_takes a_p0_ties a_p1 a_p1_of z_p0_stretches z_p0_costOn z_p0_costBack z_p0_foundBy z_p0_friends z_p1_away z_p1_all z_p0_minutes z_p0_lostBy z_p0_backBy) s.heap) (x3 : Int32) (Post : Int64 → Prop) (E : (Int64) → Prop) (hE : ∀ (x8 : Int64) (ls : Array Slot), E x8 → lv_has ls 11 [(8, .long x8)] → W p l e ({ frames := 1, cells := 0, slots := 0, locals := 21 } : Room) s m args below meth c s.heap [] 0 0 (MQ below (vp_Sl Post) args s 0 0 (fun _ => False)) (F0 m 106 ls [])) : ∀ (n : Nat) (x4 : Int64) (x6 : Int64) (x8 : Int64) (x10 : Int32) (ls : Array Slot), qv_X1_sumOfMinutes_L20 x3 z_p0_stretches z_p1_away z_p1_all z_p0_minutes z_p0_lostBy z_p0_backBy Post E n x4 x6 x8 x10 → lv_has ls 11 [(0, .ref a_p0), (3, .int x3), (4, .long x4), (6, .long x6), (8, .long x8), (10, .int x10)] → W p l e ({ frames := 1, cells := 0, slots := 0, locals := 21 } : Room) s m args below meth c s.heap [] 0 0 (MQ below (vp_Sl Post) args s 0 0 (fun _ => False)) (F0 m 20 ls []) := by
  obtain ⟨hx, hb, hr, hml, hown, hts, hlocks⟩ := id C0
  intro n
  induction n with
  | zero =>
    intro x4 x6 x8 x10 ls hV
    exact False.elim hV
  | succ n ih =>
    intro x4 x6 x8 x10 ls hV hl
    refine lv_iload hx hb dX1_sumOfMinutes_20 (lv_at hl 5 rfl) ?_
    refine lv_aload_n hx hb dX1_sumOfMinutes_22 rfl (lv_at hl 0 rfl) ?_
    refine va_get (D := (dC, dI)) (ci := 2) (v := .int z_p0_stretches) (C := RX2) (T := TX2) (N := 11) hx hb hts qi_X1_sumOfMinutes_X2 hown hK hP 0 rfl rfl 0 (by decide) (hts _ ql_X1_sumOfMinutes_86) (fun _ h9 => h9) rfl dX1_sumOfMinutes_23 ?_
    refine lv_icmp_gt (tgt := 106) hx hb dX1_sumOfMinutes_26 (by decide) (fun c1 => ?_) (fun c1 => ?_)
    · have hV := hV.1 c1
      exact hE x8 ls hV (lv_sub hl [4] rfl)
    · have hV := hV.2 c1
      refine lv_lload hx hb dX1_sumOfMinutes_29 (lv_at hl 2 rfl) ?_
      refine lv_bipush (v := (10 : Int32)) hx hb dX1_sumOfMinutes_31 (by decide) ?_
      refine lv_aload_n hx hb dX1_sumOfMinutes_33 rfl (lv_at hl 0 rfl) ?_
      refine va_get (D := (dC, dI)) (ci := 2) (v := .ref a_p0_backBy) (C := RX2) (T := TX2) (N := 11) hx hb hts qi_X1_sumOfMinutes_X2 hown hK hP 0 rfl rfl 3 (by decide) (hts _ ql_X1_sumOfMinutes_98) (fun _ h9 => h9) rfl dX1_sumOfMinutes_34 ?_
      refine lv_iload hx hb dX1_sumOfMinutes_37 (lv_at hl 5 rfl) ?_
      obtain ⟨h2, hV⟩ := hV
      refine va_iald hx hb hK hP 4 0 rfl rfl h2 dX1_sumOfMinutes_39 ?_
      refine lv_isub hx hb dX1_sumOfMinutes_40 ?_
      refine lv_i2l hx hb dX1_sumOfMinutes_41 rfl ?_
      refine lv_lmul hx hb dX1_sumOfMinutes_42 ?_
      refine lv_lload hx hb dX1_sumOfMinutes_43 (lv_at hl 3 rfl) ?_
      refine lv_lload hx hb dX1_sumOfMinutes_45 (lv_at hl 2 rfl) ?_
      refine lv_lsub hx hb dX1_sumOfMinutes_47 ?_
      refine lv_aload_n hx hb dX1_sumOfMinutes_48 rfl (lv_at hl 0 rfl) ?_
      refine va_get (D := (dC, dI)) (ci := 2) (v := .ref a_p0_lostBy) (C := RX2) (T := TX2) (N := 11) hx hb hts qi_X1_sumOfMinutes_X2 hown hK hP 0 rfl rfl 2 (by decide) (hts _ ql_X1_sumOfMinutes_101) (fun _ h9 => h9) rfl dX1_sumOfMinutes_49 ?_
      refine lv_iload hx hb dX1_sumOfMinutes_52 (lv_at hl 5 rfl) ?_
      obtain ⟨h3, hV⟩ := hV
      refine va_iald hx hb hK hP 3 0 rfl rfl h3 dX1_sumOfMinutes_54 ?_
      refine lv_i2l hx hb dX1_sumOfMinutes_55 rfl ?_
      refine lv_lmul hx hb dX1_sumOfMinutes_56 ?_
      refine lv_ladd hx hb dX1_sumOfMinutes_57 ?_
      refine lv_lstore (lv' := [(4, .long ((x4 * (((10 : Int32) - (z_p0_backBy x10.toNatClampNeg)).toInt64)) + ((x6 - x4) * ((z_p0_lostBy x10.toNatClampNeg).toInt64)))), (0, .ref a_p0), (3, .int x3), (6, .long x6), (8, .long x8), (10, .int x10)]) hx hb dX1_sumOfMinutes_58 hl (by decide) rfl (fun ls hl => ?_)
      refine lv_lload hx hb dX1_sumOfMinutes_60 (lv_at hl 3 rfl) ?_
      refine lv_ldc2 (v := (10 : Int64)) hx hb hown (hts _ ql_X1_sumOfMinutes_58) dX1_sumOfMinutes_62 ?_
      refine lv_lmul hx hb dX1_sumOfMinutes_65 ?_
      refine lv_lstore (lv' := [(6, .long (x6 * (10 : Int64))), (4, .long ((x4 * (((10 : Int32) - (z_p0_backBy x10.toNatClampNeg)).toInt64)) + ((x6 - x4) * ((z_p0_lostBy x10.toNatClampNeg).toInt64)))), (0, .ref a_p0), (3, .int x3), (8, .long x8), (10, .int x10)]) hx hb dX1_sumOfMinutes_66 hl (by decide) rfl (fun ls hl => ?_)
      refine lv_lload hx hb dX1_sumOfMinutes_68 (lv_at hl 4 rfl) ?_
      refine lv_ldc2 (v := (10 : Int64)) hx hb hown (hts _ ql_X1_sumOfMinutes_58) dX1_sumOfMinutes_70 ?_
      refine lv_lmul hx hb dX1_sumOfMinutes_73 ?_
      refine lv_aload_n hx hb dX1_sumOfMinutes_74 rfl (lv_at hl 2 rfl) ?_
      refine va_get (D := (dC, dI)) (ci := 2) (v := .ref a_p0_minutes) (C := RX2) (T := TX2) (N := 11) hx hb hts qi_X1_sumOfMinutes_X2 hown hK hP 0 rfl rfl 1 (by decide) (hts _ ql_X1_sumOfMinutes_104) (fun _ h9 => h9) rfl dX1_sumOfMinutes_75 ?_
      refine lv_iload hx hb dX1_sumOfMinutes_78 (lv_at hl 5 rfl) ?_
      obtain ⟨h4, hV⟩ := hV
      refine va_iald hx hb hK hP 2 0 rfl rfl h4 dX1_sumOfMinutes_80 ?_
      refine lv_i2l hx hb dX1_sumOfMinutes_81 rfl ?_
      refine lv_lload hx hb dX1_sumOfMinutes_82 (lv_at hl 1 rfl) ?_
      refine lv_lmul hx hb dX1_sumOfMinutes_84 ?_
      refine lv_ladd hx hb dX1_sumOfMinutes_85 ?_
      refine lv_lstore (lv' := [(8, .long ((x8 * (10 : Int64)) + (((z_p0_minutes x10.toNatClampNeg).toInt64) * ((x4 * (((10 : Int32) - (z_p0_backBy x10.toNatClampNeg)).toInt64)) + ((x6 - x4) * ((z_p0_lostBy x10.toNatClampNeg).toInt64)))))), (6, .long (x6 * (10 : Int64))), (4, .long ((x4 * (((10 : Int32) - (z_p0_backBy x10.toNatClampNeg)).toInt64)) + ((x6 - x4) * ((z_p0_lostBy x10.toNatClampNeg).toInt64)))), (0, .ref a_p0), (3, .int x3), (10, .int x10)]) hx hb dX1_sumOfMinutes_86 hl (by decide) rfl (fun ls hl => ?_)
      refine lv_iload_n hx hb dX1_sumOfMinutes_88 rfl (lv_at hl 4 rfl) ?_
      refine lv_iload hx hb dX1_sumOfMinutes_89 (lv_at hl 5 rfl) ?_
      refine vp_callSi (va_Run.run (va_runSN (As := [.int x3, .int x10]) (rest := []) ⟨hx, hb, hml, hown, hts⟩ (qm_X7_holds l dC dI cI cJ cC cG cW x3 x10 _ hV) ⟨va_cnB 2 hts gX1_sumOfMinutes_X7_holds_n107 rfl rfl rfl (hN.get 10 rfl) (hts _ qk_X1_sumOfMinutes_107_i) (by decide +kernel) ⟨Nat.le_of_ble_eq_true rfl, Nat.le_of_ble_eq_true rfl⟩, (hts _ qk_X1_sumOfMinutes_107_s), trivial⟩ (preRS hK hN (show va_P (dC, dI) vwCl (qw_X7_holds cI cJ cC cG cW) s.heap from fun k q h => by simp at h)) rfl rfl hl.1 rfl (lv_room (Nat.le_of_ble_eq_true rfl)) dX1_sumOfMinutes_91 ⟨Nat.le_of_ble_eq_true rfl, Nat.le_of_ble_eq_true rfl⟩)) (fun r5 hV => ?_)
      refine lv_if_eq (tgt := 100) hx hb dX1_sumOfMinutes_94 (by decide) (fun c6 => ?_) (fun c6 => ?_)
      · have hV := hV.1 c6
        refine lv_iinc (v := (x10 + (1 : Int32))) (lv' := [(10, .int (x10 + (1 : Int32))), (8, .long ((x8 * (10 : Int64)) + (((z_p0_minutes x10.toNatClampNeg).toInt64) * ((x4 * (((10 : Int32) - (z_p0_backBy x10.toNatClampNeg)).toInt64)) + ((x6 - x4) * ((z_p0_lostBy x10.toNatClampNeg).toInt64)))))), (6, .long (x6 * (10 : Int64))), (4, .long ((x4 * (((10 : Int32) - (z_p0_backBy x10.toNatClampNeg)).toInt64)) + ((x6 - x4) * ((z_p0_lostBy x10.toNatClampNeg).toInt64)))), (0, .ref a_p0), (3, .int x3)]) hx hb dX1_sumOfMinutes_100 hl (k := 5) rfl rfl (by decide) rfl (fun ls hl => ?_)
        refine lv_goto (tgt := 20) hx hb dX1_sumOfMinutes_103 (by decide) ?_
        exact ih ((x4 * (((10 : Int32) - (z_p0_backBy x10.toNatClampNeg)).toInt64)) + ((x6 - x4) * ((z_p0_lostBy x10.toNatClampNeg).toInt64))) (x6 * (10 : Int64)) ((x8 * (10 : Int64)) + (((z_p0_minutes x10.toNatClampNeg).toInt64) * ((x4 * (((10 : Int32) - (z_p0_backBy x10.toNatClampNeg)).toInt64)) + ((x6 - x4) * ((z_p0_lostBy x10.toNatClampNeg).toInt64))))) (x10 + (1 : Int32)) ls hV (lv_sub hl [4, 5, 3, 2, 1, 0] rfl)
      · have hV := hV.2 c6
        refine lv_lconst (v := (0 : Int64)) hx hb dX1_sumOfMinutes_97 (by decide) ?_
        refine lv_lstore (lv' := [(4, .long (0 : Int64)), (8, .long ((x8 * (10 : Int64)) + (((z_p0_minutes x10.toNatClampNeg).toInt64) * ((x4 * (((10 : Int32) - (z_p0_backBy x10.toNatClampNeg)).toInt64)) + ((x6 - x4) * ((z_p0_lostBy x10.toNatClampNeg).toInt64)))))), (6, .long (x6 * (10 : Int64))), (0, .ref a_p0), (3, .int x3), (10, .int x10)]) hx hb dX1_sumOfMinutes_98 hl (by decide) rfl (fun ls hl => ?_)
        refine lv_iinc (v := (x10 + (1 : Int32))) (lv' := [(10, .int (x10 + (1 : Int32))), (4, .long (0 : Int64)), (8, .long ((x8 * (10 : Int64)) + (((z_p0_minutes x10.toNatClampNeg).toInt64) * ((x4 * (((10 : Int32) - (z_p0_backBy x10.toNatClampNeg)).toInt64)) + ((x6 - x4) * ((z_p0_lostBy x10.toNatClampNeg).toInt64)))))), (6, .long (x6 * (10 : Int64))), (0, .ref a_p0), (3, .int x3)]) hx hb dX1_sumOfMinutes_100 hl (k := 5) rfl rfl (by decide) rfl (fun ls hl => ?_)
        refine lv_goto (tgt := 20) hx hb dX1_sumOfMinutes_103 (by decide) ?_
        exact ih (0 : Int64) (x6 * (10 : Int64)) ((x8 * (10 : Int64)) + (((z_p0_minutes x10.toNatClampNeg).toInt64) * ((x4 * (((10 : Int32) - (z_p0_backBy x10.toNatClampNeg)).toInt64)) + ((x6 - x4) * ((z_p0_lostBy x10.toNatClampNeg).toInt64))))) (x10 + (1 : Int32)) ls hV (lv_sub hl [4, 5, 1, 3, 2, 0] rfl)
def qv_X1_sumOfMinutes (x2 : Int32) (x3 : Int32) (z_p0_stretches : Int32) (z_p1_away : Int64) (z_p1_all : Int64) (z_p0_minutes : Nat → Int32) (z_p0_lostBy : Nat → Int32) (z_p0_backBy : Nat → Int32) (Post : Int64 → Prop) : Prop := ∃ n7, qv_X1_sumOfMinutes_L20 x3 z_p0_stretches z_p1_away z_p1_all z_p0_minutes z_p0_lostBy z_p0_backBy Post (fun x8_7 => Post x8_7) n7 z_p1_away z_p1_all (0 : Int64) (x2 + (1 : Int32))
set_option maxHeartbeats 4000000 in
set_option maxRecDepth 100000 in
theorem qm_X1_sumOfMinutes (l : Launch) (dC : Nat → ClassId) (dI : Nat → Nat → Nat) (cI cJ cC cG cW : ClassId) (a_p0 a_p0_minutes a_p0_lostBy a_p0_backBy a_p0_slips a_p0_takes a_p0_ties a_p1 a_p1_of : Nat) (z_p0_stretches : Int32) (z_p0_costOn : Int32) (z_p0_costBack : Int32) (z_p0_foundBy : Int32) (z_p0_friends : Int32) (z_p1_away : Int64) (z_p1_all : Int64) (z_p0_minutes : Nat → Int32) (z_p0_lostBy : Nat → Int32) (z_p0_backBy : Nat → Int32) (x2 : Int32) (x3 : Int32) (Post : Int64 → Prop) (hV : qv_X1_sumOfMinutes x2 x3 z_p0_stretches z_p1_away z_p1_all z_p0_minutes z_p0_lostBy z_p0_backBy Post) : Met l yX1_sumOfMinutes wsX1_sumOfMinutes ({ frames := 1, cells := 0, slots := 0, locals := 21 } : Room) (va_Pc [.ref a_p0, .ref a_p1, .int x2, .int x3] (prR (dC, dI) (qw_X1_sumOfMinutes cI cJ cC cG cW a_p0 a_p0_minutes a_p0_lostBy a_p0_backBy a_p0_slips a_p0_takes a_p0_ties a_p1 a_p1_of z_p0_stretches z_p0_costOn z_p0_costBack z_p0_foundBy z_p0_friends z_p1_away z_p1_all z_p0_minutes z_p0_lostBy z_p0_backBy) (tyL cI cJ cC cG cW))) (vp_Sl Post) 0 0 (fun _ => False) := by
  refine Met.ofR (nm := "sumOfMinutes") (ds := "(LStileCounts$Laid;LStileCounts$Chances;II)J") (own := RX1) (maxL := 11) (cc := cX1_sumOfMinutes) (ret := (some .long)) (by decide) rfl rfl (Nat.le_of_ble_eq_true rfl) (fun p e s m below meth c C0 hK hN hP ls hl => ?_)
  obtain ⟨hx, hb, hr, hml, hown, hts, hlocks⟩ := id C0
  have hl : lv_has ls 11 [(0, .ref a_p0), (1, .ref a_p1), (2, .int x2), (3, .int x3)] := hl
  refine lv_aload_n hx hb dX1_sumOfMinutes_0 rfl (lv_at hl 1 rfl) ?_
  refine va_get (D := (dC, dI)) (ci := 0) (v := .long z_p1_away) (C := RX0) (T := TX0) (N := 3) hx hb hts qi_X1_sumOfMinutes_X0 hown hK hP 1 rfl rfl 1 (by decide) (hts _ ql_X1_sumOfMinutes_33) (fun _ h9 => h9) rfl dX1_sumOfMinutes_1 ?_
  refine lv_lstore (lv' := [(4, .long z_p1_away), (0, .ref a_p0), (1, .ref a_p1), (2, .int x2), (3, .int x3)]) hx hb dX1_sumOfMinutes_4 hl (by decide) rfl (fun ls hl => ?_)
  refine lv_aload_n hx hb dX1_sumOfMinutes_6 rfl (lv_at hl 2 rfl) ?_
  refine va_get (D := (dC, dI)) (ci := 0) (v := .long z_p1_all) (C := RX0) (T := TX0) (N := 3) hx hb hts qi_X1_sumOfMinutes_X0 hown hK hP 1 rfl rfl 2 (by decide) (hts _ ql_X1_sumOfMinutes_51) (fun _ h9 => h9) rfl dX1_sumOfMinutes_7 ?_
  refine lv_lstore (lv' := [(6, .long z_p1_all), (4, .long z_p1_away), (0, .ref a_p0), (1, .ref a_p1), (2, .int x2), (3, .int x3)]) hx hb dX1_sumOfMinutes_10 hl (by decide) rfl (fun ls hl => ?_)
  refine lv_lconst (v := (0 : Int64)) hx hb dX1_sumOfMinutes_12 (by decide) ?_
  refine lv_lstore (lv' := [(8, .long (0 : Int64)), (6, .long z_p1_all), (4, .long z_p1_away), (0, .ref a_p0), (1, .ref a_p1), (2, .int x2), (3, .int x3)]) hx hb dX1_sumOfMinutes_13 hl (by decide) rfl (fun ls hl => ?_)
  refine lv_iload_n hx hb dX1_sumOfMinutes_15 rfl (lv_at hl 5 rfl) ?_
  refine lv_iconst (v := (1 : Int32)) hx hb dX1_sumOfMinutes_16 (by decide) ?_
  refine lv_iadd hx hb dX1_sumOfMinutes_17 ?_
  refine lv_istore (lv' := [(10, .int (x2 + (1 : Int32))), (8, .long (0 : Int64)), (6, .long z_p1_all), (4, .long z_p1_away), (0, .ref a_p0), (1, .ref a_p1), (2, .int x2), (3, .int x3)]) hx hb dX1_sumOfMinutes_18 hl (by decide) rfl (fun ls hl => ?_)
  obtain ⟨n7, hV⟩ := hV
  refine qt_X1_sumOfMinutes_L20 C0 hK hN z_p0_stretches z_p0_costOn z_p0_costBack z_p0_foundBy z_p0_friends z_p1_away z_p1_all z_p0_minutes z_p0_lostBy z_p0_backBy hP x3 _ _ (fun x8_7 ls hV hl => ?_) n7 z_p1_away z_p1_all (0 : Int64) (x2 + (1 : Int32)) ls hV (lv_sub hl [4, 7, 3, 2, 1, 0] rfl)
  refine lv_lload hx hb dX1_sumOfMinutes_106 (lv_at hl 0 rfl) ?_
  exact W.lret hx hb hr (fun t ht hW => ⟨_, rfl, hV, ht⟩) (fun q h => absurd h List.not_mem_nil) dX1_sumOfMinutes_108 hlocks

/-! StileCounts.power(II)I -/
abbrev qw_X7_power (cI cJ cC cG cW : ClassId) : va_W := []
def qv_X7_power_L4 (x0 : Int32) (x1 : Int32) (Post : Int32 → Prop) (E : (Int32) → Prop) : Nat → (Int32) → (Int32) → Prop
  | 0, _, _ => False
  | n + 1, x2, x3 => (x1 ≤ x3 → E x2) ∧ (¬ x1 ≤ x3 → qv_X7_power_L4 x0 x1 Post E n (x2 * x0) (x3 + (1 : Int32)))
set_option maxHeartbeats 4000000 in
set_option maxRecDepth 100000 in
theorem qt_X7_power_L4 {p : Program} {l : Launch} {e : Env} {s : State} {m : MethodId} {args : Array Value} {below : List Frame} {meth : Method} {c : Code} {dC : Nat → ClassId} {dI : Nat → Nat → Nat} {cI cJ cC cG cW : ClassId} (C0 : MC cX7_power 4 (some .int) RX7 wsX7_power p s m args meth c) (hK : va_K (dC, dI) vwCl (tyL cI cJ cC cG cW) s) (hN : NW s) (hP : va_P (dC, dI) vwCl (qw_X7_power cI cJ cC cG cW) s.heap) (x0 : Int32) (x1 : Int32) (Post : Int32 → Prop) (E : (Int32) → Prop) (hE : ∀ (x2 : Int32) (ls : Array Slot), E x2 → lv_has ls 4 [(2, .int x2)] → W p l e ({ frames := 0, cells := 0, slots := 0, locals := 0 } : Room) s m args below meth c s.heap [] 0 0 (MQ below (vp_Si Post) args s 0 0 (fun _ => False)) (F0 m 19 ls [])) : ∀ (n : Nat) (x2 : Int32) (x3 : Int32) (ls : Array Slot), qv_X7_power_L4 x0 x1 Post E n x2 x3 → lv_has ls 4 [(0, .int x0), (1, .int x1), (2, .int x2), (3, .int x3)] → W p l e ({ frames := 0, cells := 0, slots := 0, locals := 0 } : Room) s m args below meth c s.heap [] 0 0 (MQ below (vp_Si Post) args s 0 0 (fun _ => False)) (F0 m 4 ls []) := by
  obtain ⟨hx, hb, hr, hml, hown, hts, hlocks⟩ := id C0
  intro n
  induction n with
  | zero =>
    intro x2 x3 ls hV
    exact False.elim hV
  | succ n ih =>
    intro x2 x3 ls hV hl
    refine lv_iload_n hx hb dX7_power_4 rfl (lv_at hl 3 rfl) ?_
    refine lv_iload_n hx hb dX7_power_5 rfl (lv_at hl 1 rfl) ?_
    refine lv_icmp_ge (tgt := 19) hx hb dX7_power_6 (by decide) (fun c1 => ?_) (fun c1 => ?_)
    · have hV := hV.1 c1
      exact hE x2 ls hV (lv_sub hl [2] rfl)
    · have hV := hV.2 c1
      refine lv_iload_n hx hb dX7_power_9 rfl (lv_at hl 2 rfl) ?_
      refine lv_iload_n hx hb dX7_power_10 rfl (lv_at hl 0 rfl) ?_
      refine lv_imul hx hb dX7_power_11 ?_
      refine lv_istore_n (lv' := [(2, .int (x2 * x0)), (0, .int x0), (1, .int x1), (3, .int x3)]) hx hb dX7_power_12 rfl hl (by decide) rfl (fun ls hl => ?_)
      refine lv_iinc (v := (x3 + (1 : Int32))) (lv' := [(3, .int (x3 + (1 : Int32))), (2, .int (x2 * x0)), (0, .int x0), (1, .int x1)]) hx hb dX7_power_13 hl (k := 3) rfl rfl (by decide) rfl (fun ls hl => ?_)
      refine lv_goto (tgt := 4) hx hb dX7_power_16 (by decide) ?_
      exact ih (x2 * x0) (x3 + (1 : Int32)) ls hV (lv_sub hl [2, 3, 1, 0] rfl)
def qv_X7_power (x0 : Int32) (x1 : Int32) (Post : Int32 → Prop) : Prop := ∃ n2, qv_X7_power_L4 x0 x1 Post (fun x2_2 => Post x2_2) n2 (1 : Int32) (0 : Int32)
set_option maxHeartbeats 4000000 in
set_option maxRecDepth 100000 in
theorem qm_X7_power (l : Launch) (dC : Nat → ClassId) (dI : Nat → Nat → Nat) (cI cJ cC cG cW : ClassId) (x0 : Int32) (x1 : Int32) (Post : Int32 → Prop) (hV : qv_X7_power x0 x1 Post) : Met l yX7_power wsX7_power ({ frames := 0, cells := 0, slots := 0, locals := 0 } : Room) (va_Pc [.int x0, .int x1] (prR (dC, dI) (qw_X7_power cI cJ cC cG cW) (tyL cI cJ cC cG cW))) (vp_Si Post) 0 0 (fun _ => False) := by
  refine Met.ofR (nm := "power") (ds := "(II)I") (own := RX7) (maxL := 4) (cc := cX7_power) (ret := (some .int)) (by decide) rfl rfl (Nat.le_of_ble_eq_true rfl) (fun p e s m below meth c C0 hK hN hP ls hl => ?_)
  obtain ⟨hx, hb, hr, hml, hown, hts, hlocks⟩ := id C0
  have hl : lv_has ls 4 [(0, .int x0), (1, .int x1)] := hl
  refine lv_iconst (v := (1 : Int32)) hx hb dX7_power_0 (by decide) ?_
  refine lv_istore_n (lv' := [(2, .int (1 : Int32)), (0, .int x0), (1, .int x1)]) hx hb dX7_power_1 rfl hl (by decide) rfl (fun ls hl => ?_)
  refine lv_iconst (v := (0 : Int32)) hx hb dX7_power_2 (by decide) ?_
  refine lv_istore_n (lv' := [(3, .int (0 : Int32)), (2, .int (1 : Int32)), (0, .int x0), (1, .int x1)]) hx hb dX7_power_3 rfl hl (by decide) rfl (fun ls hl => ?_)
  obtain ⟨n2, hV⟩ := hV
  refine qt_X7_power_L4 C0 hK hN hP x0 x1 _ _ (fun x2_2 ls hV hl => ?_) n2 (1 : Int32) (0 : Int32) ls hV (lv_sub hl [2, 3, 1, 0] rfl)
  refine lv_iload_n hx hb dX7_power_19 rfl (lv_at hl 0 rfl) ?_
  exact W.iret hx hb hr (fun t ht hW => ⟨_, rfl, hV, ht⟩) (fun q h => absurd h List.not_mem_nil) dX7_power_20 hlocks

/-! StileCounts$Laid.clear()V -/
abbrev qw_X2_clear (cI cJ cC cG cW : ClassId) (a_this a_this_minutes a_this_lostBy a_this_backBy a_this_slips a_this_takes a_this_ties : Nat) (r_this_ties : Nat → Nat) (z_stretches : Int32) (z_costOn : Int32) (z_costBack : Int32) (z_foundBy : Int32) (z_friends : Int32) (z_slips : Nat → Int32) (z_takes : Nat → Int32) (z_ties : Nat → Nat → Int32) : va_W := [(a_this, .inr (2, [.int z_stretches, .ref a_this_minutes, .ref a_this_lostBy, .ref a_this_backBy, .ref a_this_slips, .ref a_this_takes, .int z_costOn, .int z_costBack, .int z_foundBy, .int z_friends, .ref a_this_ties])), (a_this_slips, .inl (cI, 4, .inl z_slips)), (a_this_takes, .inl (cI, 4, .inl z_takes)), (a_this_ties, .inl (cG, 6, .inr (.inr (.inr (.inr (gG r_this_ties)))))), (r_this_ties 0, .inl (cI, 6, .inl (z_ties 0))), (r_this_ties 1, .inl (cI, 6, .inl (z_ties 1))), (r_this_ties 2, .inl (cI, 6, .inl (z_ties 2))), (r_this_ties 3, .inl (cI, 6, .inl (z_ties 3))), (r_this_ties 4, .inl (cI, 6, .inl (z_ties 4))), (r_this_ties 5, .inl (cI, 6, .inl (z_ties 5)))]
theorem qi_X2_clear_X2 : ∀ w ∈ wsX20, w ∈ wsX2_clear := by decide +kernel
theorem ql_X2_clear_32 : (.fieldLink RX2 32 "StileCounts$Laid" "stretches" "I" : Cond) ∈ wsX2_clear := by decide +kernel
theorem ql_X2_clear_21 : (.fieldLink RX2 21 "StileCounts$Laid" "slips" "[I" : Cond) ∈ wsX2_clear := by decide +kernel
theorem ql_X2_clear_24 : (.fieldLink RX2 24 "StileCounts$Laid" "takes" "[I" : Cond) ∈ wsX2_clear := by decide +kernel
theorem ql_X2_clear_36 : (.fieldLink RX2 36 "StileCounts$Laid" "costOn" "I" : Cond) ∈ wsX2_clear := by decide +kernel
theorem ql_X2_clear_39 : (.fieldLink RX2 39 "StileCounts$Laid" "costBack" "I" : Cond) ∈ wsX2_clear := by decide +kernel
theorem ql_X2_clear_42 : (.fieldLink RX2 42 "StileCounts$Laid" "foundBy" "I" : Cond) ∈ wsX2_clear := by decide +kernel
theorem ql_X2_clear_45 : (.fieldLink RX2 45 "StileCounts$Laid" "friends" "I" : Cond) ∈ wsX2_clear := by decide +kernel
theorem ql_X2_clear_29 : (.fieldLink RX2 29 "StileCounts$Laid" "ties" "[[I" : Cond) ∈ wsX2_clear := by decide +kernel
def qv_X2_clear_L7 (z_stretches : Int32) (z_costOn : Int32) (z_costBack : Int32) (z_foundBy : Int32) (z_friends : Int32) (z_ties : Nat → Nat → Int32) (Post : (Int32) → (Int32) → (Int32) → (Int32) → (Int32) → (Nat → Int32) → (Nat → Int32) → (Nat → Nat → Int32) → Prop) (E : (Nat → Int32) → (Nat → Int32) → Prop) : Nat → (Int32) → (Nat → Int32) → (Nat → Int32) → Prop
  | 0, _, _, _ => False
  | n + 1, x1, z_slips, z_takes => ((4 : Int32) ≤ x1 → E z_slips z_takes) ∧ (¬ (4 : Int32) ≤ x1 → vp_in x1 4 ∧ (vp_in x1 4 ∧ (qv_X2_clear_L7 z_stretches z_costOn z_costBack z_foundBy z_friends z_ties Post E n (x1 + (1 : Int32)) (upd z_slips x1.toNatClampNeg (1 : Int32)) (upd z_takes x1.toNatClampNeg (2 : Int32)))))
set_option maxHeartbeats 4000000 in
set_option maxRecDepth 100000 in
theorem qt_X2_clear_L7 {p : Program} {l : Launch} {e : Env} {s : State} {m : MethodId} {args : Array Value} {below : List Frame} {meth : Method} {c : Code} {dC : Nat → ClassId} {dI : Nat → Nat → Nat} {cI cJ cC cG cW : ClassId} {a_this a_this_minutes a_this_lostBy a_this_backBy a_this_slips a_this_takes a_this_ties : Nat} {r_this_ties : Nat → Nat} {A : Nat → Prop} (C0 : MC cX2_clear 3 none RX2 wsX2_clear p s m args meth c) (hK : va_K (dC, dI) vwCl (tyL cI cJ cC cG cW) s) (hN : NW s) (hA : ∀ q, s.heap.size ≤ q → A q) (z_stretches : Int32) (z_costOn : Int32) (z_costBack : Int32) (z_foundBy : Int32) (z_friends : Int32) (z_ties : Nat → Nat → Int32) (Post : (Int32) → (Int32) → (Int32) → (Int32) → (Int32) → (Nat → Int32) → (Nat → Int32) → (Nat → Nat → Int32) → Prop) (E : (Nat → Int32) → (Nat → Int32) → Prop) (hE : ∀ (z_slips : Nat → Int32) (z_takes : Nat → Int32) (H : Heap) (locs : List Loc) (ls : Array Slot), E z_slips z_takes → va_P (dC, dI) vwCl (qw_X2_clear cI cJ cC cG cW a_this a_this_minutes a_this_lostBy a_this_backBy a_this_slips a_this_takes a_this_ties r_this_ties z_stretches z_costOn z_costBack z_foundBy z_friends z_slips z_takes z_ties) H → va_D A (qw_X2_clear cI cJ cC cG cW a_this a_this_minutes a_this_lostBy a_this_backBy a_this_slips a_this_takes a_this_ties r_this_ties z_stretches z_costOn z_costBack z_foundBy z_friends z_slips z_takes z_ties) → va_S A s.heap H locs → lv_has ls 3 [(0, .ref a_this)] → W p l e ({ frames := 0, cells := 0, slots := 0, locals := 0 } : Room) s m args below meth c H locs 0 0 (MQ below (va_Qv (fun (u : (Int32) × (Int32) × (Int32) × (Int32) × (Int32) × (Nat → Int32) × (Nat → Int32) × (Nat → Nat → Int32)) => Post u.1 u.2.1 u.2.2.1 u.2.2.2.1 u.2.2.2.2.1 u.2.2.2.2.2.1 u.2.2.2.2.2.2.1 u.2.2.2.2.2.2.2) (fun u t => poW (dC, dI) (tyL cI cJ cC cG cW) A (qw_X2_clear cI cJ cC cG cW a_this a_this_minutes a_this_lostBy a_this_backBy a_this_slips a_this_takes a_this_ties r_this_ties u.1 u.2.1 u.2.2.1 u.2.2.2.1 u.2.2.2.2.1 u.2.2.2.2.2.1 u.2.2.2.2.2.2.1 u.2.2.2.2.2.2.2) t) A) args s 0 0 A) (F0 m 32 ls [])) : ∀ (n : Nat) (x1 : Int32) (z_slips : Nat → Int32) (z_takes : Nat → Int32) (H : Heap) (locs : List Loc) (ls : Array Slot), qv_X2_clear_L7 z_stretches z_costOn z_costBack z_foundBy z_friends z_ties Post E n x1 z_slips z_takes → va_P (dC, dI) vwCl (qw_X2_clear cI cJ cC cG cW a_this a_this_minutes a_this_lostBy a_this_backBy a_this_slips a_this_takes a_this_ties r_this_ties z_stretches z_costOn z_costBack z_foundBy z_friends z_slips z_takes z_ties) H → va_D A (qw_X2_clear cI cJ cC cG cW a_this a_this_minutes a_this_lostBy a_this_backBy a_this_slips a_this_takes a_this_ties r_this_ties z_stretches z_costOn z_costBack z_foundBy z_friends z_slips z_takes z_ties) → va_S A s.heap H locs → lv_has ls 3 [(0, .ref a_this), (1, .int x1)] → W p l e ({ frames := 0, cells := 0, slots := 0, locals := 0 } : Room) s m args below meth c H locs 0 0 (MQ below (va_Qv (fun (u : (Int32) × (Int32) × (Int32) × (Int32) × (Int32) × (Nat → Int32) × (Nat → Int32) × (Nat → Nat → Int32)) => Post u.1 u.2.1 u.2.2.1 u.2.2.2.1 u.2.2.2.2.1 u.2.2.2.2.2.1 u.2.2.2.2.2.2.1 u.2.2.2.2.2.2.2) (fun u t => poW (dC, dI) (tyL cI cJ cC cG cW) A (qw_X2_clear cI cJ cC cG cW a_this a_this_minutes a_this_lostBy a_this_backBy a_this_slips a_this_takes a_this_ties r_this_ties u.1 u.2.1 u.2.2.1 u.2.2.2.1 u.2.2.2.2.1 u.2.2.2.2.2.1 u.2.2.2.2.2.2.1 u.2.2.2.2.2.2.2) t) A) args s 0 0 A) (F0 m 7 ls []) := by
  obtain ⟨hx, hb, hr, hml, hown, hts, hlocks⟩ := id C0
  intro n
  induction n with
  | zero =>
    intro x1 z_slips z_takes H locs ls hV
    exact False.elim hV
  | succ n ih =>
    intro x1 z_slips z_takes H locs ls hV hP hD hS hl
    refine lv_iload_n hx hb dX2_clear_7 rfl (lv_at hl 1 rfl) ?_
    refine lv_iconst (v := (4 : Int32)) hx hb dX2_clear_8 (by decide) ?_
    refine lv_icmp_ge (tgt := 32) hx hb dX2_clear_9 (by decide) (fun c1 => ?_) (fun c1 => ?_)
    · have hV := hV.1 c1
      exact hE z_slips z_takes H locs ls hV hP hD hS (lv_sub hl [0] rfl)
    · have hV := hV.2 c1
      refine lv_aload_n hx hb dX2_clear_12 rfl (lv_at hl 0 rfl) ?_
      refine va_get (D := (dC, dI)) (ci := 2) (v := .ref a_this_slips) (C := RX2) (T := TX2) (N := 11) hx hb hts qi_X2_clear_X2 hown hK hP 0 rfl rfl 4 (by decide) (hts _ ql_X2_clear_21) (fun _ h9 => h9) rfl dX2_clear_13 ?_
      refine lv_iload_n hx hb dX2_clear_16 rfl (lv_at hl 1 rfl) ?_
      refine lv_iconst (v := (1 : Int32)) hx hb dX2_clear_17 (by decide) ?_
      obtain ⟨h2, hV⟩ := hV
      refine va_iast hx hb hK hP hD hS 1 0 rfl rfl h2 dX2_clear_18 (fun H locs hP hD hS => ?_)
      have hP : va_P (dC, dI) vwCl (qw_X2_clear cI cJ cC cG cW a_this a_this_minutes a_this_lostBy a_this_backBy a_this_slips a_this_takes a_this_ties r_this_ties z_stretches z_costOn z_costBack z_foundBy z_friends (upd z_slips x1.toNatClampNeg (1 : Int32)) z_takes z_ties) H := hP
      have hD : va_D A (qw_X2_clear cI cJ cC cG cW a_this a_this_minutes a_this_lostBy a_this_backBy a_this_slips a_this_takes a_this_ties r_this_ties z_stretches z_costOn z_costBack z_foundBy z_friends (upd z_slips x1.toNatClampNeg (1 : Int32)) z_takes z_ties) := hD
      refine lv_aload_n hx hb dX2_clear_19 rfl (lv_at hl 0 rfl) ?_
      refine va_get (D := (dC, dI)) (ci := 2) (v := .ref a_this_takes) (C := RX2) (T := TX2) (N := 11) hx hb hts qi_X2_clear_X2 hown hK hP 0 rfl rfl 5 (by decide) (hts _ ql_X2_clear_24) (fun _ h9 => h9) rfl dX2_clear_20 ?_
      refine lv_iload_n hx hb dX2_clear_23 rfl (lv_at hl 1 rfl) ?_
      refine lv_iconst (v := (2 : Int32)) hx hb dX2_clear_24 (by decide) ?_
      obtain ⟨h3, hV⟩ := hV
      refine va_iast hx hb hK hP hD hS 2 0 rfl rfl h3 dX2_clear_25 (fun H locs hP hD hS => ?_)
      have hP : va_P (dC, dI) vwCl (qw_X2_clear cI cJ cC cG cW a_this a_this_minutes a_this_lostBy a_this_backBy a_this_slips a_this_takes a_this_ties r_this_ties z_stretches z_costOn z_costBack z_foundBy z_friends (upd z_slips x1.toNatClampNeg (1 : Int32)) (upd z_takes x1.toNatClampNeg (2 : Int32)) z_ties) H := hP
      have hD : va_D A (qw_X2_clear cI cJ cC cG cW a_this a_this_minutes a_this_lostBy a_this_backBy a_this_slips a_this_takes a_this_ties r_this_ties z_stretches z_costOn z_costBack z_foundBy z_friends (upd z_slips x1.toNatClampNeg (1 : Int32)) (upd z_takes x1.toNatClampNeg (2 : Int32)) z_ties) := hD
      refine lv_iinc (v := (x1 + (1 : Int32))) (lv' := [(1, .int (x1 + (1 : Int32))), (0, .ref a_this)]) hx hb dX2_clear_26 hl (k := 1) rfl rfl (by decide) rfl (fun ls hl => ?_)
      refine lv_goto (tgt := 7) hx hb dX2_clear_29 (by decide) ?_
      exact ih (x1 + (1 : Int32)) (upd z_slips x1.toNatClampNeg (1 : Int32)) (upd z_takes x1.toNatClampNeg (2 : Int32)) H locs ls hV hP hD hS (lv_sub hl [1, 0] rfl)
def qv_X2_clear_L65 (x1 : Int32) (z_stretches : Int32) (z_costOn : Int32) (z_costBack : Int32) (z_foundBy : Int32) (z_friends : Int32) (z_slips : Nat → Int32) (z_takes : Nat → Int32) (Post : (Int32) → (Int32) → (Int32) → (Int32) → (Int32) → (Nat → Int32) → (Nat → Int32) → (Nat → Nat → Int32) → Prop) (E : (Nat → Nat → Int32) → Prop) : Nat → (Int32) → (Nat → Nat → Int32) → Prop
  | 0, _, _ => False
  | n + 1, x2, z_ties => ((6 : Int32) ≤ x2 → E z_ties) ∧ (¬ (6 : Int32) ≤ x2 → vp_in x1 6 ∧ (vp_in x2 6 ∧ (qv_X2_clear_L65 x1 z_stretches z_costOn z_costBack z_foundBy z_friends z_slips z_takes Post E n (x2 + (1 : Int32)) (va_up z_ties x1.toNatClampNeg (upd (z_ties x1.toNatClampNeg) x2.toNatClampNeg (0 : Int32))))))
set_option maxHeartbeats 4000000 in
set_option maxRecDepth 100000 in
theorem qt_X2_clear_L65 {p : Program} {l : Launch} {e : Env} {s : State} {m : MethodId} {args : Array Value} {below : List Frame} {meth : Method} {c : Code} {dC : Nat → ClassId} {dI : Nat → Nat → Nat} {cI cJ cC cG cW : ClassId} {a_this a_this_minutes a_this_lostBy a_this_backBy a_this_slips a_this_takes a_this_ties : Nat} {r_this_ties : Nat → Nat} {A : Nat → Prop} (C0 : MC cX2_clear 3 none RX2 wsX2_clear p s m args meth c) (hK : va_K (dC, dI) vwCl (tyL cI cJ cC cG cW) s) (hN : NW s) (hA : ∀ q, s.heap.size ≤ q → A q) (z_stretches : Int32) (z_costOn : Int32) (z_costBack : Int32) (z_foundBy : Int32) (z_friends : Int32) (z_slips : Nat → Int32) (z_takes : Nat → Int32) (x1 : Int32) (Post : (Int32) → (Int32) → (Int32) → (Int32) → (Int32) → (Nat → Int32) → (Nat → Int32) → (Nat → Nat → Int32) → Prop) (E : (Nat → Nat → Int32) → Prop) (hE : ∀ (z_ties : Nat → Nat → Int32) (H : Heap) (locs : List Loc) (ls : Array Slot), E z_ties → va_P (dC, dI) vwCl (qw_X2_clear cI cJ cC cG cW a_this a_this_minutes a_this_lostBy a_this_backBy a_this_slips a_this_takes a_this_ties r_this_ties z_stretches z_costOn z_costBack z_foundBy z_friends z_slips z_takes z_ties) H → va_D A (qw_X2_clear cI cJ cC cG cW a_this a_this_minutes a_this_lostBy a_this_backBy a_this_slips a_this_takes a_this_ties r_this_ties z_stretches z_costOn z_costBack z_foundBy z_friends z_slips z_takes z_ties) → va_S A s.heap H locs → lv_has ls 3 [(0, .ref a_this), (1, .int x1)] → W p l e ({ frames := 0, cells := 0, slots := 0, locals := 0 } : Room) s m args below meth c H locs 0 0 (MQ below (va_Qv (fun (u : (Int32) × (Int32) × (Int32) × (Int32) × (Int32) × (Nat → Int32) × (Nat → Int32) × (Nat → Nat → Int32)) => Post u.1 u.2.1 u.2.2.1 u.2.2.2.1 u.2.2.2.2.1 u.2.2.2.2.2.1 u.2.2.2.2.2.2.1 u.2.2.2.2.2.2.2) (fun u t => poW (dC, dI) (tyL cI cJ cC cG cW) A (qw_X2_clear cI cJ cC cG cW a_this a_this_minutes a_this_lostBy a_this_backBy a_this_slips a_this_takes a_this_ties r_this_ties u.1 u.2.1 u.2.2.1 u.2.2.2.1 u.2.2.2.2.1 u.2.2.2.2.2.1 u.2.2.2.2.2.2.1 u.2.2.2.2.2.2.2) t) A) args s 0 0 A) (F0 m 86 ls [])) : ∀ (n : Nat) (x2 : Int32) (z_ties : Nat → Nat → Int32) (H : Heap) (locs : List Loc) (ls : Array Slot), qv_X2_clear_L65 x1 z_stretches z_costOn z_costBack z_foundBy z_friends z_slips z_takes Post E n x2 z_ties → va_P (dC, dI) vwCl (qw_X2_clear cI cJ cC cG cW a_this a_this_minutes a_this_lostBy a_this_backBy a_this_slips a_this_takes a_this_ties r_this_ties z_stretches z_costOn z_costBack z_foundBy z_friends z_slips z_takes z_ties) H → va_D A (qw_X2_clear cI cJ cC cG cW a_this a_this_minutes a_this_lostBy a_this_backBy a_this_slips a_this_takes a_this_ties r_this_ties z_stretches z_costOn z_costBack z_foundBy z_friends z_slips z_takes z_ties) → va_S A s.heap H locs → lv_has ls 3 [(0, .ref a_this), (1, .int x1), (2, .int x2)] → W p l e ({ frames := 0, cells := 0, slots := 0, locals := 0 } : Room) s m args below meth c H locs 0 0 (MQ below (va_Qv (fun (u : (Int32) × (Int32) × (Int32) × (Int32) × (Int32) × (Nat → Int32) × (Nat → Int32) × (Nat → Nat → Int32)) => Post u.1 u.2.1 u.2.2.1 u.2.2.2.1 u.2.2.2.2.1 u.2.2.2.2.2.1 u.2.2.2.2.2.2.1 u.2.2.2.2.2.2.2) (fun u t => poW (dC, dI) (tyL cI cJ cC cG cW) A (qw_X2_clear cI cJ cC cG cW a_this a_this_minutes a_this_lostBy a_this_backBy a_this_slips a_this_takes a_this_ties r_this_ties u.1 u.2.1 u.2.2.1 u.2.2.2.1 u.2.2.2.2.1 u.2.2.2.2.2.1 u.2.2.2.2.2.2.1 u.2.2.2.2.2.2.2) t) A) args s 0 0 A) (F0 m 65 ls []) := by
  obtain ⟨hx, hb, hr, hml, hown, hts, hlocks⟩ := id C0
  intro n
  induction n with
  | zero =>
    intro x2 z_ties H locs ls hV
    exact False.elim hV
  | succ n ih =>
    intro x2 z_ties H locs ls hV hP hD hS hl
    refine lv_iload_n hx hb dX2_clear_65 rfl (lv_at hl 2 rfl) ?_
    refine lv_bipush (v := (6 : Int32)) hx hb dX2_clear_66 (by decide) ?_
    refine lv_icmp_ge (tgt := 86) hx hb dX2_clear_68 (by decide) (fun c6 => ?_) (fun c6 => ?_)
    · have hV := hV.1 c6
      exact hE z_ties H locs ls hV hP hD hS (lv_sub hl [0, 1] rfl)
    · have hV := hV.2 c6
      refine lv_aload_n hx hb dX2_clear_71 rfl (lv_at hl 0 rfl) ?_
      refine va_get (D := (dC, dI)) (ci := 2) (v := .ref a_this_ties) (C := RX2) (T := TX2) (N := 11) hx hb hts qi_X2_clear_X2 hown hK hP 0 rfl rfl 10 (by decide) (hts _ ql_X2_clear_29) (fun _ h9 => h9) rfl dX2_clear_72 ?_
      refine lv_iload_n hx hb dX2_clear_75 rfl (lv_at hl 1 rfl) ?_
      obtain ⟨h7, hV⟩ := hV
      refine va_aldG hx hb hK hP 3 3 rfl rfl h7 dX2_clear_76 ?_
      refine lv_iload_n hx hb dX2_clear_77 rfl (lv_at hl 2 rfl) ?_
      refine lv_iconst (v := (0 : Int32)) hx hb dX2_clear_78 (by decide) ?_
      obtain ⟨h8, hV⟩ := hV
      refine va_iast hx hb hK hP hD hS (4 + x1.toNatClampNeg) 0 (rows6 (P := fun j => (qw_X2_clear cI cJ cC cG cW a_this a_this_minutes a_this_lostBy a_this_backBy a_this_slips a_this_takes a_this_ties r_this_ties z_stretches z_costOn z_costBack z_foundBy z_friends z_slips z_takes z_ties)[4 + j]? = some (r_this_ties j, .inl (cI, 6, .inl (z_ties j)))) rfl rfl rfl rfl rfl rfl _ (vp_lt h7)) rfl h8 dX2_clear_79 (fun H locs hP hD hS => ?_)
      have eW := rows6 (P := fun j => ∀ g : Nat → Int32, List.set (qw_X2_clear cI cJ cC cG cW a_this a_this_minutes a_this_lostBy a_this_backBy a_this_slips a_this_takes a_this_ties r_this_ties z_stretches z_costOn z_costBack z_foundBy z_friends z_slips z_takes z_ties) (4 + j) (r_this_ties j, .inl (cI, 6, .inl g)) = (qw_X2_clear cI cJ cC cG cW a_this a_this_minutes a_this_lostBy a_this_backBy a_this_slips a_this_takes a_this_ties r_this_ties z_stretches z_costOn z_costBack z_foundBy z_friends z_slips z_takes (va_up z_ties j g))) (fun _ => rfl) (fun _ => rfl) (fun _ => rfl) (fun _ => rfl) (fun _ => rfl) (fun _ => rfl) _ (vp_lt h7) (upd (z_ties x1.toNatClampNeg) x2.toNatClampNeg (0 : Int32))
      rw [eW] at hP hD
      have hP : va_P (dC, dI) vwCl (qw_X2_clear cI cJ cC cG cW a_this a_this_minutes a_this_lostBy a_this_backBy a_this_slips a_this_takes a_this_ties r_this_ties z_stretches z_costOn z_costBack z_foundBy z_friends z_slips z_takes (va_up z_ties x1.toNatClampNeg (upd (z_ties x1.toNatClampNeg) x2.toNatClampNeg (0 : Int32)))) H := hP
      have hD : va_D A (qw_X2_clear cI cJ cC cG cW a_this a_this_minutes a_this_lostBy a_this_backBy a_this_slips a_this_takes a_this_ties r_this_ties z_stretches z_costOn z_costBack z_foundBy z_friends z_slips z_takes (va_up z_ties x1.toNatClampNeg (upd (z_ties x1.toNatClampNeg) x2.toNatClampNeg (0 : Int32)))) := hD
      refine lv_iinc (v := (x2 + (1 : Int32))) (lv' := [(2, .int (x2 + (1 : Int32))), (0, .ref a_this), (1, .int x1)]) hx hb dX2_clear_80 hl (k := 2) rfl rfl (by decide) rfl (fun ls hl => ?_)
      refine lv_goto (tgt := 65) hx hb dX2_clear_83 (by decide) ?_
      exact ih (x2 + (1 : Int32)) (va_up z_ties x1.toNatClampNeg (upd (z_ties x1.toNatClampNeg) x2.toNatClampNeg (0 : Int32))) H locs ls hV hP hD hS (lv_sub hl [1, 2, 0] rfl)
def qv_X2_clear_L57 (z_stretches : Int32) (z_costOn : Int32) (z_costBack : Int32) (z_foundBy : Int32) (z_friends : Int32) (z_slips : Nat → Int32) (z_takes : Nat → Int32) (Post : (Int32) → (Int32) → (Int32) → (Int32) → (Int32) → (Nat → Int32) → (Nat → Int32) → (Nat → Nat → Int32) → Prop) (E : (Nat → Nat → Int32) → Prop) : Nat → (Int32) → (Nat → Nat → Int32) → Prop
  | 0, _, _ => False
  | n + 1, x1, z_ties => ((6 : Int32) ≤ x1 → E z_ties) ∧ (¬ (6 : Int32) ≤ x1 → ∃ n11, qv_X2_clear_L65 x1 z_stretches z_costOn z_costBack z_foundBy z_friends z_slips z_takes Post (fun z_ties_11 => qv_X2_clear_L57 z_stretches z_costOn z_costBack z_foundBy z_friends z_slips z_takes Post E n (x1 + (1 : Int32)) z_ties_11) n11 (0 : Int32) z_ties)
set_option maxHeartbeats 4000000 in
set_option maxRecDepth 100000 in
theorem qt_X2_clear_L57 {p : Program} {l : Launch} {e : Env} {s : State} {m : MethodId} {args : Array Value} {below : List Frame} {meth : Method} {c : Code} {dC : Nat → ClassId} {dI : Nat → Nat → Nat} {cI cJ cC cG cW : ClassId} {a_this a_this_minutes a_this_lostBy a_this_backBy a_this_slips a_this_takes a_this_ties : Nat} {r_this_ties : Nat → Nat} {A : Nat → Prop} (C0 : MC cX2_clear 3 none RX2 wsX2_clear p s m args meth c) (hK : va_K (dC, dI) vwCl (tyL cI cJ cC cG cW) s) (hN : NW s) (hA : ∀ q, s.heap.size ≤ q → A q) (z_stretches : Int32) (z_costOn : Int32) (z_costBack : Int32) (z_foundBy : Int32) (z_friends : Int32) (z_slips : Nat → Int32) (z_takes : Nat → Int32) (Post : (Int32) → (Int32) → (Int32) → (Int32) → (Int32) → (Nat → Int32) → (Nat → Int32) → (Nat → Nat → Int32) → Prop) (E : (Nat → Nat → Int32) → Prop) (hE : ∀ (z_ties : Nat → Nat → Int32) (H : Heap) (locs : List Loc) (ls : Array Slot), E z_ties → va_P (dC, dI) vwCl (qw_X2_clear cI cJ cC cG cW a_this a_this_minutes a_this_lostBy a_this_backBy a_this_slips a_this_takes a_this_ties r_this_ties z_stretches z_costOn z_costBack z_foundBy z_friends z_slips z_takes z_ties) H → va_D A (qw_X2_clear cI cJ cC cG cW a_this a_this_minutes a_this_lostBy a_this_backBy a_this_slips a_this_takes a_this_ties r_this_ties z_stretches z_costOn z_costBack z_foundBy z_friends z_slips z_takes z_ties) → va_S A s.heap H locs → lv_has ls 3 [] → W p l e ({ frames := 0, cells := 0, slots := 0, locals := 0 } : Room) s m args below meth c H locs 0 0 (MQ below (va_Qv (fun (u : (Int32) × (Int32) × (Int32) × (Int32) × (Int32) × (Nat → Int32) × (Nat → Int32) × (Nat → Nat → Int32)) => Post u.1 u.2.1 u.2.2.1 u.2.2.2.1 u.2.2.2.2.1 u.2.2.2.2.2.1 u.2.2.2.2.2.2.1 u.2.2.2.2.2.2.2) (fun u t => poW (dC, dI) (tyL cI cJ cC cG cW) A (qw_X2_clear cI cJ cC cG cW a_this a_this_minutes a_this_lostBy a_this_backBy a_this_slips a_this_takes a_this_ties r_this_ties u.1 u.2.1 u.2.2.1 u.2.2.2.1 u.2.2.2.2.1 u.2.2.2.2.2.1 u.2.2.2.2.2.2.1 u.2.2.2.2.2.2.2) t) A) args s 0 0 A) (F0 m 92 ls [])) : ∀ (n : Nat) (x1 : Int32) (z_ties : Nat → Nat → Int32) (H : Heap) (locs : List Loc) (ls : Array Slot), qv_X2_clear_L57 z_stretches z_costOn z_costBack z_foundBy z_friends z_slips z_takes Post E n x1 z_ties → va_P (dC, dI) vwCl (qw_X2_clear cI cJ cC cG cW a_this a_this_minutes a_this_lostBy a_this_backBy a_this_slips a_this_takes a_this_ties r_this_ties z_stretches z_costOn z_costBack z_foundBy z_friends z_slips z_takes z_ties) H → va_D A (qw_X2_clear cI cJ cC cG cW a_this a_this_minutes a_this_lostBy a_this_backBy a_this_slips a_this_takes a_this_ties r_this_ties z_stretches z_costOn z_costBack z_foundBy z_friends z_slips z_takes z_ties) → va_S A s.heap H locs → lv_has ls 3 [(0, .ref a_this), (1, .int x1)] → W p l e ({ frames := 0, cells := 0, slots := 0, locals := 0 } : Room) s m args below meth c H locs 0 0 (MQ below (va_Qv (fun (u : (Int32) × (Int32) × (Int32) × (Int32) × (Int32) × (Nat → Int32) × (Nat → Int32) × (Nat → Nat → Int32)) => Post u.1 u.2.1 u.2.2.1 u.2.2.2.1 u.2.2.2.2.1 u.2.2.2.2.2.1 u.2.2.2.2.2.2.1 u.2.2.2.2.2.2.2) (fun u t => poW (dC, dI) (tyL cI cJ cC cG cW) A (qw_X2_clear cI cJ cC cG cW a_this a_this_minutes a_this_lostBy a_this_backBy a_this_slips a_this_takes a_this_ties r_this_ties u.1 u.2.1 u.2.2.1 u.2.2.2.1 u.2.2.2.2.1 u.2.2.2.2.2.1 u.2.2.2.2.2.2.1 u.2.2.2.2.2.2.2) t) A) args s 0 0 A) (F0 m 57 ls []) := by
  obtain ⟨hx, hb, hr, hml, hown, hts, hlocks⟩ := id C0
  intro n
  induction n with
  | zero =>
    intro x1 z_ties H locs ls hV
    exact False.elim hV
  | succ n ih =>
    intro x1 z_ties H locs ls hV hP hD hS hl
    refine lv_iload_n hx hb dX2_clear_57 rfl (lv_at hl 1 rfl) ?_
    refine lv_bipush (v := (6 : Int32)) hx hb dX2_clear_58 (by decide) ?_
    refine lv_icmp_ge (tgt := 92) hx hb dX2_clear_60 (by decide) (fun c5 => ?_) (fun c5 => ?_)
    · have hV := hV.1 c5
      exact hE z_ties H locs ls hV hP hD hS (lv_sub hl [] rfl)
    · have hV := hV.2 c5
      refine lv_iconst (v := (0 : Int32)) hx hb dX2_clear_63 (by decide) ?_
      refine lv_istore_n (lv' := [(2, .int (0 : Int32)), (0, .ref a_this), (1, .int x1)]) hx hb dX2_clear_64 rfl hl (by decide) rfl (fun ls hl => ?_)
      obtain ⟨n11, hV⟩ := hV
      refine qt_X2_clear_L65 C0 hK hN hA z_stretches z_costOn z_costBack z_foundBy z_friends z_slips z_takes x1 _ _ (fun z_ties_11 H locs ls hV hP hD hS hl => ?_) n11 (0 : Int32) z_ties H locs ls hV hP hD hS (lv_sub hl [1, 2, 0] rfl)
      refine lv_iinc (v := (x1 + (1 : Int32))) (lv' := [(1, .int (x1 + (1 : Int32))), (0, .ref a_this)]) hx hb dX2_clear_86 hl (k := 1) rfl rfl (by decide) rfl (fun ls hl => ?_)
      refine lv_goto (tgt := 57) hx hb dX2_clear_89 (by decide) ?_
      exact ih (x1 + (1 : Int32)) z_ties_11 H locs ls hV hP hD hS (lv_sub hl [1, 0] rfl)
def qv_X2_clear (z_stretches : Int32) (z_costOn : Int32) (z_costBack : Int32) (z_foundBy : Int32) (z_friends : Int32) (z_slips : Nat → Int32) (z_takes : Nat → Int32) (z_ties : Nat → Nat → Int32) (Post : (Int32) → (Int32) → (Int32) → (Int32) → (Int32) → (Nat → Int32) → (Nat → Int32) → (Nat → Nat → Int32) → Prop) : Prop := ∃ n4, qv_X2_clear_L7 (0 : Int32) z_costOn z_costBack z_foundBy z_friends z_ties Post (fun z_slips_4 z_takes_4 => ∃ n12, qv_X2_clear_L57 (0 : Int32) (60 : Int32) (10 : Int32) (8 : Int32) (4 : Int32) z_slips_4 z_takes_4 Post (fun z_ties_12 => Post (0 : Int32) (60 : Int32) (10 : Int32) (8 : Int32) (4 : Int32) z_slips_4 z_takes_4 z_ties_12) n12 (0 : Int32) z_ties) n4 (0 : Int32) z_slips z_takes
set_option maxHeartbeats 4000000 in
set_option maxRecDepth 100000 in
theorem qm_X2_clear (l : Launch) (dC : Nat → ClassId) (dI : Nat → Nat → Nat) (cI cJ cC cG cW : ClassId) (a_this a_this_minutes a_this_lostBy a_this_backBy a_this_slips a_this_takes a_this_ties : Nat) (r_this_ties : Nat → Nat) (z_stretches : Int32) (z_costOn : Int32) (z_costBack : Int32) (z_foundBy : Int32) (z_friends : Int32) (z_slips : Nat → Int32) (z_takes : Nat → Int32) (z_ties : Nat → Nat → Int32) (sz : Nat) (Post : (Int32) → (Int32) → (Int32) → (Int32) → (Int32) → (Nat → Int32) → (Nat → Int32) → (Nat → Nat → Int32) → Prop) (hV : qv_X2_clear z_stretches z_costOn z_costBack z_foundBy z_friends z_slips z_takes z_ties Post) : Met l yX2_clear wsX2_clear ({ frames := 0, cells := 0, slots := 0, locals := 0 } : Room) (va_Pc [.ref a_this] (prW (dC, dI) (qw_X2_clear cI cJ cC cG cW a_this a_this_minutes a_this_lostBy a_this_backBy a_this_slips a_this_takes a_this_ties r_this_ties z_stretches z_costOn z_costBack z_foundBy z_friends z_slips z_takes z_ties) (tyL cI cJ cC cG cW) sz)) (va_Qv (fun (u : (Int32) × (Int32) × (Int32) × (Int32) × (Int32) × (Nat → Int32) × (Nat → Int32) × (Nat → Nat → Int32)) => Post u.1 u.2.1 u.2.2.1 u.2.2.2.1 u.2.2.2.2.1 u.2.2.2.2.2.1 u.2.2.2.2.2.2.1 u.2.2.2.2.2.2.2) (fun u t => poW (dC, dI) (tyL cI cJ cC cG cW) (va_A (qw_X2_clear cI cJ cC cG cW a_this a_this_minutes a_this_lostBy a_this_backBy a_this_slips a_this_takes a_this_ties r_this_ties z_stretches z_costOn z_costBack z_foundBy z_friends z_slips z_takes z_ties) sz) (qw_X2_clear cI cJ cC cG cW a_this a_this_minutes a_this_lostBy a_this_backBy a_this_slips a_this_takes a_this_ties r_this_ties u.1 u.2.1 u.2.2.1 u.2.2.2.1 u.2.2.2.2.1 u.2.2.2.2.2.1 u.2.2.2.2.2.2.1 u.2.2.2.2.2.2.2) t) (va_A (qw_X2_clear cI cJ cC cG cW a_this a_this_minutes a_this_lostBy a_this_backBy a_this_slips a_this_takes a_this_ties r_this_ties z_stretches z_costOn z_costBack z_foundBy z_friends z_slips z_takes z_ties) sz)) 0 0 (va_A (qw_X2_clear cI cJ cC cG cW a_this a_this_minutes a_this_lostBy a_this_backBy a_this_slips a_this_takes a_this_ties r_this_ties z_stretches z_costOn z_costBack z_foundBy z_friends z_slips z_takes z_ties) sz) := by
  refine Met.ofM (Qc := fun A => va_Qv (fun (u : (Int32) × (Int32) × (Int32) × (Int32) × (Int32) × (Nat → Int32) × (Nat → Int32) × (Nat → Nat → Int32)) => Post u.1 u.2.1 u.2.2.1 u.2.2.2.1 u.2.2.2.2.1 u.2.2.2.2.2.1 u.2.2.2.2.2.2.1 u.2.2.2.2.2.2.2) (fun u t => poW (dC, dI) (tyL cI cJ cC cG cW) A (qw_X2_clear cI cJ cC cG cW a_this a_this_minutes a_this_lostBy a_this_backBy a_this_slips a_this_takes a_this_ties r_this_ties u.1 u.2.1 u.2.2.1 u.2.2.2.1 u.2.2.2.2.1 u.2.2.2.2.2.1 u.2.2.2.2.2.2.1 u.2.2.2.2.2.2.2) t) A) (nm := "clear") (ds := "()V") (own := RX2) (maxL := 3) (cc := cX2_clear) (ret := none) (by decide) rfl rfl (Nat.le_of_ble_eq_true rfl) (fun p e s m below meth c A C0 hin hK hN hA hP hD hS ls hl => ?_)
  obtain ⟨hx, hb, hr, hml, hown, hts, hlocks⟩ := id C0
  have hl : lv_has ls 3 [(0, .ref a_this)] := hl
  obtain ⟨H, hH⟩ : ∃ h : Heap, h = s.heap := ⟨_, rfl⟩
  obtain ⟨locs, hLc⟩ : ∃ L : List Loc, L = [] := ⟨_, rfl⟩
  have hS : va_S A s.heap H locs := by rw [hH, hLc]; exact hS
  rw [← hH] at hP
  rw [← hLc, ← hH]
  clear hH hLc
  refine lv_aload_n hx hb dX2_clear_0 rfl (lv_at hl 0 rfl) ?_
  refine lv_iconst (v := (0 : Int32)) hx hb dX2_clear_1 (by decide) ?_
  refine va_put (D := (dC, dI)) (ci := 2) (v := .int (0 : Int32)) (ty := .int) (C := RX2) (T := TX2) (N := 11) hx hb hts qi_X2_clear_X2 tyX2 tyX2_ok nmX2 hown hK hP hD hS 0 rfl rfl 0 (by decide) (hts _ ql_X2_clear_32) (fun _ h9 => h9) rfl (by decide +kernel) rfl rfl (Nat.le_of_ble_eq_true rfl) dX2_clear_2 (fun H locs hP hD hS => ?_)
  have hP : va_P (dC, dI) vwCl (qw_X2_clear cI cJ cC cG cW a_this a_this_minutes a_this_lostBy a_this_backBy a_this_slips a_this_takes a_this_ties r_this_ties (0 : Int32) z_costOn z_costBack z_foundBy z_friends z_slips z_takes z_ties) H := hP
  have hD : va_D A (qw_X2_clear cI cJ cC cG cW a_this a_this_minutes a_this_lostBy a_this_backBy a_this_slips a_this_takes a_this_ties r_this_ties (0 : Int32) z_costOn z_costBack z_foundBy z_friends z_slips z_takes z_ties) := hD
  refine lv_iconst (v := (0 : Int32)) hx hb dX2_clear_5 (by decide) ?_
  refine lv_istore_n (lv' := [(1, .int (0 : Int32)), (0, .ref a_this)]) hx hb dX2_clear_6 rfl hl (by decide) rfl (fun ls hl => ?_)
  obtain ⟨n4, hV⟩ := hV
  refine qt_X2_clear_L7 C0 hK hN hA (0 : Int32) z_costOn z_costBack z_foundBy z_friends z_ties _ _ (fun z_slips_4 z_takes_4 H locs ls hV hP hD hS hl => ?_) n4 (0 : Int32) z_slips z_takes H locs ls hV hP hD hS (lv_sub hl [1, 0] rfl)
  refine lv_aload_n hx hb dX2_clear_32 rfl (lv_at hl 0 rfl) ?_
  refine lv_bipush (v := (60 : Int32)) hx hb dX2_clear_33 (by decide) ?_
  refine va_put (D := (dC, dI)) (ci := 2) (v := .int (60 : Int32)) (ty := .int) (C := RX2) (T := TX2) (N := 11) hx hb hts qi_X2_clear_X2 tyX2 tyX2_ok nmX2 hown hK hP hD hS 0 rfl rfl 6 (by decide) (hts _ ql_X2_clear_36) (fun _ h9 => h9) rfl (by decide +kernel) rfl rfl (Nat.le_of_ble_eq_true rfl) dX2_clear_35 (fun H locs hP hD hS => ?_)
  have hP : va_P (dC, dI) vwCl (qw_X2_clear cI cJ cC cG cW a_this a_this_minutes a_this_lostBy a_this_backBy a_this_slips a_this_takes a_this_ties r_this_ties (0 : Int32) (60 : Int32) z_costBack z_foundBy z_friends z_slips_4 z_takes_4 z_ties) H := hP
  have hD : va_D A (qw_X2_clear cI cJ cC cG cW a_this a_this_minutes a_this_lostBy a_this_backBy a_this_slips a_this_takes a_this_ties r_this_ties (0 : Int32) (60 : Int32) z_costBack z_foundBy z_friends z_slips_4 z_takes_4 z_ties) := hD
  refine lv_aload_n hx hb dX2_clear_38 rfl (lv_at hl 0 rfl) ?_
  refine lv_bipush (v := (10 : Int32)) hx hb dX2_clear_39 (by decide) ?_
  refine va_put (D := (dC, dI)) (ci := 2) (v := .int (10 : Int32)) (ty := .int) (C := RX2) (T := TX2) (N := 11) hx hb hts qi_X2_clear_X2 tyX2 tyX2_ok nmX2 hown hK hP hD hS 0 rfl rfl 7 (by decide) (hts _ ql_X2_clear_39) (fun _ h9 => h9) rfl (by decide +kernel) rfl rfl (Nat.le_of_ble_eq_true rfl) dX2_clear_41 (fun H locs hP hD hS => ?_)
  have hP : va_P (dC, dI) vwCl (qw_X2_clear cI cJ cC cG cW a_this a_this_minutes a_this_lostBy a_this_backBy a_this_slips a_this_takes a_this_ties r_this_ties (0 : Int32) (60 : Int32) (10 : Int32) z_foundBy z_friends z_slips_4 z_takes_4 z_ties) H := hP
  have hD : va_D A (qw_X2_clear cI cJ cC cG cW a_this a_this_minutes a_this_lostBy a_this_backBy a_this_slips a_this_takes a_this_ties r_this_ties (0 : Int32) (60 : Int32) (10 : Int32) z_foundBy z_friends z_slips_4 z_takes_4 z_ties) := hD
  refine lv_aload_n hx hb dX2_clear_44 rfl (lv_at hl 0 rfl) ?_
  refine lv_bipush (v := (8 : Int32)) hx hb dX2_clear_45 (by decide) ?_
  refine va_put (D := (dC, dI)) (ci := 2) (v := .int (8 : Int32)) (ty := .int) (C := RX2) (T := TX2) (N := 11) hx hb hts qi_X2_clear_X2 tyX2 tyX2_ok nmX2 hown hK hP hD hS 0 rfl rfl 8 (by decide) (hts _ ql_X2_clear_42) (fun _ h9 => h9) rfl (by decide +kernel) rfl rfl (Nat.le_of_ble_eq_true rfl) dX2_clear_47 (fun H locs hP hD hS => ?_)
  have hP : va_P (dC, dI) vwCl (qw_X2_clear cI cJ cC cG cW a_this a_this_minutes a_this_lostBy a_this_backBy a_this_slips a_this_takes a_this_ties r_this_ties (0 : Int32) (60 : Int32) (10 : Int32) (8 : Int32) z_friends z_slips_4 z_takes_4 z_ties) H := hP
  have hD : va_D A (qw_X2_clear cI cJ cC cG cW a_this a_this_minutes a_this_lostBy a_this_backBy a_this_slips a_this_takes a_this_ties r_this_ties (0 : Int32) (60 : Int32) (10 : Int32) (8 : Int32) z_friends z_slips_4 z_takes_4 z_ties) := hD
  refine lv_aload_n hx hb dX2_clear_50 rfl (lv_at hl 0 rfl) ?_
  refine lv_iconst (v := (4 : Int32)) hx hb dX2_clear_51 (by decide) ?_
  refine va_put (D := (dC, dI)) (ci := 2) (v := .int (4 : Int32)) (ty := .int) (C := RX2) (T := TX2) (N := 11) hx hb hts qi_X2_clear_X2 tyX2 tyX2_ok nmX2 hown hK hP hD hS 0 rfl rfl 9 (by decide) (hts _ ql_X2_clear_45) (fun _ h9 => h9) rfl (by decide +kernel) rfl rfl (Nat.le_of_ble_eq_true rfl) dX2_clear_52 (fun H locs hP hD hS => ?_)
  have hP : va_P (dC, dI) vwCl (qw_X2_clear cI cJ cC cG cW a_this a_this_minutes a_this_lostBy a_this_backBy a_this_slips a_this_takes a_this_ties r_this_ties (0 : Int32) (60 : Int32) (10 : Int32) (8 : Int32) (4 : Int32) z_slips_4 z_takes_4 z_ties) H := hP
  have hD : va_D A (qw_X2_clear cI cJ cC cG cW a_this a_this_minutes a_this_lostBy a_this_backBy a_this_slips a_this_takes a_this_ties r_this_ties (0 : Int32) (60 : Int32) (10 : Int32) (8 : Int32) (4 : Int32) z_slips_4 z_takes_4 z_ties) := hD
  refine lv_iconst (v := (0 : Int32)) hx hb dX2_clear_55 (by decide) ?_
  refine lv_istore_n (lv' := [(1, .int (0 : Int32)), (0, .ref a_this)]) hx hb dX2_clear_56 rfl hl (by decide) rfl (fun ls hl => ?_)
  obtain ⟨n12, hV⟩ := hV
  refine qt_X2_clear_L57 C0 hK hN hA (0 : Int32) (60 : Int32) (10 : Int32) (8 : Int32) (4 : Int32) z_slips_4 z_takes_4 _ _ (fun z_ties_12 H locs ls hV hP hD hS hl => ?_) n12 (0 : Int32) z_ties H locs ls hV hP hD hS (lv_sub hl [1, 0] rfl)
  exact W.vret hx hb hr (fun t ht hW => ⟨⟨((0 : Int32), (60 : Int32), (10 : Int32), (8 : Int32), (4 : Int32), z_slips_4, z_takes_4, z_ties_12), rfl, hV, ⟨by rw [ht]; exact hP, va_K.moved hW.alike hK, hD⟩⟩, hS.F ht⟩) hS.2.2 dX2_clear_92 hlocks

/-! StileCounts$Laid.canBeLaid()Z -/
abbrev qw_X2_canBeLaid (cI cJ cC cG cW : ClassId) (a_this a_this_minutes a_this_lostBy a_this_backBy a_this_slips a_this_takes a_this_ties : Nat) (r_this_ties : Nat → Nat) (z_stretches : Int32) (z_costOn : Int32) (z_costBack : Int32) (z_foundBy : Int32) (z_friends : Int32) (z_ties : Nat → Nat → Int32) : va_W := [(a_this, .inr (2, [.int z_stretches, .ref a_this_minutes, .ref a_this_lostBy, .ref a_this_backBy, .ref a_this_slips, .ref a_this_takes, .int z_costOn, .int z_costBack, .int z_foundBy, .int z_friends, .ref a_this_ties])), (a_this_ties, .inl (cG, 6, .inr (.inr (.inr (.inr (gG r_this_ties)))))), (r_this_ties 0, .inl (cI, 6, .inl (z_ties 0))), (r_this_ties 1, .inl (cI, 6, .inl (z_ties 1))), (r_this_ties 2, .inl (cI, 6, .inl (z_ties 2))), (r_this_ties 3, .inl (cI, 6, .inl (z_ties 3))), (r_this_ties 4, .inl (cI, 6, .inl (z_ties 4))), (r_this_ties 5, .inl (cI, 6, .inl (z_ties 5)))]
theorem qi_X2_canBeLaid_X2 : ∀ w ∈ wsX20, w ∈ wsX2_canBeLaid := by decide +kernel
theorem ql_X2_canBeLaid_32 : (.fieldLink RX2 32 "StileCounts$Laid" "stretches" "I" : Cond) ∈ wsX2_canBeLaid := by decide +kernel
theorem ql_X2_canBeLaid_45 : (.fieldLink RX2 45 "StileCounts$Laid" "friends" "I" : Cond) ∈ wsX2_canBeLaid := by decide +kernel
theorem ql_X2_canBeLaid_29 : (.fieldLink RX2 29 "StileCounts$Laid" "ties" "[[I" : Cond) ∈ wsX2_canBeLaid := by decide +kernel
def qv_X2_canBeLaid_L23 (x1 : Int32) (z_stretches : Int32) (z_friends : Int32) (z_ties : Nat → Nat → Int32) (Post : Int32 → Prop) (E : Prop) : Nat → (Int32) → Prop
  | 0, _ => False
  | n + 1, x2 => ((6 : Int32) ≤ x2 → E) ∧ (¬ (6 : Int32) ≤ x2 → vp_in x1 6 ∧ (vp_in x2 6 ∧ (((z_ties x1.toNatClampNeg x2.toNatClampNeg) = (0 : Int32) → qv_X2_canBeLaid_L23 x1 z_stretches z_friends z_ties Post E n (x2 + (1 : Int32))) ∧ (¬ (z_ties x1.toNatClampNeg x2.toNatClampNeg) = (0 : Int32) → Post (0 : Int32)))))
set_option maxHeartbeats 4000000 in
set_option maxRecDepth 100000 in
theorem qt_X2_canBeLaid_L23 {p : Program} {l : Launch} {e : Env} {s : State} {m : MethodId} {args : Array Value} {below : List Frame} {meth : Method} {c : Code} {dC : Nat → ClassId} {dI : Nat → Nat → Nat} {cI cJ cC cG cW : ClassId} {a_this a_this_minutes a_this_lostBy a_this_backBy a_this_slips a_this_takes a_this_ties : Nat} {r_this_ties : Nat → Nat} (C0 : MC cX2_canBeLaid 3 (some .boolean) RX2 wsX2_canBeLaid p s m args meth c) (hK : va_K (dC, dI) vwCl (tyL cI cJ cC cG cW) s) (hN : NW s) (z_stretches : Int32) (z_costOn : Int32) (z_costBack : Int32) (z_foundBy : Int32) (z_friends : Int32) (z_ties : Nat → Nat → Int32) (hP : va_P (dC, dI) vwCl (qw_X2_canBeLaid cI cJ cC cG cW a_this a_this_minutes a_this_lostBy a_this_backBy a_this_slips a_this_takes a_this_ties r_this_ties z_stretches z_costOn z_costBack z_foundBy z_friends z_ties) s.heap) (x1 : Int32) (Post : Int32 → Prop) (E : Prop) (hE : ∀ (ls : Array Slot), E → lv_has ls 3 [(0, .ref a_this), (1, .int x1)] → W p l e ({ frames := 0, cells := 0, slots := 0, locals := 0 } : Room) s m args below meth c s.heap [] 0 0 (MQ below (vp_Si Post) args s 0 0 (fun _ => False)) (F0 m 48 ls [])) : ∀ (n : Nat) (x2 : Int32) (ls : Array Slot), qv_X2_canBeLaid_L23 x1 z_stretches z_friends z_ties Post E n x2 → lv_has ls 3 [(0, .ref a_this), (1, .int x1), (2, .int x2)] → W p l e ({ frames := 0, cells := 0, slots := 0, locals := 0 } : Room) s m args below meth c s.heap [] 0 0 (MQ below (vp_Si Post) args s 0 0 (fun _ => False)) (F0 m 23 ls []) := by
  obtain ⟨hx, hb, hr, hml, hown, hts, hlocks⟩ := id C0
  intro n
  induction n with
  | zero =>
    intro x2 ls hV
    exact False.elim hV
  | succ n ih =>
    intro x2 ls hV hl
    refine lv_iload_n hx hb dX2_canBeLaid_23 rfl (lv_at hl 2 rfl) ?_
    refine lv_bipush (v := (6 : Int32)) hx hb dX2_canBeLaid_24 (by decide) ?_
    refine lv_icmp_ge (tgt := 48) hx hb dX2_canBeLaid_26 (by decide) (fun c3 => ?_) (fun c3 => ?_)
    · have hV := hV.1 c3
      exact hE ls hV (lv_sub hl [0, 1] rfl)
    · have hV := hV.2 c3
      refine lv_aload_n hx hb dX2_canBeLaid_29 rfl (lv_at hl 0 rfl) ?_
      refine va_get (D := (dC, dI)) (ci := 2) (v := .ref a_this_ties) (C := RX2) (T := TX2) (N := 11) hx hb hts qi_X2_canBeLaid_X2 hown hK hP 0 rfl rfl 10 (by decide) (hts _ ql_X2_canBeLaid_29) (fun _ h9 => h9) rfl dX2_canBeLaid_30 ?_
      refine lv_iload_n hx hb dX2_canBeLaid_33 rfl (lv_at hl 1 rfl) ?_
      obtain ⟨h4, hV⟩ := hV
      refine va_aldG hx hb hK hP 1 3 rfl rfl h4 dX2_canBeLaid_34 ?_
      refine lv_iload_n hx hb dX2_canBeLaid_35 rfl (lv_at hl 2 rfl) ?_
      obtain ⟨h5, hV⟩ := hV
      refine va_iald hx hb hK hP (2 + x1.toNatClampNeg) 0 (rows6 (P := fun j => (qw_X2_canBeLaid cI cJ cC cG cW a_this a_this_minutes a_this_lostBy a_this_backBy a_this_slips a_this_takes a_this_ties r_this_ties z_stretches z_costOn z_costBack z_foundBy z_friends z_ties)[2 + j]? = some (r_this_ties j, .inl (cI, 6, .inl (z_ties j)))) rfl rfl rfl rfl rfl rfl _ (vp_lt h4)) rfl h5 dX2_canBeLaid_36 ?_
      refine lv_if_eq (tgt := 42) hx hb dX2_canBeLaid_37 (by decide) (fun c6 => ?_) (fun c6 => ?_)
      · have hV := hV.1 c6
        refine lv_iinc (v := (x2 + (1 : Int32))) (lv' := [(2, .int (x2 + (1 : Int32))), (0, .ref a_this), (1, .int x1)]) hx hb dX2_canBeLaid_42 hl (k := 2) rfl rfl (by decide) rfl (fun ls hl => ?_)
        refine lv_goto (tgt := 23) hx hb dX2_canBeLaid_45 (by decide) ?_
        exact ih (x2 + (1 : Int32)) ls hV (lv_sub hl [1, 2, 0] rfl)
      · have hV := hV.2 c6
        refine lv_iconst (v := (0 : Int32)) hx hb dX2_canBeLaid_40 (by decide) ?_
        exact W.zret hx hb hr rfl (fun t ht hW => ⟨_, rfl, hV, ht⟩) (fun q h => absurd h List.not_mem_nil) dX2_canBeLaid_41 hlocks
def qv_X2_canBeLaid_L12 (z_stretches : Int32) (z_friends : Int32) (z_ties : Nat → Nat → Int32) (Post : Int32 → Prop) (E : Prop) : Nat → (Int32) → Prop
  | 0, _ => False
  | n + 1, x1 => ((6 : Int32) ≤ x1 → E) ∧ (¬ (6 : Int32) ≤ x1 → ∃ n7, qv_X2_canBeLaid_L23 x1 z_stretches z_friends z_ties Post (qv_X2_canBeLaid_L12 z_stretches z_friends z_ties Post E n (x1 + (1 : Int32))) n7 z_friends)
set_option maxHeartbeats 4000000 in
set_option maxRecDepth 100000 in
theorem qt_X2_canBeLaid_L12 {p : Program} {l : Launch} {e : Env} {s : State} {m : MethodId} {args : Array Value} {below : List Frame} {meth : Method} {c : Code} {dC : Nat → ClassId} {dI : Nat → Nat → Nat} {cI cJ cC cG cW : ClassId} {a_this a_this_minutes a_this_lostBy a_this_backBy a_this_slips a_this_takes a_this_ties : Nat} {r_this_ties : Nat → Nat} (C0 : MC cX2_canBeLaid 3 (some .boolean) RX2 wsX2_canBeLaid p s m args meth c) (hK : va_K (dC, dI) vwCl (tyL cI cJ cC cG cW) s) (hN : NW s) (z_stretches : Int32) (z_costOn : Int32) (z_costBack : Int32) (z_foundBy : Int32) (z_friends : Int32) (z_ties : Nat → Nat → Int32) (hP : va_P (dC, dI) vwCl (qw_X2_canBeLaid cI cJ cC cG cW a_this a_this_minutes a_this_lostBy a_this_backBy a_this_slips a_this_takes a_this_ties r_this_ties z_stretches z_costOn z_costBack z_foundBy z_friends z_ties) s.heap) (Post : Int32 → Prop) (E : Prop) (hE : ∀ (ls : Array Slot), E → lv_has ls 3 [] → W p l e ({ frames := 0, cells := 0, slots := 0, locals := 0 } : Room) s m args below meth c s.heap [] 0 0 (MQ below (vp_Si Post) args s 0 0 (fun _ => False)) (F0 m 54 ls [])) : ∀ (n : Nat) (x1 : Int32) (ls : Array Slot), qv_X2_canBeLaid_L12 z_stretches z_friends z_ties Post E n x1 → lv_has ls 3 [(0, .ref a_this), (1, .int x1)] → W p l e ({ frames := 0, cells := 0, slots := 0, locals := 0 } : Room) s m args below meth c s.heap [] 0 0 (MQ below (vp_Si Post) args s 0 0 (fun _ => False)) (F0 m 12 ls []) := by
  obtain ⟨hx, hb, hr, hml, hown, hts, hlocks⟩ := id C0
  intro n
  induction n with
  | zero =>
    intro x1 ls hV
    exact False.elim hV
  | succ n ih =>
    intro x1 ls hV hl
    refine lv_iload_n hx hb dX2_canBeLaid_12 rfl (lv_at hl 1 rfl) ?_
    refine lv_bipush (v := (6 : Int32)) hx hb dX2_canBeLaid_13 (by decide) ?_
    refine lv_icmp_ge (tgt := 54) hx hb dX2_canBeLaid_15 (by decide) (fun c2 => ?_) (fun c2 => ?_)
    · have hV := hV.1 c2
      exact hE ls hV (lv_sub hl [] rfl)
    · have hV := hV.2 c2
      refine lv_aload_n hx hb dX2_canBeLaid_18 rfl (lv_at hl 0 rfl) ?_
      refine va_get (D := (dC, dI)) (ci := 2) (v := .int z_friends) (C := RX2) (T := TX2) (N := 11) hx hb hts qi_X2_canBeLaid_X2 hown hK hP 0 rfl rfl 9 (by decide) (hts _ ql_X2_canBeLaid_45) (fun _ h9 => h9) rfl dX2_canBeLaid_19 ?_
      refine lv_istore_n (lv' := [(2, .int z_friends), (0, .ref a_this), (1, .int x1)]) hx hb dX2_canBeLaid_22 rfl hl (by decide) rfl (fun ls hl => ?_)
      obtain ⟨n7, hV⟩ := hV
      refine qt_X2_canBeLaid_L23 C0 hK hN z_stretches z_costOn z_costBack z_foundBy z_friends z_ties hP x1 _ _ (fun ls hV hl => ?_) n7 z_friends ls hV (lv_sub hl [1, 2, 0] rfl)
      refine lv_iinc (v := (x1 + (1 : Int32))) (lv' := [(1, .int (x1 + (1 : Int32))), (0, .ref a_this)]) hx hb dX2_canBeLaid_48 hl (k := 1) rfl rfl (by decide) rfl (fun ls hl => ?_)
      refine lv_goto (tgt := 12) hx hb dX2_canBeLaid_51 (by decide) ?_
      exact ih (x1 + (1 : Int32)) ls hV (lv_sub hl [1, 0] rfl)
def qv_X2_canBeLaid (z_stretches : Int32) (z_friends : Int32) (z_ties : Nat → Nat → Int32) (Post : Int32 → Prop) : Prop := ((1 : Int32) ≤ z_stretches → ∃ n8, qv_X2_canBeLaid_L12 z_stretches z_friends z_ties Post (Post (1 : Int32)) n8 (0 : Int32)) ∧ (¬ (1 : Int32) ≤ z_stretches → Post (0 : Int32))
set_option maxHeartbeats 4000000 in
set_option maxRecDepth 100000 in
theorem qm_X2_canBeLaid (l : Launch) (dC : Nat → ClassId) (dI : Nat → Nat → Nat) (cI cJ cC cG cW : ClassId) (a_this a_this_minutes a_this_lostBy a_this_backBy a_this_slips a_this_takes a_this_ties : Nat) (r_this_ties : Nat → Nat) (z_stretches : Int32) (z_costOn : Int32) (z_costBack : Int32) (z_foundBy : Int32) (z_friends : Int32) (z_ties : Nat → Nat → Int32) (Post : Int32 → Prop) (hV : qv_X2_canBeLaid z_stretches z_friends z_ties Post) : Met l yX2_canBeLaid wsX2_canBeLaid ({ frames := 0, cells := 0, slots := 0, locals := 0 } : Room) (va_Pc [.ref a_this] (prR (dC, dI) (qw_X2_canBeLaid cI cJ cC cG cW a_this a_this_minutes a_this_lostBy a_this_backBy a_this_slips a_this_takes a_this_ties r_this_ties z_stretches z_costOn z_costBack z_foundBy z_friends z_ties) (tyL cI cJ cC cG cW))) (vp_Si Post) 0 0 (fun _ => False) := by
  refine Met.ofR (nm := "canBeLaid") (ds := "()Z") (own := RX2) (maxL := 3) (cc := cX2_canBeLaid) (ret := (some .boolean)) (by decide) rfl rfl (Nat.le_of_ble_eq_true rfl) (fun p e s m below meth c C0 hK hN hP ls hl => ?_)
  obtain ⟨hx, hb, hr, hml, hown, hts, hlocks⟩ := id C0
  have hl : lv_has ls 3 [(0, .ref a_this)] := hl
  refine lv_aload_n hx hb dX2_canBeLaid_0 rfl (lv_at hl 0 rfl) ?_
  refine va_get (D := (dC, dI)) (ci := 2) (v := .int z_stretches) (C := RX2) (T := TX2) (N := 11) hx hb hts qi_X2_canBeLaid_X2 hown hK hP 0 rfl rfl 0 (by decide) (hts _ ql_X2_canBeLaid_32) (fun _ h9 => h9) rfl dX2_canBeLaid_1 ?_
  refine lv_iconst (v := (1 : Int32)) hx hb dX2_canBeLaid_4 (by decide) ?_
  refine lv_icmp_ge (tgt := 10) hx hb dX2_canBeLaid_5 (by decide) (fun c1 => ?_) (fun c1 => ?_)
  · have hV := hV.1 c1
    refine lv_iconst (v := (0 : Int32)) hx hb dX2_canBeLaid_10 (by decide) ?_
    refine lv_istore_n (lv' := [(1, .int (0 : Int32)), (0, .ref a_this)]) hx hb dX2_canBeLaid_11 rfl hl (by decide) rfl (fun ls hl => ?_)
    obtain ⟨n8, hV⟩ := hV
    refine qt_X2_canBeLaid_L12 C0 hK hN z_stretches z_costOn z_costBack z_foundBy z_friends z_ties hP _ _ (fun ls hV hl => ?_) n8 (0 : Int32) ls hV (lv_sub hl [1, 0] rfl)
    refine lv_iconst (v := (1 : Int32)) hx hb dX2_canBeLaid_54 (by decide) ?_
    exact W.zret hx hb hr rfl (fun t ht hW => ⟨_, rfl, hV, ht⟩) (fun q h => absurd h List.not_mem_nil) dX2_canBeLaid_55 hlocks
  · have hV := hV.2 c1
    refine lv_iconst (v := (0 : Int32)) hx hb dX2_canBeLaid_8 (by decide) ?_
    exact W.zret hx hb hr rfl (fun t ht hW => ⟨_, rfl, hV, ht⟩) (fun q h => absurd h List.not_mem_nil) dX2_canBeLaid_9 hlocks

/-! StileCounts$Pairing.settle(I)V -/
abbrev qw_X3_settle (cI cJ cC cG cW : ClassId) (a_this a_this_with a_this_best : Nat) (z_least : Int32) (z_found : Int32) (z_with : Nat → Int32) (z_best : Nat → Int32) : va_W := [(a_this, .inr (3, [.ref a_this_with, .ref a_this_best, .int z_least, .int z_found])), (a_this_with, .inl (cI, 6, .inl z_with)), (a_this_best, .inl (cI, 6, .inl z_best))]
theorem qi_X3_settle_X3 : ∀ w ∈ wsX30, w ∈ wsX3_settle := by decide +kernel
theorem ql_X3_settle_22 : (.fieldLink RX3 22 "StileCounts$Pairing" "found" "Z" : Cond) ∈ wsX3_settle := by decide +kernel
theorem ql_X3_settle_18 : (.fieldLink RX3 18 "StileCounts$Pairing" "least" "I" : Cond) ∈ wsX3_settle := by decide +kernel
theorem ql_X3_settle_15 : (.fieldLink RX3 15 "StileCounts$Pairing" "best" "[I" : Cond) ∈ wsX3_settle := by decide +kernel
theorem ql_X3_settle_9 : (.fieldLink RX3 9 "StileCounts$Pairing" "with" "[I" : Cond) ∈ wsX3_settle := by decide +kernel
def qv_X3_settle_L28 (z_least : Int32) (z_found : Int32) (z_with : Nat → Int32) (Post : (Int32) → (Int32) → (Nat → Int32) → Prop) (E : (Nat → Int32) → Prop) : Nat → (Int32) → (Nat → Int32) → Prop
  | 0, _, _ => False
  | n + 1, x2, z_best => ((6 : Int32) ≤ x2 → E z_best) ∧ (¬ (6 : Int32) ≤ x2 → vp_in x2 6 ∧ (vp_in x2 6 ∧ (qv_X3_settle_L28 z_least z_found z_with Post E n (x2 + (1 : Int32)) (upd z_best x2.toNatClampNeg (z_with x2.toNatClampNeg)))))
set_option maxHeartbeats 4000000 in
set_option maxRecDepth 100000 in
theorem qt_X3_settle_L28 {p : Program} {l : Launch} {e : Env} {s : State} {m : MethodId} {args : Array Value} {below : List Frame} {meth : Method} {c : Code} {dC : Nat → ClassId} {dI : Nat → Nat → Nat} {cI cJ cC cG cW : ClassId} {a_this a_this_with a_this_best : Nat} {A : Nat → Prop} (C0 : MC cX3_settle 3 none RX3 wsX3_settle p s m args meth c) (hK : va_K (dC, dI) vwCl (tyL cI cJ cC cG cW) s) (hN : NW s) (hA : ∀ q, s.heap.size ≤ q → A q) (z_least : Int32) (z_found : Int32) (z_with : Nat → Int32) (Post : (Int32) → (Int32) → (Nat → Int32) → Prop) (E : (Nat → Int32) → Prop) (hE : ∀ (z_best : Nat → Int32) (H : Heap) (locs : List Loc) (ls : Array Slot), E z_best → va_P (dC, dI) vwCl (qw_X3_settle cI cJ cC cG cW a_this a_this_with a_this_best z_least z_found z_with z_best) H → va_D A (qw_X3_settle cI cJ cC cG cW a_this a_this_with a_this_best z_least z_found z_with z_best) → va_S A s.heap H locs → lv_has ls 3 [] → W p l e ({ frames := 0, cells := 0, slots := 0, locals := 0 } : Room) s m args below meth c H locs 0 0 (MQ below (va_Qv (fun (u : (Int32) × (Int32) × (Nat → Int32)) => Post u.1 u.2.1 u.2.2) (fun u t => poW (dC, dI) (tyL cI cJ cC cG cW) A (qw_X3_settle cI cJ cC cG cW a_this a_this_with a_this_best u.1 u.2.1 z_with u.2.2) t) A) args s 0 0 A) (F0 m 52 ls [])) : ∀ (n : Nat) (x2 : Int32) (z_best : Nat → Int32) (H : Heap) (locs : List Loc) (ls : Array Slot), qv_X3_settle_L28 z_least z_found z_with Post E n x2 z_best → va_P (dC, dI) vwCl (qw_X3_settle cI cJ cC cG cW a_this a_this_with a_this_best z_least z_found z_with z_best) H → va_D A (qw_X3_settle cI cJ cC cG cW a_this a_this_with a_this_best z_least z_found z_with z_best) → va_S A s.heap H locs → lv_has ls 3 [(0, .ref a_this), (2, .int x2)] → W p l e ({ frames := 0, cells := 0, slots := 0, locals := 0 } : Room) s m args below meth c H locs 0 0 (MQ below (va_Qv (fun (u : (Int32) × (Int32) × (Nat → Int32)) => Post u.1 u.2.1 u.2.2) (fun u t => poW (dC, dI) (tyL cI cJ cC cG cW) A (qw_X3_settle cI cJ cC cG cW a_this a_this_with a_this_best u.1 u.2.1 z_with u.2.2) t) A) args s 0 0 A) (F0 m 28 ls []) := by
  obtain ⟨hx, hb, hr, hml, hown, hts, hlocks⟩ := id C0
  intro n
  induction n with
  | zero =>
    intro x2 z_best H locs ls hV
    exact False.elim hV
  | succ n ih =>
    intro x2 z_best H locs ls hV hP hD hS hl
    refine lv_iload_n hx hb dX3_settle_28 rfl (lv_at hl 1 rfl) ?_
    refine lv_bipush (v := (6 : Int32)) hx hb dX3_settle_29 (by decide) ?_
    refine lv_icmp_ge (tgt := 52) hx hb dX3_settle_31 (by decide) (fun c2 => ?_) (fun c2 => ?_)
    · have hV := hV.1 c2
      exact hE z_best H locs ls hV hP hD hS (lv_sub hl [] rfl)
    · have hV := hV.2 c2
      refine lv_aload_n hx hb dX3_settle_34 rfl (lv_at hl 0 rfl) ?_
      refine va_get (D := (dC, dI)) (ci := 3) (v := .ref a_this_best) (C := RX3) (T := TX3) (N := 4) hx hb hts qi_X3_settle_X3 hown hK hP 0 rfl rfl 1 (by decide) (hts _ ql_X3_settle_15) (fun _ h9 => h9) rfl dX3_settle_35 ?_
      refine lv_iload_n hx hb dX3_settle_38 rfl (lv_at hl 1 rfl) ?_
      refine lv_aload_n hx hb dX3_settle_39 rfl (lv_at hl 0 rfl) ?_
      refine va_get (D := (dC, dI)) (ci := 3) (v := .ref a_this_with) (C := RX3) (T := TX3) (N := 4) hx hb hts qi_X3_settle_X3 hown hK hP 0 rfl rfl 0 (by decide) (hts _ ql_X3_settle_9) (fun _ h9 => h9) rfl dX3_settle_40 ?_
      refine lv_iload_n hx hb dX3_settle_43 rfl (lv_at hl 1 rfl) ?_
      obtain ⟨h3, hV⟩ := hV
      refine va_iald hx hb hK hP 1 0 rfl rfl h3 dX3_settle_44 ?_
      obtain ⟨h4, hV⟩ := hV
      refine va_iast hx hb hK hP hD hS 2 0 rfl rfl h4 dX3_settle_45 (fun H locs hP hD hS => ?_)
      have hP : va_P (dC, dI) vwCl (qw_X3_settle cI cJ cC cG cW a_this a_this_with a_this_best z_least z_found z_with (upd z_best x2.toNatClampNeg (z_with x2.toNatClampNeg))) H := hP
      have hD : va_D A (qw_X3_settle cI cJ cC cG cW a_this a_this_with a_this_best z_least z_found z_with (upd z_best x2.toNatClampNeg (z_with x2.toNatClampNeg))) := hD
      refine lv_iinc (v := (x2 + (1 : Int32))) (lv' := [(2, .int (x2 + (1 : Int32))), (0, .ref a_this)]) hx hb dX3_settle_46 hl (k := 1) rfl rfl (by decide) rfl (fun ls hl => ?_)
      refine lv_goto (tgt := 28) hx hb dX3_settle_49 (by decide) ?_
      exact ih (x2 + (1 : Int32)) (upd z_best x2.toNatClampNeg (z_with x2.toNatClampNeg)) H locs ls hV hP hD hS (lv_sub hl [1, 0] rfl)
def qv_X3_settle_J16 (x1 : Int32) (z_least : Int32) (z_found : Int32) (z_with : Nat → Int32) (z_best : Nat → Int32) (Post : (Int32) → (Int32) → (Nat → Int32) → Prop) : Prop := ∃ n5, qv_X3_settle_L28 x1 (1 : Int32) z_with Post (fun z_best_5 => Post x1 (1 : Int32) z_best_5) n5 (0 : Int32) z_best
set_option maxHeartbeats 4000000 in
set_option maxRecDepth 100000 in
theorem qt_X3_settle_J16 {p : Program} {l : Launch} {e : Env} {s : State} {m : MethodId} {args : Array Value} {below : List Frame} {meth : Method} {c : Code} {dC : Nat → ClassId} {dI : Nat → Nat → Nat} {cI cJ cC cG cW : ClassId} {a_this a_this_with a_this_best : Nat} {A : Nat → Prop} (C0 : MC cX3_settle 3 none RX3 wsX3_settle p s m args meth c) (hK : va_K (dC, dI) vwCl (tyL cI cJ cC cG cW) s) (hN : NW s) (hA : ∀ q, s.heap.size ≤ q → A q) (z_least : Int32) (z_found : Int32) (z_with : Nat → Int32) (z_best : Nat → Int32) (x1 : Int32) (Post : (Int32) → (Int32) → (Nat → Int32) → Prop) (H : Heap) (locs : List Loc) (ls : Array Slot) (hV : qv_X3_settle_J16 x1 z_least z_found z_with z_best Post) (hP : va_P (dC, dI) vwCl (qw_X3_settle cI cJ cC cG cW a_this a_this_with a_this_best z_least z_found z_with z_best) H) (hD : va_D A (qw_X3_settle cI cJ cC cG cW a_this a_this_with a_this_best z_least z_found z_with z_best)) (hS : va_S A s.heap H locs) (hl : lv_has ls 3 [(0, .ref a_this), (1, .int x1)]) : W p l e ({ frames := 0, cells := 0, slots := 0, locals := 0 } : Room) s m args below meth c H locs 0 0 (MQ below (va_Qv (fun (u : (Int32) × (Int32) × (Nat → Int32)) => Post u.1 u.2.1 u.2.2) (fun u t => poW (dC, dI) (tyL cI cJ cC cG cW) A (qw_X3_settle cI cJ cC cG cW a_this a_this_with a_this_best u.1 u.2.1 z_with u.2.2) t) A) args s 0 0 A) (F0 m 16 ls []) := by
  obtain ⟨hx, hb, hr, hml, hown, hts, hlocks⟩ := id C0
  refine lv_aload_n hx hb dX3_settle_16 rfl (lv_at hl 0 rfl) ?_
  refine lv_iconst (v := (1 : Int32)) hx hb dX3_settle_17 (by decide) ?_
  refine va_put (D := (dC, dI)) (ci := 3) (v := .int (1 : Int32)) (ty := .boolean) (C := RX3) (T := TX3) (N := 4) hx hb hts qi_X3_settle_X3 tyX3 tyX3_ok nmX3 hown hK hP hD hS 0 rfl rfl 3 (by decide) (hts _ ql_X3_settle_22) (fun _ h9 => h9) rfl (by decide +kernel) rfl rfl (Nat.le_of_ble_eq_true rfl) dX3_settle_18 (fun H locs hP hD hS => ?_)
  have hP : va_P (dC, dI) vwCl (qw_X3_settle cI cJ cC cG cW a_this a_this_with a_this_best z_least (1 : Int32) z_with z_best) H := hP
  have hD : va_D A (qw_X3_settle cI cJ cC cG cW a_this a_this_with a_this_best z_least (1 : Int32) z_with z_best) := hD
  refine lv_aload_n hx hb dX3_settle_21 rfl (lv_at hl 0 rfl) ?_
  refine lv_iload_n hx hb dX3_settle_22 rfl (lv_at hl 1 rfl) ?_
  refine va_put (D := (dC, dI)) (ci := 3) (v := .int x1) (ty := .int) (C := RX3) (T := TX3) (N := 4) hx hb hts qi_X3_settle_X3 tyX3 tyX3_ok nmX3 hown hK hP hD hS 0 rfl rfl 2 (by decide) (hts _ ql_X3_settle_18) (fun _ h9 => h9) rfl (by decide +kernel) rfl rfl (Nat.le_of_ble_eq_true rfl) dX3_settle_23 (fun H locs hP hD hS => ?_)
  have hP : va_P (dC, dI) vwCl (qw_X3_settle cI cJ cC cG cW a_this a_this_with a_this_best x1 (1 : Int32) z_with z_best) H := hP
  have hD : va_D A (qw_X3_settle cI cJ cC cG cW a_this a_this_with a_this_best x1 (1 : Int32) z_with z_best) := hD
  refine lv_iconst (v := (0 : Int32)) hx hb dX3_settle_26 (by decide) ?_
  refine lv_istore_n (lv' := [(2, .int (0 : Int32)), (0, .ref a_this), (1, .int x1)]) hx hb dX3_settle_27 rfl hl (by decide) rfl (fun ls hl => ?_)
  obtain ⟨n5, hV⟩ := hV
  refine qt_X3_settle_L28 C0 hK hN hA x1 (1 : Int32) z_with _ _ (fun z_best_5 H locs ls hV hP hD hS hl => ?_) n5 (0 : Int32) z_best H locs ls hV hP hD hS (lv_sub hl [1, 0] rfl)
  exact W.vret hx hb hr (fun t ht hW => ⟨⟨(x1, (1 : Int32), z_best_5), rfl, hV, ⟨by rw [ht]; exact hP, va_K.moved hW.alike hK, hD⟩⟩, hS.F ht⟩) hS.2.2 dX3_settle_52 hlocks
def qv_X3_settle (x1 : Int32) (z_least : Int32) (z_found : Int32) (z_with : Nat → Int32) (z_best : Nat → Int32) (Post : (Int32) → (Int32) → (Nat → Int32) → Prop) : Prop := (z_found = (0 : Int32) → qv_X3_settle_J16 x1 z_least z_found z_with z_best Post) ∧ (¬ z_found = (0 : Int32) → (x1 < z_least → qv_X3_settle_J16 x1 z_least z_found z_with z_best Post) ∧ (¬ x1 < z_least → Post z_least z_found z_best))
set_option maxHeartbeats 4000000 in
set_option maxRecDepth 100000 in
theorem qm_X3_settle (l : Launch) (dC : Nat → ClassId) (dI : Nat → Nat → Nat) (cI cJ cC cG cW : ClassId) (a_this a_this_with a_this_best : Nat) (z_least : Int32) (z_found : Int32) (z_with : Nat → Int32) (z_best : Nat → Int32) (sz : Nat) (x1 : Int32) (Post : (Int32) → (Int32) → (Nat → Int32) → Prop) (hV : qv_X3_settle x1 z_least z_found z_with z_best Post) : Met l yX3_settle wsX3_settle ({ frames := 0, cells := 0, slots := 0, locals := 0 } : Room) (va_Pc [.ref a_this, .int x1] (prW (dC, dI) (qw_X3_settle cI cJ cC cG cW a_this a_this_with a_this_best z_least z_found z_with z_best) (tyL cI cJ cC cG cW) sz)) (va_Qv (fun (u : (Int32) × (Int32) × (Nat → Int32)) => Post u.1 u.2.1 u.2.2) (fun u t => poW (dC, dI) (tyL cI cJ cC cG cW) (va_A (qw_X3_settle cI cJ cC cG cW a_this a_this_with a_this_best z_least z_found z_with z_best) sz) (qw_X3_settle cI cJ cC cG cW a_this a_this_with a_this_best u.1 u.2.1 z_with u.2.2) t) (va_A (qw_X3_settle cI cJ cC cG cW a_this a_this_with a_this_best z_least z_found z_with z_best) sz)) 0 0 (va_A (qw_X3_settle cI cJ cC cG cW a_this a_this_with a_this_best z_least z_found z_with z_best) sz) := by
  refine Met.ofM (Qc := fun A => va_Qv (fun (u : (Int32) × (Int32) × (Nat → Int32)) => Post u.1 u.2.1 u.2.2) (fun u t => poW (dC, dI) (tyL cI cJ cC cG cW) A (qw_X3_settle cI cJ cC cG cW a_this a_this_with a_this_best u.1 u.2.1 z_with u.2.2) t) A) (nm := "settle") (ds := "(I)V") (own := RX3) (maxL := 3) (cc := cX3_settle) (ret := none) (by decide) rfl rfl (Nat.le_of_ble_eq_true rfl) (fun p e s m below meth c A C0 hin hK hN hA hP hD hS ls hl => ?_)
  obtain ⟨hx, hb, hr, hml, hown, hts, hlocks⟩ := id C0
  have hl : lv_has ls 3 [(0, .ref a_this), (1, .int x1)] := hl
  obtain ⟨H, hH⟩ : ∃ h : Heap, h = s.heap := ⟨_, rfl⟩
  obtain ⟨locs, hLc⟩ : ∃ L : List Loc, L = [] := ⟨_, rfl⟩
  have hS : va_S A s.heap H locs := by rw [hH, hLc]; exact hS
  rw [← hH] at hP
  rw [← hLc, ← hH]
  clear hH hLc
  refine lv_aload_n hx hb dX3_settle_0 rfl (lv_at hl 0 rfl) ?_
  refine va_get (D := (dC, dI)) (ci := 3) (v := .int z_found) (C := RX3) (T := TX3) (N := 4) hx hb hts qi_X3_settle_X3 hown hK hP 0 rfl rfl 3 (by decide) (hts _ ql_X3_settle_22) (fun _ h9 => h9) rfl dX3_settle_1 ?_
  refine lv_if_eq (tgt := 16) hx hb dX3_settle_4 (by decide) (fun c1 => ?_) (fun c1 => ?_)
  · have hV := hV.1 c1
    exact qt_X3_settle_J16 C0 hK hN hA z_least z_found z_with z_best x1 _ H locs ls hV hP hD hS (lv_sub hl [0, 1] rfl)
  · have hV := hV.2 c1
    refine lv_iload_n hx hb dX3_settle_7 rfl (lv_at hl 1 rfl) ?_
    refine lv_aload_n hx hb dX3_settle_8 rfl (lv_at hl 0 rfl) ?_
    refine va_get (D := (dC, dI)) (ci := 3) (v := .int z_least) (C := RX3) (T := TX3) (N := 4) hx hb hts qi_X3_settle_X3 hown hK hP 0 rfl rfl 2 (by decide) (hts _ ql_X3_settle_18) (fun _ h9 => h9) rfl dX3_settle_9 ?_
    refine lv_icmp_lt (tgt := 16) hx hb dX3_settle_12 (by decide) (fun c6 => ?_) (fun c6 => ?_)
    · have hV := hV.1 c6
      exact qt_X3_settle_J16 C0 hK hN hA z_least z_found z_with z_best x1 _ H locs ls hV hP hD hS (lv_sub hl [0, 1] rfl)
    · have hV := hV.2 c6
      exact W.vret hx hb hr (fun t ht hW => ⟨⟨(z_least, z_found, z_best), rfl, hV, ⟨by rw [ht]; exact hP, va_K.moved hW.alike hK, hD⟩⟩, hS.F ht⟩) hS.2.2 dX3_settle_15 hlocks

/-! StileCounts$Text.at(I)C -/
abbrev qw_X5_at (cI cJ cC cG cW : ClassId) (a_this a_this_letters : Nat) (z_length : Int32) (z_letters : Nat → Int32) : va_W := [(a_this, .inr (5, [.ref a_this_letters, .int z_length])), (a_this_letters, .inl (cC, 200, .inl z_letters))]
theorem qi_X5_at_X5 : ∀ w ∈ wsX50, w ∈ wsX5_at := by decide +kernel
theorem ql_X5_at_15 : (.fieldLink RX5 15 "StileCounts$Text" "length" "I" : Cond) ∈ wsX5_at := by decide +kernel
theorem ql_X5_at_9 : (.fieldLink RX5 9 "StileCounts$Text" "letters" "[C" : Cond) ∈ wsX5_at := by decide +kernel
def qv_X5_at (x1 : Int32) (z_length : Int32) (z_letters : Nat → Int32) (Post : Int32 → Prop) : Prop := (x1 < (0 : Int32) → Post (0 : Int32)) ∧ (¬ x1 < (0 : Int32) → (z_length ≤ x1 → Post (0 : Int32)) ∧ (¬ z_length ≤ x1 → ((200 : Int32) ≤ x1 → Post (0 : Int32)) ∧ (¬ (200 : Int32) ≤ x1 → vp_in x1 200 ∧ (narrow .char (.int (z_letters x1.toNatClampNeg)) = .int (z_letters x1.toNatClampNeg) ∧ Post (z_letters x1.toNatClampNeg)))))
set_option maxHeartbeats 4000000 in
set_option maxRecDepth 100000 in
theorem qm_X5_at (l : Launch) (dC : Nat → ClassId) (dI : Nat → Nat → Nat) (cI cJ cC cG cW : ClassId) (a_this a_this_letters : Nat) (z_length : Int32) (z_letters : Nat → Int32) (x1 : Int32) (Post : Int32 → Prop) (hV : qv_X5_at x1 z_length z_letters Post) : Met l yX5_at wsX5_at ({ frames := 0, cells := 0, slots := 0, locals := 0 } : Room) (va_Pc [.ref a_this, .int x1] (prR (dC, dI) (qw_X5_at cI cJ cC cG cW a_this a_this_letters z_length z_letters) (tyL cI cJ cC cG cW))) (vp_Si Post) 0 0 (fun _ => False) := by
  refine Met.ofR (nm := "at") (ds := "(I)C") (own := RX5) (maxL := 2) (cc := cX5_at) (ret := (some .char)) (by decide) rfl rfl (Nat.le_of_ble_eq_true rfl) (fun p e s m below meth c C0 hK hN hP ls hl => ?_)
  obtain ⟨hx, hb, hr, hml, hown, hts, hlocks⟩ := id C0
  have hl : lv_has ls 2 [(0, .ref a_this), (1, .int x1)] := hl
  refine lv_iload_n hx hb dX5_at_0 rfl (lv_at hl 1 rfl) ?_
  refine lv_if_lt (tgt := 28) hx hb dX5_at_1 (by decide) (fun c1 => ?_) (fun c1 => ?_)
  · have hV := hV.1 c1
    refine lv_iconst (v := (0 : Int32)) hx hb dX5_at_28 (by decide) ?_
    exact W.zret hx hb hr rfl (fun t ht hW => ⟨_, rfl, hV, ht⟩) (fun q h => absurd h List.not_mem_nil) dX5_at_29 hlocks
  · have hV := hV.2 c1
    refine lv_iload_n hx hb dX5_at_4 rfl (lv_at hl 1 rfl) ?_
    refine lv_aload_n hx hb dX5_at_5 rfl (lv_at hl 0 rfl) ?_
    refine va_get (D := (dC, dI)) (ci := 5) (v := .int z_length) (C := RX5) (T := TX5) (N := 2) hx hb hts qi_X5_at_X5 hown hK hP 0 rfl rfl 1 (by decide) (hts _ ql_X5_at_15) (fun _ h9 => h9) rfl dX5_at_6 ?_
    refine lv_icmp_ge (tgt := 28) hx hb dX5_at_9 (by decide) (fun c2 => ?_) (fun c2 => ?_)
    · have hV := hV.1 c2
      refine lv_iconst (v := (0 : Int32)) hx hb dX5_at_28 (by decide) ?_
      exact W.zret hx hb hr rfl (fun t ht hW => ⟨_, rfl, hV, ht⟩) (fun q h => absurd h List.not_mem_nil) dX5_at_29 hlocks
    · have hV := hV.2 c2
      refine lv_iload_n hx hb dX5_at_12 rfl (lv_at hl 1 rfl) ?_
      refine lv_sipush (v := (200 : Int32)) hx hb dX5_at_13 (by decide) ?_
      refine lv_icmp_ge (tgt := 28) hx hb dX5_at_16 (by decide) (fun c3 => ?_) (fun c3 => ?_)
      · have hV := hV.1 c3
        refine lv_iconst (v := (0 : Int32)) hx hb dX5_at_28 (by decide) ?_
        exact W.zret hx hb hr rfl (fun t ht hW => ⟨_, rfl, hV, ht⟩) (fun q h => absurd h List.not_mem_nil) dX5_at_29 hlocks
      · have hV := hV.2 c3
        refine lv_aload_n hx hb dX5_at_19 rfl (lv_at hl 0 rfl) ?_
        refine va_get (D := (dC, dI)) (ci := 5) (v := .ref a_this_letters) (C := RX5) (T := TX5) (N := 2) hx hb hts qi_X5_at_X5 hown hK hP 0 rfl rfl 0 (by decide) (hts _ ql_X5_at_9) (fun _ h9 => h9) rfl dX5_at_20 ?_
        refine lv_iload_n hx hb dX5_at_23 rfl (lv_at hl 1 rfl) ?_
        obtain ⟨h4, hV⟩ := hV
        refine va_cald hx hb hK hP 1 2 rfl rfl h4 dX5_at_24 ?_
        refine lv_goto (tgt := 29) hx hb dX5_at_25 (by decide) ?_
        obtain ⟨hn5, hV⟩ := hV
        exact W.zret hx hb hr hn5 (fun t ht hW => ⟨_, rfl, hV, ht⟩) (fun q h => absurd h List.not_mem_nil) dX5_at_29 hlocks

/-! StileCounts$Reader.isFigure(C)Z -/
abbrev qw_X4_isFigure (cI cJ cC cG cW : ClassId) : va_W := []
def qv_X4_isFigure (x0 : Int32) (Post : Int32 → Prop) : Prop := (x0 < (48 : Int32) → Post (0 : Int32)) ∧ (¬ x0 < (48 : Int32) → ((57 : Int32) < x0 → Post (0 : Int32)) ∧ (¬ (57 : Int32) < x0 → Post (1 : Int32)))
set_option maxHeartbeats 4000000 in
set_option maxRecDepth 100000 in
theorem qm_X4_isFigure (l : Launch) (dC : Nat → ClassId) (dI : Nat → Nat → Nat) (cI cJ cC cG cW : ClassId) (x0 : Int32) (Post : Int32 → Prop) (hV : qv_X4_isFigure x0 Post) : Met l yX4_isFigure wsX4_isFigure ({ frames := 0, cells := 0, slots := 0, locals := 0 } : Room) (va_Pc [.int x0] (prR (dC, dI) (qw_X4_isFigure cI cJ cC cG cW) (tyL cI cJ cC cG cW))) (vp_Si Post) 0 0 (fun _ => False) := by
  refine Met.ofR (nm := "isFigure") (ds := "(C)Z") (own := RX4) (maxL := 1) (cc := cX4_isFigure) (ret := (some .boolean)) (by decide) rfl rfl (Nat.le_of_ble_eq_true rfl) (fun p e s m below meth c C0 hK hN hP ls hl => ?_)
  obtain ⟨hx, hb, hr, hml, hown, hts, hlocks⟩ := id C0
  have hl : lv_has ls 1 [(0, .int x0)] := hl
  refine lv_iload_n hx hb dX4_isFigure_0 rfl (lv_at hl 0 rfl) ?_
  refine lv_bipush (v := (48 : Int32)) hx hb dX4_isFigure_1 (by decide) ?_
  refine lv_icmp_lt (tgt := 16) hx hb dX4_isFigure_3 (by decide) (fun c1 => ?_) (fun c1 => ?_)
  · have hV := hV.1 c1
    refine lv_iconst (v := (0 : Int32)) hx hb dX4_isFigure_16 (by decide) ?_
    exact W.zret hx hb hr rfl (fun t ht hW => ⟨_, rfl, hV, ht⟩) (fun q h => absurd h List.not_mem_nil) dX4_isFigure_17 hlocks
  · have hV := hV.2 c1
    refine lv_iload_n hx hb dX4_isFigure_6 rfl (lv_at hl 0 rfl) ?_
    refine lv_bipush (v := (57 : Int32)) hx hb dX4_isFigure_7 (by decide) ?_
    refine lv_icmp_gt (tgt := 16) hx hb dX4_isFigure_9 (by decide) (fun c2 => ?_) (fun c2 => ?_)
    · have hV := hV.1 c2
      refine lv_iconst (v := (0 : Int32)) hx hb dX4_isFigure_16 (by decide) ?_
      exact W.zret hx hb hr rfl (fun t ht hW => ⟨_, rfl, hV, ht⟩) (fun q h => absurd h List.not_mem_nil) dX4_isFigure_17 hlocks
    · have hV := hV.2 c2
      refine lv_iconst (v := (1 : Int32)) hx hb dX4_isFigure_12 (by decide) ?_
      refine lv_goto (tgt := 17) hx hb dX4_isFigure_13 (by decide) ?_
      exact W.zret hx hb hr rfl (fun t ht hW => ⟨_, rfl, hV, ht⟩) (fun q h => absurd h List.not_mem_nil) dX4_isFigure_17 hlocks

/-! StileCounts$Reader.readNumber(LStileCounts$Text;I)Z -/
abbrev qw_X4_readNumber (cI cJ cC cG cW : ClassId) (a_this a_this_numbers a_p0 a_p0_letters : Nat) (z_place : Int32) (z_p0_length : Int32) (z_numbers : Nat → Int32) (z_p0_letters : Nat → Int32) : va_W := [(a_this, .inr (4, [.ref a_this_numbers, .int z_place])), (a_p0, .inr (5, [.ref a_p0_letters, .int z_p0_length])), (a_this_numbers, .inl (cI, 3, .inl z_numbers)), (a_p0_letters, .inl (cC, 200, .inl z_p0_letters))]
theorem qi_X4_readNumber_X4 : ∀ w ∈ wsX40, w ∈ wsX4_readNumber := by decide +kernel
theorem ql_X4_readNumber_20 : (.fieldLink RX4 20 "StileCounts$Reader" "place" "I" : Cond) ∈ wsX4_readNumber := by decide +kernel
theorem ql_X4_readNumber_11 : (.fieldLink RX4 11 "StileCounts$Reader" "numbers" "[I" : Cond) ∈ wsX4_readNumber := by decide +kernel
def qv_X4_readNumber (x2 : Int32) (z_place : Int32) (z_p0_length : Int32) (z_numbers : Nat → Int32) (z_p0_letters : Nat → Int32) (Post : Int32 → (Int32) → (Nat → Int32) → Prop) : Prop := qv_X5_at z_place z_p0_length z_p0_letters (fun r1 => qv_X4_isFigure r1 (fun r2 => (r2 = (0 : Int32) → Post (0 : Int32) z_place z_numbers) ∧ (¬ r2 = (0 : Int32) → qv_X5_at z_place z_p0_length z_p0_letters (fun r4 => vp_in x2 3 ∧ (qv_X5_at (z_place + (1 : Int32)) z_p0_length z_p0_letters (fun r6 => qv_X4_isFigure r6 (fun r7 => (r7 = (0 : Int32) → Post (1 : Int32) (z_place + (1 : Int32)) (upd z_numbers x2.toNatClampNeg (r4 - (48 : Int32)))) ∧ (¬ r7 = (0 : Int32) → vp_in x2 3 ∧ (qv_X5_at (z_place + (1 : Int32)) z_p0_length z_p0_letters (fun r10 => vp_in x2 3 ∧ (Post (1 : Int32) ((z_place + (1 : Int32)) + (1 : Int32)) (upd (upd z_numbers x2.toNatClampNeg (r4 - (48 : Int32))) x2.toNatClampNeg (((((upd z_numbers x2.toNatClampNeg (r4 - (48 : Int32))) x2.toNatClampNeg) * (10 : Int32)) + r10) - (48 : Int32))))))))))))))
set_option maxHeartbeats 4000000 in
set_option maxRecDepth 100000 in
theorem qm_X4_readNumber (l : Launch) (dC : Nat → ClassId) (dI : Nat → Nat → Nat) (cI cJ cC cG cW : ClassId) (a_this a_this_numbers a_p0 a_p0_letters : Nat) (z_place : Int32) (z_p0_length : Int32) (z_numbers : Nat → Int32) (z_p0_letters : Nat → Int32) (sz : Nat) (x2 : Int32) (Post : Int32 → (Int32) → (Nat → Int32) → Prop) (hV : qv_X4_readNumber x2 z_place z_p0_length z_numbers z_p0_letters Post) : Met l yX4_readNumber wsX4_readNumber ({ frames := 1, cells := 0, slots := 0, locals := 21 } : Room) (va_Pc [.ref a_this, .ref a_p0, .int x2] (prW (dC, dI) (qw_X4_readNumber cI cJ cC cG cW a_this a_this_numbers a_p0 a_p0_letters z_place z_p0_length z_numbers z_p0_letters) (tyL cI cJ cC cG cW) sz)) (va_Qi (fun (r : Int32) (u : (Int32) × (Nat → Int32)) => Post r u.1 u.2) (fun u t => poW (dC, dI) (tyL cI cJ cC cG cW) (va_A (qw_X4_readNumber cI cJ cC cG cW a_this a_this_numbers a_p0 a_p0_letters z_place z_p0_length z_numbers z_p0_letters) sz) (qw_X4_readNumber cI cJ cC cG cW a_this a_this_numbers a_p0 a_p0_letters u.1 z_p0_length u.2 z_p0_letters) t) (va_A (qw_X4_readNumber cI cJ cC cG cW a_this a_this_numbers a_p0 a_p0_letters z_place z_p0_length z_numbers z_p0_letters) sz)) 0 0 (va_A (qw_X4_readNumber cI cJ cC cG cW a_this a_this_numbers a_p0 a_p0_letters z_place z_p0_length z_numbers z_p0_letters) sz) := by
  refine Met.ofM (Qc := fun A => va_Qi (fun (r : Int32) (u : (Int32) × (Nat → Int32)) => Post r u.1 u.2) (fun u t => poW (dC, dI) (tyL cI cJ cC cG cW) A (qw_X4_readNumber cI cJ cC cG cW a_this a_this_numbers a_p0 a_p0_letters u.1 z_p0_length u.2 z_p0_letters) t) A) (nm := "readNumber") (ds := "(LStileCounts$Text;I)Z") (own := RX4) (maxL := 3) (cc := cX4_readNumber) (ret := (some .boolean)) (by decide) rfl rfl (Nat.le_of_ble_eq_true rfl) (fun p e s m below meth c A C0 hin hK hN hA hP hD hS ls hl => ?_)
  obtain ⟨hx, hb, hr, hml, hown, hts, hlocks⟩ := id C0
  have hl : lv_has ls 3 [(0, .ref a_this), (1, .ref a_p0), (2, .int x2)] := hl
  obtain ⟨H, hH⟩ : ∃ h : Heap, h = s.heap := ⟨_, rfl⟩
  obtain ⟨locs, hLc⟩ : ∃ L : List Loc, L = [] := ⟨_, rfl⟩
  have hS : va_S A s.heap H locs := by rw [hH, hLc]; exact hS
  rw [← hH] at hP
  rw [← hLc, ← hH]
  clear hH hLc
  refine lv_aload_n hx hb dX4_readNumber_0 rfl (lv_at hl 1 rfl) ?_
  refine lv_aload_n hx hb dX4_readNumber_1 rfl (lv_at hl 0 rfl) ?_
  refine va_get (D := (dC, dI)) (ci := 4) (v := .int z_place) (C := RX4) (T := TX4) (N := 2) hx hb hts qi_X4_readNumber_X4 hown hK hP 0 rfl rfl 1 (by decide) (hts _ ql_X4_readNumber_20) (fun _ h9 => h9) rfl dX4_readNumber_2 ?_
  refine vp_callSi (va_Run.run (va_runV (As := [.int z_place]) (rest := []) ⟨hx, hb, hml, hown, hts⟩ (qm_X5_at l dC dI cI cJ cC cG cW a_p0 a_p0_letters z_p0_length z_p0_letters z_place _ hV) (cwV 1 hts gX4_readNumber_X5_at rfl rfl rfl (by decide +kernel) ⟨Nat.le_of_ble_eq_true rfl, Nat.le_of_ble_eq_true rfl⟩) (preRV hK hN (hP.sub (ws' := (qw_X5_at cI cJ cC cG cW a_p0 a_p0_letters z_p0_length z_p0_letters)) [1, 3] rfl) rfl rfl) rfl rfl hl.1 rfl (lv_room (Nat.le_of_ble_eq_true rfl)) dX4_readNumber_5 ⟨Nat.le_of_ble_eq_true rfl, Nat.le_of_ble_eq_true rfl⟩)) (fun r1 hV => ?_)
  refine vp_callSi (va_Run.run (va_runS (As := [.int r1]) (rest := []) ⟨hx, hb, hml, hown, hts⟩ (qm_X4_isFigure l dC dI cI cJ cC cG cW r1 _ hV) (va_cwS 1 hts gX4_readNumber_X4_isFigure rfl rfl rfl (by decide +kernel) ⟨Nat.le_of_ble_eq_true rfl, Nat.le_of_ble_eq_true rfl⟩) (preRS hK hN (show va_P (dC, dI) vwCl (qw_X4_isFigure cI cJ cC cG cW) H from fun k q h => by simp at h)) rfl rfl hl.1 rfl (lv_room (Nat.le_of_ble_eq_true rfl)) dX4_readNumber_8 ⟨Nat.le_of_ble_eq_true rfl, Nat.le_of_ble_eq_true rfl⟩)) (fun r2 hV => ?_)
  refine lv_if_ne (tgt := 16) hx hb dX4_readNumber_11 (by decide) (fun c3 => ?_) (fun c3 => ?_)
  · have hV := hV.2 c3
    refine lv_aload_n hx hb dX4_readNumber_16 rfl (lv_at hl 0 rfl) ?_
    refine va_get (D := (dC, dI)) (ci := 4) (v := .ref a_this_numbers) (C := RX4) (T := TX4) (N := 2) hx hb hts qi_X4_readNumber_X4 hown hK hP 0 rfl rfl 0 (by decide) (hts _ ql_X4_readNumber_11) (fun _ h9 => h9) rfl dX4_readNumber_17 ?_
    refine lv_iload_n hx hb dX4_readNumber_20 rfl (lv_at hl 2 rfl) ?_
    refine lv_aload_n hx hb dX4_readNumber_21 rfl (lv_at hl 1 rfl) ?_
    refine lv_aload_n hx hb dX4_readNumber_22 rfl (lv_at hl 0 rfl) ?_
    refine va_get (D := (dC, dI)) (ci := 4) (v := .int z_place) (C := RX4) (T := TX4) (N := 2) hx hb hts qi_X4_readNumber_X4 hown hK hP 0 rfl rfl 1 (by decide) (hts _ ql_X4_readNumber_20) (fun _ h9 => h9) rfl dX4_readNumber_23 ?_
    refine vp_callSi (va_Run.run (va_runV (As := [.int z_place]) (rest := [.int x2, .ref a_this_numbers]) ⟨hx, hb, hml, hown, hts⟩ (qm_X5_at l dC dI cI cJ cC cG cW a_p0 a_p0_letters z_p0_length z_p0_letters z_place _ hV) (cwV 1 hts gX4_readNumber_X5_at rfl rfl rfl (by decide +kernel) ⟨Nat.le_of_ble_eq_true rfl, Nat.le_of_ble_eq_true rfl⟩) (preRV hK hN (hP.sub (ws' := (qw_X5_at cI cJ cC cG cW a_p0 a_p0_letters z_p0_length z_p0_letters)) [1, 3] rfl) rfl rfl) rfl rfl hl.1 rfl (lv_room (Nat.le_of_ble_eq_true rfl)) dX4_readNumber_26 ⟨Nat.le_of_ble_eq_true rfl, Nat.le_of_ble_eq_true rfl⟩)) (fun r4 hV => ?_)
    refine lv_bipush (v := (48 : Int32)) hx hb dX4_readNumber_29 (by decide) ?_
    refine lv_isub hx hb dX4_readNumber_31 ?_
    obtain ⟨h5, hV⟩ := hV
    refine va_iast hx hb hK hP hD hS 2 0 rfl rfl h5 dX4_readNumber_32 (fun H locs hP hD hS => ?_)
    have hP : va_P (dC, dI) vwCl (qw_X4_readNumber cI cJ cC cG cW a_this a_this_numbers a_p0 a_p0_letters z_place z_p0_length (upd z_numbers x2.toNatClampNeg (r4 - (48 : Int32))) z_p0_letters) H := hP
    have hD : va_D A (qw_X4_readNumber cI cJ cC cG cW a_this a_this_numbers a_p0 a_p0_letters z_place z_p0_length (upd z_numbers x2.toNatClampNeg (r4 - (48 : Int32))) z_p0_letters) := hD
    refine lv_aload_n hx hb dX4_readNumber_33 rfl (lv_at hl 0 rfl) ?_
    refine lv_dup hx hb dX4_readNumber_34 rfl ?_
    refine va_get (D := (dC, dI)) (ci := 4) (v := .int z_place) (C := RX4) (T := TX4) (N := 2) hx hb hts qi_X4_readNumber_X4 hown hK hP 0 rfl rfl 1 (by decide) (hts _ ql_X4_readNumber_20) (fun _ h9 => h9) rfl dX4_readNumber_35 ?_
    refine lv_iconst (v := (1 : Int32)) hx hb dX4_readNumber_38 (by decide) ?_
    refine lv_iadd hx hb dX4_readNumber_39 ?_
    refine va_put (D := (dC, dI)) (ci := 4) (v := .int (z_place + (1 : Int32))) (ty := .int) (C := RX4) (T := TX4) (N := 2) hx hb hts qi_X4_readNumber_X4 tyX4 tyX4_ok nmX4 hown hK hP hD hS 0 rfl rfl 1 (by decide) (hts _ ql_X4_readNumber_20) (fun _ h9 => h9) rfl (by decide +kernel) rfl rfl (Nat.le_of_ble_eq_true rfl) dX4_readNumber_40 (fun H locs hP hD hS => ?_)
    have hP : va_P (dC, dI) vwCl (qw_X4_readNumber cI cJ cC cG cW a_this a_this_numbers a_p0 a_p0_letters (z_place + (1 : Int32)) z_p0_length (upd z_numbers x2.toNatClampNeg (r4 - (48 : Int32))) z_p0_letters) H := hP
    have hD : va_D A (qw_X4_readNumber cI cJ cC cG cW a_this a_this_numbers a_p0 a_p0_letters (z_place + (1 : Int32)) z_p0_length (upd z_numbers x2.toNatClampNeg (r4 - (48 : Int32))) z_p0_letters) := hD
    refine lv_aload_n hx hb dX4_readNumber_43 rfl (lv_at hl 1 rfl) ?_
    refine lv_aload_n hx hb dX4_readNumber_44 rfl (lv_at hl 0 rfl) ?_
    refine va_get (D := (dC, dI)) (ci := 4) (v := .int (z_place + (1 : Int32))) (C := RX4) (T := TX4) (N := 2) hx hb hts qi_X4_readNumber_X4 hown hK hP 0 rfl rfl 1 (by decide) (hts _ ql_X4_readNumber_20) (fun _ h9 => h9) rfl dX4_readNumber_45 ?_
    refine vp_callSi (va_Run.run (va_runV (As := [.int (z_place + (1 : Int32))]) (rest := []) ⟨hx, hb, hml, hown, hts⟩ (qm_X5_at l dC dI cI cJ cC cG cW a_p0 a_p0_letters z_p0_length z_p0_letters (z_place + (1 : Int32)) _ hV) (cwV 1 hts gX4_readNumber_X5_at rfl rfl rfl (by decide +kernel) ⟨Nat.le_of_ble_eq_true rfl, Nat.le_of_ble_eq_true rfl⟩) (preRV hK hN (hP.sub (ws' := (qw_X5_at cI cJ cC cG cW a_p0 a_p0_letters z_p0_length z_p0_letters)) [1, 3] rfl) rfl rfl) rfl rfl hl.1 rfl (lv_room (Nat.le_of_ble_eq_true rfl)) dX4_readNumber_48 ⟨Nat.le_of_ble_eq_true rfl, Nat.le_of_ble_eq_true rfl⟩)) (fun r6 hV => ?_)
    refine vp_callSi (va_Run.run (va_runS (As := [.int r6]) (rest := []) ⟨hx, hb, hml, hown, hts⟩ (qm_X4_isFigure l dC dI cI cJ cC cG cW r6 _ hV) (va_cwS 1 hts gX4_readNumber_X4_isFigure rfl rfl rfl (by decide +kernel) ⟨Nat.le_of_ble_eq_true rfl, Nat.le_of_ble_eq_true rfl⟩) (preRS hK hN (show va_P (dC, dI) vwCl (qw_X4_isFigure cI cJ cC cG cW) H from fun k q h => by simp at h)) rfl rfl hl.1 rfl (lv_room (Nat.le_of_ble_eq_true rfl)) dX4_readNumber_51 ⟨Nat.le_of_ble_eq_true rfl, Nat.le_of_ble_eq_true rfl⟩)) (fun r7 hV => ?_)
    refine lv_if_eq (tgt := 94) hx hb dX4_readNumber_54 (by decide) (fun c8 => ?_) (fun c8 => ?_)
    · have hV := hV.1 c8
      refine lv_iconst (v := (1 : Int32)) hx hb dX4_readNumber_94 (by decide) ?_
      exact W.zret hx hb hr rfl (fun t ht hW => ⟨⟨_, ((z_place + (1 : Int32)), (upd z_numbers x2.toNatClampNeg (r4 - (48 : Int32)))), rfl, hV, ⟨by rw [ht]; exact hP, va_K.moved hW.alike hK, hD⟩⟩, hS.F ht⟩) hS.2.2 dX4_readNumber_95 hlocks
    · have hV := hV.2 c8
      refine lv_aload_n hx hb dX4_readNumber_57 rfl (lv_at hl 0 rfl) ?_
      refine va_get (D := (dC, dI)) (ci := 4) (v := .ref a_this_numbers) (C := RX4) (T := TX4) (N := 2) hx hb hts qi_X4_readNumber_X4 hown hK hP 0 rfl rfl 0 (by decide) (hts _ ql_X4_readNumber_11) (fun _ h9 => h9) rfl dX4_readNumber_58 ?_
      refine lv_iload_n hx hb dX4_readNumber_61 rfl (lv_at hl 2 rfl) ?_
      refine lv_aload_n hx hb dX4_readNumber_62 rfl (lv_at hl 0 rfl) ?_
      refine va_get (D := (dC, dI)) (ci := 4) (v := .ref a_this_numbers) (C := RX4) (T := TX4) (N := 2) hx hb hts qi_X4_readNumber_X4 hown hK hP 0 rfl rfl 0 (by decide) (hts _ ql_X4_readNumber_11) (fun _ h9 => h9) rfl dX4_readNumber_63 ?_
      refine lv_iload_n hx hb dX4_readNumber_66 rfl (lv_at hl 2 rfl) ?_
      obtain ⟨h9, hV⟩ := hV
      refine va_iald hx hb hK hP 2 0 rfl rfl h9 dX4_readNumber_67 ?_
      refine lv_bipush (v := (10 : Int32)) hx hb dX4_readNumber_68 (by decide) ?_
      refine lv_imul hx hb dX4_readNumber_70 ?_
      refine lv_aload_n hx hb dX4_readNumber_71 rfl (lv_at hl 1 rfl) ?_
      refine lv_aload_n hx hb dX4_readNumber_72 rfl (lv_at hl 0 rfl) ?_
      refine va_get (D := (dC, dI)) (ci := 4) (v := .int (z_place + (1 : Int32))) (C := RX4) (T := TX4) (N := 2) hx hb hts qi_X4_readNumber_X4 hown hK hP 0 rfl rfl 1 (by decide) (hts _ ql_X4_readNumber_20) (fun _ h9 => h9) rfl dX4_readNumber_73 ?_
      refine vp_callSi (va_Run.run (va_runV (As := [.int (z_place + (1 : Int32))]) (rest := [.int (((upd z_numbers x2.toNatClampNeg (r4 - (48 : Int32))) x2.toNatClampNeg) * (10 : Int32)), .int x2, .ref a_this_numbers]) ⟨hx, hb, hml, hown, hts⟩ (qm_X5_at l dC dI cI cJ cC cG cW a_p0 a_p0_letters z_p0_length z_p0_letters (z_place + (1 : Int32)) _ hV) (cwV 1 hts gX4_readNumber_X5_at rfl rfl rfl (by decide +kernel) ⟨Nat.le_of_ble_eq_true rfl, Nat.le_of_ble_eq_true rfl⟩) (preRV hK hN (hP.sub (ws' := (qw_X5_at cI cJ cC cG cW a_p0 a_p0_letters z_p0_length z_p0_letters)) [1, 3] rfl) rfl rfl) rfl rfl hl.1 rfl (lv_room (Nat.le_of_ble_eq_true rfl)) dX4_readNumber_76 ⟨Nat.le_of_ble_eq_true rfl, Nat.le_of_ble_eq_true rfl⟩)) (fun r10 hV => ?_)
      refine lv_iadd hx hb dX4_readNumber_79 ?_
      refine lv_bipush (v := (48 : Int32)) hx hb dX4_readNumber_80 (by decide) ?_
      refine lv_isub hx hb dX4_readNumber_82 ?_
      obtain ⟨h11, hV⟩ := hV
      refine va_iast hx hb hK hP hD hS 2 0 rfl rfl h11 dX4_readNumber_83 (fun H locs hP hD hS => ?_)
      have hP : va_P (dC, dI) vwCl (qw_X4_readNumber cI cJ cC cG cW a_this a_this_numbers a_p0 a_p0_letters (z_place + (1 : Int32)) z_p0_length (upd (upd z_numbers x2.toNatClampNeg (r4 - (48 : Int32))) x2.toNatClampNeg (((((upd z_numbers x2.toNatClampNeg (r4 - (48 : Int32))) x2.toNatClampNeg) * (10 : Int32)) + r10) - (48 : Int32))) z_p0_letters) H := hP
      have hD : va_D A (qw_X4_readNumber cI cJ cC cG cW a_this a_this_numbers a_p0 a_p0_letters (z_place + (1 : Int32)) z_p0_length (upd (upd z_numbers x2.toNatClampNeg (r4 - (48 : Int32))) x2.toNatClampNeg (((((upd z_numbers x2.toNatClampNeg (r4 - (48 : Int32))) x2.toNatClampNeg) * (10 : Int32)) + r10) - (48 : Int32))) z_p0_letters) := hD
      refine lv_aload_n hx hb dX4_readNumber_84 rfl (lv_at hl 0 rfl) ?_
      refine lv_dup hx hb dX4_readNumber_85 rfl ?_
      refine va_get (D := (dC, dI)) (ci := 4) (v := .int (z_place + (1 : Int32))) (C := RX4) (T := TX4) (N := 2) hx hb hts qi_X4_readNumber_X4 hown hK hP 0 rfl rfl 1 (by decide) (hts _ ql_X4_readNumber_20) (fun _ h9 => h9) rfl dX4_readNumber_86 ?_
      refine lv_iconst (v := (1 : Int32)) hx hb dX4_readNumber_89 (by decide) ?_
      refine lv_iadd hx hb dX4_readNumber_90 ?_
      refine va_put (D := (dC, dI)) (ci := 4) (v := .int ((z_place + (1 : Int32)) + (1 : Int32))) (ty := .int) (C := RX4) (T := TX4) (N := 2) hx hb hts qi_X4_readNumber_X4 tyX4 tyX4_ok nmX4 hown hK hP hD hS 0 rfl rfl 1 (by decide) (hts _ ql_X4_readNumber_20) (fun _ h9 => h9) rfl (by decide +kernel) rfl rfl (Nat.le_of_ble_eq_true rfl) dX4_readNumber_91 (fun H locs hP hD hS => ?_)
      have hP : va_P (dC, dI) vwCl (qw_X4_readNumber cI cJ cC cG cW a_this a_this_numbers a_p0 a_p0_letters ((z_place + (1 : Int32)) + (1 : Int32)) z_p0_length (upd (upd z_numbers x2.toNatClampNeg (r4 - (48 : Int32))) x2.toNatClampNeg (((((upd z_numbers x2.toNatClampNeg (r4 - (48 : Int32))) x2.toNatClampNeg) * (10 : Int32)) + r10) - (48 : Int32))) z_p0_letters) H := hP
      have hD : va_D A (qw_X4_readNumber cI cJ cC cG cW a_this a_this_numbers a_p0 a_p0_letters ((z_place + (1 : Int32)) + (1 : Int32)) z_p0_length (upd (upd z_numbers x2.toNatClampNeg (r4 - (48 : Int32))) x2.toNatClampNeg (((((upd z_numbers x2.toNatClampNeg (r4 - (48 : Int32))) x2.toNatClampNeg) * (10 : Int32)) + r10) - (48 : Int32))) z_p0_letters) := hD
      refine lv_iconst (v := (1 : Int32)) hx hb dX4_readNumber_94 (by decide) ?_
      exact W.zret hx hb hr rfl (fun t ht hW => ⟨⟨_, (((z_place + (1 : Int32)) + (1 : Int32)), (upd (upd z_numbers x2.toNatClampNeg (r4 - (48 : Int32))) x2.toNatClampNeg (((((upd z_numbers x2.toNatClampNeg (r4 - (48 : Int32))) x2.toNatClampNeg) * (10 : Int32)) + r10) - (48 : Int32)))), rfl, hV, ⟨by rw [ht]; exact hP, va_K.moved hW.alike hK, hD⟩⟩, hS.F ht⟩) hS.2.2 dX4_readNumber_95 hlocks
  · have hV := hV.1 c3
    refine lv_iconst (v := (0 : Int32)) hx hb dX4_readNumber_14 (by decide) ?_
    exact W.zret hx hb hr rfl (fun t ht hW => ⟨⟨_, (z_place, z_numbers), rfl, hV, ⟨by rw [ht]; exact hP, va_K.moved hW.alike hK, hD⟩⟩, hS.F ht⟩) hS.2.2 dX4_readNumber_15 hlocks
