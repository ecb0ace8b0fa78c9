/-! StileCounts$Chances.addUp()V -/
abbrev qw_X0_addUp (cI cJ cC cG cW : ClassId) (a_this a_this_of : Nat) (z_away : Int64) (z_all : Int64) (z_of : Nat → Int64) : va_W := [(a_this, .inr (0, [.ref a_this_of, .long z_away, .long z_all])), (a_this_of, .inl (cJ, 9, .inr (.inl z_of)))]
theorem qi_X0_addUp_X0 : ∀ w ∈ wsX00, w ∈ wsX0_addUp := by decide +kernel
theorem ql_X0_addUp_53 : (.fieldLink RX0 53 "StileCounts$Chances" "away" "J" : Cond) ∈ wsX0_addUp := by decide +kernel
theorem ql_X0_addUp_9 : (.fieldLink RX0 9 "StileCounts$Chances" "of" "[J" : Cond) ∈ wsX0_addUp := by decide +kernel
theorem ql_X0_addUp_37 : (.fieldLink RX0 37 "StileCounts$Chances" "all" "J" : Cond) ∈ wsX0_addUp := by decide +kernel
def qv_X0_addUp_L7 (z_all : Int64) (z_of : Nat → Int64) (Post : (Int64) → (Int64) → Prop) (E : (Int64) → Prop) : Nat → (Int32) → (Int64) → Prop
  | 0, _, _ => False
  | n + 1, x1, z_away => ((8 : Int32) < x1 → E z_away) ∧ (¬ (8 : Int32) < x1 → vp_in x1 9 ∧ (qv_X0_addUp_L7 z_all z_of Post E n (x1 + (1 : Int32)) (z_away + (z_of x1.toNatClampNeg))))
set_option maxHeartbeats 4000000 in
set_option maxRecDepth 100000 in
theorem qt_X0_addUp_L7 {p : Program} {l : Launch} {e : Env} {s : State} {m : MethodId} {args : Array Value} {below : List Frame} {meth : Method} {c : Code} {dC : Nat → ClassId} {dI : Nat → Nat → Nat} {cI cJ cC cG cW : ClassId} {a_this a_this_of : Nat} {A : Nat → Prop} (C0 : MC cX0_addUp 2 none RX0 wsX0_addUp p s m args meth c) (hK : va_K (dC, dI) vwCl (tyL cI cJ cC cG cW) s) (hN : NW s) (hA : ∀ q, s.heap.size ≤ q → A q) (z_all : Int64) (z_of : Nat → Int64) (Post : (Int64) → (Int64) → Prop) (E : (Int64) → Prop) (hE : ∀ (z_away : Int64) (H : Heap) (locs : List Loc) (ls : Array Slot), E z_away → va_P (dC, dI) vwCl (qw_X0_addUp cI cJ cC cG cW a_this a_this_of z_away z_all z_of) H → va_D A (qw_X0_addUp cI cJ cC cG cW a_this a_this_of z_away z_all z_of) → va_S A s.heap H locs → lv_has ls 2 [(0, .ref a_this)] → W p l e ({ frames := 0, cells := 0, slots := 0, locals := 0 } : Room) s m args below meth c H locs 0 0 (MQ below (va_Qv (fun (u : (Int64) × (Int64)) => Post u.1 u.2) (fun u t => poW (dC, dI) (tyL cI cJ cC cG cW) A (qw_X0_addUp cI cJ cC cG cW a_this a_this_of u.1 u.2 z_of) t) A) args s 0 0 A) (F0 m 34 ls [])) : ∀ (n : Nat) (x1 : Int32) (z_away : Int64) (H : Heap) (locs : List Loc) (ls : Array Slot), qv_X0_addUp_L7 z_all z_of Post E n x1 z_away → va_P (dC, dI) vwCl (qw_X0_addUp cI cJ cC cG cW a_this a_this_of z_away z_all z_of) H → va_D A (qw_X0_addUp cI cJ cC cG cW a_this a_this_of z_away z_all z_of) → va_S A s.heap H locs → lv_has ls 2 [(0, .ref a_this), (1, .int x1)] → W p l e ({ frames := 0, cells := 0, slots := 0, locals := 0 } : Room) s m args below meth c H locs 0 0 (MQ below (va_Qv (fun (u : (Int64) × (Int64)) => Post u.1 u.2) (fun u t => poW (dC, dI) (tyL cI cJ cC cG cW) A (qw_X0_addUp cI cJ cC cG cW a_this a_this_of u.1 u.2 z_of) t) A) args s 0 0 A) (F0 m 7 ls []) := by
  obtain ⟨hx, hb, hr, hml, hown, hts, hlocks⟩ := id C0
  intro n
  induction n with
  | zero =>
    intro x1 z_away H locs ls hV
    exact False.elim hV
  | succ n ih =>
    intro x1 z_away H locs ls hV hP hD hS hl
    refine lv_iload_n hx hb dX0_addUp_7 rfl (lv_at hl 1 rfl) ?_
    refine lv_bipush (v := (8 : Int32)) hx hb dX0_addUp_8 (by decide) ?_
    refine lv_icmp_gt (tgt := 34) hx hb dX0_addUp_10 (by decide) (fun c1 => ?_) (fun c1 => ?_)
    · have hV := hV.1 c1
      exact hE z_away H locs ls hV hP hD hS (lv_sub hl [0] rfl)
    · have hV := hV.2 c1
      refine lv_aload_n hx hb dX0_addUp_13 rfl (lv_at hl 0 rfl) ?_
      refine lv_dup hx hb dX0_addUp_14 rfl ?_
      refine va_get (D := (dC, dI)) (ci := 0) (v := .long z_away) (C := RX0) (T := TX0) (N := 3) hx hb hts qi_X0_addUp_X0 hown hK hP 0 rfl rfl 1 (by decide) (hts _ ql_X0_addUp_53) (fun _ h9 => h9) rfl dX0_addUp_15 ?_
      refine lv_aload_n hx hb dX0_addUp_18 rfl (lv_at hl 0 rfl) ?_
      refine va_get (D := (dC, dI)) (ci := 0) (v := .ref a_this_of) (C := RX0) (T := TX0) (N := 3) hx hb hts qi_X0_addUp_X0 hown hK hP 0 rfl rfl 0 (by decide) (hts _ ql_X0_addUp_9) (fun _ h9 => h9) rfl dX0_addUp_19 ?_
      refine lv_iload_n hx hb dX0_addUp_22 rfl (lv_at hl 1 rfl) ?_
      obtain ⟨h2, hV⟩ := hV
      refine va_lald hx hb hK hP 1 1 rfl rfl h2 dX0_addUp_23 ?_
      refine lv_ladd hx hb dX0_addUp_24 ?_
      refine va_put (D := (dC, dI)) (ci := 0) (v := .long (z_away + (z_of x1.toNatClampNeg))) (ty := .long) (C := RX0) (T := TX0) (N := 3) hx hb hts qi_X0_addUp_X0 tyX0 tyX0_ok nmX0 hown hK hP hD hS 0 rfl rfl 1 (by decide) (hts _ ql_X0_addUp_53) (fun _ h9 => h9) rfl (by decide +kernel) rfl rfl (Nat.le_of_ble_eq_true rfl) dX0_addUp_25 (fun H locs hP hD hS => ?_)
      have hP : va_P (dC, dI) vwCl (qw_X0_addUp cI cJ cC cG cW a_this a_this_of (z_away + (z_of x1.toNatClampNeg)) z_all z_of) H := hP
      have hD : va_D A (qw_X0_addUp cI cJ cC cG cW a_this a_this_of (z_away + (z_of x1.toNatClampNeg)) z_all z_of) := hD
      refine lv_iinc (v := (x1 + (1 : Int32))) (lv' := [(1, .int (x1 + (1 : Int32))), (0, .ref a_this)]) hx hb dX0_addUp_28 hl (k := 1) rfl rfl (by decide) rfl (fun ls hl => ?_)
      refine lv_goto (tgt := 7) hx hb dX0_addUp_31 (by decide) ?_
      exact ih (x1 + (1 : Int32)) (z_away + (z_of x1.toNatClampNeg)) H locs ls hV hP hD hS (lv_sub hl [1, 0] rfl)
def qv_X0_addUp (z_away : Int64) (z_all : Int64) (z_of : Nat → Int64) (Post : (Int64) → (Int64) → Prop) : Prop := ∃ n3, qv_X0_addUp_L7 z_all z_of Post (fun z_away_3 => vp_in (0 : Int32) 9 ∧ (Post z_away_3 ((z_of (0 : Int32).toNatClampNeg) + z_away_3))) n3 (1 : Int32) (0 : Int64)
set_option maxHeartbeats 4000000 in
set_option maxRecDepth 100000 in
theorem qm_X0_addUp (l : Launch) (dC : Nat → ClassId) (dI : Nat → Nat → Nat) (cI cJ cC cG cW : ClassId) (a_this a_this_of : Nat) (z_away : Int64) (z_all : Int64) (z_of : Nat → Int64) (sz : Nat) (Post : (Int64) → (Int64) → Prop) (hV : qv_X0_addUp z_away z_all z_of Post) : Met l yX0_addUp wsX0_addUp ({ frames := 0, cells := 0, slots := 0, locals := 0 } : Room) (va_Pc [.ref a_this] (prW (dC, dI) (qw_X0_addUp cI cJ cC cG cW a_this a_this_of z_away z_all z_of) (tyL cI cJ cC cG cW) sz)) (va_Qv (fun (u : (Int64) × (Int64)) => Post u.1 u.2) (fun u t => poW (dC, dI) (tyL cI cJ cC cG cW) (va_A (qw_X0_addUp cI cJ cC cG cW a_this a_this_of z_away z_all z_of) sz) (qw_X0_addUp cI cJ cC cG cW a_this a_this_of u.1 u.2 z_of) t) (va_A (qw_X0_addUp cI cJ cC cG cW a_this a_this_of z_away z_all z_of) sz)) 0 0 (va_A (qw_X0_addUp cI cJ cC cG cW a_this a_this_of z_away z_all z_of) sz) := by
  refine Met.ofM (Qc := fun A => va_Qv (fun (u : (Int64) × (Int64)) => Post u.1 u.2) (fun u t => poW (dC, dI) (tyL cI cJ cC cG cW) A (qw_X0_addUp cI cJ cC cG cW a_this a_this_of u.1 u.2 z_of) t) A) (nm := "addUp") (ds := "()V") (own := RX0) (maxL := 2) (cc := cX0_addUp) (ret := none) (by decide) rfl rfl (Nat.le_of_ble_eq_true rfl) (fun p e s m below meth c A C0 hin hK hN hA hP hD hS ls hl => ?_)
  obtain ⟨hx, hb, hr, hml, hown, hts, hlocks⟩ := id C0
  have hl : lv_has ls 2 [(0, .ref a_this)] := hl
  obtain ⟨H, hH⟩ : ∃ h : Heap, h = s.heap := ⟨_, rfl⟩
  obtain ⟨locs, hLc⟩ : ∃ L : List Loc, L = [] := ⟨_, rfl⟩
  have hS : va_S A s.heap H locs := by rw [hH, hLc]; exact hS
  rw [← hH] at hP
  rw [← hLc, ← hH]
  clear hH hLc
  refine lv_aload_n hx hb dX0_addUp_0 rfl (lv_at hl 0 rfl) ?_
  refine lv_lconst (v := (0 : Int64)) hx hb dX0_addUp_1 (by decide) ?_
  refine va_put (D := (dC, dI)) (ci := 0) (v := .long (0 : Int64)) (ty := .long) (C := RX0) (T := TX0) (N := 3) hx hb hts qi_X0_addUp_X0 tyX0 tyX0_ok nmX0 hown hK hP hD hS 0 rfl rfl 1 (by decide) (hts _ ql_X0_addUp_53) (fun _ h9 => h9) rfl (by decide +kernel) rfl rfl (Nat.le_of_ble_eq_true rfl) dX0_addUp_2 (fun H locs hP hD hS => ?_)
  have hP : va_P (dC, dI) vwCl (qw_X0_addUp cI cJ cC cG cW a_this a_this_of (0 : Int64) z_all z_of) H := hP
  have hD : va_D A (qw_X0_addUp cI cJ cC cG cW a_this a_this_of (0 : Int64) z_all z_of) := hD
  refine lv_iconst (v := (1 : Int32)) hx hb dX0_addUp_5 (by decide) ?_
  refine lv_istore_n (lv' := [(1, .int (1 : Int32)), (0, .ref a_this)]) hx hb dX0_addUp_6 rfl hl (by decide) rfl (fun ls hl => ?_)
  obtain ⟨n3, hV⟩ := hV
  refine qt_X0_addUp_L7 C0 hK hN hA z_all z_of _ _ (fun z_away_3 H locs ls hV hP hD hS hl => ?_) n3 (1 : Int32) (0 : Int64) H locs ls hV hP hD hS (lv_sub hl [1, 0] rfl)
  refine lv_aload_n hx hb dX0_addUp_34 rfl (lv_at hl 0 rfl) ?_
  refine lv_aload_n hx hb dX0_addUp_35 rfl (lv_at hl 0 rfl) ?_
  refine va_get (D := (dC, dI)) (ci := 0) (v := .ref a_this_of) (C := RX0) (T := TX0) (N := 3) hx hb hts qi_X0_addUp_X0 hown hK hP 0 rfl rfl 0 (by decide) (hts _ ql_X0_addUp_9) (fun _ h9 => h9) rfl dX0_addUp_36 ?_
  refine lv_iconst (v := (0 : Int32)) hx hb dX0_addUp_39 (by decide) ?_
  obtain ⟨h4, hV⟩ := hV
  refine va_lald hx hb hK hP 1 1 rfl rfl h4 dX0_addUp_40 ?_
  refine lv_aload_n hx hb dX0_addUp_41 rfl (lv_at hl 0 rfl) ?_
  refine va_get (D := (dC, dI)) (ci := 0) (v := .long z_away_3) (C := RX0) (T := TX0) (N := 3) hx hb hts qi_X0_addUp_X0 hown hK hP 0 rfl rfl 1 (by decide) (hts _ ql_X0_addUp_53) (fun _ h9 => h9) rfl dX0_addUp_42 ?_
  refine lv_ladd hx hb dX0_addUp_45 ?_
  refine va_put (D := (dC, dI)) (ci := 0) (v := .long ((z_of (0 : Int32).toNatClampNeg) + z_away_3)) (ty := .long) (C := RX0) (T := TX0) (N := 3) hx hb hts qi_X0_addUp_X0 tyX0 tyX0_ok nmX0 hown hK hP hD hS 0 rfl rfl 2 (by decide) (hts _ ql_X0_addUp_37) (fun _ h9 => h9) rfl (by decide +kernel) rfl rfl (Nat.le_of_ble_eq_true rfl) dX0_addUp_46 (fun H locs hP hD hS => ?_)
  have hP : va_P (dC, dI) vwCl (qw_X0_addUp cI cJ cC cG cW a_this a_this_of z_away_3 ((z_of (0 : Int32).toNatClampNeg) + z_away_3) z_of) H := hP
  have hD : va_D A (qw_X0_addUp cI cJ cC cG cW a_this a_this_of z_away_3 ((z_of (0 : Int32).toNatClampNeg) + z_away_3) z_of) := hD
  exact W.vret hx hb hr (fun t ht hW => ⟨⟨(z_away_3, ((z_of (0 : Int32).toNatClampNeg) + z_away_3)), rfl, hV, ⟨by rw [ht]; exact hP, va_K.moved hW.alike hK, hD⟩⟩, hS.F ht⟩) hS.2.2 dX0_addUp_49 hlocks

/-! StileCounts$Chances.begin()V -/
abbrev qw_X0_begin (cI cJ cC cG cW : ClassId) (a_this a_this_of : Nat) (z_away : Int64) (z_all : Int64) (z_of : Nat → Int64) : va_W := [(a_this, .inr (0, [.ref a_this_of, .long z_away, .long z_all])), (a_this_of, .inl (cJ, 9, .inr (.inl z_of)))]
theorem qi_X0_begin_X0 : ∀ w ∈ wsX00, w ∈ wsX0_begin := by decide +kernel
theorem ql_X0_begin_9 : (.fieldLink RX0 9 "StileCounts$Chances" "of" "[J" : Cond) ∈ wsX0_begin := by decide +kernel
def qv_X0_begin_L2 (z_away : Int64) (z_all : Int64) (Post : (Int64) → (Int64) → (Nat → Int64) → Prop) (E : (Nat → Int64) → Prop) : Nat → (Int32) → (Nat → Int64) → Prop
  | 0, _, _ => False
  | n + 1, x1, z_of => ((8 : Int32) < x1 → E z_of) ∧ (¬ (8 : Int32) < x1 → vp_in x1 9 ∧ (qv_X0_begin_L2 z_away z_all Post E n (x1 + (1 : Int32)) (vp_updL z_of x1.toNatClampNeg (0 : Int64))))
set_option maxHeartbeats 4000000 in
set_option maxRecDepth 100000 in
theorem qt_X0_begin_L2 {p : Program} {l : Launch} {e : Env} {s : State} {m : MethodId} {args : Array Value} {below : List Frame} {meth : Method} {c : Code} {dC : Nat → ClassId} {dI : Nat → Nat → Nat} {cI cJ cC cG cW : ClassId} {a_this a_this_of : Nat} {A : Nat → Prop} (C0 : MC cX0_begin 2 none RX0 wsX0_begin p s m args meth c) (hK : va_K (dC, dI) vwCl (tyL cI cJ cC cG cW) s) (hN : NW s) (hA : ∀ q, s.heap.size ≤ q → A q) (z_away : Int64) (z_all : Int64) (Post : (Int64) → (Int64) → (Nat → Int64) → Prop) (E : (Nat → Int64) → Prop) (hE : ∀ (z_of : Nat → Int64) (H : Heap) (locs : List Loc) (ls : Array Slot), E z_of → va_P (dC, dI) vwCl (qw_X0_begin cI cJ cC cG cW a_this a_this_of z_away z_all z_of) H → va_D A (qw_X0_begin cI cJ cC cG cW a_this a_this_of z_away z_all z_of) → va_S A s.heap H locs → lv_has ls 2 [(0, .ref a_this)] → W p l e ({ frames := 1, cells := 0, slots := 0, locals := 21 } : Room) s m args below meth c H locs 0 0 (MQ below (va_Qv (fun (u : (Int64) × (Int64) × (Nat → Int64)) => Post u.1 u.2.1 u.2.2) (fun u t => poW (dC, dI) (tyL cI cJ cC cG cW) A (qw_X0_begin cI cJ cC cG cW a_this a_this_of u.1 u.2.1 u.2.2) t) A) args s 0 0 A) (F0 m 21 ls [])) : ∀ (n : Nat) (x1 : Int32) (z_of : Nat → Int64) (H : Heap) (locs : List Loc) (ls : Array Slot), qv_X0_begin_L2 z_away z_all Post E n x1 z_of → va_P (dC, dI) vwCl (qw_X0_begin cI cJ cC cG cW a_this a_this_of z_away z_all z_of) H → va_D A (qw_X0_begin cI cJ cC cG cW a_this a_this_of z_away z_all z_of) → va_S A s.heap H locs → lv_has ls 2 [(0, .ref a_this), (1, .int x1)] → W p l e ({ frames := 1, cells := 0, slots := 0, locals := 21 } : Room) s m args below meth c H locs 0 0 (MQ below (va_Qv (fun (u : (Int64) × (Int64) × (Nat → Int64)) => Post u.1 u.2.1 u.2.2) (fun u t => poW (dC, dI) (tyL cI cJ cC cG cW) A (qw_X0_begin cI cJ cC cG cW a_this a_this_of u.1 u.2.1 u.2.2) t) A) args s 0 0 A) (F0 m 2 ls []) := by
  obtain ⟨hx, hb, hr, hml, hown, hts, hlocks⟩ := id C0
  intro n
  induction n with
  | zero =>
    intro x1 z_of H locs ls hV
    exact False.elim hV
  | succ n ih =>
    intro x1 z_of H locs ls hV hP hD hS hl
    refine lv_iload_n hx hb dX0_begin_2 rfl (lv_at hl 1 rfl) ?_
    refine lv_bipush (v := (8 : Int32)) hx hb dX0_begin_3 (by decide) ?_
    refine lv_icmp_gt (tgt := 21) hx hb dX0_begin_5 (by decide) (fun c1 => ?_) (fun c1 => ?_)
    · have hV := hV.1 c1
      exact hE z_of H locs ls hV hP hD hS (lv_sub hl [0] rfl)
    · have hV := hV.2 c1
      refine lv_aload_n hx hb dX0_begin_8 rfl (lv_at hl 0 rfl) ?_
      refine va_get (D := (dC, dI)) (ci := 0) (v := .ref a_this_of) (C := RX0) (T := TX0) (N := 3) hx hb hts qi_X0_begin_X0 hown hK hP 0 rfl rfl 0 (by decide) (hts _ ql_X0_begin_9) (fun _ h9 => h9) rfl dX0_begin_9 ?_
      refine lv_iload_n hx hb dX0_begin_12 rfl (lv_at hl 1 rfl) ?_
      refine lv_lconst (v := (0 : Int64)) hx hb dX0_begin_13 (by decide) ?_
      obtain ⟨h2, hV⟩ := hV
      refine va_last hx hb hK hP hD hS 1 1 rfl rfl h2 dX0_begin_14 (fun H locs hP hD hS => ?_)
      have hP : va_P (dC, dI) vwCl (qw_X0_begin cI cJ cC cG cW a_this a_this_of z_away z_all (vp_updL z_of x1.toNatClampNeg (0 : Int64))) H := hP
      have hD : va_D A (qw_X0_begin cI cJ cC cG cW a_this a_this_of z_away z_all (vp_updL z_of x1.toNatClampNeg (0 : Int64))) := hD
      refine lv_iinc (v := (x1 + (1 : Int32))) (lv' := [(1, .int (x1 + (1 : Int32))), (0, .ref a_this)]) hx hb dX0_begin_15 hl (k := 1) rfl rfl (by decide) rfl (fun ls hl => ?_)
      refine lv_goto (tgt := 2) hx hb dX0_begin_18 (by decide) ?_
      exact ih (x1 + (1 : Int32)) (vp_updL z_of x1.toNatClampNeg (0 : Int64)) H locs ls hV hP hD hS (lv_sub hl [1, 0] rfl)
def qv_X0_begin (z_away : Int64) (z_all : Int64) (z_of : Nat → Int64) (Post : (Int64) → (Int64) → (Nat → Int64) → Prop) : Prop := ∃ n3, qv_X0_begin_L2 z_away z_all Post (fun z_of_3 => vp_in (0 : Int32) 9 ∧ (qv_X0_addUp z_away z_all (vp_updL z_of_3 (0 : Int32).toNatClampNeg (1 : Int64)) (fun z_away_5 z_all_5 => Post z_away_5 z_all_5 (vp_updL z_of_3 (0 : Int32).toNatClampNeg (1 : Int64))))) n3 (0 : Int32) z_of
set_option maxHeartbeats 4000000 in
set_option maxRecDepth 100000 in
theorem qm_X0_begin (l : Launch) (dC : Nat → ClassId) (dI : Nat → Nat → Nat) (cI cJ cC cG cW : ClassId) (a_this a_this_of : Nat) (z_away : Int64) (z_all : Int64) (z_of : Nat → Int64) (sz : Nat) (Post : (Int64) → (Int64) → (Nat → Int64) → Prop) (hV : qv_X0_begin z_away z_all z_of Post) : Met l yX0_begin wsX0_begin ({ frames := 1, cells := 0, slots := 0, locals := 21 } : Room) (va_Pc [.ref a_this] (prW (dC, dI) (qw_X0_begin cI cJ cC cG cW a_this a_this_of z_away z_all z_of) (tyL cI cJ cC cG cW) sz)) (va_Qv (fun (u : (Int64) × (Int64) × (Nat → Int64)) => Post u.1 u.2.1 u.2.2) (fun u t => poW (dC, dI) (tyL cI cJ cC cG cW) (va_A (qw_X0_begin cI cJ cC cG cW a_this a_this_of z_away z_all z_of) sz) (qw_X0_begin cI cJ cC cG cW a_this a_this_of u.1 u.2.1 u.2.2) t) (va_A (qw_X0_begin cI cJ cC cG cW a_this a_this_of z_away z_all z_of) sz)) 0 0 (va_A (qw_X0_begin cI cJ cC cG cW a_this a_this_of z_away z_all z_of) sz) := by
  refine Met.ofM (Qc := fun A => va_Qv (fun (u : (Int64) × (Int64) × (Nat → Int64)) => Post u.1 u.2.1 u.2.2) (fun u t => poW (dC, dI) (tyL cI cJ cC cG cW) A (qw_X0_begin cI cJ cC cG cW a_this a_this_of u.1 u.2.1 u.2.2) t) A) (nm := "begin") (ds := "()V") (own := RX0) (maxL := 2) (cc := cX0_begin) (ret := none) (by decide) rfl rfl (Nat.le_of_ble_eq_true rfl) (fun p e s m below meth c A C0 hin hK hN hA hP hD hS ls hl => ?_)
  obtain ⟨hx, hb, hr, hml, hown, hts, hlocks⟩ := id C0
  have hl : lv_has ls 2 [(0, .ref a_this)] := hl
  obtain ⟨H, hH⟩ : ∃ h : Heap, h = s.heap := ⟨_, rfl⟩
  obtain ⟨locs, hLc⟩ : ∃ L : List Loc, L = [] := ⟨_, rfl⟩
  have hS : va_S A s.heap H locs := by rw [hH, hLc]; exact hS
  rw [← hH] at hP
  rw [← hLc, ← hH]
  clear hH hLc
  refine lv_iconst (v := (0 : Int32)) hx hb dX0_begin_0 (by decide) ?_
  refine lv_istore_n (lv' := [(1, .int (0 : Int32)), (0, .ref a_this)]) hx hb dX0_begin_1 rfl hl (by decide) rfl (fun ls hl => ?_)
  obtain ⟨n3, hV⟩ := hV
  refine qt_X0_begin_L2 C0 hK hN hA z_away z_all _ _ (fun z_of_3 H locs ls hV hP hD hS hl => ?_) n3 (0 : Int32) z_of H locs ls hV hP hD hS (lv_sub hl [1, 0] rfl)
  refine lv_aload_n hx hb dX0_begin_21 rfl (lv_at hl 0 rfl) ?_
  refine va_get (D := (dC, dI)) (ci := 0) (v := .ref a_this_of) (C := RX0) (T := TX0) (N := 3) hx hb hts qi_X0_begin_X0 hown hK hP 0 rfl rfl 0 (by decide) (hts _ ql_X0_begin_9) (fun _ h9 => h9) rfl dX0_begin_22 ?_
  refine lv_iconst (v := (0 : Int32)) hx hb dX0_begin_25 (by decide) ?_
  refine lv_lconst (v := (1 : Int64)) hx hb dX0_begin_26 (by decide) ?_
  obtain ⟨h4, hV⟩ := hV
  refine va_last hx hb hK hP hD hS 1 1 rfl rfl h4 dX0_begin_27 (fun H locs hP hD hS => ?_)
  have hP : va_P (dC, dI) vwCl (qw_X0_begin cI cJ cC cG cW a_this a_this_of z_away z_all (vp_updL z_of_3 (0 : Int32).toNatClampNeg (1 : Int64))) H := hP
  have hD : va_D A (qw_X0_begin cI cJ cC cG cW a_this a_this_of z_away z_all (vp_updL z_of_3 (0 : Int32).toNatClampNeg (1 : Int64))) := hD
  refine lv_aload_n hx hb dX0_begin_28 rfl (lv_at hl 0 rfl) ?_
  refine kW_v (wc := (qw_X0_addUp cI cJ cC cG cW a_this a_this_of z_away z_all (vp_updL z_of_3 (0 : Int32).toNatClampNeg (1 : Int64)))) (wr := List.filterMap (fun (i : Nat) => (qw_X0_begin cI cJ cC cG cW a_this a_this_of z_away z_all (vp_updL z_of_3 (0 : Int32).toNatClampNeg (1 : Int64)))[i]?) []) (w1 := fun (u : (Int64) × (Int64)) => (qw_X0_addUp cI cJ cC cG cW a_this a_this_of u.1 u.2 (vp_updL z_of_3 (0 : Int32).toNatClampNeg (1 : Int64)))) (va_runV (As := []) (rest := []) ⟨hx, hb, hml, hown, hts⟩ (qm_X0_addUp l dC dI cI cJ cC cG cW a_this a_this_of z_away z_all (vp_updL z_of_3 (0 : Int32).toNatClampNeg (1 : Int64)) H.size _ hV) (cwV 0 hts gX0_begin_X0_addUp rfl rfl rfl (by decide +kernel) ⟨Nat.le_of_ble_eq_true rfl, Nat.le_of_ble_eq_true rfl⟩) (preWV hK hN (show va_P (dC, dI) vwCl (qw_X0_addUp cI cJ cC cG cW a_this a_this_of z_away z_all (vp_updL z_of_3 (0 : Int32).toNatClampNeg (1 : Int64))) H from hP) (hD.sub (ws' := (qw_X0_addUp cI cJ cC cG cW a_this a_this_of z_away z_all (vp_updL z_of_3 (0 : Int32).toNatClampNeg (1 : Int64)))) [0, 1] (by decide) rfl) rfl rfl) rfl rfl hl.1 rfl (lv_room (Nat.le_of_ble_eq_true rfl)) dX0_begin_29 ⟨Nat.le_of_ble_eq_true rfl, Nat.le_of_ble_eq_true rfl⟩) hP hD hS hA [0, 1] [] rfl rfl (by decide) (by decide) (fun u H locs hV hP hD hS => ?_)
  obtain ⟨z_away_5, z_all_5⟩ := u
  try dsimp only at hV
  have hP := hP.sub (ws' := (qw_X0_begin cI cJ cC cG cW a_this a_this_of z_away_5 z_all_5 (vp_updL z_of_3 (0 : Int32).toNatClampNeg (1 : Int64)))) [0, 1] rfl
  have hD := hD.sub (ws' := (qw_X0_begin cI cJ cC cG cW a_this a_this_of z_away_5 z_all_5 (vp_updL z_of_3 (0 : Int32).toNatClampNeg (1 : Int64)))) [0, 1] (by decide) rfl
  exact W.vret hx hb hr (fun t ht hW => ⟨⟨(z_away_5, z_all_5, (vp_updL z_of_3 (0 : Int32).toNatClampNeg (1 : Int64))), rfl, hV, ⟨by rw [ht]; exact hP, va_K.moved hW.alike hK, hD⟩⟩, hS.F ht⟩) hS.2.2 dX0_begin_32 hlocks

/-! StileCounts$Chances.goTo(LStileCounts$Laid;II)V -/
abbrev qw_X0_goTo (cI cJ cC cG cW : ClassId) (a_this a_this_of a_p0 a_p0_minutes a_p0_lostBy a_p0_backBy a_p0_slips a_p0_takes a_p0_ties : Nat) (z_away : Int64) (z_all : Int64) (z_p0_stretches : Int32) (z_p0_costOn : Int32) (z_p0_costBack : Int32) (z_p0_foundBy : Int32) (z_p0_friends : Int32) (z_of : Nat → Int64) (z_p0_lostBy : Nat → Int32) (z_p0_backBy : Nat → Int32) : va_W := [(a_this, .inr (0, [.ref a_this_of, .long z_away, .long z_all])), (a_p0, .inr (2, [.int z_p0_stretches, .ref a_p0_minutes, .ref a_p0_lostBy, .ref a_p0_backBy, .ref a_p0_slips, .ref a_p0_takes, .int z_p0_costOn, .int z_p0_costBack, .int z_p0_foundBy, .int z_p0_friends, .ref a_p0_ties])), (a_this_of, .inl (cJ, 9, .inr (.inl z_of))), (a_p0_lostBy, .inl (cI, 9, .inl z_p0_lostBy)), (a_p0_backBy, .inl (cI, 9, .inl z_p0_backBy))]
theorem qi_X0_goTo_X0 : ∀ w ∈ wsX00, w ∈ wsX0_goTo := by decide +kernel
theorem ql_X0_goTo_9 : (.fieldLink RX0 9 "StileCounts$Chances" "of" "[J" : Cond) ∈ wsX0_goTo := by decide +kernel
theorem qi_X0_goTo_X2 : ∀ w ∈ wsX20, w ∈ wsX0_goTo := by decide +kernel
theorem ql_X0_goTo_48 : (.fieldLink RX0 48 "StileCounts$Laid" "lostBy" "[I" : Cond) ∈ wsX0_goTo := by decide +kernel
theorem ql_X0_goTo_53 : (.fieldLink RX0 53 "StileCounts$Chances" "away" "J" : Cond) ∈ wsX0_goTo := by decide +kernel
theorem ql_X0_goTo_56 : (.fieldLink RX0 56 "StileCounts$Laid" "backBy" "[I" : Cond) ∈ wsX0_goTo := by decide +kernel
def qv_X0_goTo_L48 (x3 : Int32) (x4 : Int32) (x5 : Int64) (z_away : Int64) (z_all : Int64) (z_p0_lostBy : Nat → Int32) (z_p0_backBy : Nat → Int32) (Post : (Int64) → (Int64) → (Nat → Int64) → Prop) (E : (Nat → Int64) → Prop) : Nat → (Int32) → (Nat → Int64) → Prop
  | 0, _, _ => False
  | n + 1, x7, z_of => (x4 ≤ x7 → E z_of) ∧ (¬ x4 ≤ x7 → vp_in x7 9 ∧ (vp_in x4 9 ∧ (vp_in x7 9 ∧ (qv_X0_goTo_L48 x3 x4 x5 z_away z_all z_p0_lostBy z_p0_backBy Post E n (x7 + (1 : Int32)) (vp_updL z_of x7.toNatClampNeg ((z_of x7.toNatClampNeg) * (((10 : Int32) - (z_p0_backBy x4.toNatClampNeg)).toInt64)))))))
set_option maxHeartbeats 4000000 in
set_option maxRecDepth 100000 in
theorem qt_X0_goTo_L48 {p : Program} {l : Launch} {e : Env} {s : State} {m : MethodId} {args : Array Value} {below : List Frame} {meth : Method} {c : Code} {dC : Nat → ClassId} {dI : Nat → Nat → Nat} {cI cJ cC cG cW : ClassId} {a_this a_this_of a_p0 a_p0_minutes a_p0_lostBy a_p0_backBy a_p0_slips a_p0_takes a_p0_ties : Nat} {A : Nat → Prop} (C0 : MC cX0_goTo 8 none RX0 wsX0_goTo p s m args meth c) (hK : va_K (dC, dI) vwCl (tyL cI cJ cC cG cW) s) (hN : NW s) (hA : ∀ q, s.heap.size ≤ q → A q) (z_away : Int64) (z_all : Int64) (z_p0_stretches : Int32) (z_p0_costOn : Int32) (z_p0_costBack : Int32) (z_p0_foundBy : Int32) (z_p0_friends : Int32) (z_p0_lostBy : Nat → Int32) (z_p0_backBy : Nat → Int32) (x3 : Int32) (x4 : Int32) (x5 : Int64) (Post : (Int64) → (Int64) → (Nat → Int64) → Prop) (E : (Nat → Int64) → Prop) (hE : ∀ (z_of : Nat → Int64) (H : Heap) (locs : List Loc) (ls : Array Slot), E z_of → va_P (dC, dI) vwCl (qw_X0_goTo cI cJ cC cG cW a_this a_this_of a_p0 a_p0_minutes a_p0_lostBy a_p0_backBy a_p0_slips a_p0_takes a_p0_ties z_away z_all z_p0_stretches z_p0_costOn z_p0_costBack z_p0_foundBy z_p0_friends z_of z_p0_lostBy z_p0_backBy) H → va_D A (qw_X0_goTo cI cJ cC cG cW a_this a_this_of a_p0 a_p0_minutes a_p0_lostBy a_p0_backBy a_p0_slips a_p0_takes a_p0_ties z_away z_all z_p0_stretches z_p0_costOn z_p0_costBack z_p0_foundBy z_p0_friends z_of z_p0_lostBy z_p0_backBy) → va_S A s.heap H locs → lv_has ls 8 [(0, .ref a_this), (1, .ref a_p0), (3, .int x3), (4, .int x4), (5, .long x5)] → W p l e ({ frames := 1, cells := 0, slots := 0, locals := 21 } : Room) s m args below meth c H locs 0 0 (MQ below (va_Qv (fun (u : (Int64) × (Int64) × (Nat → Int64)) => Post u.1 u.2.1 u.2.2) (fun u t => poW (dC, dI) (tyL cI cJ cC cG cW) A (qw_X0_goTo cI cJ cC cG cW a_this a_this_of a_p0 a_p0_minutes a_p0_lostBy a_p0_backBy a_p0_slips a_p0_takes a_p0_ties u.1 u.2.1 z_p0_stretches z_p0_costOn z_p0_costBack z_p0_foundBy z_p0_friends u.2.2 z_p0_lostBy z_p0_backBy) t) A) args s 0 0 A) (F0 m 82 ls [])) : ∀ (n : Nat) (x7 : Int32) (z_of : Nat → Int64) (H : Heap) (locs : List Loc) (ls : Array Slot), qv_X0_goTo_L48 x3 x4 x5 z_away z_all z_p0_lostBy z_p0_backBy Post E n x7 z_of → va_P (dC, dI) vwCl (qw_X0_goTo cI cJ cC cG cW a_this a_this_of a_p0 a_p0_minutes a_p0_lostBy a_p0_backBy a_p0_slips a_p0_takes a_p0_ties z_away z_all z_p0_stretches z_p0_costOn z_p0_costBack z_p0_foundBy z_p0_friends z_of z_p0_lostBy z_p0_backBy) H → va_D A (qw_X0_goTo cI cJ cC cG cW a_this a_this_of a_p0 a_p0_minutes a_p0_lostBy a_p0_backBy a_p0_slips a_p0_takes a_p0_ties z_away z_all z_p0_stretches z_p0_costOn z_p0_costBack z_p0_foundBy z_p0_friends z_of z_p0_lostBy z_p0_backBy) → va_S A s.heap H locs → lv_has ls 8 [(0, .ref a_this), (1, .ref a_p0), (3, .int x3), (4, .int x4), (5, .long x5), (7, .int x7)] → W p l e ({ frames := 1, cells := 0, slots := 0, locals := 21 } : Room) s m args below meth c H locs 0 0 (MQ below (va_Qv (fun (u : (Int64) × (Int64) × (Nat → Int64)) => Post u.1 u.2.1 u.2.2) (fun u t => poW (dC, dI) (tyL cI cJ cC cG cW) A (qw_X0_goTo cI cJ cC cG cW a_this a_this_of a_p0 a_p0_minutes a_p0_lostBy a_p0_backBy a_p0_slips a_p0_takes a_p0_ties u.1 u.2.1 z_p0_stretches z_p0_costOn z_p0_costBack z_p0_foundBy z_p0_friends u.2.2 z_p0_lostBy z_p0_backBy) t) A) args s 0 0 A) (F0 m 48 ls []) := by
  obtain ⟨hx, hb, hr, hml, hown, hts, hlocks⟩ := id C0
  intro n
  induction n with
  | zero =>
    intro x7 z_of H locs ls hV
    exact False.elim hV
  | succ n ih =>
    intro x7 z_of H locs ls hV hP hD hS hl
    refine lv_iload hx hb dX0_goTo_48 (lv_at hl 5 rfl) ?_
    refine lv_iload hx hb dX0_goTo_50 (lv_at hl 3 rfl) ?_
    refine lv_icmp_ge (tgt := 82) hx hb dX0_goTo_52 (by decide) (fun c5 => ?_) (fun c5 => ?_)
    · have hV := hV.1 c5
      exact hE z_of H locs ls hV hP hD hS (lv_sub hl [0, 1, 2, 3, 4] rfl)
    · have hV := hV.2 c5
      refine lv_aload_n hx hb dX0_goTo_55 rfl (lv_at hl 0 rfl) ?_
      refine va_get (D := (dC, dI)) (ci := 0) (v := .ref a_this_of) (C := RX0) (T := TX0) (N := 3) hx hb hts qi_X0_goTo_X0 hown hK hP 0 rfl rfl 0 (by decide) (hts _ ql_X0_goTo_9) (fun _ h9 => h9) rfl dX0_goTo_56 ?_
      refine lv_iload hx hb dX0_goTo_59 (lv_at hl 5 rfl) ?_
      refine lv_dup2_11 hx hb dX0_goTo_61 rfl rfl ?_
      obtain ⟨h6, hV⟩ := hV
      refine va_lald hx hb hK hP 2 1 rfl rfl h6 dX0_goTo_62 ?_
      refine lv_bipush (v := (10 : Int32)) hx hb dX0_goTo_63 (by decide) ?_
      refine lv_aload_n hx hb dX0_goTo_65 rfl (lv_at hl 1 rfl) ?_
      refine va_get (D := (dC, dI)) (ci := 2) (v := .ref a_p0_backBy) (C := RX2) (T := TX2) (N := 11) hx hb hts qi_X0_goTo_X2 hown hK hP 1 rfl rfl 3 (by decide) (hts _ ql_X0_goTo_56) (fun _ h9 => h9) rfl dX0_goTo_66 ?_
      refine lv_iload hx hb dX0_goTo_69 (lv_at hl 3 rfl) ?_
      obtain ⟨h7, hV⟩ := hV
      refine va_iald hx hb hK hP 4 0 rfl rfl h7 dX0_goTo_71 ?_
      refine lv_isub hx hb dX0_goTo_72 ?_
      refine lv_i2l hx hb dX0_goTo_73 rfl ?_
      refine lv_lmul hx hb dX0_goTo_74 ?_
      obtain ⟨h8, hV⟩ := hV
      refine va_last hx hb hK hP hD hS 2 1 rfl rfl h8 dX0_goTo_75 (fun H locs hP hD hS => ?_)
      have hP : va_P (dC, dI) vwCl (qw_X0_goTo cI cJ cC cG cW a_this a_this_of a_p0 a_p0_minutes a_p0_lostBy a_p0_backBy a_p0_slips a_p0_takes a_p0_ties z_away z_all z_p0_stretches z_p0_costOn z_p0_costBack z_p0_foundBy z_p0_friends (vp_updL z_of x7.toNatClampNeg ((z_of x7.toNatClampNeg) * (((10 : Int32) - (z_p0_backBy x4.toNatClampNeg)).toInt64))) z_p0_lostBy z_p0_backBy) H := hP
      have hD : va_D A (qw_X0_goTo cI cJ cC cG cW a_this a_this_of a_p0 a_p0_minutes a_p0_lostBy a_p0_backBy a_p0_slips a_p0_takes a_p0_ties z_away z_all z_p0_stretches z_p0_costOn z_p0_costBack z_p0_foundBy z_p0_friends (vp_updL z_of x7.toNatClampNeg ((z_of x7.toNatClampNeg) * (((10 : Int32) - (z_p0_backBy x4.toNatClampNeg)).toInt64))) z_p0_lostBy z_p0_backBy) := hD
      refine lv_iinc (v := (x7 + (1 : Int32))) (lv' := [(7, .int (x7 + (1 : Int32))), (0, .ref a_this), (1, .ref a_p0), (3, .int x3), (4, .int x4), (5, .long x5)]) hx hb dX0_goTo_76 hl (k := 5) rfl rfl (by decide) rfl (fun ls hl => ?_)
      refine lv_goto (tgt := 48) hx hb dX0_goTo_79 (by decide) ?_
      exact ih (x7 + (1 : Int32)) (vp_updL z_of x7.toNatClampNeg ((z_of x7.toNatClampNeg) * (((10 : Int32) - (z_p0_backBy x4.toNatClampNeg)).toInt64))) H locs ls hV hP hD hS (lv_sub hl [1, 2, 3, 4, 5, 0] rfl)
def qv_X0_goTo_L5 (x3 : Int32) (z_p0_lostBy : Nat → Int32) (z_p0_backBy : Nat → Int32) (Post : (Int64) → (Int64) → (Nat → Int64) → Prop) (E : (Int64) → (Int64) → (Nat → Int64) → Prop) : Nat → (Int32) → (Int64) → (Int64) → (Nat → Int64) → Prop
  | 0, _, _, _, _ => False
  | n + 1, x4, z_away, z_all, z_of => (x3 < x4 → E z_away z_all z_of) ∧ (¬ x3 < x4 → vp_in (0 : Int32) 9 ∧ (vp_in x4 9 ∧ (vp_in x4 9 ∧ (∃ n9, qv_X0_goTo_L48 x3 x4 (((z_of (0 : Int32).toNatClampNeg) * (((10 : Int32) - (z_p0_lostBy x4.toNatClampNeg)).toInt64)) + (z_away * ((z_p0_backBy x4.toNatClampNeg).toInt64))) z_away z_all z_p0_lostBy z_p0_backBy Post (fun z_of_9 => vp_in (0 : Int32) 9 ∧ (vp_in x4 9 ∧ (vp_in x4 9 ∧ (vp_in (0 : Int32) 9 ∧ (qv_X0_addUp z_away z_all (vp_updL (vp_updL z_of_9 x4.toNatClampNeg ((z_of_9 (0 : Int32).toNatClampNeg) * ((z_p0_lostBy x4.toNatClampNeg).toInt64))) (0 : Int32).toNatClampNeg (((z_of (0 : Int32).toNatClampNeg) * (((10 : Int32) - (z_p0_lostBy x4.toNatClampNeg)).toInt64)) + (z_away * ((z_p0_backBy x4.toNatClampNeg).toInt64)))) (fun z_away_14 z_all_14 => qv_X0_goTo_L5 x3 z_p0_lostBy z_p0_backBy Post E n (x4 + (1 : Int32)) z_away_14 z_all_14 (vp_updL (vp_updL z_of_9 x4.toNatClampNeg ((z_of_9 (0 : Int32).toNatClampNeg) * ((z_p0_lostBy x4.toNatClampNeg).toInt64))) (0 : Int32).toNatClampNeg (((z_of (0 : Int32).toNatClampNeg) * (((10 : Int32) - (z_p0_lostBy x4.toNatClampNeg)).toInt64)) + (z_away * ((z_p0_backBy x4.toNatClampNeg).toInt64)))))))))) n9 (1 : Int32) z_of))))
set_option maxHeartbeats 4000000 in
set_option maxRecDepth 100000 in
theorem qt_X0_goTo_L5 {p : Program} {l : Launch} {e : Env} {s : State} {m : MethodId} {args : Array Value} {below : List Frame} {meth : Method} {c : Code} {dC : Nat → ClassId} {dI : Nat → Nat → Nat} {cI cJ cC cG cW : ClassId} {a_this a_this_of a_p0 a_p0_minutes a_p0_lostBy a_p0_backBy a_p0_slips a_p0_takes a_p0_ties : Nat} {A : Nat → Prop} (C0 : MC cX0_goTo 8 none RX0 wsX0_goTo p s m args meth c) (hK : va_K (dC, dI) vwCl (tyL cI cJ cC cG cW) s) (hN : NW s) (hA : ∀ q, s.heap.size ≤ q → A q) (z_p0_stretches : Int32) (z_p0_costOn : Int32) (z_p0_costBack : Int32) (z_p0_foundBy : Int32) (z_p0_friends : Int32) (z_p0_lostBy : Nat → Int32) (z_p0_backBy : Nat → Int32) (x3 : Int32) (Post : (Int64) → (Int64) → (Nat → Int64) → Prop) (E : (Int64) → (Int64) → (Nat → Int64) → Prop) (hE : ∀ (z_away : Int64) (z_all : Int64) (z_of : Nat → Int64) (H : Heap) (locs : List Loc) (ls : Array Slot), E z_away z_all z_of → va_P (dC, dI) vwCl (qw_X0_goTo cI cJ cC cG cW a_this a_this_of a_p0 a_p0_minutes a_p0_lostBy a_p0_backBy a_p0_slips a_p0_takes a_p0_ties z_away z_all z_p0_stretches z_p0_costOn z_p0_costBack z_p0_foundBy z_p0_friends z_of z_p0_lostBy z_p0_backBy) H → va_D A (qw_X0_goTo cI cJ cC cG cW a_this a_this_of a_p0 a_p0_minutes a_p0_lostBy a_p0_backBy a_p0_slips a_p0_takes a_p0_ties z_away z_all z_p0_stretches z_p0_costOn z_p0_costBack z_p0_foundBy z_p0_friends z_of z_p0_lostBy z_p0_backBy) → va_S A s.heap H locs → lv_has ls 8 [] → W p l e ({ frames := 1, cells := 0, slots := 0, locals := 21 } : Room) s m args below meth c H locs 0 0 (MQ below (va_Qv (fun (u : (Int64) × (Int64) × (Nat → Int64)) => Post u.1 u.2.1 u.2.2) (fun u t => poW (dC, dI) (tyL cI cJ cC cG cW) A (qw_X0_goTo cI cJ cC cG cW a_this a_this_of a_p0 a_p0_minutes a_p0_lostBy a_p0_backBy a_p0_slips a_p0_takes a_p0_ties u.1 u.2.1 z_p0_stretches z_p0_costOn z_p0_costBack z_p0_foundBy z_p0_friends u.2.2 z_p0_lostBy z_p0_backBy) t) A) args s 0 0 A) (F0 m 122 ls [])) : ∀ (n : Nat) (x4 : Int32) (z_away : Int64) (z_all : Int64) (z_of : Nat → Int64) (H : Heap) (locs : List Loc) (ls : Array Slot), qv_X0_goTo_L5 x3 z_p0_lostBy z_p0_backBy Post E n x4 z_away z_all z_of → va_P (dC, dI) vwCl (qw_X0_goTo cI cJ cC cG cW a_this a_this_of a_p0 a_p0_minutes a_p0_lostBy a_p0_backBy a_p0_slips a_p0_takes a_p0_ties z_away z_all z_p0_stretches z_p0_costOn z_p0_costBack z_p0_foundBy z_p0_friends z_of z_p0_lostBy z_p0_backBy) H → va_D A (qw_X0_goTo cI cJ cC cG cW a_this a_this_of a_p0 a_p0_minutes a_p0_lostBy a_p0_backBy a_p0_slips a_p0_takes a_p0_ties z_away z_all z_p0_stretches z_p0_costOn z_p0_costBack z_p0_foundBy z_p0_friends z_of z_p0_lostBy z_p0_backBy) → va_S A s.heap H locs → lv_has ls 8 [(0, .ref a_this), (1, .ref a_p0), (3, .int x3), (4, .int x4)] → W p l e ({ frames := 1, cells := 0, slots := 0, locals := 21 } : Room) s m args below meth c H locs 0 0 (MQ below (va_Qv (fun (u : (Int64) × (Int64) × (Nat → Int64)) => Post u.1 u.2.1 u.2.2) (fun u t => poW (dC, dI) (tyL cI cJ cC cG cW) A (qw_X0_goTo cI cJ cC cG cW a_this a_this_of a_p0 a_p0_minutes a_p0_lostBy a_p0_backBy a_p0_slips a_p0_takes a_p0_ties u.1 u.2.1 z_p0_stretches z_p0_costOn z_p0_costBack z_p0_foundBy z_p0_friends u.2.2 z_p0_lostBy z_p0_backBy) t) A) args s 0 0 A) (F0 m 5 ls []) := by
  obtain ⟨hx, hb, hr, hml, hown, hts, hlocks⟩ := id C0
  intro n
  induction n with
  | zero =>
    intro x4 z_away z_all z_of H locs ls hV
    exact False.elim hV
  | succ n ih =>
    intro x4 z_away z_all z_of H locs ls hV hP hD hS hl
    refine lv_iload hx hb dX0_goTo_5 (lv_at hl 3 rfl) ?_
    refine lv_iload_n hx hb dX0_goTo_7 rfl (lv_at hl 2 rfl) ?_
    refine lv_icmp_gt (tgt := 122) hx hb dX0_goTo_8 (by decide) (fun c1 => ?_) (fun c1 => ?_)
    · have hV := hV.1 c1
      exact hE z_away z_all z_of H locs ls hV hP hD hS (lv_sub hl [] rfl)
    · have hV := hV.2 c1
      refine lv_aload_n hx hb dX0_goTo_11 rfl (lv_at hl 0 rfl) ?_
      refine va_get (D := (dC, dI)) (ci := 0) (v := .ref a_this_of) (C := RX0) (T := TX0) (N := 3) hx hb hts qi_X0_goTo_X0 hown hK hP 0 rfl rfl 0 (by decide) (hts _ ql_X0_goTo_9) (fun _ h9 => h9) rfl dX0_goTo_12 ?_
      refine lv_iconst (v := (0 : Int32)) hx hb dX0_goTo_15 (by decide) ?_
      obtain ⟨h2, hV⟩ := hV
      refine va_lald hx hb hK hP 2 1 rfl rfl h2 dX0_goTo_16 ?_
      refine lv_bipush (v := (10 : Int32)) hx hb dX0_goTo_17 (by decide) ?_
      refine lv_aload_n hx hb dX0_goTo_19 rfl (lv_at hl 1 rfl) ?_
      refine va_get (D := (dC, dI)) (ci := 2) (v := .ref a_p0_lostBy) (C := RX2) (T := TX2) (N := 11) hx hb hts qi_X0_goTo_X2 hown hK hP 1 rfl rfl 2 (by decide) (hts _ ql_X0_goTo_48) (fun _ h9 => h9) rfl dX0_goTo_20 ?_
      refine lv_iload hx hb dX0_goTo_23 (lv_at hl 3 rfl) ?_
      obtain ⟨h3, hV⟩ := hV
      refine va_iald hx hb hK hP 3 0 rfl rfl h3 dX0_goTo_25 ?_
      refine lv_isub hx hb dX0_goTo_26 ?_
      refine lv_i2l hx hb dX0_goTo_27 rfl ?_
      refine lv_lmul hx hb dX0_goTo_28 ?_
      refine lv_aload_n hx hb dX0_goTo_29 rfl (lv_at hl 0 rfl) ?_
      refine va_get (D := (dC, dI)) (ci := 0) (v := .long z_away) (C := RX0) (T := TX0) (N := 3) hx hb hts qi_X0_goTo_X0 hown hK hP 0 rfl rfl 1 (by decide) (hts _ ql_X0_goTo_53) (fun _ h9 => h9) rfl dX0_goTo_30 ?_
      refine lv_aload_n hx hb dX0_goTo_33 rfl (lv_at hl 1 rfl) ?_
      refine va_get (D := (dC, dI)) (ci := 2) (v := .ref a_p0_backBy) (C := RX2) (T := TX2) (N := 11) hx hb hts qi_X0_goTo_X2 hown hK hP 1 rfl rfl 3 (by decide) (hts _ ql_X0_goTo_56) (fun _ h9 => h9) rfl dX0_goTo_34 ?_
      refine lv_iload hx hb dX0_goTo_37 (lv_at hl 3 rfl) ?_
      obtain ⟨h4, hV⟩ := hV
      refine va_iald hx hb hK hP 4 0 rfl rfl h4 dX0_goTo_39 ?_
      refine lv_i2l hx hb dX0_goTo_40 rfl ?_
      refine lv_lmul hx hb dX0_goTo_41 ?_
      refine lv_ladd hx hb dX0_goTo_42 ?_
      refine lv_lstore (lv' := [(5, .long (((z_of (0 : Int32).toNatClampNeg) * (((10 : Int32) - (z_p0_lostBy x4.toNatClampNeg)).toInt64)) + (z_away * ((z_p0_backBy x4.toNatClampNeg).toInt64)))), (0, .ref a_this), (1, .ref a_p0), (3, .int x3), (4, .int x4)]) hx hb dX0_goTo_43 hl (by decide) rfl (fun ls hl => ?_)
      refine lv_iconst (v := (1 : Int32)) hx hb dX0_goTo_45 (by decide) ?_
      refine lv_istore (lv' := [(7, .int (1 : Int32)), (5, .long (((z_of (0 : Int32).toNatClampNeg) * (((10 : Int32) - (z_p0_lostBy x4.toNatClampNeg)).toInt64)) + (z_away * ((z_p0_backBy x4.toNatClampNeg).toInt64)))), (0, .ref a_this), (1, .ref a_p0), (3, .int x3), (4, .int x4)]) hx hb dX0_goTo_46 hl (by decide) rfl (fun ls hl => ?_)
      obtain ⟨n9, hV⟩ := hV
      refine qt_X0_goTo_L48 C0 hK hN hA z_away z_all z_p0_stretches z_p0_costOn z_p0_costBack z_p0_foundBy z_p0_friends z_p0_lostBy z_p0_backBy x3 x4 (((z_of (0 : Int32).toNatClampNeg) * (((10 : Int32) - (z_p0_lostBy x4.toNatClampNeg)).toInt64)) + (z_away * ((z_p0_backBy x4.toNatClampNeg).toInt64))) _ _ (fun z_of_9 H locs ls hV hP hD hS hl => ?_) n9 (1 : Int32) z_of H locs ls hV hP hD hS (lv_sub hl [2, 3, 4, 5, 1, 0] rfl)
      refine lv_aload_n hx hb dX0_goTo_82 rfl (lv_at hl 0 rfl) ?_
      refine va_get (D := (dC, dI)) (ci := 0) (v := .ref a_this_of) (C := RX0) (T := TX0) (N := 3) hx hb hts qi_X0_goTo_X0 hown hK hP 0 rfl rfl 0 (by decide) (hts _ ql_X0_goTo_9) (fun _ h9 => h9) rfl dX0_goTo_83 ?_
      refine lv_iload hx hb dX0_goTo_86 (lv_at hl 3 rfl) ?_
      refine lv_aload_n hx hb dX0_goTo_88 rfl (lv_at hl 0 rfl) ?_
      refine va_get (D := (dC, dI)) (ci := 0) (v := .ref a_this_of) (C := RX0) (T := TX0) (N := 3) hx hb hts qi_X0_goTo_X0 hown hK hP 0 rfl rfl 0 (by decide) (hts _ ql_X0_goTo_9) (fun _ h9 => h9) rfl dX0_goTo_89 ?_
      refine lv_iconst (v := (0 : Int32)) hx hb dX0_goTo_92 (by decide) ?_
      obtain ⟨h10, hV⟩ := hV
      refine va_lald hx hb hK hP 2 1 rfl rfl h10 dX0_goTo_93 ?_
      refine lv_aload_n hx hb dX0_goTo_94 rfl (lv_at hl 1 rfl) ?_
      refine va_get (D := (dC, dI)) (ci := 2) (v := .ref a_p0_lostBy) (C := RX2) (T := TX2) (N := 11) hx hb hts qi_X0_goTo_X2 hown hK hP 1 rfl rfl 2 (by decide) (hts _ ql_X0_goTo_48) (fun _ h9 => h9) rfl dX0_goTo_95 ?_
      refine lv_iload hx hb dX0_goTo_98 (lv_at hl 3 rfl) ?_
      obtain ⟨h11, hV⟩ := hV
      refine va_iald hx hb hK hP 3 0 rfl rfl h11 dX0_goTo_100 ?_
      refine lv_i2l hx hb dX0_goTo_101 rfl ?_
      refine lv_lmul hx hb dX0_goTo_102 ?_
      obtain ⟨h12, hV⟩ := hV
      refine va_last hx hb hK hP hD hS 2 1 rfl rfl h12 dX0_goTo_103 (fun H locs hP hD hS => ?_)
      have hP : va_P (dC, dI) vwCl (qw_X0_goTo cI cJ cC cG cW a_this a_this_of a_p0 a_p0_minutes a_p0_lostBy a_p0_backBy a_p0_slips a_p0_takes a_p0_ties z_away z_all z_p0_stretches z_p0_costOn z_p0_costBack z_p0_foundBy z_p0_friends (vp_updL z_of_9 x4.toNatClampNeg ((z_of_9 (0 : Int32).toNatClampNeg) * ((z_p0_lostBy x4.toNatClampNeg).toInt64))) z_p0_lostBy z_p0_backBy) H := hP
      have hD : va_D A (qw_X0_goTo cI cJ cC cG cW a_this a_this_of a_p0 a_p0_minutes a_p0_lostBy a_p0_backBy a_p0_slips a_p0_takes a_p0_ties z_away z_all z_p0_stretches z_p0_costOn z_p0_costBack z_p0_foundBy z_p0_friends (vp_updL z_of_9 x4.toNatClampNeg ((z_of_9 (0 : Int32).toNatClampNeg) * ((z_p0_lostBy x4.toNatClampNeg).toInt64))) z_p0_lostBy z_p0_backBy) := hD
      refine lv_aload_n hx hb dX0_goTo_104 rfl (lv_at hl 0 rfl) ?_
      refine va_get (D := (dC, dI)) (ci := 0) (v := .ref a_this_of) (C := RX0) (T := TX0) (N := 3) hx hb hts qi_X0_goTo_X0 hown hK hP 0 rfl rfl 0 (by decide) (hts _ ql_X0_goTo_9) (fun _ h9 => h9) rfl dX0_goTo_105 ?_
      refine lv_iconst (v := (0 : Int32)) hx hb dX0_goTo_108 (by decide) ?_
      refine lv_lload hx hb dX0_goTo_109 (lv_at hl 4 rfl) ?_
      obtain ⟨h13, hV⟩ := hV
      refine va_last hx hb hK hP hD hS 2 1 rfl rfl h13 dX0_goTo_111 (fun H locs hP hD hS => ?_)
      have hP : va_P (dC, dI) vwCl (qw_X0_goTo cI cJ cC cG cW a_this a_this_of a_p0 a_p0_minutes a_p0_lostBy a_p0_backBy a_p0_slips a_p0_takes a_p0_ties z_away z_all z_p0_stretches z_p0_costOn z_p0_costBack z_p0_foundBy z_p0_friends (vp_updL (vp_updL z_of_9 x4.toNatClampNeg ((z_of_9 (0 : Int32).toNatClampNeg) * ((z_p0_lostBy x4.toNatClampNeg).toInt64))) (0 : Int32).toNatClampNeg (((z_of (0 : Int32).toNatClampNeg) * (((10 : Int32) - (z_p0_lostBy x4.toNatClampNeg)).toInt64)) + (z_away * ((z_p0_backBy x4.toNatClampNeg).toInt64)))) z_p0_lostBy z_p0_backBy) H := hP
      have hD : va_D A (qw_X0_goTo cI cJ cC cG cW a_this a_this_of a_p0 a_p0_minutes a_p0_lostBy a_p0_backBy a_p0_slips a_p0_takes a_p0_ties z_away z_all z_p0_stretches z_p0_costOn z_p0_costBack z_p0_foundBy z_p0_friends (vp_updL (vp_updL z_of_9 x4.toNatClampNeg ((z_of_9 (0 : Int32).toNatClampNeg) * ((z_p0_lostBy x4.toNatClampNeg).toInt64))) (0 : Int32).toNatClampNeg (((z_of (0 : Int32).toNatClampNeg) * (((10 : Int32) - (z_p0_lostBy x4.toNatClampNeg)).toInt64)) + (z_away * ((z_p0_backBy x4.toNatClampNeg).toInt64)))) z_p0_lostBy z_p0_backBy) := hD
      refine lv_aload_n hx hb dX0_goTo_112 rfl (lv_at hl 0 rfl) ?_
      refine kW_v (wc := (qw_X0_addUp cI cJ cC cG cW a_this a_this_of z_away z_all (vp_updL (vp_updL z_of_9 x4.toNatClampNeg ((z_of_9 (0 : Int32).toNatClampNeg) * ((z_p0_lostBy x4.toNatClampNeg).toInt64))) (0 : Int32).toNatClampNeg (((z_of (0 : Int32).toNatClampNeg) * (((10 : Int32) - (z_p0_lostBy x4.toNatClampNeg)).toInt64)) + (z_away * ((z_p0_backBy x4.toNatClampNeg).toInt64)))))) (wr := List.filterMap (fun (i : Nat) => (qw_X0_goTo cI cJ cC cG cW a_this a_this_of a_p0 a_p0_minutes a_p0_lostBy a_p0_backBy a_p0_slips a_p0_takes a_p0_ties z_away z_all z_p0_stretches z_p0_costOn z_p0_costBack z_p0_foundBy z_p0_friends (vp_updL (vp_updL z_of_9 x4.toNatClampNeg ((z_of_9 (0 : Int32).toNatClampNeg) * ((z_p0_lostBy x4.toNatClampNeg).toInt64))) (0 : Int32).toNatClampNeg (((z_of (0 : Int32).toNatClampNeg) * (((10 : Int32) - (z_p0_lostBy x4.toNatClampNeg)).toInt64)) + (z_away * ((z_p0_backBy x4.toNatClampNeg).toInt64)))) z_p0_lostBy z_p0_backBy)[i]?) [1, 3, 4]) (w1 := fun (u : (Int64) × (Int64)) => (qw_X0_addUp cI cJ cC cG cW a_this a_this_of u.1 u.2 (vp_updL (vp_updL z_of_9 x4.toNatClampNeg ((z_of_9 (0 : Int32).toNatClampNeg) * ((z_p0_lostBy x4.toNatClampNeg).toInt64))) (0 : Int32).toNatClampNeg (((z_of (0 : Int32).toNatClampNeg) * (((10 : Int32) - (z_p0_lostBy x4.toNatClampNeg)).toInt64)) + (z_away * ((z_p0_backBy x4.toNatClampNeg).toInt64)))))) (va_runV (As := []) (rest := []) ⟨hx, hb, hml, hown, hts⟩ (qm_X0_addUp l dC dI cI cJ cC cG cW a_this a_this_of z_away z_all (vp_updL (vp_updL z_of_9 x4.toNatClampNeg ((z_of_9 (0 : Int32).toNatClampNeg) * ((z_p0_lostBy x4.toNatClampNeg).toInt64))) (0 : Int32).toNatClampNeg (((z_of (0 : Int32).toNatClampNeg) * (((10 : Int32) - (z_p0_lostBy x4.toNatClampNeg)).toInt64)) + (z_away * ((z_p0_backBy x4.toNatClampNeg).toInt64)))) H.size _ hV) (cwV 0 hts gX0_goTo_X0_addUp rfl rfl rfl (by decide +kernel) ⟨Nat.le_of_ble_eq_true rfl, Nat.le_of_ble_eq_true rfl⟩) (preWV hK hN (hP.sub (ws' := (qw_X0_addUp cI cJ cC cG cW a_this a_this_of z_away z_all (vp_updL (vp_updL z_of_9 x4.toNatClampNeg ((z_of_9 (0 : Int32).toNatClampNeg) * ((z_p0_lostBy x4.toNatClampNeg).toInt64))) (0 : Int32).toNatClampNeg (((z_of (0 : Int32).toNatClampNeg) * (((10 : Int32) - (z_p0_lostBy x4.toNatClampNeg)).toInt64)) + (z_away * ((z_p0_backBy x4.toNatClampNeg).toInt64)))))) [0, 2] rfl) (hD.sub (ws' := (qw_X0_addUp cI cJ cC cG cW a_this a_this_of z_away z_all (vp_updL (vp_updL z_of_9 x4.toNatClampNeg ((z_of_9 (0 : Int32).toNatClampNeg) * ((z_p0_lostBy x4.toNatClampNeg).toInt64))) (0 : Int32).toNatClampNeg (((z_of (0 : Int32).toNatClampNeg) * (((10 : Int32) - (z_p0_lostBy x4.toNatClampNeg)).toInt64)) + (z_away * ((z_p0_backBy x4.toNatClampNeg).toInt64)))))) [0, 2] (by decide) rfl) rfl rfl) rfl rfl hl.1 rfl (lv_room (Nat.le_of_ble_eq_true rfl)) dX0_goTo_113 ⟨Nat.le_of_ble_eq_true rfl, Nat.le_of_ble_eq_true rfl⟩) hP hD hS hA [0, 2] [1, 3, 4] rfl rfl (by decide) (by decide) (fun u H locs hV hP hD hS => ?_)
      obtain ⟨z_away_14, z_all_14⟩ := u
      try dsimp only at hV
      have hP := hP.sub (ws' := (qw_X0_goTo cI cJ cC cG cW a_this a_this_of a_p0 a_p0_minutes a_p0_lostBy a_p0_backBy a_p0_slips a_p0_takes a_p0_ties z_away_14 z_all_14 z_p0_stretches z_p0_costOn z_p0_costBack z_p0_foundBy z_p0_friends (vp_updL (vp_updL z_of_9 x4.toNatClampNeg ((z_of_9 (0 : Int32).toNatClampNeg) * ((z_p0_lostBy x4.toNatClampNeg).toInt64))) (0 : Int32).toNatClampNeg (((z_of (0 : Int32).toNatClampNeg) * (((10 : Int32) - (z_p0_lostBy x4.toNatClampNeg)).toInt64)) + (z_away * ((z_p0_backBy x4.toNatClampNeg).toInt64)))) z_p0_lostBy z_p0_backBy)) [3, 0, 4, 1, 2] rfl
      have hD := hD.sub (ws' := (qw_X0_goTo cI cJ cC cG cW a_this a_this_of a_p0 a_p0_minutes a_p0_lostBy a_p0_backBy a_p0_slips a_p0_takes a_p0_ties z_away_14 z_all_14 z_p0_stretches z_p0_costOn z_p0_costBack z_p0_foundBy z_p0_friends (vp_updL (vp_updL z_of_9 x4.toNatClampNeg ((z_of_9 (0 : Int32).toNatClampNeg) * ((z_p0_lostBy x4.toNatClampNeg).toInt64))) (0 : Int32).toNatClampNeg (((z_of (0 : Int32).toNatClampNeg) * (((10 : Int32) - (z_p0_lostBy x4.toNatClampNeg)).toInt64)) + (z_away * ((z_p0_backBy x4.toNatClampNeg).toInt64)))) z_p0_lostBy z_p0_backBy)) [3, 0, 4, 1, 2] (by decide) rfl
      refine lv_iinc (v := (x4 + (1 : Int32))) (lv' := [(4, .int (x4 + (1 : Int32))), (0, .ref a_this), (1, .ref a_p0), (3, .int x3), (5, .long (((z_of (0 : Int32).toNatClampNeg) * (((10 : Int32) - (z_p0_lostBy x4.toNatClampNeg)).toInt64)) + (z_away * ((z_p0_backBy x4.toNatClampNeg).toInt64))))]) hx hb dX0_goTo_116 hl (k := 3) rfl rfl (by decide) rfl (fun ls hl => ?_)
      refine lv_goto (tgt := 5) hx hb dX0_goTo_119 (by decide) ?_
      exact ih (x4 + (1 : Int32)) z_away_14 z_all_14 (vp_updL (vp_updL z_of_9 x4.toNatClampNeg ((z_of_9 (0 : Int32).toNatClampNeg) * ((z_p0_lostBy x4.toNatClampNeg).toInt64))) (0 : Int32).toNatClampNeg (((z_of (0 : Int32).toNatClampNeg) * (((10 : Int32) - (z_p0_lostBy x4.toNatClampNeg)).toInt64)) + (z_away * ((z_p0_backBy x4.toNatClampNeg).toInt64)))) H locs ls hV hP hD hS (lv_sub hl [1, 2, 3, 0] rfl)
def qv_X0_goTo (x2 : Int32) (x3 : Int32) (z_away : Int64) (z_all : Int64) (z_of : Nat → Int64) (z_p0_lostBy : Nat → Int32) (z_p0_backBy : Nat → Int32) (Post : (Int64) → (Int64) → (Nat → Int64) → Prop) : Prop := ∃ n15, qv_X0_goTo_L5 x3 z_p0_lostBy z_p0_backBy Post (fun z_away_15 z_all_15 z_of_15 => Post z_away_15 z_all_15 z_of_15) n15 (x2 + (1 : Int32)) z_away z_all z_of
set_option maxHeartbeats 4000000 in
set_option maxRecDepth 100000 in
theorem qm_X0_goTo (l : Launch) (dC : Nat → ClassId) (dI : Nat → Nat → Nat) (cI cJ cC cG cW : ClassId) (a_this a_this_of a_p0 a_p0_minutes a_p0_lostBy a_p0_backBy a_p0_slips a_p0_takes a_p0_ties : Nat) (z_away : Int64) (z_all : Int64) (z_p0_stretches : Int32) (z_p0_costOn : Int32) (z_p0_costBack : Int32) (z_p0_foundBy : Int32) (z_p0_friends : Int32) (z_of : Nat → Int64) (z_p0_lostBy : Nat → Int32) (z_p0_backBy : Nat → Int32) (sz : Nat) (x2 : Int32) (x3 : Int32) (Post : (Int64) → (Int64) → (Nat → Int64) → Prop) (hV : qv_X0_goTo x2 x3 z_away z_all z_of z_p0_lostBy z_p0_backBy Post) : Met l yX0_goTo wsX0_goTo ({ frames := 1, cells := 0, slots := 0, locals := 21 } : Room) (va_Pc [.ref a_this, .ref a_p0, .int x2, .int x3] (prW (dC, dI) (qw_X0_goTo cI cJ cC cG cW a_this a_this_of a_p0 a_p0_minutes a_p0_lostBy a_p0_backBy a_p0_slips a_p0_takes a_p0_ties z_away z_all z_p0_stretches z_p0_costOn z_p0_costBack z_p0_foundBy z_p0_friends z_of z_p0_lostBy z_p0_backBy) (tyL cI cJ cC cG cW) sz)) (va_Qv (fun (u : (Int64) × (Int64) × (Nat → Int64)) => Post u.1 u.2.1 u.2.2) (fun u t => poW (dC, dI) (tyL cI cJ cC cG cW) (va_A (qw_X0_goTo cI cJ cC cG cW a_this a_this_of a_p0 a_p0_minutes a_p0_lostBy a_p0_backBy a_p0_slips a_p0_takes a_p0_ties z_away z_all z_p0_stretches z_p0_costOn z_p0_costBack z_p0_foundBy z_p0_friends z_of z_p0_lostBy z_p0_backBy) sz) (qw_X0_goTo cI cJ cC cG cW a_this a_this_of a_p0 a_p0_minutes a_p0_lostBy a_p0_backBy a_p0_slips a_p0_takes a_p0_ties u.1 u.2.1 z_p0_stretches z_p0_costOn z_p0_costBack z_p0_foundBy z_p0_friends u.2.2 z_p0_lostBy z_p0_backBy) t) (va_A (qw_X0_goTo cI cJ cC cG cW a_this a_this_of a_p0 a_p0_minutes a_p0_lostBy a_p0_backBy a_p0_slips a_p0_takes a_p0_ties z_away z_all z_p0_stretches z_p0_costOn z_p0_costBack z_p0_foundBy z_p0_friends z_of z_p0_lostBy z_p0_backBy) sz)) 0 0 (va_A (qw_X0_goTo cI cJ cC cG cW a_this a_this_of a_p0 a_p0_minutes a_p0_lostBy a_p0_backBy a_p0_slips a_p0_takes a_p0_ties z_away z_all z_p0_stretches z_p0_costOn z_p0_costBack z_p0_foundBy z_p0_friends z_of z_p0_lostBy z_p0_backBy) sz) := by
  refine Met.ofM (Qc := fun A => va_Qv (fun (u : (Int64) × (Int64) × (Nat → Int64)) => Post u.1 u.2.1 u.2.2) (fun u t => poW (dC, dI) (tyL cI cJ cC cG cW) A (qw_X0_goTo cI cJ cC cG cW a_this a_this_of a_p0 a_p0_minutes a_p0_lostBy a_p0_backBy a_p0_slips a_p0_takes a_p0_ties u.1 u.2.1 z_p0_stretches z_p0_costOn z_p0_costBack z_p0_foundBy z_p0_friends u.2.2 z_p0_lostBy z_p0_backBy) t) A) (nm := "goTo") (ds := "(LStileCounts$Laid;II)V") (own := RX0) (maxL := 8) (cc := cX0_goTo) (ret := none) (by decide) rfl rfl (Nat.le_of_ble_eq_true rfl) (fun p e s m below meth c A C0 hin hK hN hA hP hD hS ls hl => ?_)
  obtain ⟨hx, hb, hr, hml, hown, hts, hlocks⟩ := id C0
  have hl : lv_has ls 8 [(0, .ref a_this), (1, .ref a_p0), (2, .int x2), (3, .int x3)] := hl
  obtain ⟨H, hH⟩ : ∃ h : Heap, h = s.heap := ⟨_, rfl⟩
  obtain ⟨locs, hLc⟩ : ∃ L : List Loc, L = [] := ⟨_, rfl⟩
  have hS : va_S A s.heap H locs := by rw [hH, hLc]; exact hS
  rw [← hH] at hP
  rw [← hLc, ← hH]
  clear hH hLc
  refine lv_iload_n hx hb dX0_goTo_0 rfl (lv_at hl 2 rfl) ?_
  refine lv_iconst (v := (1 : Int32)) hx hb dX0_goTo_1 (by decide) ?_
  refine lv_iadd hx hb dX0_goTo_2 ?_
  refine lv_istore (lv' := [(4, .int (x2 + (1 : Int32))), (0, .ref a_this), (1, .ref a_p0), (2, .int x2), (3, .int x3)]) hx hb dX0_goTo_3 hl (by decide) rfl (fun ls hl => ?_)
  obtain ⟨n15, hV⟩ := hV
  refine qt_X0_goTo_L5 C0 hK hN hA z_p0_stretches z_p0_costOn z_p0_costBack z_p0_foundBy z_p0_friends z_p0_lostBy z_p0_backBy x3 _ _ (fun z_away_15 z_all_15 z_of_15 H locs ls hV hP hD hS hl => ?_) n15 (x2 + (1 : Int32)) z_away z_all z_of H locs ls hV hP hD hS (lv_sub hl [1, 2, 4, 0] rfl)
  exact W.vret hx hb hr (fun t ht hW => ⟨⟨(z_away_15, z_all_15, z_of_15), rfl, hV, ⟨by rw [ht]; exact hP, va_K.moved hW.alike hK, hD⟩⟩, hS.F ht⟩) hS.2.2 dX0_goTo_122 hlocks

/-! StileCounts.byTen(IIII)I -/
abbrev qw_X7_byTen (cI cJ cC cG cW : ClassId) : va_W := []
def qv_X7_byTen_J51 (k0 : Int32) (x2 : Int32) (x3 : Int32) (Post : Int32 → Prop) : Prop := (x3 = x2 → Post ((10 : Int32) - k0)) ∧ (¬ x3 = x2 → (x3 = (0 : Int32) → Post k0) ∧ (¬ x3 = (0 : Int32) → Post (0 : Int32)))
set_option maxHeartbeats 4000000 in
set_option maxRecDepth 100000 in
theorem qt_X7_byTen_J51 {p : Program} {l : Launch} {e : Env} {s : State} {m : MethodId} {args : Array Value} {below : List Frame} {meth : Method} {c : Code} {dC : Nat → ClassId} {dI : Nat → Nat → Nat} {cI cJ cC cG cW : ClassId} (C0 : MC cX7_byTen 5 (some .int) RX7 wsX7_byTen p s m args meth c) (hK : va_K (dC, dI) vwCl (tyL cI cJ cC cG cW) s) (hN : NW s) (hP : va_P (dC, dI) vwCl (qw_X7_byTen cI cJ cC cG cW) s.heap) (k0 : Int32) (x2 : Int32) (x3 : Int32) (Post : Int32 → Prop) (ls : Array Slot) (hV : qv_X7_byTen_J51 k0 x2 x3 Post) (hl : lv_has ls 5 [(2, .int x2), (3, .int x3)]) : W p l e ({ frames := 0, cells := 0, slots := 0, locals := 0 } : Room) s m args below meth c s.heap [] 0 0 (MQ below (vp_Si Post) args s 0 0 (fun _ => False)) (F0 m 51 ls [.int k0]) := by
  obtain ⟨hx, hb, hr, hml, hown, hts, hlocks⟩ := id C0
  refine lv_istore (lv' := [(4, .int k0), (2, .int x2), (3, .int x3)]) hx hb dX7_byTen_51 hl (by decide) rfl (fun ls hl => ?_)
  refine lv_iload_n hx hb dX7_byTen_53 rfl (lv_at hl 2 rfl) ?_
  refine lv_iload_n hx hb dX7_byTen_54 rfl (lv_at hl 1 rfl) ?_
  refine lv_icmp_ne (tgt := 64) hx hb dX7_byTen_55 (by decide) (fun c3 => ?_) (fun c3 => ?_)
  · have hV := hV.2 c3
    refine lv_iload_n hx hb dX7_byTen_64 rfl (lv_at hl 2 rfl) ?_
    refine lv_if_ne (tgt := 73) hx hb dX7_byTen_65 (by decide) (fun c4 => ?_) (fun c4 => ?_)
    · have hV := hV.2 c4
      refine lv_iconst (v := (0 : Int32)) hx hb dX7_byTen_73 (by decide) ?_
      exact W.iret hx hb hr (fun t ht hW => ⟨_, rfl, hV, ht⟩) (fun q h => absurd h List.not_mem_nil) dX7_byTen_74 hlocks
    · have hV := hV.1 c4
      refine lv_iload hx hb dX7_byTen_68 (lv_at hl 0 rfl) ?_
      refine lv_goto (tgt := 74) hx hb dX7_byTen_70 (by decide) ?_
      exact W.iret hx hb hr (fun t ht hW => ⟨_, rfl, hV, ht⟩) (fun q h => absurd h List.not_mem_nil) dX7_byTen_74 hlocks
  · have hV := hV.1 c3
    refine lv_bipush (v := (10 : Int32)) hx hb dX7_byTen_58 (by decide) ?_
    refine lv_iload hx hb dX7_byTen_60 (lv_at hl 0 rfl) ?_
    refine lv_isub hx hb dX7_byTen_62 ?_
    exact W.iret hx hb hr (fun t ht hW => ⟨_, rfl, hV, ht⟩) (fun q h => absurd h List.not_mem_nil) dX7_byTen_63 hlocks
def qv_X7_byTen (x0 : Int32) (x1 : Int32) (x2 : Int32) (x3 : Int32) (Post : Int32 → Prop) : Prop := (x0 = (0 : Int32) → (x3 = x2 → Post ((10 : Int32) - ((2 : Int32) * x1))) ∧ (¬ x3 = x2 → (x3 = (x2 - (1 : Int32)) → Post x1) ∧ (¬ x3 = (x2 - (1 : Int32)) → (x3 = (x2 + (1 : Int32)) → Post x1) ∧ (¬ x3 = (x2 + (1 : Int32)) → Post (0 : Int32))))) ∧ (¬ x0 = (0 : Int32) → (x0 = (1 : Int32) → qv_X7_byTen_J51 (0 : Int32) x2 x3 Post) ∧ (¬ x0 = (1 : Int32) → (x2 = (-1 : Int32) → qv_X7_byTen_J51 x1 x2 x3 Post) ∧ (¬ x2 = (-1 : Int32) → qv_X7_byTen_J51 (0 : Int32) x2 x3 Post)))
set_option maxHeartbeats 4000000 in
set_option maxRecDepth 100000 in
theorem qm_X7_byTen (l : Launch) (dC : Nat → ClassId) (dI : Nat → Nat → Nat) (cI cJ cC cG cW : ClassId) (x0 : Int32) (x1 : Int32) (x2 : Int32) (x3 : Int32) (Post : Int32 → Prop) (hV : qv_X7_byTen x0 x1 x2 x3 Post) : Met l yX7_byTen wsX7_byTen ({ frames := 0, cells := 0, slots := 0, locals := 0 } : Room) (va_Pc [.int x0, .int x1, .int x2, .int x3] (prR (dC, dI) (qw_X7_byTen cI cJ cC cG cW) (tyL cI cJ cC cG cW))) (vp_Si Post) 0 0 (fun _ => False) := by
  refine Met.ofR (nm := "byTen") (ds := "(IIII)I") (own := RX7) (maxL := 5) (cc := cX7_byTen) (ret := (some .int)) (by decide) rfl rfl (Nat.le_of_ble_eq_true rfl) (fun p e s m below meth c C0 hK hN hP ls hl => ?_)
  obtain ⟨hx, hb, hr, hml, hown, hts, hlocks⟩ := id C0
  have hl : lv_has ls 5 [(0, .int x0), (1, .int x1), (2, .int x2), (3, .int x3)] := hl
  refine lv_iload_n hx hb dX7_byTen_0 rfl (lv_at hl 0 rfl) ?_
  refine lv_if_ne (tgt := 36) hx hb dX7_byTen_1 (by decide) (fun c1 => ?_) (fun c1 => ?_)
  · have hV := hV.2 c1
    refine lv_iload_n hx hb dX7_byTen_36 rfl (lv_at hl 0 rfl) ?_
    refine lv_iconst (v := (1 : Int32)) hx hb dX7_byTen_37 (by decide) ?_
    refine lv_icmp_eq (tgt := 50) hx hb dX7_byTen_38 (by decide) (fun c2 => ?_) (fun c2 => ?_)
    · have hV := hV.1 c2
      refine lv_iconst (v := (0 : Int32)) hx hb dX7_byTen_50 (by decide) ?_
      exact qt_X7_byTen_J51 C0 hK hN hP (0 : Int32) x2 x3 _ ls hV (lv_sub hl [2, 3] rfl)
    · have hV := hV.2 c2
      refine lv_iload_n hx hb dX7_byTen_41 rfl (lv_at hl 2 rfl) ?_
      refine lv_iconst (v := (-1 : Int32)) hx hb dX7_byTen_42 (by decide) ?_
      refine lv_icmp_ne (tgt := 50) hx hb dX7_byTen_43 (by decide) (fun c5 => ?_) (fun c5 => ?_)
      · have hV := hV.2 c5
        refine lv_iconst (v := (0 : Int32)) hx hb dX7_byTen_50 (by decide) ?_
        exact qt_X7_byTen_J51 C0 hK hN hP (0 : Int32) x2 x3 _ ls hV (lv_sub hl [2, 3] rfl)
      · have hV := hV.1 c5
        refine lv_iload_n hx hb dX7_byTen_46 rfl (lv_at hl 1 rfl) ?_
        refine lv_goto (tgt := 51) hx hb dX7_byTen_47 (by decide) ?_
        exact qt_X7_byTen_J51 C0 hK hN hP x1 x2 x3 _ ls hV (lv_sub hl [2, 3] rfl)
  · have hV := hV.1 c1
    refine lv_iload_n hx hb dX7_byTen_4 rfl (lv_at hl 3 rfl) ?_
    refine lv_iload_n hx hb dX7_byTen_5 rfl (lv_at hl 2 rfl) ?_
    refine lv_icmp_ne (tgt := 16) hx hb dX7_byTen_6 (by decide) (fun c6 => ?_) (fun c6 => ?_)
    · have hV := hV.2 c6
      refine lv_iload_n hx hb dX7_byTen_16 rfl (lv_at hl 3 rfl) ?_
      refine lv_iload_n hx hb dX7_byTen_17 rfl (lv_at hl 2 rfl) ?_
      refine lv_iconst (v := (1 : Int32)) hx hb dX7_byTen_18 (by decide) ?_
      refine lv_isub hx hb dX7_byTen_19 ?_
      refine lv_icmp_eq (tgt := 30) hx hb dX7_byTen_20 (by decide) (fun c7 => ?_) (fun c7 => ?_)
      · have hV := hV.1 c7
        refine lv_iload_n hx hb dX7_byTen_30 rfl (lv_at hl 1 rfl) ?_
        refine lv_goto (tgt := 35) hx hb dX7_byTen_31 (by decide) ?_
        exact W.iret hx hb hr (fun t ht hW => ⟨_, rfl, hV, ht⟩) (fun q h => absurd h List.not_mem_nil) dX7_byTen_35 hlocks
      · have hV := hV.2 c7
        refine lv_iload_n hx hb dX7_byTen_23 rfl (lv_at hl 3 rfl) ?_
        refine lv_iload_n hx hb dX7_byTen_24 rfl (lv_at hl 2 rfl) ?_
        refine lv_iconst (v := (1 : Int32)) hx hb dX7_byTen_25 (by decide) ?_
        refine lv_iadd hx hb dX7_byTen_26 ?_
        refine lv_icmp_ne (tgt := 34) hx hb dX7_byTen_27 (by decide) (fun c8 => ?_) (fun c8 => ?_)
        · have hV := hV.2 c8
          refine lv_iconst (v := (0 : Int32)) hx hb dX7_byTen_34 (by decide) ?_
          exact W.iret hx hb hr (fun t ht hW => ⟨_, rfl, hV, ht⟩) (fun q h => absurd h List.not_mem_nil) dX7_byTen_35 hlocks
        · have hV := hV.1 c8
          refine lv_iload_n hx hb dX7_byTen_30 rfl (lv_at hl 1 rfl) ?_
          refine lv_goto (tgt := 35) hx hb dX7_byTen_31 (by decide) ?_
          exact W.iret hx hb hr (fun t ht hW => ⟨_, rfl, hV, ht⟩) (fun q h => absurd h List.not_mem_nil) dX7_byTen_35 hlocks
    · have hV := hV.1 c6
      refine lv_bipush (v := (10 : Int32)) hx hb dX7_byTen_9 (by decide) ?_
      refine lv_iconst (v := (2 : Int32)) hx hb dX7_byTen_11 (by decide) ?_
      refine lv_iload_n hx hb dX7_byTen_12 rfl (lv_at hl 1 rfl) ?_
      refine lv_imul hx hb dX7_byTen_13 ?_
      refine lv_isub hx hb dX7_byTen_14 ?_
      exact W.iret hx hb hr (fun t ht hW => ⟨_, rfl, hV, ht⟩) (fun q h => absurd h List.not_mem_nil) dX7_byTen_15 hlocks

/-! StileCounts$Chances.weigh(LStileCounts$Laid;II)V -/
abbrev qw_X0_weigh (cI cJ cC cG cW : ClassId) (a_this a_this_of a_p0 a_p0_minutes a_p0_lostBy a_p0_backBy a_p0_slips a_p0_takes a_p0_ties : Nat) (z_away : Int64) (z_all : Int64) (z_p0_stretches : Int32) (z_p0_costOn : Int32) (z_p0_costBack : Int32) (z_p0_foundBy : Int32) (z_p0_friends : Int32) (z_of : Nat → Int64) (z_p0_slips : Nat → Int32) : va_W := [(a_this, .inr (0, [.ref a_this_of, .long z_away, .long z_all])), (a_p0, .inr (2, [.int z_p0_stretches, .ref a_p0_minutes, .ref a_p0_lostBy, .ref a_p0_backBy, .ref a_p0_slips, .ref a_p0_takes, .int z_p0_costOn, .int z_p0_costBack, .int z_p0_foundBy, .int z_p0_friends, .ref a_p0_ties])), (a_this_of, .inl (cJ, 9, .inr (.inl z_of))), (a_p0_slips, .inl (cI, 4, .inl z_p0_slips))]
theorem qi_X0_weigh_X0 : ∀ w ∈ wsX00, w ∈ wsX0_weigh := by decide +kernel
theorem ql_X0_weigh_9 : (.fieldLink RX0 9 "StileCounts$Chances" "of" "[J" : Cond) ∈ wsX0_weigh := by decide +kernel
theorem qi_X0_weigh_X2 : ∀ w ∈ wsX20, w ∈ wsX0_weigh := by decide +kernel
theorem ql_X0_weigh_59 : (.fieldLink RX0 59 "StileCounts$Laid" "slips" "[I" : Cond) ∈ wsX0_weigh := by decide +kernel
theorem qk_X0_weigh_62_i : (.initialized RX7 : Cond) ∈ wsX0_weigh := by decide +kernel
theorem qk_X0_weigh_62_s : (.static yX7_byTen : Cond) ∈ wsX0_weigh := by decide +kernel
def qv_X0_weigh_L25 (x2 : Int32) (x3 : Int32) (z_away : Int64) (z_all : Int64) (z_p0_slips : Nat → Int32) (Post : (Int64) → (Int64) → (Nat → Int64) → Prop) (E : (Nat → Int64) → Prop) : Nat → (Int32) → (Nat → Int64) → Prop
  | 0, _, _ => False
  | n + 1, x4, z_of => ((8 : Int32) < x4 → E z_of) ∧ (¬ (8 : Int32) < x4 → vp_in x4 9 ∧ (vp_in x2 4 ∧ (qv_X7_byTen x2 (z_p0_slips x2.toNatClampNeg) (-1 : Int32) x3 (fun r8 => vp_in x4 9 ∧ (qv_X0_weigh_L25 x2 x3 z_away z_all z_p0_slips Post E n (x4 + (1 : Int32)) (vp_updL z_of x4.toNatClampNeg ((z_of x4.toNatClampNeg) * (r8.toInt64))))))))
set_option maxHeartbeats 4000000 in
set_option maxRecDepth 100000 in
theorem qt_X0_weigh_L25 {p : Program} {l : Launch} {e : Env} {s : State} {m : MethodId} {args : Array Value} {below : List Frame} {meth : Method} {c : Code} {dC : Nat → ClassId} {dI : Nat → Nat → Nat} {cI cJ cC cG cW : ClassId} {a_this a_this_of a_p0 a_p0_minutes a_p0_lostBy a_p0_backBy a_p0_slips a_p0_takes a_p0_ties : Nat} {A : Nat → Prop} (C0 : MC cX0_weigh 5 none RX0 wsX0_weigh p s m args meth c) (hK : va_K (dC, dI) vwCl (tyL cI cJ cC cG cW) s) (hN : NW s) (hA : ∀ q, s.heap.size ≤ q → A q) (z_away : Int64) (z_all : Int64) (z_p0_stretches : Int32) (z_p0_costOn : Int32) (z_p0_costBack : Int32) (z_p0_foundBy : Int32) (z_p0_friends : Int32) (z_p0_slips : Nat → Int32) (x2 : Int32) (x3 : Int32) (Post : (Int64) → (Int64) → (Nat → Int64) → Prop) (E : (Nat → Int64) → Prop) (hE : ∀ (z_of : Nat → Int64) (H : Heap) (locs : List Loc) (ls : Array Slot), E z_of → va_P (dC, dI) vwCl (qw_X0_weigh cI cJ cC cG cW a_this a_this_of a_p0 a_p0_minutes a_p0_lostBy a_p0_backBy a_p0_slips a_p0_takes a_p0_ties z_away z_all z_p0_stretches z_p0_costOn z_p0_costBack z_p0_foundBy z_p0_friends z_of z_p0_slips) H → va_D A (qw_X0_weigh cI cJ cC cG cW a_this a_this_of a_p0 a_p0_minutes a_p0_lostBy a_p0_backBy a_p0_slips a_p0_takes a_p0_ties z_away z_all z_p0_stretches z_p0_costOn z_p0_costBack z_p0_foundBy z_p0_friends z_of z_p0_slips) → va_S A s.heap H locs → lv_has ls 5 [(0, .ref a_this)] → W p l e ({ frames := 1, cells := 0, slots := 0, locals := 24 } : Room) s m args below meth c H locs 0 0 (MQ below (va_Qv (fun (u : (Int64) × (Int64) × (Nat → Int64)) => Post u.1 u.2.1 u.2.2) (fun u t => poW (dC, dI) (tyL cI cJ cC cG cW) A (qw_X0_weigh cI cJ cC cG cW a_this a_this_of a_p0 a_p0_minutes a_p0_lostBy a_p0_backBy a_p0_slips a_p0_takes a_p0_ties u.1 u.2.1 z_p0_stretches z_p0_costOn z_p0_costBack z_p0_foundBy z_p0_friends u.2.2 z_p0_slips) t) A) args s 0 0 A) (F0 m 61 ls [])) : ∀ (n : Nat) (x4 : Int32) (z_of : Nat → Int64) (H : Heap) (locs : List Loc) (ls : Array Slot), qv_X0_weigh_L25 x2 x3 z_away z_all z_p0_slips Post E n x4 z_of → va_P (dC, dI) vwCl (qw_X0_weigh cI cJ cC cG cW a_this a_this_of a_p0 a_p0_minutes a_p0_lostBy a_p0_backBy a_p0_slips a_p0_takes a_p0_ties z_away z_all z_p0_stretches z_p0_costOn z_p0_costBack z_p0_foundBy z_p0_friends z_of z_p0_slips) H → va_D A (qw_X0_weigh cI cJ cC cG cW a_this a_this_of a_p0 a_p0_minutes a_p0_lostBy a_p0_backBy a_p0_slips a_p0_takes a_p0_ties z_away z_all z_p0_stretches z_p0_costOn z_p0_costBack z_p0_foundBy z_p0_friends z_of z_p0_slips) → va_S A s.heap H locs → lv_has ls 5 [(0, .ref a_this), (1, .ref a_p0), (2, .int x2), (3, .int x3), (4, .int x4)] → W p l e ({ frames := 1, cells := 0, slots := 0, locals := 24 } : Room) s m args below meth c H locs 0 0 (MQ below (va_Qv (fun (u : (Int64) × (Int64) × (Nat → Int64)) => Post u.1 u.2.1 u.2.2) (fun u t => poW (dC, dI) (tyL cI cJ cC cG cW) A (qw_X0_weigh cI cJ cC cG cW a_this a_this_of a_p0 a_p0_minutes a_p0_lostBy a_p0_backBy a_p0_slips a_p0_takes a_p0_ties u.1 u.2.1 z_p0_stretches z_p0_costOn z_p0_costBack z_p0_foundBy z_p0_friends u.2.2 z_p0_slips) t) A) args s 0 0 A) (F0 m 25 ls []) := by
  obtain ⟨hx, hb, hr, hml, hown, hts, hlocks⟩ := id C0
  intro n
  induction n with
  | zero =>
    intro x4 z_of H locs ls hV
    exact False.elim hV
  | succ n ih =>
    intro x4 z_of H locs ls hV hP hD hS hl
    refine lv_iload hx hb dX0_weigh_25 (lv_at hl 4 rfl) ?_
    refine lv_bipush (v := (8 : Int32)) hx hb dX0_weigh_27 (by decide) ?_
    refine lv_icmp_gt (tgt := 61) hx hb dX0_weigh_29 (by decide) (fun c5 => ?_) (fun c5 => ?_)
    · have hV := hV.1 c5
      exact hE z_of H locs ls hV hP hD hS (lv_sub hl [0] rfl)
    · have hV := hV.2 c5
      refine lv_aload_n hx hb dX0_weigh_32 rfl (lv_at hl 0 rfl) ?_
      refine va_get (D := (dC, dI)) (ci := 0) (v := .ref a_this_of) (C := RX0) (T := TX0) (N := 3) hx hb hts qi_X0_weigh_X0 hown hK hP 0 rfl rfl 0 (by decide) (hts _ ql_X0_weigh_9) (fun _ h9 => h9) rfl dX0_weigh_33 ?_
      refine lv_iload hx hb dX0_weigh_36 (lv_at hl 4 rfl) ?_
      refine lv_dup2_11 hx hb dX0_weigh_38 rfl rfl ?_
      obtain ⟨h6, hV⟩ := hV
      refine va_lald hx hb hK hP 2 1 rfl rfl h6 dX0_weigh_39 ?_
      refine lv_iload_n hx hb dX0_weigh_40 rfl (lv_at hl 2 rfl) ?_
      refine lv_aload_n hx hb dX0_weigh_41 rfl (lv_at hl 1 rfl) ?_
      refine va_get (D := (dC, dI)) (ci := 2) (v := .ref a_p0_slips) (C := RX2) (T := TX2) (N := 11) hx hb hts qi_X0_weigh_X2 hown hK hP 1 rfl rfl 4 (by decide) (hts _ ql_X0_weigh_59) (fun _ h9 => h9) rfl dX0_weigh_42 ?_
      refine lv_iload_n hx hb dX0_weigh_45 rfl (lv_at hl 2 rfl) ?_
      obtain ⟨h7, hV⟩ := hV
      refine va_iald hx hb hK hP 3 0 rfl rfl h7 dX0_weigh_46 ?_
      refine lv_iconst (v := (-1 : Int32)) hx hb dX0_weigh_47 (by decide) ?_
      refine lv_iload_n hx hb dX0_weigh_48 rfl (lv_at hl 3 rfl) ?_
      refine vp_callSi (va_Run.run (va_runSN (As := [.int x2, .int (z_p0_slips x2.toNatClampNeg), .int (-1 : Int32), .int x3]) (rest := [.long (z_of x4.toNatClampNeg), .int x4, .ref a_this_of]) ⟨hx, hb, hml, hown, hts⟩ (qm_X7_byTen l dC dI cI cJ cC cG cW x2 (z_p0_slips x2.toNatClampNeg) (-1 : Int32) x3 _ hV) ⟨va_cnB 4 hts gX0_weigh_X7_byTen_n62 rfl rfl rfl (hN.get 7 rfl) (hts _ qk_X0_weigh_62_i) (by decide +kernel) ⟨Nat.le_of_ble_eq_true rfl, Nat.le_of_ble_eq_true rfl⟩, (hts _ qk_X0_weigh_62_s), trivial⟩ (preRS hK hN (show va_P (dC, dI) vwCl (qw_X7_byTen cI cJ cC cG cW) H from fun k q h => by simp at h)) rfl rfl hl.1 rfl (lv_room (Nat.le_of_ble_eq_true rfl)) dX0_weigh_49 ⟨Nat.le_of_ble_eq_true rfl, Nat.le_of_ble_eq_true rfl⟩)) (fun r8 hV => ?_)
      refine lv_i2l hx hb dX0_weigh_52 rfl ?_
      refine lv_lmul hx hb dX0_weigh_53 ?_
      obtain ⟨h9, hV⟩ := hV
      refine va_last hx hb hK hP hD hS 2 1 rfl rfl h9 dX0_weigh_54 (fun H locs hP hD hS => ?_)
      have hP : va_P (dC, dI) vwCl (qw_X0_weigh cI cJ cC cG cW a_this a_this_of a_p0 a_p0_minutes a_p0_lostBy a_p0_backBy a_p0_slips a_p0_takes a_p0_ties z_away z_all z_p0_stretches z_p0_costOn z_p0_costBack z_p0_foundBy z_p0_friends (vp_updL z_of x4.toNatClampNeg ((z_of x4.toNatClampNeg) * (r8.toInt64))) z_p0_slips) H := hP
      have hD : va_D A (qw_X0_weigh cI cJ cC cG cW a_this a_this_of a_p0 a_p0_minutes a_p0_lostBy a_p0_backBy a_p0_slips a_p0_takes a_p0_ties z_away z_all z_p0_stretches z_p0_costOn z_p0_costBack z_p0_foundBy z_p0_friends (vp_updL z_of x4.toNatClampNeg ((z_of x4.toNatClampNeg) * (r8.toInt64))) z_p0_slips) := hD
      refine lv_iinc (v := (x4 + (1 : Int32))) (lv' := [(4, .int (x4 + (1 : Int32))), (0, .ref a_this), (1, .ref a_p0), (2, .int x2), (3, .int x3)]) hx hb dX0_weigh_55 hl (k := 4) rfl rfl (by decide) rfl (fun ls hl => ?_)
      refine lv_goto (tgt := 25) hx hb dX0_weigh_58 (by decide) ?_
      exact ih (x4 + (1 : Int32)) (vp_updL z_of x4.toNatClampNeg ((z_of x4.toNatClampNeg) * (r8.toInt64))) H locs ls hV hP hD hS (lv_sub hl [1, 2, 3, 4, 0] rfl)
def qv_X0_weigh (x2 : Int32) (x3 : Int32) (z_away : Int64) (z_all : Int64) (z_of : Nat → Int64) (z_p0_slips : Nat → Int32) (Post : (Int64) → (Int64) → (Nat → Int64) → Prop) : Prop := vp_in (0 : Int32) 9 ∧ (vp_in x2 4 ∧ (qv_X7_byTen x2 (z_p0_slips x2.toNatClampNeg) (0 : Int32) x3 (fun r3 => vp_in (0 : Int32) 9 ∧ (∃ n10, qv_X0_weigh_L25 x2 x3 z_away z_all z_p0_slips Post (fun z_of_10 => qv_X0_addUp z_away z_all z_of_10 (fun z_away_11 z_all_11 => Post z_away_11 z_all_11 z_of_10)) n10 (1 : Int32) (vp_updL z_of (0 : Int32).toNatClampNeg ((z_of (0 : Int32).toNatClampNeg) * (r3.toInt64)))))))
set_option maxHeartbeats 4000000 in
set_option maxRecDepth 100000 in
theorem qm_X0_weigh (l : Launch) (dC : Nat → ClassId) (dI : Nat → Nat → Nat) (cI cJ cC cG cW : ClassId) (a_this a_this_of a_p0 a_p0_minutes a_p0_lostBy a_p0_backBy a_p0_slips a_p0_takes a_p0_ties : Nat) (z_away : Int64) (z_all : Int64) (z_p0_stretches : Int32) (z_p0_costOn : Int32) (z_p0_costBack : Int32) (z_p0_foundBy : Int32) (z_p0_friends : Int32) (z_of : Nat → Int64) (z_p0_slips : Nat → Int32) (sz : Nat) (x2 : Int32) (x3 : Int32) (Post : (Int64) → (Int64) → (Nat → Int64) → Prop) (hV : qv_X0_weigh x2 x3 z_away z_all z_of z_p0_slips Post) : Met l yX0_weigh wsX0_weigh ({ frames := 1, cells := 0, slots := 0, locals := 24 } : Room) (va_Pc [.ref a_this, .ref a_p0, .int x2, .int x3] (prW (dC, dI) (qw_X0_weigh cI cJ cC cG cW a_this a_this_of a_p0 a_p0_minutes a_p0_lostBy a_p0_backBy a_p0_slips a_p0_takes a_p0_ties z_away z_all z_p0_stretches z_p0_costOn z_p0_costBack z_p0_foundBy z_p0_friends z_of z_p0_slips) (tyL cI cJ cC cG cW) sz)) (va_Qv (fun (u : (Int64) × (Int64) × (Nat → Int64)) => Post u.1 u.2.1 u.2.2) (fun u t => poW (dC, dI) (tyL cI cJ cC cG cW) (va_A (qw_X0_weigh cI cJ cC cG cW a_this a_this_of a_p0 a_p0_minutes a_p0_lostBy a_p0_backBy a_p0_slips a_p0_takes a_p0_ties z_away z_all z_p0_stretches z_p0_costOn z_p0_costBack z_p0_foundBy z_p0_friends z_of z_p0_slips) sz) (qw_X0_weigh cI cJ cC cG cW a_this a_this_of a_p0 a_p0_minutes a_p0_lostBy a_p0_backBy a_p0_slips a_p0_takes a_p0_ties u.1 u.2.1 z_p0_stretches z_p0_costOn z_p0_costBack z_p0_foundBy z_p0_friends u.2.2 z_p0_slips) t) (va_A (qw_X0_weigh cI cJ cC cG cW a_this a_this_of a_p0 a_p0_minutes a_p0_lostBy a_p0_backBy a_p0_slips a_p0_takes a_p0_ties z_away z_all z_p0_stretches z_p0_costOn z_p0_costBack z_p0_foundBy z_p0_friends z_of z_p0_slips) sz)) 0 0 (va_A (qw_X0_weigh cI cJ cC cG cW a_this a_this_of a_p0 a_p0_minutes a_p0_lostBy a_p0_backBy a_p0_slips a_p0_takes a_p0_ties z_away z_all z_p0_stretches z_p0_costOn z_p0_costBack z_p0_foundBy z_p0_friends z_of z_p0_slips) sz) := by
  refine Met.ofM (Qc := fun A => va_Qv (fun (u : (Int64) × (Int64) × (Nat → Int64)) => Post u.1 u.2.1 u.2.2) (fun u t => poW (dC, dI) (tyL cI cJ cC cG cW) A (qw_X0_weigh cI cJ cC cG cW a_this a_this_of a_p0 a_p0_minutes a_p0_lostBy a_p0_backBy a_p0_slips a_p0_takes a_p0_ties u.1 u.2.1 z_p0_stretches z_p0_costOn z_p0_costBack z_p0_foundBy z_p0_friends u.2.2 z_p0_slips) t) A) (nm := "weigh") (ds := "(LStileCounts$Laid;II)V") (own := RX0) (maxL := 5) (cc := cX0_weigh) (ret := none) (by decide) rfl rfl (Nat.le_of_ble_eq_true rfl) (fun p e s m below meth c A C0 hin hK hN hA hP hD hS ls hl => ?_)
  obtain ⟨hx, hb, hr, hml, hown, hts, hlocks⟩ := id C0
  have hl : lv_has ls 5 [(0, .ref a_this), (1, .ref a_p0), (2, .int x2), (3, .int x3)] := hl
  obtain ⟨H, hH⟩ : ∃ h : Heap, h = s.heap := ⟨_, rfl⟩
  obtain ⟨locs, hLc⟩ : ∃ L : List Loc, L = [] := ⟨_, rfl⟩
  have hS : va_S A s.heap H locs := by rw [hH, hLc]; exact hS
  rw [← hH] at hP
  rw [← hLc, ← hH]
  clear hH hLc
  refine lv_aload_n hx hb dX0_weigh_0 rfl (lv_at hl 0 rfl) ?_
  refine va_get (D := (dC, dI)) (ci := 0) (v := .ref a_this_of) (C := RX0) (T := TX0) (N := 3) hx hb hts qi_X0_weigh_X0 hown hK hP 0 rfl rfl 0 (by decide) (hts _ ql_X0_weigh_9) (fun _ h9 => h9) rfl dX0_weigh_1 ?_
  refine lv_iconst (v := (0 : Int32)) hx hb dX0_weigh_4 (by decide) ?_
  refine lv_dup2_11 hx hb dX0_weigh_5 rfl rfl ?_
  obtain ⟨h1, hV⟩ := hV
  refine va_lald hx hb hK hP 2 1 rfl rfl h1 dX0_weigh_6 ?_
  refine lv_iload_n hx hb dX0_weigh_7 rfl (lv_at hl 2 rfl) ?_
  refine lv_aload_n hx hb dX0_weigh_8 rfl (lv_at hl 1 rfl) ?_
  refine va_get (D := (dC, dI)) (ci := 2) (v := .ref a_p0_slips) (C := RX2) (T := TX2) (N := 11) hx hb hts qi_X0_weigh_X2 hown hK hP 1 rfl rfl 4 (by decide) (hts _ ql_X0_weigh_59) (fun _ h9 => h9) rfl dX0_weigh_9 ?_
  refine lv_iload_n hx hb dX0_weigh_12 rfl (lv_at hl 2 rfl) ?_
  obtain ⟨h2, hV⟩ := hV
  refine va_iald hx hb hK hP 3 0 rfl rfl h2 dX0_weigh_13 ?_
  refine lv_iconst (v := (0 : Int32)) hx hb dX0_weigh_14 (by decide) ?_
  refine lv_iload_n hx hb dX0_weigh_15 rfl (lv_at hl 3 rfl) ?_
  refine vp_callSi (va_Run.run (va_runSN (As := [.int x2, .int (z_p0_slips x2.toNatClampNeg), .int (0 : Int32), .int x3]) (rest := [.long (z_of (0 : Int32).toNatClampNeg), .int (0 : Int32), .ref a_this_of]) ⟨hx, hb, hml, hown, hts⟩ (qm_X7_byTen l dC dI cI cJ cC cG cW x2 (z_p0_slips x2.toNatClampNeg) (0 : Int32) x3 _ hV) ⟨va_cnB 4 hts gX0_weigh_X7_byTen_n62 rfl rfl rfl (hN.get 7 rfl) (hts _ qk_X0_weigh_62_i) (by decide +kernel) ⟨Nat.le_of_ble_eq_true rfl, Nat.le_of_ble_eq_true rfl⟩, (hts _ qk_X0_weigh_62_s), trivial⟩ (preRS hK hN (show va_P (dC, dI) vwCl (qw_X7_byTen cI cJ cC cG cW) H from fun k q h => by simp at h)) rfl rfl hl.1 rfl (lv_room (Nat.le_of_ble_eq_true rfl)) dX0_weigh_16 ⟨Nat.le_of_ble_eq_true rfl, Nat.le_of_ble_eq_true rfl⟩)) (fun r3 hV => ?_)
  refine lv_i2l hx hb dX0_weigh_19 rfl ?_
  refine lv_lmul hx hb dX0_weigh_20 ?_
  obtain ⟨h4, hV⟩ := hV
  refine va_last hx hb hK hP hD hS 2 1 rfl rfl h4 dX0_weigh_21 (fun H locs hP hD hS => ?_)
  have hP : va_P (dC, dI) vwCl (qw_X0_weigh cI cJ cC cG cW a_this a_this_of a_p0 a_p0_minutes a_p0_lostBy a_p0_backBy a_p0_slips a_p0_takes a_p0_ties z_away z_all z_p0_stretches z_p0_costOn z_p0_costBack z_p0_foundBy z_p0_friends (vp_updL z_of (0 : Int32).toNatClampNeg ((z_of (0 : Int32).toNatClampNeg) * (r3.toInt64))) z_p0_slips) H := hP
  have hD : va_D A (qw_X0_weigh cI cJ cC cG cW a_this a_this_of a_p0 a_p0_minutes a_p0_lostBy a_p0_backBy a_p0_slips a_p0_takes a_p0_ties z_away z_all z_p0_stretches z_p0_costOn z_p0_costBack z_p0_foundBy z_p0_friends (vp_updL z_of (0 : Int32).toNatClampNeg ((z_of (0 : Int32).toNatClampNeg) * (r3.toInt64))) z_p0_slips) := hD
  refine lv_iconst (v := (1 : Int32)) hx hb dX0_weigh_22 (by decide) ?_
  refine lv_istore (lv' := [(4, .int (1 : Int32)), (0, .ref a_this), (1, .ref a_p0), (2, .int x2), (3, .int x3)]) hx hb dX0_weigh_23 hl (by decide) rfl (fun ls hl => ?_)
  obtain ⟨n10, hV⟩ := hV
  refine qt_X0_weigh_L25 C0 hK hN hA z_away z_all z_p0_stretches z_p0_costOn z_p0_costBack z_p0_foundBy z_p0_friends z_p0_slips x2 x3 _ _ (fun z_of_10 H locs ls hV hP hD hS hl => ?_) n10 (1 : Int32) (vp_updL z_of (0 : Int32).toNatClampNeg ((z_of (0 : Int32).toNatClampNeg) * (r3.toInt64))) H locs ls hV hP hD hS (lv_sub hl [1, 2, 3, 4, 0] rfl)
  refine lv_aload_n hx hb dX0_weigh_61 rfl (lv_at hl 0 rfl) ?_
  refine kW_v (wc := (qw_X0_addUp cI cJ cC cG cW a_this a_this_of z_away z_all z_of_10)) (wr := List.filterMap (fun (i : Nat) => (qw_X0_weigh cI cJ cC cG cW a_this a_this_of a_p0 a_p0_minutes a_p0_lostBy a_p0_backBy a_p0_slips a_p0_takes a_p0_ties z_away z_all z_p0_stretches z_p0_costOn z_p0_costBack z_p0_foundBy z_p0_friends z_of_10 z_p0_slips)[i]?) [1, 3]) (w1 := fun (u : (Int64) × (Int64)) => (qw_X0_addUp cI cJ cC cG cW a_this a_this_of u.1 u.2 z_of_10)) (va_runV (As := []) (rest := []) ⟨hx, hb, hml, hown, hts⟩ (qm_X0_addUp l dC dI cI cJ cC cG cW a_this a_this_of z_away z_all z_of_10 H.size _ hV) (cwV 0 hts gX0_weigh_X0_addUp rfl rfl rfl (by decide +kernel) ⟨Nat.le_of_ble_eq_true rfl, Nat.le_of_ble_eq_true rfl⟩) (preWV hK hN (hP.sub (ws' := (qw_X0_addUp cI cJ cC cG cW a_this a_this_of z_away z_all z_of_10)) [0, 2] rfl) (hD.sub (ws' := (qw_X0_addUp cI cJ cC cG cW a_this a_this_of z_away z_all z_of_10)) [0, 2] (by decide) rfl) rfl rfl) rfl rfl hl.1 rfl (lv_room (Nat.le_of_ble_eq_true rfl)) dX0_weigh_62 ⟨Nat.le_of_ble_eq_true rfl, Nat.le_of_ble_eq_true rfl⟩) hP hD hS hA [0, 2] [1, 3] rfl rfl (by decide) (by decide) (fun u H locs hV hP hD hS => ?_)
  obtain ⟨z_away_11, z_all_11⟩ := u
  try dsimp only at hV
  have hP := hP.sub (ws' := (qw_X0_weigh cI cJ cC cG cW a_this a_this_of a_p0 a_p0_minutes a_p0_lostBy a_p0_backBy a_p0_slips a_p0_takes a_p0_ties z_away_11 z_all_11 z_p0_stretches z_p0_costOn z_p0_costBack z_p0_foundBy z_p0_friends z_of_10 z_p0_slips)) [2, 0, 3, 1] rfl
  have hD := hD.sub (ws' := (qw_X0_weigh cI cJ cC cG cW a_this a_this_of a_p0 a_p0_minutes a_p0_lostBy a_p0_backBy a_p0_slips a_p0_takes a_p0_ties z_away_11 z_all_11 z_p0_stretches z_p0_costOn z_p0_costBack z_p0_foundBy z_p0_friends z_of_10 z_p0_slips)) [2, 0, 3, 1] (by decide) rfl
  exact W.vret hx hb hr (fun t ht hW => ⟨⟨(z_away_11, z_all_11, z_of_10), rfl, hV, ⟨by rw [ht]; exact hP, va_K.moved hW.alike hK, hD⟩⟩, hS.F ht⟩) hS.2.2 dX0_weigh_65 hlocks

/-! StileCounts$Chances.follow(LStileCounts$Laid;LStileCounts$Way;I)I -/
abbrev qw_X0_follow (cI cJ cC cG cW : ClassId) (a_this a_this_of a_p0 a_p0_minutes a_p0_lostBy a_p0_backBy a_p0_slips a_p0_takes a_p0_ties a_p1 a_p1_behind a_p1_sorts a_p1_tells : Nat) (z_away : Int64) (z_all : Int64) (z_p0_stretches : Int32) (z_p0_costOn : Int32) (z_p0_costBack : Int32) (z_p0_foundBy : Int32) (z_p0_friends : Int32) (z_p1_walked : Int32) (z_p1_counts : Int32) (z_p1_undoable : Int32) (z_of : Nat → Int64) (z_p0_lostBy : Nat → Int32) (z_p0_backBy : Nat → Int32) (z_p0_slips : Nat → Int32) (z_p1_behind : Nat → Int32) (z_p1_sorts : Nat → Int32) (z_p1_tells : Nat → Int32) : va_W := [(a_this, .inr (0, [.ref a_this_of, .long z_away, .long z_all])), (a_p0, .inr (2, [.int z_p0_stretches, .ref a_p0_minutes, .ref a_p0_lostBy, .ref a_p0_backBy, .ref a_p0_slips, .ref a_p0_takes, .int z_p0_costOn, .int z_p0_costBack, .int z_p0_foundBy, .int z_p0_friends, .ref a_p0_ties])), (a_p1, .inr (6, [.int z_p1_walked, .int z_p1_counts, .ref a_p1_behind, .ref a_p1_sorts, .ref a_p1_tells, .int z_p1_undoable])), (a_this_of, .inl (cJ, 9, .inr (.inl z_of))), (a_p0_lostBy, .inl (cI, 9, .inl z_p0_lostBy)), (a_p0_backBy, .inl (cI, 9, .inl z_p0_backBy)), (a_p0_slips, .inl (cI, 4, .inl z_p0_slips)), (a_p1_behind, .inl (cI, 6, .inl z_p1_behind)), (a_p1_sorts, .inl (cI, 6, .inl z_p1_sorts)), (a_p1_tells, .inl (cI, 6, .inl z_p1_tells))]
theorem qi_X0_follow_X6 : ∀ w ∈ wsX60, w ∈ wsX0_follow := by decide +kernel
theorem ql_X0_follow_18 : (.fieldLink RX0 18 "StileCounts$Way" "behind" "[I" : Cond) ∈ wsX0_follow := by decide +kernel
theorem ql_X0_follow_28 : (.fieldLink RX0 28 "StileCounts$Way" "sorts" "[I" : Cond) ∈ wsX0_follow := by decide +kernel
theorem ql_X0_follow_31 : (.fieldLink RX0 31 "StileCounts$Way" "tells" "[I" : Cond) ∈ wsX0_follow := by decide +kernel
theorem qi_X0_follow_X0 : ∀ w ∈ wsX00, w ∈ wsX0_follow := by decide +kernel
theorem ql_X0_follow_37 : (.fieldLink RX0 37 "StileCounts$Chances" "all" "J" : Cond) ∈ wsX0_follow := by decide +kernel
theorem ql_X0_follow_41 : (.fieldLink RX0 41 "StileCounts$Way" "walked" "I" : Cond) ∈ wsX0_follow := by decide +kernel
def qv_X0_follow_L14 (x3 : Int32) (z_p1_walked : Int32) (z_p0_lostBy : Nat → Int32) (z_p0_backBy : Nat → Int32) (z_p0_slips : Nat → Int32) (z_p1_behind : Nat → Int32) (z_p1_sorts : Nat → Int32) (z_p1_tells : Nat → Int32) (Post : Int32 → (Int64) → (Int64) → (Nat → Int64) → Prop) (E : (Int32) → (Int32) → (Int64) → (Int64) → (Nat → Int64) → Prop) : Nat → (Int32) → (Int32) → (Int32) → (Int64) → (Int64) → (Nat → Int64) → Prop
  | 0, _, _, _, _, _, _ => False
  | n + 1, x4, x5, x6, z_away, z_all, z_of => (x3 ≤ x6 → E x4 x5 z_away z_all z_of) ∧ (¬ x3 ≤ x6 → vp_in x6 6 ∧ (qv_X0_goTo x5 (z_p1_behind x6.toNatClampNeg) z_away z_all z_of z_p0_lostBy z_p0_backBy (fun z_away_4 z_all_4 z_of_4 => vp_in x6 6 ∧ (vp_in x6 6 ∧ (vp_in x6 6 ∧ (qv_X0_weigh (z_p1_sorts x6.toNatClampNeg) (z_p1_tells x6.toNatClampNeg) z_away_4 z_all_4 z_of_4 z_p0_slips (fun z_away_8 z_all_8 z_of_8 => (x4 = (-4 : Int32) → (z_all_8 = (0 : Int64) → qv_X0_follow_L14 x3 z_p1_walked z_p0_lostBy z_p0_backBy z_p0_slips z_p1_behind z_p1_sorts z_p1_tells Post E n x6 (z_p1_behind x6.toNatClampNeg) (x6 + (1 : Int32)) z_away_8 z_all_8 z_of_8) ∧ (¬ z_all_8 = (0 : Int64) → qv_X0_follow_L14 x3 z_p1_walked z_p0_lostBy z_p0_backBy z_p0_slips z_p1_behind z_p1_sorts z_p1_tells Post E n x4 (z_p1_behind x6.toNatClampNeg) (x6 + (1 : Int32)) z_away_8 z_all_8 z_of_8)) ∧ (¬ x4 = (-4 : Int32) → qv_X0_follow_L14 x3 z_p1_walked z_p0_lostBy z_p0_backBy z_p0_slips z_p1_behind z_p1_sorts z_p1_tells Post E n x4 (z_p1_behind x6.toNatClampNeg) (x6 + (1 : Int32)) z_away_8 z_all_8 z_of_8))))))))
set_option maxHeartbeats 4000000 in
set_option maxRecDepth 100000 in
theorem qt_X0_follow_L14 {p : Program} {l : Launch} {e : Env} {s : State} {m : MethodId} {args : Array Value} {below : List Frame} {meth : Method} {c : Code} {dC : Nat → ClassId} {dI : Nat → Nat → Nat} {cI cJ cC cG cW : ClassId} {a_this a_this_of a_p0 a_p0_minutes a_p0_lostBy a_p0_backBy a_p0_slips a_p0_takes a_p0_ties a_p1 a_p1_behind a_p1_sorts a_p1_tells : Nat} {A : Nat → Prop} (C0 : MC cX0_follow 7 (some .int) RX0 wsX0_follow p s m args meth c) (hK : va_K (dC, dI) vwCl (tyL cI cJ cC cG cW) s) (hN : NW s) (hA : ∀ q, s.heap.size ≤ q → A q) (z_p0_stretches : Int32) (z_p0_costOn : Int32) (z_p0_costBack : Int32) (z_p0_foundBy : Int32) (z_p0_friends : Int32) (z_p1_walked : Int32) (z_p1_counts : Int32) (z_p1_undoable : Int32) (z_p0_lostBy : Nat → Int32) (z_p0_backBy : Nat → Int32) (z_p0_slips : Nat → Int32) (z_p1_behind : Nat → Int32) (z_p1_sorts : Nat → Int32) (z_p1_tells : Nat → Int32) (x3 : Int32) (Post : Int32 → (Int64) → (Int64) → (Nat → Int64) → Prop) (E : (Int32) → (Int32) → (Int64) → (Int64) → (Nat → Int64) → Prop) (hE : ∀ (x4 : Int32) (x5 : Int32) (z_away : Int64) (z_all : Int64) (z_of : Nat → Int64) (H : Heap) (locs : List Loc) (ls : Array Slot), E x4 x5 z_away z_all z_of → va_P (dC, dI) vwCl (qw_X0_follow cI cJ cC cG cW a_this a_this_of a_p0 a_p0_minutes a_p0_lostBy a_p0_backBy a_p0_slips a_p0_takes a_p0_ties a_p1 a_p1_behind a_p1_sorts a_p1_tells z_away z_all z_p0_stretches z_p0_costOn z_p0_costBack z_p0_foundBy z_p0_friends z_p1_walked z_p1_counts z_p1_undoable z_of z_p0_lostBy z_p0_backBy z_p0_slips z_p1_behind z_p1_sorts z_p1_tells) H → va_D A (qw_X0_follow cI cJ cC cG cW a_this a_this_of a_p0 a_p0_minutes a_p0_lostBy a_p0_backBy a_p0_slips a_p0_takes a_p0_ties a_p1 a_p1_behind a_p1_sorts a_p1_tells z_away z_all z_p0_stretches z_p0_costOn z_p0_costBack z_p0_foundBy z_p0_friends z_p1_walked z_p1_counts z_p1_undoable z_of z_p0_lostBy z_p0_backBy z_p0_slips z_p1_behind z_p1_sorts z_p1_tells) → va_S A s.heap H locs → lv_has ls 7 [(0, .ref a_this), (1, .ref a_p0), (2, .ref a_p1), (4, .int x4), (5, .int x5)] → W p l e ({ frames := 2, cells := 0, slots := 0, locals := 48 } : Room) s m args below meth c H locs 0 0 (MQ below (va_Qi (fun (r : Int32) (u : (Int64) × (Int64) × (Nat → Int64)) => Post r u.1 u.2.1 u.2.2) (fun u t => poW (dC, dI) (tyL cI cJ cC cG cW) A (qw_X0_follow cI cJ cC cG cW a_this a_this_of a_p0 a_p0_minutes a_p0_lostBy a_p0_backBy a_p0_slips a_p0_takes a_p0_ties a_p1 a_p1_behind a_p1_sorts a_p1_tells u.1 u.2.1 z_p0_stretches z_p0_costOn z_p0_costBack z_p0_foundBy z_p0_friends z_p1_walked z_p1_counts z_p1_undoable u.2.2 z_p0_lostBy z_p0_backBy z_p0_slips z_p1_behind z_p1_sorts z_p1_tells) t) A) args s 0 0 A) (F0 m 88 ls [])) : ∀ (n : Nat) (x4 : Int32) (x5 : Int32) (x6 : Int32) (z_away : Int64) (z_all : Int64) (z_of : Nat → Int64) (H : Heap) (locs : List Loc) (ls : Array Slot), qv_X0_follow_L14 x3 z_p1_walked z_p0_lostBy z_p0_backBy z_p0_slips z_p1_behind z_p1_sorts z_p1_tells Post E n x4 x5 x6 z_away z_all z_of → va_P (dC, dI) vwCl (qw_X0_follow cI cJ cC cG cW a_this a_this_of a_p0 a_p0_minutes a_p0_lostBy a_p0_backBy a_p0_slips a_p0_takes a_p0_ties a_p1 a_p1_behind a_p1_sorts a_p1_tells z_away z_all z_p0_stretches z_p0_costOn z_p0_costBack z_p0_foundBy z_p0_friends z_p1_walked z_p1_counts z_p1_undoable z_of z_p0_lostBy z_p0_backBy z_p0_slips z_p1_behind z_p1_sorts z_p1_tells) H → va_D A (qw_X0_follow cI cJ cC cG cW a_this a_this_of a_p0 a_p0_minutes a_p0_lostBy a_p0_backBy a_p0_slips a_p0_takes a_p0_ties a_p1 a_p1_behind a_p1_sorts a_p1_tells z_away z_all z_p0_stretches z_p0_costOn z_p0_costBack z_p0_foundBy z_p0_friends z_p1_walked z_p1_counts z_p1_undoable z_of z_p0_lostBy z_p0_backBy z_p0_slips z_p1_behind z_p1_sorts z_p1_tells) → va_S A s.heap H locs → lv_has ls 7 [(0, .ref a_this), (1, .ref a_p0), (2, .ref a_p1), (3, .int x3), (4, .int x4), (5, .int x5), (6, .int x6)] → W p l e ({ frames := 2, cells := 0, slots := 0, locals := 48 } : Room) s m args below meth c H locs 0 0 (MQ below (va_Qi (fun (r : Int32) (u : (Int64) × (Int64) × (Nat → Int64)) => Post r u.1 u.2.1 u.2.2) (fun u t => poW (dC, dI) (tyL cI cJ cC cG cW) A (qw_X0_follow cI cJ cC cG cW a_this a_this_of a_p0 a_p0_minutes a_p0_lostBy a_p0_backBy a_p0_slips a_p0_takes a_p0_ties a_p1 a_p1_behind a_p1_sorts a_p1_tells u.1 u.2.1 z_p0_stretches z_p0_costOn z_p0_costBack z_p0_foundBy z_p0_friends z_p1_walked z_p1_counts z_p1_undoable u.2.2 z_p0_lostBy z_p0_backBy z_p0_slips z_p1_behind z_p1_sorts z_p1_tells) t) A) args s 0 0 A) (F0 m 14 ls []) := by
  obtain ⟨hx, hb, hr, hml, hown, hts, hlocks⟩ := id C0
  intro n
  induction n with
  | zero =>
    intro x4 x5 x6 z_away z_all z_of H locs ls hV
    exact False.elim hV
  | succ n ih =>
    intro x4 x5 x6 z_away z_all z_of H locs ls hV hP hD hS hl
    refine lv_iload hx hb dX0_follow_14 (lv_at hl 6 rfl) ?_
    refine lv_iload_n hx hb dX0_follow_16 rfl (lv_at hl 3 rfl) ?_
    refine lv_icmp_ge (tgt := 88) hx hb dX0_follow_17 (by decide) (fun c2 => ?_) (fun c2 => ?_)
    · have hV := hV.1 c2
      exact hE x4 x5 z_away z_all z_of H locs ls hV hP hD hS (lv_sub hl [0, 1, 2, 4, 5] rfl)
    · have hV := hV.2 c2
      refine lv_aload_n hx hb dX0_follow_20 rfl (lv_at hl 0 rfl) ?_
      refine lv_aload_n hx hb dX0_follow_21 rfl (lv_at hl 1 rfl) ?_
      refine lv_iload hx hb dX0_follow_22 (lv_at hl 5 rfl) ?_
      refine lv_aload_n hx hb dX0_follow_24 rfl (lv_at hl 2 rfl) ?_
      refine va_get (D := (dC, dI)) (ci := 6) (v := .ref a_p1_behind) (C := RX6) (T := TX6) (N := 6) hx hb hts qi_X0_follow_X6 hown hK hP 2 rfl rfl 2 (by decide) (hts _ ql_X0_follow_18) (fun _ h9 => h9) rfl dX0_follow_25 ?_
      refine lv_iload hx hb dX0_follow_28 (lv_at hl 6 rfl) ?_
      obtain ⟨h3, hV⟩ := hV
      refine va_iald hx hb hK hP 7 0 rfl rfl h3 dX0_follow_30 ?_
      refine kW_v (wc := (qw_X0_goTo cI cJ cC cG cW a_this a_this_of a_p0 a_p0_minutes a_p0_lostBy a_p0_backBy a_p0_slips a_p0_takes a_p0_ties z_away z_all z_p0_stretches z_p0_costOn z_p0_costBack z_p0_foundBy z_p0_friends z_of z_p0_lostBy z_p0_backBy)) (wr := List.filterMap (fun (i : Nat) => (qw_X0_follow cI cJ cC cG cW a_this a_this_of a_p0 a_p0_minutes a_p0_lostBy a_p0_backBy a_p0_slips a_p0_takes a_p0_ties a_p1 a_p1_behind a_p1_sorts a_p1_tells z_away z_all z_p0_stretches z_p0_costOn z_p0_costBack z_p0_foundBy z_p0_friends z_p1_walked z_p1_counts z_p1_undoable z_of z_p0_lostBy z_p0_backBy z_p0_slips z_p1_behind z_p1_sorts z_p1_tells)[i]?) [2, 6, 7, 8, 9]) (w1 := fun (u : (Int64) × (Int64) × (Nat → Int64)) => (qw_X0_goTo cI cJ cC cG cW a_this a_this_of a_p0 a_p0_minutes a_p0_lostBy a_p0_backBy a_p0_slips a_p0_takes a_p0_ties u.1 u.2.1 z_p0_stretches z_p0_costOn z_p0_costBack z_p0_foundBy z_p0_friends u.2.2 z_p0_lostBy z_p0_backBy)) (va_runV (As := [.ref a_p0, .int x5, .int (z_p1_behind x6.toNatClampNeg)]) (rest := []) ⟨hx, hb, hml, hown, hts⟩ (qm_X0_goTo l dC dI cI cJ cC cG cW a_this a_this_of a_p0 a_p0_minutes a_p0_lostBy a_p0_backBy a_p0_slips a_p0_takes a_p0_ties z_away z_all z_p0_stretches z_p0_costOn z_p0_costBack z_p0_foundBy z_p0_friends z_of z_p0_lostBy z_p0_backBy H.size x5 (z_p1_behind x6.toNatClampNeg) _ hV) (cwV 3 hts gX0_follow_X0_goTo rfl rfl rfl (by decide +kernel) ⟨Nat.le_of_ble_eq_true rfl, Nat.le_of_ble_eq_true rfl⟩) (preWV hK hN (hP.sub (ws' := (qw_X0_goTo cI cJ cC cG cW a_this a_this_of a_p0 a_p0_minutes a_p0_lostBy a_p0_backBy a_p0_slips a_p0_takes a_p0_ties z_away z_all z_p0_stretches z_p0_costOn z_p0_costBack z_p0_foundBy z_p0_friends z_of z_p0_lostBy z_p0_backBy)) [0, 1, 3, 4, 5] rfl) (hD.sub (ws' := (qw_X0_goTo cI cJ cC cG cW a_this a_this_of a_p0 a_p0_minutes a_p0_lostBy a_p0_backBy a_p0_slips a_p0_takes a_p0_ties z_away z_all z_p0_stretches z_p0_costOn z_p0_costBack z_p0_foundBy z_p0_friends z_of z_p0_lostBy z_p0_backBy)) [0, 1, 3, 4, 5] (by decide) rfl) rfl rfl) rfl rfl hl.1 rfl (lv_room (Nat.le_of_ble_eq_true rfl)) dX0_follow_31 ⟨Nat.le_of_ble_eq_true rfl, Nat.le_of_ble_eq_true rfl⟩) hP hD hS hA [0, 1, 3, 4, 5] [2, 6, 7, 8, 9] rfl rfl (by decide) (by decide) (fun u H locs hV hP hD hS => ?_)
      obtain ⟨z_away_4, z_all_4, z_of_4⟩ := u
      try dsimp only at hV
      have hP := hP.sub (ws' := (qw_X0_follow cI cJ cC cG cW a_this a_this_of a_p0 a_p0_minutes a_p0_lostBy a_p0_backBy a_p0_slips a_p0_takes a_p0_ties a_p1 a_p1_behind a_p1_sorts a_p1_tells z_away_4 z_all_4 z_p0_stretches z_p0_costOn z_p0_costBack z_p0_foundBy z_p0_friends z_p1_walked z_p1_counts z_p1_undoable z_of_4 z_p0_lostBy z_p0_backBy z_p0_slips z_p1_behind z_p1_sorts z_p1_tells)) [5, 6, 0, 7, 8, 9, 1, 2, 3, 4] rfl
      have hD := hD.sub (ws' := (qw_X0_follow cI cJ cC cG cW a_this a_this_of a_p0 a_p0_minutes a_p0_lostBy a_p0_backBy a_p0_slips a_p0_takes a_p0_ties a_p1 a_p1_behind a_p1_sorts a_p1_tells z_away_4 z_all_4 z_p0_stretches z_p0_costOn z_p0_costBack z_p0_foundBy z_p0_friends z_p1_walked z_p1_counts z_p1_undoable z_of_4 z_p0_lostBy z_p0_backBy z_p0_slips z_p1_behind z_p1_sorts z_p1_tells)) [5, 6, 0, 7, 8, 9, 1, 2, 3, 4] (by decide) rfl
      refine lv_aload_n hx hb dX0_follow_34 rfl (lv_at hl 2 rfl) ?_
      refine va_get (D := (dC, dI)) (ci := 6) (v := .ref a_p1_behind) (C := RX6) (T := TX6) (N := 6) hx hb hts qi_X0_follow_X6 hown hK hP 2 rfl rfl 2 (by decide) (hts _ ql_X0_follow_18) (fun _ h9 => h9) rfl dX0_follow_35 ?_
      refine lv_iload hx hb dX0_follow_38 (lv_at hl 6 rfl) ?_
      obtain ⟨h5, hV⟩ := hV
      refine va_iald hx hb hK hP 7 0 rfl rfl h5 dX0_follow_40 ?_
      refine lv_istore (lv' := [(5, .int (z_p1_behind x6.toNatClampNeg)), (0, .ref a_this), (1, .ref a_p0), (2, .ref a_p1), (3, .int x3), (4, .int x4), (6, .int x6)]) hx hb dX0_follow_41 hl (by decide) rfl (fun ls hl => ?_)
      refine lv_aload_n hx hb dX0_follow_43 rfl (lv_at hl 1 rfl) ?_
      refine lv_aload_n hx hb dX0_follow_44 rfl (lv_at hl 2 rfl) ?_
      refine lv_aload_n hx hb dX0_follow_45 rfl (lv_at hl 3 rfl) ?_
      refine va_get (D := (dC, dI)) (ci := 6) (v := .ref a_p1_sorts) (C := RX6) (T := TX6) (N := 6) hx hb hts qi_X0_follow_X6 hown hK hP 2 rfl rfl 3 (by decide) (hts _ ql_X0_follow_28) (fun _ h9 => h9) rfl dX0_follow_46 ?_
      refine lv_iload hx hb dX0_follow_49 (lv_at hl 6 rfl) ?_
      obtain ⟨h6, hV⟩ := hV
      refine va_iald hx hb hK hP 8 0 rfl rfl h6 dX0_follow_51 ?_
      refine lv_aload_n hx hb dX0_follow_52 rfl (lv_at hl 3 rfl) ?_
      refine va_get (D := (dC, dI)) (ci := 6) (v := .ref a_p1_tells) (C := RX6) (T := TX6) (N := 6) hx hb hts qi_X0_follow_X6 hown hK hP 2 rfl rfl 4 (by decide) (hts _ ql_X0_follow_31) (fun _ h9 => h9) rfl dX0_follow_53 ?_
      refine lv_iload hx hb dX0_follow_56 (lv_at hl 6 rfl) ?_
      obtain ⟨h7, hV⟩ := hV
      refine va_iald hx hb hK hP 9 0 rfl rfl h7 dX0_follow_58 ?_
      refine kW_v (wc := (qw_X0_weigh cI cJ cC cG cW a_this a_this_of a_p0 a_p0_minutes a_p0_lostBy a_p0_backBy a_p0_slips a_p0_takes a_p0_ties z_away_4 z_all_4 z_p0_stretches z_p0_costOn z_p0_costBack z_p0_foundBy z_p0_friends z_of_4 z_p0_slips)) (wr := List.filterMap (fun (i : Nat) => (qw_X0_follow cI cJ cC cG cW a_this a_this_of a_p0 a_p0_minutes a_p0_lostBy a_p0_backBy a_p0_slips a_p0_takes a_p0_ties a_p1 a_p1_behind a_p1_sorts a_p1_tells z_away_4 z_all_4 z_p0_stretches z_p0_costOn z_p0_costBack z_p0_foundBy z_p0_friends z_p1_walked z_p1_counts z_p1_undoable z_of_4 z_p0_lostBy z_p0_backBy z_p0_slips z_p1_behind z_p1_sorts z_p1_tells)[i]?) [2, 4, 5, 7, 8, 9]) (w1 := fun (u : (Int64) × (Int64) × (Nat → Int64)) => (qw_X0_weigh cI cJ cC cG cW a_this a_this_of a_p0 a_p0_minutes a_p0_lostBy a_p0_backBy a_p0_slips a_p0_takes a_p0_ties u.1 u.2.1 z_p0_stretches z_p0_costOn z_p0_costBack z_p0_foundBy z_p0_friends u.2.2 z_p0_slips)) (va_runV (As := [.ref a_p0, .int (z_p1_sorts x6.toNatClampNeg), .int (z_p1_tells x6.toNatClampNeg)]) (rest := []) ⟨hx, hb, hml, hown, hts⟩ (qm_X0_weigh l dC dI cI cJ cC cG cW a_this a_this_of a_p0 a_p0_minutes a_p0_lostBy a_p0_backBy a_p0_slips a_p0_takes a_p0_ties z_away_4 z_all_4 z_p0_stretches z_p0_costOn z_p0_costBack z_p0_foundBy z_p0_friends z_of_4 z_p0_slips H.size (z_p1_sorts x6.toNatClampNeg) (z_p1_tells x6.toNatClampNeg) _ hV) (cwV 3 hts gX0_follow_X0_weigh rfl rfl rfl (by decide +kernel) ⟨Nat.le_of_ble_eq_true rfl, Nat.le_of_ble_eq_true rfl⟩) (preWV hK hN (hP.sub (ws' := (qw_X0_weigh cI cJ cC cG cW a_this a_this_of a_p0 a_p0_minutes a_p0_lostBy a_p0_backBy a_p0_slips a_p0_takes a_p0_ties z_away_4 z_all_4 z_p0_stretches z_p0_costOn z_p0_costBack z_p0_foundBy z_p0_friends z_of_4 z_p0_slips)) [0, 1, 3, 6] rfl) (hD.sub (ws' := (qw_X0_weigh cI cJ cC cG cW a_this a_this_of a_p0 a_p0_minutes a_p0_lostBy a_p0_backBy a_p0_slips a_p0_takes a_p0_ties z_away_4 z_all_4 z_p0_stretches z_p0_costOn z_p0_costBack z_p0_foundBy z_p0_friends z_of_4 z_p0_slips)) [0, 1, 3, 6] (by decide) rfl) rfl rfl) rfl rfl hl.1 rfl (lv_room (Nat.le_of_ble_eq_true rfl)) dX0_follow_59 ⟨Nat.le_of_ble_eq_true rfl, Nat.le_of_ble_eq_true rfl⟩) hP hD hS hA [0, 1, 3, 6] [2, 4, 5, 7, 8, 9] rfl rfl (by decide) (by decide) (fun u H locs hV hP hD hS => ?_)
      obtain ⟨z_away_8, z_all_8, z_of_8⟩ := u
      try dsimp only at hV
      have hP := hP.sub (ws' := (qw_X0_follow cI cJ cC cG cW a_this a_this_of a_p0 a_p0_minutes a_p0_lostBy a_p0_backBy a_p0_slips a_p0_takes a_p0_ties a_p1 a_p1_behind a_p1_sorts a_p1_tells z_away_8 z_all_8 z_p0_stretches z_p0_costOn z_p0_costBack z_p0_foundBy z_p0_friends z_p1_walked z_p1_counts z_p1_undoable z_of_8 z_p0_lostBy z_p0_backBy z_p0_slips z_p1_behind z_p1_sorts z_p1_tells)) [6, 7, 0, 8, 1, 2, 9, 3, 4, 5] rfl
      have hD := hD.sub (ws' := (qw_X0_follow cI cJ cC cG cW a_this a_this_of a_p0 a_p0_minutes a_p0_lostBy a_p0_backBy a_p0_slips a_p0_takes a_p0_ties a_p1 a_p1_behind a_p1_sorts a_p1_tells z_away_8 z_all_8 z_p0_stretches z_p0_costOn z_p0_costBack z_p0_foundBy z_p0_friends z_p1_walked z_p1_counts z_p1_undoable z_of_8 z_p0_lostBy z_p0_backBy z_p0_slips z_p1_behind z_p1_sorts z_p1_tells)) [6, 7, 0, 8, 1, 2, 9, 3, 4, 5] (by decide) rfl
      refine lv_iload hx hb dX0_follow_62 (lv_at hl 5 rfl) ?_
      refine lv_bipush (v := (-4 : Int32)) hx hb dX0_follow_64 (by decide) ?_
      refine lv_icmp_ne (tgt := 82) hx hb dX0_follow_66 (by decide) (fun c9 => ?_) (fun c9 => ?_)
      · have hV := hV.2 c9
        refine lv_iinc (v := (x6 + (1 : Int32))) (lv' := [(6, .int (x6 + (1 : Int32))), (5, .int (z_p1_behind x6.toNatClampNeg)), (0, .ref a_this), (1, .ref a_p0), (2, .ref a_p1), (3, .int x3), (4, .int x4)]) hx hb dX0_follow_82 hl (k := 6) rfl rfl (by decide) rfl (fun ls hl => ?_)
        refine lv_goto (tgt := 14) hx hb dX0_follow_85 (by decide) ?_
        exact ih x4 (z_p1_behind x6.toNatClampNeg) (x6 + (1 : Int32)) z_away_8 z_all_8 z_of_8 H locs ls hV hP hD hS (lv_sub hl [2, 3, 4, 5, 6, 1, 0] rfl)
      · have hV := hV.1 c9
        refine lv_aload_n hx hb dX0_follow_69 rfl (lv_at hl 1 rfl) ?_
        refine va_get (D := (dC, dI)) (ci := 0) (v := .long z_all_8) (C := RX0) (T := TX0) (N := 3) hx hb hts qi_X0_follow_X0 hown hK hP 0 rfl rfl 2 (by decide) (hts _ ql_X0_follow_37) (fun _ h9 => h9) rfl dX0_follow_70 ?_
        refine lv_lconst (v := (0 : Int64)) hx hb dX0_follow_73 (by decide) ?_
        refine W.lcmp hx hb dX0_follow_74 ?_
        refine lv_if_ne (tgt := 82) hx hb dX0_follow_75 (by decide) (fun c10 => ?_) (fun c10 => ?_)
        · have c10 := fun h => c10 ((lg_cmp_eq _ _).mpr h)
          have hV := hV.2 c10
          refine lv_iinc (v := (x6 + (1 : Int32))) (lv' := [(6, .int (x6 + (1 : Int32))), (5, .int (z_p1_behind x6.toNatClampNeg)), (0, .ref a_this), (1, .ref a_p0), (2, .ref a_p1), (3, .int x3), (4, .int x4)]) hx hb dX0_follow_82 hl (k := 6) rfl rfl (by decide) rfl (fun ls hl => ?_)
          refine lv_goto (tgt := 14) hx hb dX0_follow_85 (by decide) ?_
          exact ih x4 (z_p1_behind x6.toNatClampNeg) (x6 + (1 : Int32)) z_away_8 z_all_8 z_of_8 H locs ls hV hP hD hS (lv_sub hl [2, 3, 4, 5, 6, 1, 0] rfl)
        · have c10 := (lg_cmp_eq _ _).mp c10
          have hV := hV.1 c10
          refine lv_iload hx hb dX0_follow_78 (lv_at hl 6 rfl) ?_
          refine lv_istore (lv' := [(4, .int x6), (5, .int (z_p1_behind x6.toNatClampNeg)), (0, .ref a_this), (1, .ref a_p0), (2, .ref a_p1), (3, .int x3), (6, .int x6)]) hx hb dX0_follow_80 hl (by decide) rfl (fun ls hl => ?_)
          refine lv_iinc (v := (x6 + (1 : Int32))) (lv' := [(6, .int (x6 + (1 : Int32))), (4, .int x6), (5, .int (z_p1_behind x6.toNatClampNeg)), (0, .ref a_this), (1, .ref a_p0), (2, .ref a_p1), (3, .int x3)]) hx hb dX0_follow_82 hl (k := 6) rfl rfl (by decide) rfl (fun ls hl => ?_)
          refine lv_goto (tgt := 14) hx hb dX0_follow_85 (by decide) ?_
          exact ih x6 (z_p1_behind x6.toNatClampNeg) (x6 + (1 : Int32)) z_away_8 z_all_8 z_of_8 H locs ls hV hP hD hS (lv_sub hl [3, 4, 5, 6, 1, 2, 0] rfl)
def qv_X0_follow (x3 : Int32) (z_away : Int64) (z_all : Int64) (z_p1_walked : Int32) (z_of : Nat → Int64) (z_p0_lostBy : Nat → Int32) (z_p0_backBy : Nat → Int32) (z_p0_slips : Nat → Int32) (z_p1_behind : Nat → Int32) (z_p1_sorts : Nat → Int32) (z_p1_tells : Nat → Int32) (Post : Int32 → (Int64) → (Int64) → (Nat → Int64) → Prop) : Prop := qv_X0_begin z_away z_all z_of (fun z_away_1 z_all_1 z_of_1 => ∃ n11, qv_X0_follow_L14 x3 z_p1_walked z_p0_lostBy z_p0_backBy z_p0_slips z_p1_behind z_p1_sorts z_p1_tells Post (fun x4_11 x5_11 z_away_11 z_all_11 z_of_11 => qv_X0_goTo x5_11 z_p1_walked z_away_11 z_all_11 z_of_11 z_p0_lostBy z_p0_backBy (fun z_away_12 z_all_12 z_of_12 => Post x4_11 z_away_12 z_all_12 z_of_12)) n11 (-4 : Int32) (0 : Int32) (0 : Int32) z_away_1 z_all_1 z_of_1)
set_option maxHeartbeats 4000000 in
set_option maxRecDepth 100000 in
theorem qm_X0_follow (l : Launch) (dC : Nat → ClassId) (dI : Nat → Nat → Nat) (cI cJ cC cG cW : ClassId) (a_this a_this_of a_p0 a_p0_minutes a_p0_lostBy a_p0_backBy a_p0_slips a_p0_takes a_p0_ties a_p1 a_p1_behind a_p1_sorts a_p1_tells : Nat) (z_away : Int64) (z_all : Int64) (z_p0_stretches : Int32) (z_p0_costOn : Int32) (z_p0_costBack : Int32) (z_p0_foundBy : Int32) (z_p0_friends : Int32) (z_p1_walked : Int32) (z_p1_counts : Int32) (z_p1_undoable : Int32) (z_of : Nat → Int64) (z_p0_lostBy : Nat → Int32) (z_p0_backBy : Nat → Int32) (z_p0_slips : Nat → Int32) (z_p1_behind : Nat → Int32) (z_p1_sorts : Nat → Int32) (z_p1_tells : Nat → Int32) (sz : Nat) (x3 : Int32) (Post : Int32 → (Int64) → (Int64) → (Nat → Int64) → Prop) (hV : qv_X0_follow x3 z_away z_all z_p1_walked z_of z_p0_lostBy z_p0_backBy z_p0_slips z_p1_behind z_p1_sorts z_p1_tells Post) : Met l yX0_follow wsX0_follow ({ frames := 2, cells := 0, slots := 0, locals := 48 } : Room) (va_Pc [.ref a_this, .ref a_p0, .ref a_p1, .int x3] (prW (dC, dI) (qw_X0_follow cI cJ cC cG cW a_this a_this_of a_p0 a_p0_minutes a_p0_lostBy a_p0_backBy a_p0_slips a_p0_takes a_p0_ties a_p1 a_p1_behind a_p1_sorts a_p1_tells z_away z_all z_p0_stretches z_p0_costOn z_p0_costBack z_p0_foundBy z_p0_friends z_p1_walked z_p1_counts z_p1_undoable z_of z_p0_lostBy z_p0_backBy z_p0_slips z_p1_behind z_p1_sorts z_p1_tells) (tyL cI cJ cC cG cW) sz)) (va_Qi (fun (r : Int32) (u : (Int64) × (Int64) × (Nat → Int64)) => Post r u.1 u.2.1 u.2.2) (fun u t => poW (dC, dI) (tyL cI cJ cC cG cW) (va_A (qw_X0_follow cI cJ cC cG cW a_this a_this_of a_p0 a_p0_minutes a_p0_lostBy a_p0_backBy a_p0_slips a_p0_takes a_p0_ties a_p1 a_p1_behind a_p1_sorts a_p1_tells z_away z_all z_p0_stretches z_p0_costOn z_p0_costBack z_p0_foundBy z_p0_friends z_p1_walked z_p1_counts z_p1_undoable z_of z_p0_lostBy z_p0_backBy z_p0_slips z_p1_behind z_p1_sorts z_p1_tells) sz) (qw_X0_follow cI cJ cC cG cW a_this a_this_of a_p0 a_p0_minutes a_p0_lostBy a_p0_backBy a_p0_slips a_p0_takes a_p0_ties a_p1 a_p1_behind a_p1_sorts a_p1_tells u.1 u.2.1 z_p0_stretches z_p0_costOn z_p0_costBack z_p0_foundBy z_p0_friends z_p1_walked z_p1_counts z_p1_undoable u.2.2 z_p0_lostBy z_p0_backBy z_p0_slips z_p1_behind z_p1_sorts z_p1_tells) t) (va_A (qw_X0_follow cI cJ cC cG cW a_this a_this_of a_p0 a_p0_minutes a_p0_lostBy a_p0_backBy a_p0_slips a_p0_takes a_p0_ties a_p1 a_p1_behind a_p1_sorts a_p1_tells z_away z_all z_p0_stretches z_p0_costOn z_p0_costBack z_p0_foundBy z_p0_friends z_p1_walked z_p1_counts z_p1_undoable z_of z_p0_lostBy z_p0_backBy z_p0_slips z_p1_behind z_p1_sorts z_p1_tells) sz)) 0 0 (va_A (qw_X0_follow cI cJ cC cG cW a_this a_this_of a_p0 a_p0_minutes a_p0_lostBy a_p0_backBy a_p0_slips a_p0_takes a_p0_ties a_p1 a_p1_behind a_p1_sorts a_p1_tells z_away z_all z_p0_stretches z_p0_costOn z_p0_costBack z_p0_foundBy z_p0_friends z_p1_walked z_p1_counts z_p1_undoable z_of z_p0_lostBy z_p0_backBy z_p0_slips z_p1_behind z_p1_sorts z_p1_tells) sz) := by
  refine Met.ofM (Qc := fun A => va_Qi (fun (r : Int32) (u : (Int64) × (Int64) × (Nat → Int64)) => Post r u.1 u.2.1 u.2.2) (fun u t => poW (dC, dI) (tyL cI cJ cC cG cW) A (qw_X0_follow cI cJ cC cG cW a_this a_this_of a_p0 a_p0_minutes a_p0_lostBy a_p0_backBy a_p0_slips a_p0_takes a_p0_ties a_p1 a_p1_behind a_p1_sorts a_p1_tells u.1 u.2.1 z_p0_stretches z_p0_costOn z_p0_costBack z_p0_foundBy z_p0_friends z_p1_walked z_p1_counts z_p1_undoable u.2.2 z_p0_lostBy z_p0_backBy z_p0_slips z_p1_behind z_p1_sorts z_p1_tells) t) A) (nm := "follow") (ds := "(LStileCounts$Laid;LStileCounts$Way;I)I") (own := RX0) (maxL := 7) (cc := cX0_follow) (ret := (some .int)) (by decide) rfl rfl (Nat.le_of_ble_eq_true rfl) (fun p e s m below meth c A C0 hin hK hN hA hP hD hS ls hl => ?_)
  obtain ⟨hx, hb, hr, hml, hown, hts, hlocks⟩ := id C0
  have hl : lv_has ls 7 [(0, .ref a_this), (1, .ref a_p0), (2, .ref a_p1), (3, .int x3)] := hl
  obtain ⟨H, hH⟩ : ∃ h : Heap, h = s.heap := ⟨_, rfl⟩
  obtain ⟨locs, hLc⟩ : ∃ L : List Loc, L = [] := ⟨_, rfl⟩
  have hS : va_S A s.heap H locs := by rw [hH, hLc]; exact hS
  rw [← hH] at hP
  rw [← hLc, ← hH]
  clear hH hLc
  refine lv_aload_n hx hb dX0_follow_0 rfl (lv_at hl 0 rfl) ?_
  refine kW_v (wc := (qw_X0_begin cI cJ cC cG cW a_this a_this_of z_away z_all z_of)) (wr := List.filterMap (fun (i : Nat) => (qw_X0_follow cI cJ cC cG cW a_this a_this_of a_p0 a_p0_minutes a_p0_lostBy a_p0_backBy a_p0_slips a_p0_takes a_p0_ties a_p1 a_p1_behind a_p1_sorts a_p1_tells z_away z_all z_p0_stretches z_p0_costOn z_p0_costBack z_p0_foundBy z_p0_friends z_p1_walked z_p1_counts z_p1_undoable z_of z_p0_lostBy z_p0_backBy z_p0_slips z_p1_behind z_p1_sorts z_p1_tells)[i]?) [1, 2, 4, 5, 6, 7, 8, 9]) (w1 := fun (u : (Int64) × (Int64) × (Nat → Int64)) => (qw_X0_begin cI cJ cC cG cW a_this a_this_of u.1 u.2.1 u.2.2)) (va_runV (As := []) (rest := []) ⟨hx, hb, hml, hown, hts⟩ (qm_X0_begin l dC dI cI cJ cC cG cW a_this a_this_of z_away z_all z_of H.size _ hV) (cwV 0 hts gX0_follow_X0_begin rfl rfl rfl (by decide +kernel) ⟨Nat.le_of_ble_eq_true rfl, Nat.le_of_ble_eq_true rfl⟩) (preWV hK hN (hP.sub (ws' := (qw_X0_begin cI cJ cC cG cW a_this a_this_of z_away z_all z_of)) [0, 3] rfl) (hD.sub (ws' := (qw_X0_begin cI cJ cC cG cW a_this a_this_of z_away z_all z_of)) [0, 3] (by decide) rfl) rfl rfl) rfl rfl hl.1 rfl (lv_room (Nat.le_of_ble_eq_true rfl)) dX0_follow_1 ⟨Nat.le_of_ble_eq_true rfl, Nat.le_of_ble_eq_true rfl⟩) hP hD hS hA [0, 3] [1, 2, 4, 5, 6, 7, 8, 9] rfl rfl (by decide) (by decide) (fun u H locs hV hP hD hS => ?_)
  obtain ⟨z_away_1, z_all_1, z_of_1⟩ := u
  try dsimp only at hV
  have hP := hP.sub (ws' := (qw_X0_follow cI cJ cC cG cW a_this a_this_of a_p0 a_p0_minutes a_p0_lostBy a_p0_backBy a_p0_slips a_p0_takes a_p0_ties a_p1 a_p1_behind a_p1_sorts a_p1_tells z_away_1 z_all_1 z_p0_stretches z_p0_costOn z_p0_costBack z_p0_foundBy z_p0_friends z_p1_walked z_p1_counts z_p1_undoable z_of_1 z_p0_lostBy z_p0_backBy z_p0_slips z_p1_behind z_p1_sorts z_p1_tells)) [8, 0, 1, 9, 2, 3, 4, 5, 6, 7] rfl
  have hD := hD.sub (ws' := (qw_X0_follow cI cJ cC cG cW a_this a_this_of a_p0 a_p0_minutes a_p0_lostBy a_p0_backBy a_p0_slips a_p0_takes a_p0_ties a_p1 a_p1_behind a_p1_sorts a_p1_tells z_away_1 z_all_1 z_p0_stretches z_p0_costOn z_p0_costBack z_p0_foundBy z_p0_friends z_p1_walked z_p1_counts z_p1_undoable z_of_1 z_p0_lostBy z_p0_backBy z_p0_slips z_p1_behind z_p1_sorts z_p1_tells)) [8, 0, 1, 9, 2, 3, 4, 5, 6, 7] (by decide) rfl
  refine lv_bipush (v := (-4 : Int32)) hx hb dX0_follow_4 (by decide) ?_
  refine lv_istore (lv' := [(4, .int (-4 : Int32)), (0, .ref a_this), (1, .ref a_p0), (2, .ref a_p1), (3, .int x3)]) hx hb dX0_follow_6 hl (by decide) rfl (fun ls hl => ?_)
  refine lv_iconst (v := (0 : Int32)) hx hb dX0_follow_8 (by decide) ?_
  refine lv_istore (lv' := [(5, .int (0 : Int32)), (4, .int (-4 : Int32)), (0, .ref a_this), (1, .ref a_p0), (2, .ref a_p1), (3, .int x3)]) hx hb dX0_follow_9 hl (by decide) rfl (fun ls hl => ?_)
  refine lv_iconst (v := (0 : Int32)) hx hb dX0_follow_11 (by decide) ?_
  refine lv_istore (lv' := [(6, .int (0 : Int32)), (5, .int (0 : Int32)), (4, .int (-4 : Int32)), (0, .ref a_this), (1, .ref a_p0), (2, .ref a_p1), (3, .int x3)]) hx hb dX0_follow_12 hl (by decide) rfl (fun ls hl => ?_)
  obtain ⟨n11, hV⟩ := hV
  refine qt_X0_follow_L14 C0 hK hN hA z_p0_stretches z_p0_costOn z_p0_costBack z_p0_foundBy z_p0_friends z_p1_walked z_p1_counts z_p1_undoable z_p0_lostBy z_p0_backBy z_p0_slips z_p1_behind z_p1_sorts z_p1_tells x3 _ _ (fun x4_11 x5_11 z_away_11 z_all_11 z_of_11 H locs ls hV hP hD hS hl => ?_) n11 (-4 : Int32) (0 : Int32) (0 : Int32) z_away_1 z_all_1 z_of_1 H locs ls hV hP hD hS (lv_sub hl [3, 4, 5, 6, 2, 1, 0] rfl)
  refine lv_aload_n hx hb dX0_follow_88 rfl (lv_at hl 0 rfl) ?_
  refine lv_aload_n hx hb dX0_follow_89 rfl (lv_at hl 1 rfl) ?_
  refine lv_iload hx hb dX0_follow_90 (lv_at hl 4 rfl) ?_
  refine lv_aload_n hx hb dX0_follow_92 rfl (lv_at hl 2 rfl) ?_
  refine va_get (D := (dC, dI)) (ci := 6) (v := .int z_p1_walked) (C := RX6) (T := TX6) (N := 6) hx hb hts qi_X0_follow_X6 hown hK hP 2 rfl rfl 0 (by decide) (hts _ ql_X0_follow_41) (fun _ h9 => h9) rfl dX0_follow_93 ?_
  refine kW_v (wc := (qw_X0_goTo cI cJ cC cG cW a_this a_this_of a_p0 a_p0_minutes a_p0_lostBy a_p0_backBy a_p0_slips a_p0_takes a_p0_ties z_away_11 z_all_11 z_p0_stretches z_p0_costOn z_p0_costBack z_p0_foundBy z_p0_friends z_of_11 z_p0_lostBy z_p0_backBy)) (wr := List.filterMap (fun (i : Nat) => (qw_X0_follow cI cJ cC cG cW a_this a_this_of a_p0 a_p0_minutes a_p0_lostBy a_p0_backBy a_p0_slips a_p0_takes a_p0_ties a_p1 a_p1_behind a_p1_sorts a_p1_tells z_away_11 z_all_11 z_p0_stretches z_p0_costOn z_p0_costBack z_p0_foundBy z_p0_friends z_p1_walked z_p1_counts z_p1_undoable z_of_11 z_p0_lostBy z_p0_backBy z_p0_slips z_p1_behind z_p1_sorts z_p1_tells)[i]?) [2, 6, 7, 8, 9]) (w1 := fun (u : (Int64) × (Int64) × (Nat → Int64)) => (qw_X0_goTo cI cJ cC cG cW a_this a_this_of a_p0 a_p0_minutes a_p0_lostBy a_p0_backBy a_p0_slips a_p0_takes a_p0_ties u.1 u.2.1 z_p0_stretches z_p0_costOn z_p0_costBack z_p0_foundBy z_p0_friends u.2.2 z_p0_lostBy z_p0_backBy)) (va_runV (As := [.ref a_p0, .int x5_11, .int z_p1_walked]) (rest := []) ⟨hx, hb, hml, hown, hts⟩ (qm_X0_goTo l dC dI cI cJ cC cG cW a_this a_this_of a_p0 a_p0_minutes a_p0_lostBy a_p0_backBy a_p0_slips a_p0_takes a_p0_ties z_away_11 z_all_11 z_p0_stretches z_p0_costOn z_p0_costBack z_p0_foundBy z_p0_friends z_of_11 z_p0_lostBy z_p0_backBy H.size x5_11 z_p1_walked _ hV) (cwV 3 hts gX0_follow_X0_goTo rfl rfl rfl (by decide +kernel) ⟨Nat.le_of_ble_eq_true rfl, Nat.le_of_ble_eq_true rfl⟩) (preWV hK hN (hP.sub (ws' := (qw_X0_goTo cI cJ cC cG cW a_this a_this_of a_p0 a_p0_minutes a_p0_lostBy a_p0_backBy a_p0_slips a_p0_takes a_p0_ties z_away_11 z_all_11 z_p0_stretches z_p0_costOn z_p0_costBack z_p0_foundBy z_p0_friends z_of_11 z_p0_lostBy z_p0_backBy)) [0, 1, 3, 4, 5] rfl) (hD.sub (ws' := (qw_X0_goTo cI cJ cC cG cW a_this a_this_of a_p0 a_p0_minutes a_p0_lostBy a_p0_backBy a_p0_slips a_p0_takes a_p0_ties z_away_11 z_all_11 z_p0_stretches z_p0_costOn z_p0_costBack z_p0_foundBy z_p0_friends z_of_11 z_p0_lostBy z_p0_backBy)) [0, 1, 3, 4, 5] (by decide) rfl) rfl rfl) rfl rfl hl.1 rfl (lv_room (Nat.le_of_ble_eq_true rfl)) dX0_follow_96 ⟨Nat.le_of_ble_eq_true rfl, Nat.le_of_ble_eq_true rfl⟩) hP hD hS hA [0, 1, 3, 4, 5] [2, 6, 7, 8, 9] rfl rfl (by decide) (by decide) (fun u H locs hV hP hD hS => ?_)
  obtain ⟨z_away_12, z_all_12, z_of_12⟩ := u
  try dsimp only at hV
  have hP := hP.sub (ws' := (qw_X0_follow cI cJ cC cG cW a_this a_this_of a_p0 a_p0_minutes a_p0_lostBy a_p0_backBy a_p0_slips a_p0_takes a_p0_ties a_p1 a_p1_behind a_p1_sorts a_p1_tells z_away_12 z_all_12 z_p0_stretches z_p0_costOn z_p0_costBack z_p0_foundBy z_p0_friends z_p1_walked z_p1_counts z_p1_undoable z_of_12 z_p0_lostBy z_p0_backBy z_p0_slips z_p1_behind z_p1_sorts z_p1_tells)) [5, 6, 0, 7, 8, 9, 1, 2, 3, 4] rfl
  have hD := hD.sub (ws' := (qw_X0_follow cI cJ cC cG cW a_this a_this_of a_p0 a_p0_minutes a_p0_lostBy a_p0_backBy a_p0_slips a_p0_takes a_p0_ties a_p1 a_p1_behind a_p1_sorts a_p1_tells z_away_12 z_all_12 z_p0_stretches z_p0_costOn z_p0_costBack z_p0_foundBy z_p0_friends z_p1_walked z_p1_counts z_p1_undoable z_of_12 z_p0_lostBy z_p0_backBy z_p0_slips z_p1_behind z_p1_sorts z_p1_tells)) [5, 6, 0, 7, 8, 9, 1, 2, 3, 4] (by decide) rfl
  refine lv_iload hx hb dX0_follow_99 (lv_at hl 3 rfl) ?_
  exact W.iret hx hb hr (fun t ht hW => ⟨⟨_, (z_away_12, z_all_12, z_of_12), rfl, hV, ⟨by rw [ht]; exact hP, va_K.moved hW.alike hK, hD⟩⟩, hS.F ht⟩) hS.2.2 dX0_follow_101 hlocks

/-! StileCounts$Chances.likeliestAway()I -/
abbrev qw_X0_likeliestAway (cI cJ cC cG cW : ClassId) (a_this a_this_of : Nat) (z_away : Int64) (z_all : Int64) (z_of : Nat → Int64) : va_W := [(a_this, .inr (0, [.ref a_this_of, .long z_away, .long z_all])), (a_this_of, .inl (cJ, 9, .inr (.inl z_of)))]
theorem qi_X0_likeliestAway_X0 : ∀ w ∈ wsX00, w ∈ wsX0_likeliestAway := by decide +kernel
theorem ql_X0_likeliestAway_9 : (.fieldLink RX0 9 "StileCounts$Chances" "of" "[J" : Cond) ∈ wsX0_likeliestAway := by decide +kernel
def qv_X0_likeliestAway_L8 (z_of : Nat → Int64) (Post : Int32 → Prop) (E : (Int32) → Prop) : Nat → (Int32) → (Int64) → (Int32) → Prop
  | 0, _, _, _ => False
  | n + 1, x1, x2, x4 => ((8 : Int32) < x4 → E x1) ∧ (¬ (8 : Int32) < x4 → vp_in x4 9 ∧ (((z_of x4.toNatClampNeg) ≤ x2 → qv_X0_likeliestAway_L8 z_of Post E n x1 x2 (x4 + (1 : Int32))) ∧ (¬ (z_of x4.toNatClampNeg) ≤ x2 → vp_in x4 9 ∧ (qv_X0_likeliestAway_L8 z_of Post E n x4 (z_of x4.toNatClampNeg) (x4 + (1 : Int32))))))
set_option maxHeartbeats 4000000 in
set_option maxRecDepth 100000 in
theorem qt_X0_likeliestAway_L8 {p : Program} {l : Launch} {e : Env} {s : State} {m : MethodId} {args : Array Value} {below : List Frame} {meth : Method} {c : Code} {dC : Nat → ClassId} {dI : Nat → Nat → Nat} {cI cJ cC cG cW : ClassId} {a_this a_this_of : Nat} (C0 : MC cX0_likeliestAway 5 (some .int) RX0 wsX0_likeliestAway p s m args meth c) (hK : va_K (dC, dI) vwCl (tyL cI cJ cC cG cW) s) (hN : NW s) (z_away : Int64) (z_all : Int64) (z_of : Nat → Int64) (hP : va_P (dC, dI) vwCl (qw_X0_likeliestAway cI cJ cC cG cW a_this a_this_of z_away z_all z_of) s.heap) (Post : Int32 → Prop) (E : (Int32) → Prop) (hE : ∀ (x1 : Int32) (ls : Array Slot), E x1 → lv_has ls 5 [(1, .int x1)] → W p l e ({ frames := 0, cells := 0, slots := 0, locals := 0 } : Room) s m args below meth c s.heap [] 0 0 (MQ below (vp_Si Post) args s 0 0 (fun _ => False)) (F0 m 44 ls [])) : ∀ (n : Nat) (x1 : Int32) (x2 : Int64) (x4 : Int32) (ls : Array Slot), qv_X0_likeliestAway_L8 z_of Post E n x1 x2 x4 → lv_has ls 5 [(0, .ref a_this), (1, .int x1), (2, .long x2), (4, .int x4)] → W p l e ({ frames := 0, cells := 0, slots := 0, locals := 0 } : Room) s m args below meth c s.heap [] 0 0 (MQ below (vp_Si Post) args s 0 0 (fun _ => False)) (F0 m 8 ls []) := by
  obtain ⟨hx, hb, hr, hml, hown, hts, hlocks⟩ := id C0
  intro n
  induction n with
  | zero =>
    intro x1 x2 x4 ls hV
    exact False.elim hV
  | succ n ih =>
    intro x1 x2 x4 ls hV hl
    refine lv_iload hx hb dX0_likeliestAway_8 (lv_at hl 3 rfl) ?_
    refine lv_bipush (v := (8 : Int32)) hx hb dX0_likeliestAway_10 (by decide) ?_
    refine lv_icmp_gt (tgt := 44) hx hb dX0_likeliestAway_12 (by decide) (fun c1 => ?_) (fun c1 => ?_)
    · have hV := hV.1 c1
      exact hE x1 ls hV (lv_sub hl [1] rfl)
    · have hV := hV.2 c1
      refine lv_aload_n hx hb dX0_likeliestAway_15 rfl (lv_at hl 0 rfl) ?_
      refine va_get (D := (dC, dI)) (ci := 0) (v := .ref a_this_of) (C := RX0) (T := TX0) (N := 3) hx hb hts qi_X0_likeliestAway_X0 hown hK hP 0 rfl rfl 0 (by decide) (hts _ ql_X0_likeliestAway_9) (fun _ h9 => h9) rfl dX0_likeliestAway_16 ?_
      refine lv_iload hx hb dX0_likeliestAway_19 (lv_at hl 3 rfl) ?_
      obtain ⟨h2, hV⟩ := hV
      refine va_lald hx hb hK hP 1 1 rfl rfl h2 dX0_likeliestAway_21 ?_
      refine lv_lload_n hx hb dX0_likeliestAway_22 rfl (lv_at hl 2 rfl) ?_
      refine W.lcmp hx hb dX0_likeliestAway_23 ?_
      refine lv_if_le (tgt := 38) hx hb dX0_likeliestAway_24 (by decide) (fun c3 => ?_) (fun c3 => ?_)
      · have c3 := (lg_cmp_le _ _).mp c3
        have hV := hV.1 c3
        refine lv_iinc (v := (x4 + (1 : Int32))) (lv' := [(4, .int (x4 + (1 : Int32))), (0, .ref a_this), (1, .int x1), (2, .long x2)]) hx hb dX0_likeliestAway_38 hl (k := 3) rfl rfl (by decide) rfl (fun ls hl => ?_)
        refine lv_goto (tgt := 8) hx hb dX0_likeliestAway_41 (by decide) ?_
        exact ih x1 x2 (x4 + (1 : Int32)) ls hV (lv_sub hl [1, 2, 3, 0] rfl)
      · have c3 := fun h => c3 ((lg_cmp_le _ _).mpr h)
        have hV := hV.2 c3
        refine lv_aload_n hx hb dX0_likeliestAway_27 rfl (lv_at hl 0 rfl) ?_
        refine va_get (D := (dC, dI)) (ci := 0) (v := .ref a_this_of) (C := RX0) (T := TX0) (N := 3) hx hb hts qi_X0_likeliestAway_X0 hown hK hP 0 rfl rfl 0 (by decide) (hts _ ql_X0_likeliestAway_9) (fun _ h9 => h9) rfl dX0_likeliestAway_28 ?_
        refine lv_iload hx hb dX0_likeliestAway_31 (lv_at hl 3 rfl) ?_
        obtain ⟨h4, hV⟩ := hV
        refine va_lald hx hb hK hP 1 1 rfl rfl h4 dX0_likeliestAway_33 ?_
        refine lv_lstore_n (lv' := [(2, .long (z_of x4.toNatClampNeg)), (0, .ref a_this), (1, .int x1), (4, .int x4)]) hx hb dX0_likeliestAway_34 rfl hl (by decide) rfl (fun ls hl => ?_)
        refine lv_iload hx hb dX0_likeliestAway_35 (lv_at hl 3 rfl) ?_
        refine lv_istore_n (lv' := [(1, .int x4), (2, .long (z_of x4.toNatClampNeg)), (0, .ref a_this), (4, .int x4)]) hx hb dX0_likeliestAway_37 rfl hl (by decide) rfl (fun ls hl => ?_)
        refine lv_iinc (v := (x4 + (1 : Int32))) (lv' := [(4, .int (x4 + (1 : Int32))), (1, .int x4), (2, .long (z_of x4.toNatClampNeg)), (0, .ref a_this)]) hx hb dX0_likeliestAway_38 hl (k := 3) rfl rfl (by decide) rfl (fun ls hl => ?_)
        refine lv_goto (tgt := 8) hx hb dX0_likeliestAway_41 (by decide) ?_
        exact ih x4 (z_of x4.toNatClampNeg) (x4 + (1 : Int32)) ls hV (lv_sub hl [3, 1, 2, 0] rfl)
def qv_X0_likeliestAway (z_of : Nat → Int64) (Post : Int32 → Prop) : Prop := ∃ n5, qv_X0_likeliestAway_L8 z_of Post (fun x1_5 => Post x1_5) n5 (-4 : Int32) (0 : Int64) (1 : Int32)
set_option maxHeartbeats 4000000 in
set_option maxRecDepth 100000 in
theorem qm_X0_likeliestAway (l : Launch) (dC : Nat → ClassId) (dI : Nat → Nat → Nat) (cI cJ cC cG cW : ClassId) (a_this a_this_of : Nat) (z_away : Int64) (z_all : Int64) (z_of : Nat → Int64) (Post : Int32 → Prop) (hV : qv_X0_likeliestAway z_of Post) : Met l yX0_likeliestAway wsX0_likeliestAway ({ frames := 0, cells := 0, slots := 0, locals := 0 } : Room) (va_Pc [.ref a_this] (prR (dC, dI) (qw_X0_likeliestAway cI cJ cC cG cW a_this a_this_of z_away z_all z_of) (tyL cI cJ cC cG cW))) (vp_Si Post) 0 0 (fun _ => False) := by
  refine Met.ofR (nm := "likeliestAway") (ds := "()I") (own := RX0) (maxL := 5) (cc := cX0_likeliestAway) (ret := (some .int)) (by decide) rfl rfl (Nat.le_of_ble_eq_true rfl) (fun p e s m below meth c C0 hK hN hP ls hl => ?_)
  obtain ⟨hx, hb, hr, hml, hown, hts, hlocks⟩ := id C0
  have hl : lv_has ls 5 [(0, .ref a_this)] := hl
  refine lv_bipush (v := (-4 : Int32)) hx hb dX0_likeliestAway_0 (by decide) ?_
  refine lv_istore_n (lv' := [(1, .int (-4 : Int32)), (0, .ref a_this)]) hx hb dX0_likeliestAway_2 rfl hl (by decide) rfl (fun ls hl => ?_)
  refine lv_lconst (v := (0 : Int64)) hx hb dX0_likeliestAway_3 (by decide) ?_
  refine lv_lstore_n (lv' := [(2, .long (0 : Int64)), (1, .int (-4 : Int32)), (0, .ref a_this)]) hx hb dX0_likeliestAway_4 rfl hl (by decide) rfl (fun ls hl => ?_)
  refine lv_iconst (v := (1 : Int32)) hx hb dX0_likeliestAway_5 (by decide) ?_
  refine lv_istore (lv' := [(4, .int (1 : Int32)), (2, .long (0 : Int64)), (1, .int (-4 : Int32)), (0, .ref a_this)]) hx hb dX0_likeliestAway_6 hl (by decide) rfl (fun ls hl => ?_)
  obtain ⟨n5, hV⟩ := hV
  refine qt_X0_likeliestAway_L8 C0 hK hN z_away z_all z_of hP _ _ (fun x1_5 ls hV hl => ?_) n5 (-4 : Int32) (0 : Int64) (1 : Int32) ls hV (lv_sub hl [3, 2, 1, 0] rfl)
  refine lv_iload_n hx hb dX0_likeliestAway_44 rfl (lv_at hl 0 rfl) ?_
  exact W.iret hx hb hr (fun t ht hW => ⟨_, rfl, hV, ht⟩) (fun q h => absurd h List.not_mem_nil) dX0_likeliestAway_45 hlocks

/-! StileCounts.commonDivisor(JJ)J -/
abbrev qw_X7_commonDivisor (cI cJ cC cG cW : ClassId) : va_W := []
def qv_X7_commonDivisor_L3 (Post : Int64 → Prop) (E : (Int64) → Prop) : Nat → (Int64) → (Int64) → (Int32) → Prop
  | 0, _, _, _ => False
  | n + 1, x0, x2, x4 => ((200 : Int32) ≤ x4 → E x0) ∧ (¬ (200 : Int32) ≤ x4 → (x2 = (0 : Int64) → E x0) ∧ (¬ x2 = (0 : Int64) → (¬ x2 = (0 : Int64)) ∧ (qv_X7_commonDivisor_L3 Post E n x2 (x0 - x0 / x2 * x2) (x4 + (1 : Int32)))))
set_option maxHeartbeats 4000000 in
set_option maxRecDepth 100000 in
theorem qt_X7_commonDivisor_L3 {p : Program} {l : Launch} {e : Env} {s : State} {m : MethodId} {args : Array Value} {below : List Frame} {meth : Method} {c : Code} {dC : Nat → ClassId} {dI : Nat → Nat → Nat} {cI cJ cC cG cW : ClassId} (C0 : MC cX7_commonDivisor 7 (some .long) RX7 wsX7_commonDivisor p s m args meth c) (hK : va_K (dC, dI) vwCl (tyL cI cJ cC cG cW) s) (hN : NW s) (hP : va_P (dC, dI) vwCl (qw_X7_commonDivisor cI cJ cC cG cW) s.heap) (Post : Int64 → Prop) (E : (Int64) → Prop) (hE : ∀ (x0 : Int64) (ls : Array Slot), E x0 → lv_has ls 7 [(0, .long x0)] → W p l e ({ frames := 0, cells := 0, slots := 0, locals := 0 } : Room) s m args below meth c s.heap [] 0 0 (MQ below (vp_Sl Post) args s 0 0 (fun _ => False)) (F0 m 33 ls [])) : ∀ (n : Nat) (x0 : Int64) (x2 : Int64) (x4 : Int32) (ls : Array Slot), qv_X7_commonDivisor_L3 Post E n x0 x2 x4 → lv_has ls 7 [(0, .long x0), (2, .long x2), (4, .int x4)] → W p l e ({ frames := 0, cells := 0, slots := 0, locals := 0 } : Room) s m args below meth c s.heap [] 0 0 (MQ below (vp_Sl Post) args s 0 0 (fun _ => False)) (F0 m 3 ls []) := by
  obtain ⟨hx, hb, hr, hml, hown, hts, hlocks⟩ := id C0
  intro n
  induction n with
  | zero =>
    intro x0 x2 x4 ls hV
    exact False.elim hV
  | succ n ih =>
    intro x0 x2 x4 ls hV hl
    refine lv_iload hx hb dX7_commonDivisor_3 (lv_at hl 2 rfl) ?_
    refine lv_sipush (v := (200 : Int32)) hx hb dX7_commonDivisor_5 (by decide) ?_
    refine lv_icmp_ge (tgt := 33) hx hb dX7_commonDivisor_8 (by decide) (fun c1 => ?_) (fun c1 => ?_)
    · have hV := hV.1 c1
      exact hE x0 ls hV (lv_sub hl [0] rfl)
    · have hV := hV.2 c1
      refine lv_lload_n hx hb dX7_commonDivisor_11 rfl (lv_at hl 1 rfl) ?_
      refine lv_lconst (v := (0 : Int64)) hx hb dX7_commonDivisor_12 (by decide) ?_
      refine W.lcmp hx hb dX7_commonDivisor_13 ?_
      refine lv_if_eq (tgt := 33) hx hb dX7_commonDivisor_14 (by decide) (fun c2 => ?_) (fun c2 => ?_)
      · have c2 := (lg_cmp_eq _ _).mp c2
        have hV := hV.1 c2
        exact hE x0 ls hV (lv_sub hl [0] rfl)
      · have c2 := fun h => c2 ((lg_cmp_eq _ _).mpr h)
        have hV := hV.2 c2
        refine lv_lload_n hx hb dX7_commonDivisor_17 rfl (lv_at hl 0 rfl) ?_
        refine lv_lload_n hx hb dX7_commonDivisor_18 rfl (lv_at hl 1 rfl) ?_
        obtain ⟨hz3, hV⟩ := hV
        refine lv_lrem hx hb dX7_commonDivisor_19 hz3 ?_
        refine lv_lstore (lv' := [(5, .long (x0 - x0 / x2 * x2)), (0, .long x0), (2, .long x2), (4, .int x4)]) hx hb dX7_commonDivisor_20 hl (by decide) rfl (fun ls hl => ?_)
        refine lv_lload_n hx hb dX7_commonDivisor_22 rfl (lv_at hl 2 rfl) ?_
        refine lv_lstore_n (lv' := [(0, .long x2), (5, .long (x0 - x0 / x2 * x2)), (2, .long x2), (4, .int x4)]) hx hb dX7_commonDivisor_23 rfl hl (by decide) rfl (fun ls hl => ?_)
        refine lv_lload hx hb dX7_commonDivisor_24 (lv_at hl 1 rfl) ?_
        refine lv_lstore_n (lv' := [(2, .long (x0 - x0 / x2 * x2)), (0, .long x2), (5, .long (x0 - x0 / x2 * x2)), (4, .int x4)]) hx hb dX7_commonDivisor_26 rfl hl (by decide) rfl (fun ls hl => ?_)
        refine lv_iinc (v := (x4 + (1 : Int32))) (lv' := [(4, .int (x4 + (1 : Int32))), (2, .long (x0 - x0 / x2 * x2)), (0, .long x2), (5, .long (x0 - x0 / x2 * x2))]) hx hb dX7_commonDivisor_27 hl (k := 3) rfl rfl (by decide) rfl (fun ls hl => ?_)
        refine lv_goto (tgt := 3) hx hb dX7_commonDivisor_30 (by decide) ?_
        exact ih x2 (x0 - x0 / x2 * x2) (x4 + (1 : Int32)) ls hV (lv_sub hl [2, 1, 0] rfl)
def qv_X7_commonDivisor (x0 : Int64) (x2 : Int64) (Post : Int64 → Prop) : Prop := ∃ n4, qv_X7_commonDivisor_L3 Post (fun x0_4 => Post x0_4) n4 x0 x2 (0 : Int32)
set_option maxHeartbeats 4000000 in
set_option maxRecDepth 100000 in
theorem qm_X7_commonDivisor (l : Launch) (dC : Nat → ClassId) (dI : Nat → Nat → Nat) (cI cJ cC cG cW : ClassId) (x0 : Int64) (x2 : Int64) (Post : Int64 → Prop) (hV : qv_X7_commonDivisor x0 x2 Post) : Met l yX7_commonDivisor wsX7_commonDivisor ({ frames := 0, cells := 0, slots := 0, locals := 0 } : Room) (va_Pc [.long x0, .long x2] (prR (dC, dI) (qw_X7_commonDivisor cI cJ cC cG cW) (tyL cI cJ cC cG cW))) (vp_Sl Post) 0 0 (fun _ => False) := by
  refine Met.ofR (nm := "commonDivisor") (ds := "(JJ)J") (own := RX7) (maxL := 7) (cc := cX7_commonDivisor) (ret := (some .long)) (by decide) rfl rfl (Nat.le_of_ble_eq_true rfl) (fun p e s m below meth c C0 hK hN hP ls hl => ?_)
  obtain ⟨hx, hb, hr, hml, hown, hts, hlocks⟩ := id C0
  have hl : lv_has ls 7 [(0, .long x0), (2, .long x2)] := hl
  refine lv_iconst (v := (0 : Int32)) hx hb dX7_commonDivisor_0 (by decide) ?_
  refine lv_istore (lv' := [(4, .int (0 : Int32)), (0, .long x0), (2, .long x2)]) hx hb dX7_commonDivisor_1 hl (by decide) rfl (fun ls hl => ?_)
  obtain ⟨n4, hV⟩ := hV
  refine qt_X7_commonDivisor_L3 C0 hK hN hP _ _ (fun x0_4 ls hV hl => ?_) n4 x0 x2 (0 : Int32) ls hV (lv_sub hl [1, 2, 0] rfl)
  refine lv_lload_n hx hb dX7_commonDivisor_33 rfl (lv_at hl 0 rfl) ?_
  exact W.lret hx hb hr (fun t ht hW => ⟨_, rfl, hV, ht⟩) (fun q h => absurd h List.not_mem_nil) dX7_commonDivisor_34 hlocks

/-! StileCounts.lowest(JJI)J -/
abbrev qw_X7_lowest (cI cJ cC cG cW : ClassId) : va_W := []
theorem ql_X7_lowest_178 : (.constantLong RX7 178 (-4 : Int64) : Cond) ∈ wsX7_lowest := by decide +kernel
def qv_X7_lowest (x0 : Int64) (x2 : Int64) (x4 : Int32) (Post : Int64 → Prop) : Prop := qv_X7_commonDivisor x0 x2 (fun r1 => (r1 = (0 : Int64) → Post (-4 : Int64)) ∧ (¬ r1 = (0 : Int64) → (x4 = (0 : Int32) → (¬ r1 = (0 : Int64)) ∧ (Post (x0 / r1))) ∧ (¬ x4 = (0 : Int32) → (¬ r1 = (0 : Int64)) ∧ (Post (x2 / r1)))))
set_option maxHeartbeats 4000000 in
set_option maxRecDepth 100000 in
theorem qm_X7_lowest (l : Launch) (dC : Nat → ClassId) (dI : Nat → Nat → Nat) (cI cJ cC cG cW : ClassId) (x0 : Int64) (x2 : Int64) (x4 : Int32) (Post : Int64 → Prop) (hV : qv_X7_lowest x0 x2 x4 Post) : Met l yX7_lowest wsX7_lowest ({ frames := 1, cells := 0, slots := 0, locals := 26 } : Room) (va_Pc [.long x0, .long x2, .int x4] (prR (dC, dI) (qw_X7_lowest cI cJ cC cG cW) (tyL cI cJ cC cG cW))) (vp_Sl Post) 0 0 (fun _ => False) := by
  refine Met.ofR (nm := "lowest") (ds := "(JJI)J") (own := RX7) (maxL := 7) (cc := cX7_lowest) (ret := (some .long)) (by decide) rfl rfl (Nat.le_of_ble_eq_true rfl) (fun p e s m below meth c C0 hK hN hP ls hl => ?_)
  obtain ⟨hx, hb, hr, hml, hown, hts, hlocks⟩ := id C0
  have hl : lv_has ls 7 [(0, .long x0), (2, .long x2), (4, .int x4)] := hl
  refine lv_lload_n hx hb dX7_lowest_0 rfl (lv_at hl 0 rfl) ?_
  refine lv_lload_n hx hb dX7_lowest_1 rfl (lv_at hl 1 rfl) ?_
  refine vp_callSl (va_Run.run (va_runS (As := [.long x0, .long x2]) (rest := []) ⟨hx, hb, hml, hown, hts⟩ (qm_X7_commonDivisor l dC dI cI cJ cC cG cW x0 x2 _ hV) (va_cwS 2 hts gX7_lowest_X7_commonDivisor rfl rfl rfl (by decide +kernel) ⟨Nat.le_of_ble_eq_true rfl, Nat.le_of_ble_eq_true rfl⟩) (preRS hK hN (show va_P (dC, dI) vwCl (qw_X7_commonDivisor cI cJ cC cG cW) s.heap from fun k q h => by simp at h)) rfl rfl hl.1 rfl (lv_room (Nat.le_of_ble_eq_true rfl)) dX7_lowest_2 ⟨Nat.le_of_ble_eq_true rfl, Nat.le_of_ble_eq_true rfl⟩)) (fun r1 hV => ?_)
  refine lv_lstore (lv' := [(5, .long r1), (0, .long x0), (2, .long x2), (4, .int x4)]) hx hb dX7_lowest_5 hl (by decide) rfl (fun ls hl => ?_)
  refine lv_lload hx hb dX7_lowest_7 (lv_at hl 0 rfl) ?_
  refine lv_lconst (v := (0 : Int64)) hx hb dX7_lowest_9 (by decide) ?_
  refine W.lcmp hx hb dX7_lowest_10 ?_
  refine lv_if_ne (tgt := 18) hx hb dX7_lowest_11 (by decide) (fun c2 => ?_) (fun c2 => ?_)
  · have c2 := fun h => c2 ((lg_cmp_eq _ _).mpr h)
    have hV := hV.2 c2
    refine lv_iload hx hb dX7_lowest_18 (lv_at hl 3 rfl) ?_
    refine lv_if_ne (tgt := 27) hx hb dX7_lowest_20 (by decide) (fun c3 => ?_) (fun c3 => ?_)
    · have hV := hV.2 c3
      refine lv_lload_n hx hb dX7_lowest_27 rfl (lv_at hl 2 rfl) ?_
      refine lv_lload hx hb dX7_lowest_28 (lv_at hl 0 rfl) ?_
      obtain ⟨hz4, hV⟩ := hV
      refine lv_ldiv hx hb dX7_lowest_30 hz4 ?_
      exact W.lret hx hb hr (fun t ht hW => ⟨_, rfl, hV, ht⟩) (fun q h => absurd h List.not_mem_nil) dX7_lowest_31 hlocks
    · have hV := hV.1 c3
      refine lv_lload_n hx hb dX7_lowest_23 rfl (lv_at hl 1 rfl) ?_
      refine lv_goto (tgt := 28) hx hb dX7_lowest_24 (by decide) ?_
      refine lv_lload hx hb dX7_lowest_28 (lv_at hl 0 rfl) ?_
      obtain ⟨hz5, hV⟩ := hV
      refine lv_ldiv hx hb dX7_lowest_30 hz5 ?_
      exact W.lret hx hb hr (fun t ht hW => ⟨_, rfl, hV, ht⟩) (fun q h => absurd h List.not_mem_nil) dX7_lowest_31 hlocks
  · have c2 := (lg_cmp_eq _ _).mp c2
    have hV := hV.1 c2
    refine lv_ldc2 (v := (-4 : Int64)) hx hb hown (hts _ ql_X7_lowest_178) dX7_lowest_14 ?_
    exact W.lret hx hb hr (fun t ht hW => ⟨_, rfl, hV, ht⟩) (fun q h => absurd h List.not_mem_nil) dX7_lowest_17 hlocks

/-! StileCounts$Choice.answer(I)J -/
abbrev qw_X1_answer (cI cJ cC cG cW : ClassId) (a_this : Nat) (z_which : Int32) (z_above : Int64) (z_below : Int64) : va_W := [(a_this, .inr (1, [.int z_which, .long z_above, .long z_below]))]
theorem qi_X1_answer_X1 : ∀ w ∈ wsX10, w ∈ wsX1_answer := by decide +kernel
theorem ql_X1_answer_9 : (.fieldLink RX1 9 "StileCounts$Choice" "below" "J" : Cond) ∈ wsX1_answer := by decide +kernel
theorem ql_X1_answer_21 : (.fieldLink RX1 21 "StileCounts$Choice" "above" "J" : Cond) ∈ wsX1_answer := by decide +kernel
theorem qk_X1_answer_24_i : (.initialized RX7 : Cond) ∈ wsX1_answer := by decide +kernel
theorem qk_X1_answer_24_s : (.static yX7_lowest : Cond) ∈ wsX1_answer := by decide +kernel
theorem ql_X1_answer_17 : (.fieldLink RX1 17 "StileCounts$Choice" "which" "I" : Cond) ∈ wsX1_answer := by decide +kernel
theorem ql_X1_answer_15 : (.constantLong RX1 15 (-4 : Int64) : Cond) ∈ wsX1_answer := by decide +kernel
def qv_X1_answer (x1 : Int32) (z_which : Int32) (z_above : Int64) (z_below : Int64) (Post : Int64 → Prop) : Prop := (z_below = (0 : Int64) → Post (-4 : Int64)) ∧ (¬ z_below = (0 : Int64) → (x1 = (0 : Int32) → Post (z_which.toInt64)) ∧ (¬ x1 = (0 : Int32) → qv_X7_lowest z_above z_below (x1 - (1 : Int32)) (fun r3 => Post r3)))
set_option maxHeartbeats 4000000 in
set_option maxRecDepth 100000 in
theorem qm_X1_answer (l : Launch) (dC : Nat → ClassId) (dI : Nat → Nat → Nat) (cI cJ cC cG cW : ClassId) (a_this : Nat) (z_which : Int32) (z_above : Int64) (z_below : Int64) (x1 : Int32) (Post : Int64 → Prop) (hV : qv_X1_answer x1 z_which z_above z_below Post) : Met l yX1_answer wsX1_answer ({ frames := 2, cells := 0, slots := 0, locals := 52 } : Room) (va_Pc [.ref a_this, .int x1] (prR (dC, dI) (qw_X1_answer cI cJ cC cG cW a_this z_which z_above z_below) (tyL cI cJ cC cG cW))) (vp_Sl Post) 0 0 (fun _ => False) := by
  refine Met.ofR (nm := "answer") (ds := "(I)J") (own := RX1) (maxL := 2) (cc := cX1_answer) (ret := (some .long)) (by decide) rfl rfl (Nat.le_of_ble_eq_true rfl) (fun p e s m below meth c C0 hK hN hP ls hl => ?_)
  obtain ⟨hx, hb, hr, hml, hown, hts, hlocks⟩ := id C0
  have hl : lv_has ls 2 [(0, .ref a_this), (1, .int x1)] := hl
  refine lv_aload_n hx hb dX1_answer_0 rfl (lv_at hl 0 rfl) ?_
  refine va_get (D := (dC, dI)) (ci := 1) (v := .long z_below) (C := RX1) (T := TX1) (N := 3) hx hb hts qi_X1_answer_X1 hown hK hP 0 rfl rfl 2 (by decide) (hts _ ql_X1_answer_9) (fun _ h9 => h9) rfl dX1_answer_1 ?_
  refine lv_lconst (v := (0 : Int64)) hx hb dX1_answer_4 (by decide) ?_
  refine W.lcmp hx hb dX1_answer_5 ?_
  refine lv_if_ne (tgt := 13) hx hb dX1_answer_6 (by decide) (fun c1 => ?_) (fun c1 => ?_)
  · have c1 := fun h => c1 ((lg_cmp_eq _ _).mpr h)
    have hV := hV.2 c1
    refine lv_iload_n hx hb dX1_answer_13 rfl (lv_at hl 1 rfl) ?_
    refine lv_if_ne (tgt := 25) hx hb dX1_answer_14 (by decide) (fun c2 => ?_) (fun c2 => ?_)
    · have hV := hV.2 c2
      refine lv_aload_n hx hb dX1_answer_25 rfl (lv_at hl 0 rfl) ?_
      refine va_get (D := (dC, dI)) (ci := 1) (v := .long z_above) (C := RX1) (T := TX1) (N := 3) hx hb hts qi_X1_answer_X1 hown hK hP 0 rfl rfl 1 (by decide) (hts _ ql_X1_answer_21) (fun _ h9 => h9) rfl dX1_answer_26 ?_
      refine lv_aload_n hx hb dX1_answer_29 rfl (lv_at hl 0 rfl) ?_
      refine va_get (D := (dC, dI)) (ci := 1) (v := .long z_below) (C := RX1) (T := TX1) (N := 3) hx hb hts qi_X1_answer_X1 hown hK hP 0 rfl rfl 2 (by decide) (hts _ ql_X1_answer_9) (fun _ h9 => h9) rfl dX1_answer_30 ?_
      refine lv_iload_n hx hb dX1_answer_33 rfl (lv_at hl 1 rfl) ?_
      refine lv_iconst (v := (1 : Int32)) hx hb dX1_answer_34 (by decide) ?_
      refine lv_isub hx hb dX1_answer_35 ?_
      refine vp_callSl (va_Run.run (va_runSN (As := [.long z_above, .long z_below, .int (x1 - (1 : Int32))]) (rest := []) ⟨hx, hb, hml, hown, hts⟩ (qm_X7_lowest l dC dI cI cJ cC cG cW z_above z_below (x1 - (1 : Int32)) _ hV) ⟨va_cnB 3 hts gX1_answer_X7_lowest_n24 rfl rfl rfl (hN.get 8 rfl) (hts _ qk_X1_answer_24_i) (by decide +kernel) ⟨Nat.le_of_ble_eq_true rfl, Nat.le_of_ble_eq_true rfl⟩, (hts _ qk_X1_answer_24_s), trivial⟩ (preRS hK hN (show va_P (dC, dI) vwCl (qw_X7_lowest cI cJ cC cG cW) s.heap from fun k q h => by simp at h)) rfl rfl hl.1 rfl (lv_room (Nat.le_of_ble_eq_true rfl)) dX1_answer_36 ⟨Nat.le_of_ble_eq_true rfl, Nat.le_of_ble_eq_true rfl⟩)) (fun r3 hV => ?_)
      exact W.lret hx hb hr (fun t ht hW => ⟨_, rfl, hV, ht⟩) (fun q h => absurd h List.not_mem_nil) dX1_answer_39 hlocks
    · have hV := hV.1 c2
      refine lv_aload_n hx hb dX1_answer_17 rfl (lv_at hl 0 rfl) ?_
      refine va_get (D := (dC, dI)) (ci := 1) (v := .int z_which) (C := RX1) (T := TX1) (N := 3) hx hb hts qi_X1_answer_X1 hown hK hP 0 rfl rfl 0 (by decide) (hts _ ql_X1_answer_17) (fun _ h9 => h9) rfl dX1_answer_18 ?_
      refine lv_i2l hx hb dX1_answer_21 rfl ?_
      refine lv_goto (tgt := 39) hx hb dX1_answer_22 (by decide) ?_
      exact W.lret hx hb hr (fun t ht hW => ⟨_, rfl, hV, ht⟩) (fun q h => absurd h List.not_mem_nil) dX1_answer_39 hlocks
  · have c1 := (lg_cmp_eq _ _).mp c1
    have hV := hV.1 c1
    refine lv_ldc2 (v := (-4 : Int64)) hx hb hown (hts _ ql_X1_answer_15) dX1_answer_9 ?_
    exact W.lret hx hb hr (fun t ht hW => ⟨_, rfl, hV, ht⟩) (fun q h => absurd h List.not_mem_nil) dX1_answer_12 hlocks

/-! StileCounts$Choice.onOrBack(LStileCounts$Laid;LStileCounts$Chances;)V -/
abbrev qw_X1_onOrBack (cI cJ cC cG cW : ClassId) (a_this a_p0 a_p0_minutes a_p0_lostBy a_p0_backBy a_p0_slips a_p0_takes a_p0_ties a_p1 a_p1_of : Nat) (z_which : Int32) (z_above : Int64) (z_below : Int64) (z_p0_stretches : Int32) (z_p0_costOn : Int32) (z_p0_costBack : Int32) (z_p0_foundBy : Int32) (z_p0_friends : Int32) (z_p1_away : Int64) (z_p1_all : Int64) (z_p1_of : Nat → Int64) : va_W := [(a_this, .inr (1, [.int z_which, .long z_above, .long z_below])), (a_p0, .inr (2, [.int z_p0_stretches, .ref a_p0_minutes, .ref a_p0_lostBy, .ref a_p0_backBy, .ref a_p0_slips, .ref a_p0_takes, .int z_p0_costOn, .int z_p0_costBack, .int z_p0_foundBy, .int z_p0_friends, .ref a_p0_ties])), (a_p1, .inr (0, [.ref a_p1_of, .long z_p1_away, .long z_p1_all])), (a_p1_of, .inl (cJ, 9, .inr (.inl z_p1_of)))]
theorem qi_X1_onOrBack_X2 : ∀ w ∈ wsX20, w ∈ wsX1_onOrBack := by decide +kernel
theorem ql_X1_onOrBack_28 : (.fieldLink RX1 28 "StileCounts$Laid" "costOn" "I" : Cond) ∈ wsX1_onOrBack := by decide +kernel
theorem qi_X1_onOrBack_X0 : ∀ w ∈ wsX00, w ∈ wsX1_onOrBack := by decide +kernel
theorem ql_X1_onOrBack_33 : (.fieldLink RX1 33 "StileCounts$Chances" "away" "J" : Cond) ∈ wsX1_onOrBack := by decide +kernel
theorem ql_X1_onOrBack_38 : (.fieldLink RX1 38 "StileCounts$Laid" "costBack" "I" : Cond) ∈ wsX1_onOrBack := by decide +kernel
theorem ql_X1_onOrBack_41 : (.fieldLink RX1 41 "StileCounts$Chances" "of" "[J" : Cond) ∈ wsX1_onOrBack := by decide +kernel
theorem qi_X1_onOrBack_X1 : ∀ w ∈ wsX10, w ∈ wsX1_onOrBack := by decide +kernel
theorem ql_X1_onOrBack_17 : (.fieldLink RX1 17 "StileCounts$Choice" "which" "I" : Cond) ∈ wsX1_onOrBack := by decide +kernel
theorem qk_X1_onOrBack_45_a : (.methodLink RX1 45 Lib.MathLoose.min_long.x : Cond) ∈ wsX1_onOrBack := by decide +kernel
theorem qk_X1_onOrBack_45_b : (.static Lib.MathLoose.min_long.x : Cond) ∈ wsX1_onOrBack := by decide +kernel
theorem qk_X1_onOrBack_45_c : (.initialized "java/lang/Math" : Cond) ∈ wsX1_onOrBack := by decide +kernel
theorem qk_X1_onOrBack_45_d : (.code Lib.MathLoose.min_long.x Lib.MathLoose.min_long.code 4 (some .long) : Cond) ∈ wsX1_onOrBack := by decide +kernel
theorem ql_X1_onOrBack_21 : (.fieldLink RX1 21 "StileCounts$Choice" "above" "J" : Cond) ∈ wsX1_onOrBack := by decide +kernel
theorem ql_X1_onOrBack_51 : (.fieldLink RX1 51 "StileCounts$Chances" "all" "J" : Cond) ∈ wsX1_onOrBack := by decide +kernel
theorem ql_X1_onOrBack_9 : (.fieldLink RX1 9 "StileCounts$Choice" "below" "J" : Cond) ∈ wsX1_onOrBack := by decide +kernel
def qv_X1_onOrBack_J38 (k1 : Int32) (x3 : Int64) (x5 : Int64) (z_which : Int32) (z_above : Int64) (z_below : Int64) (z_p0_costOn : Int32) (z_p0_costBack : Int32) (z_p1_away : Int64) (z_p1_all : Int64) (z_p1_of : Nat → Int64) (Post : (Int32) → (Int64) → (Int64) → Prop) : Prop := Post k1 (if x5 < x3 then x5 else x3) z_p1_all
set_option maxHeartbeats 4000000 in
set_option maxRecDepth 100000 in
theorem qt_X1_onOrBack_J38 {p : Program} {l : Launch} {e : Env} {s : State} {m : MethodId} {args : Array Value} {below : List Frame} {meth : Method} {c : Code} {dC : Nat → ClassId} {dI : Nat → Nat → Nat} {cI cJ cC cG cW : ClassId} {a_this a_p0 a_p0_minutes a_p0_lostBy a_p0_backBy a_p0_slips a_p0_takes a_p0_ties a_p1 a_p1_of : Nat} {A : Nat → Prop} (C0 : MC cX1_onOrBack 7 none RX1 wsX1_onOrBack p s m args meth c) (hK : va_K (dC, dI) vwCl (tyL cI cJ cC cG cW) s) (hN : NW s) (hA : ∀ q, s.heap.size ≤ q → A q) (z_which : Int32) (z_above : Int64) (z_below : Int64) (z_p0_stretches : Int32) (z_p0_costOn : Int32) (z_p0_costBack : Int32) (z_p0_foundBy : Int32) (z_p0_friends : Int32) (z_p1_away : Int64) (z_p1_all : Int64) (z_p1_of : Nat → Int64) (k1 : Int32) (x3 : Int64) (x5 : Int64) (Post : (Int32) → (Int64) → (Int64) → Prop) (H : Heap) (locs : List Loc) (ls : Array Slot) (hV : qv_X1_onOrBack_J38 k1 x3 x5 z_which z_above z_below z_p0_costOn z_p0_costBack z_p1_away z_p1_all z_p1_of Post) (hP : va_P (dC, dI) vwCl (qw_X1_onOrBack cI cJ cC cG cW a_this a_p0 a_p0_minutes a_p0_lostBy a_p0_backBy a_p0_slips a_p0_takes a_p0_ties a_p1 a_p1_of z_which z_above z_below z_p0_stretches z_p0_costOn z_p0_costBack z_p0_foundBy z_p0_friends z_p1_away z_p1_all z_p1_of) H) (hD : va_D A (qw_X1_onOrBack cI cJ cC cG cW a_this a_p0 a_p0_minutes a_p0_lostBy a_p0_backBy a_p0_slips a_p0_takes a_p0_ties a_p1 a_p1_of z_which z_above z_below z_p0_stretches z_p0_costOn z_p0_costBack z_p0_foundBy z_p0_friends z_p1_away z_p1_all z_p1_of)) (hS : va_S A s.heap H locs) (hl : lv_has ls 7 [(0, .ref a_this), (2, .ref a_p1), (3, .long x3), (5, .long x5)]) : W p l e ({ frames := 1, cells := 0, slots := 0, locals := 23 } : Room) s m args below meth c H locs 0 0 (MQ below (va_Qv (fun (u : (Int32) × (Int64) × (Int64)) => Post u.1 u.2.1 u.2.2) (fun u t => poW (dC, dI) (tyL cI cJ cC cG cW) A (qw_X1_onOrBack cI cJ cC cG cW a_this a_p0 a_p0_minutes a_p0_lostBy a_p0_backBy a_p0_slips a_p0_takes a_p0_ties a_p1 a_p1_of u.1 u.2.1 u.2.2 z_p0_stretches z_p0_costOn z_p0_costBack z_p0_foundBy z_p0_friends z_p1_away z_p1_all z_p1_of) t) A) args s 0 0 A) (F0 m 38 ls [.int k1, .ref a_this]) := by
  obtain ⟨hx, hb, hr, hml, hown, hts, hlocks⟩ := id C0
  refine va_put (D := (dC, dI)) (ci := 1) (v := .int k1) (ty := .int) (C := RX1) (T := TX1) (N := 3) hx hb hts qi_X1_onOrBack_X1 tyX1 tyX1_ok nmX1 hown hK hP hD hS 0 rfl rfl 0 (by decide) (hts _ ql_X1_onOrBack_17) (fun _ h9 => h9) rfl (by decide +kernel) rfl rfl (Nat.le_of_ble_eq_true rfl) dX1_onOrBack_38 (fun H locs hP hD hS => ?_)
  have hP : va_P (dC, dI) vwCl (qw_X1_onOrBack cI cJ cC cG cW a_this a_p0 a_p0_minutes a_p0_lostBy a_p0_backBy a_p0_slips a_p0_takes a_p0_ties a_p1 a_p1_of k1 z_above z_below z_p0_stretches z_p0_costOn z_p0_costBack z_p0_foundBy z_p0_friends z_p1_away z_p1_all z_p1_of) H := hP
  have hD : va_D A (qw_X1_onOrBack cI cJ cC cG cW a_this a_p0 a_p0_minutes a_p0_lostBy a_p0_backBy a_p0_slips a_p0_takes a_p0_ties a_p1 a_p1_of k1 z_above z_below z_p0_stretches z_p0_costOn z_p0_costBack z_p0_foundBy z_p0_friends z_p1_away z_p1_all z_p1_of) := hD
  refine lv_aload_n hx hb dX1_onOrBack_41 rfl (lv_at hl 0 rfl) ?_
  refine lv_lload_n hx hb dX1_onOrBack_42 rfl (lv_at hl 2 rfl) ?_
  refine lv_lload hx hb dX1_onOrBack_43 (lv_at hl 3 rfl) ?_
  refine va_mmin_long hx hb (hml.trans hl.1.symm) hown (hts _ qk_X1_onOrBack_45_a) (hts _ qk_X1_onOrBack_45_b) (hts _ qk_X1_onOrBack_45_c) (hts _ qk_X1_onOrBack_45_d) (Nat.le_of_ble_eq_true rfl) (Nat.le_of_ble_eq_true rfl) (Nat.zero_le _) (Nat.zero_le _) dX1_onOrBack_45 ?_
  refine va_put (D := (dC, dI)) (ci := 1) (v := .long (if x5 < x3 then x5 else x3)) (ty := .long) (C := RX1) (T := TX1) (N := 3) hx hb hts qi_X1_onOrBack_X1 tyX1 tyX1_ok nmX1 hown hK hP hD hS 0 rfl rfl 1 (by decide) (hts _ ql_X1_onOrBack_21) (fun _ h9 => h9) rfl (by decide +kernel) rfl rfl (Nat.le_of_ble_eq_true rfl) dX1_onOrBack_48 (fun H locs hP hD hS => ?_)
  have hP : va_P (dC, dI) vwCl (qw_X1_onOrBack cI cJ cC cG cW a_this a_p0 a_p0_minutes a_p0_lostBy a_p0_backBy a_p0_slips a_p0_takes a_p0_ties a_p1 a_p1_of k1 (if x5 < x3 then x5 else x3) z_below z_p0_stretches z_p0_costOn z_p0_costBack z_p0_foundBy z_p0_friends z_p1_away z_p1_all z_p1_of) H := hP
  have hD : va_D A (qw_X1_onOrBack cI cJ cC cG cW a_this a_p0 a_p0_minutes a_p0_lostBy a_p0_backBy a_p0_slips a_p0_takes a_p0_ties a_p1 a_p1_of k1 (if x5 < x3 then x5 else x3) z_below z_p0_stretches z_p0_costOn z_p0_costBack z_p0_foundBy z_p0_friends z_p1_away z_p1_all z_p1_of) := hD
  refine lv_aload_n hx hb dX1_onOrBack_51 rfl (lv_at hl 0 rfl) ?_
  refine lv_aload_n hx hb dX1_onOrBack_52 rfl (lv_at hl 1 rfl) ?_
  refine va_get (D := (dC, dI)) (ci := 0) (v := .long z_p1_all) (C := RX0) (T := TX0) (N := 3) hx hb hts qi_X1_onOrBack_X0 hown hK hP 2 rfl rfl 2 (by decide) (hts _ ql_X1_onOrBack_51) (fun _ h9 => h9) rfl dX1_onOrBack_53 ?_
  refine va_put (D := (dC, dI)) (ci := 1) (v := .long z_p1_all) (ty := .long) (C := RX1) (T := TX1) (N := 3) hx hb hts qi_X1_onOrBack_X1 tyX1 tyX1_ok nmX1 hown hK hP hD hS 0 rfl rfl 2 (by decide) (hts _ ql_X1_onOrBack_9) (fun _ h9 => h9) rfl (by decide +kernel) rfl rfl (Nat.le_of_ble_eq_true rfl) dX1_onOrBack_56 (fun H locs hP hD hS => ?_)
  have hP : va_P (dC, dI) vwCl (qw_X1_onOrBack cI cJ cC cG cW a_this a_p0 a_p0_minutes a_p0_lostBy a_p0_backBy a_p0_slips a_p0_takes a_p0_ties a_p1 a_p1_of k1 (if x5 < x3 then x5 else x3) z_p1_all z_p0_stretches z_p0_costOn z_p0_costBack z_p0_foundBy z_p0_friends z_p1_away z_p1_all z_p1_of) H := hP
  have hD : va_D A (qw_X1_onOrBack cI cJ cC cG cW a_this a_p0 a_p0_minutes a_p0_lostBy a_p0_backBy a_p0_slips a_p0_takes a_p0_ties a_p1 a_p1_of k1 (if x5 < x3 then x5 else x3) z_p1_all z_p0_stretches z_p0_costOn z_p0_costBack z_p0_foundBy z_p0_friends z_p1_away z_p1_all z_p1_of) := hD
  exact W.vret hx hb hr (fun t ht hW => ⟨⟨(k1, (if x5 < x3 then x5 else x3), z_p1_all), rfl, hV, ⟨by rw [ht]; exact hP, va_K.moved hW.alike hK, hD⟩⟩, hS.F ht⟩) hS.2.2 dX1_onOrBack_59 hlocks
def qv_X1_onOrBack (z_which : Int32) (z_above : Int64) (z_below : Int64) (z_p0_costOn : Int32) (z_p0_costBack : Int32) (z_p1_away : Int64) (z_p1_all : Int64) (z_p1_of : Nat → Int64) (Post : (Int32) → (Int64) → (Int64) → Prop) : Prop := vp_in (0 : Int32) 9 ∧ ((((z_p0_costBack.toInt64) * (z_p1_of (0 : Int32).toNatClampNeg)) < ((z_p0_costOn.toInt64) * z_p1_away) → qv_X1_onOrBack_J38 (1 : Int32) ((z_p0_costOn.toInt64) * z_p1_away) ((z_p0_costBack.toInt64) * (z_p1_of (0 : Int32).toNatClampNeg)) z_which z_above z_below z_p0_costOn z_p0_costBack z_p1_away z_p1_all z_p1_of Post) ∧ (¬ ((z_p0_costBack.toInt64) * (z_p1_of (0 : Int32).toNatClampNeg)) < ((z_p0_costOn.toInt64) * z_p1_away) → qv_X1_onOrBack_J38 (0 : Int32) ((z_p0_costOn.toInt64) * z_p1_away) ((z_p0_costBack.toInt64) * (z_p1_of (0 : Int32).toNatClampNeg)) z_which z_above z_below z_p0_costOn z_p0_costBack z_p1_away z_p1_all z_p1_of Post))
set_option maxHeartbeats 4000000 in
set_option maxRecDepth 100000 in
theorem qm_X1_onOrBack (l : Launch) (dC : Nat → ClassId) (dI : Nat → Nat → Nat) (cI cJ cC cG cW : ClassId) (a_this a_p0 a_p0_minutes a_p0_lostBy a_p0_backBy a_p0_slips a_p0_takes a_p0_ties a_p1 a_p1_of : Nat) (z_which : Int32) (z_above : Int64) (z_below : Int64) (z_p0_stretches : Int32) (z_p0_costOn : Int32) (z_p0_costBack : Int32) (z_p0_foundBy : Int32) (z_p0_friends : Int32) (z_p1_away : Int64) (z_p1_all : Int64) (z_p1_of : Nat → Int64) (sz : Nat) (Post : (Int32) → (Int64) → (Int64) → Prop) (hV : qv_X1_onOrBack z_which z_above z_below z_p0_costOn z_p0_costBack z_p1_away z_p1_all z_p1_of Post) : Met l yX1_onOrBack wsX1_onOrBack ({ frames := 1, cells := 0, slots := 0, locals := 23 } : Room) (va_Pc [.ref a_this, .ref a_p0, .ref a_p1] (prW (dC, dI) (qw_X1_onOrBack cI cJ cC cG cW a_this a_p0 a_p0_minutes a_p0_lostBy a_p0_backBy a_p0_slips a_p0_takes a_p0_ties a_p1 a_p1_of z_which z_above z_below z_p0_stretches z_p0_costOn z_p0_costBack z_p0_foundBy z_p0_friends z_p1_away z_p1_all z_p1_of) (tyL cI cJ cC cG cW) sz)) (va_Qv (fun (u : (Int32) × (Int64) × (Int64)) => Post u.1 u.2.1 u.2.2) (fun u t => poW (dC, dI) (tyL cI cJ cC cG cW) (va_A (qw_X1_onOrBack cI cJ cC cG cW a_this a_p0 a_p0_minutes a_p0_lostBy a_p0_backBy a_p0_slips a_p0_takes a_p0_ties a_p1 a_p1_of z_which z_above z_below z_p0_stretches z_p0_costOn z_p0_costBack z_p0_foundBy z_p0_friends z_p1_away z_p1_all z_p1_of) sz) (qw_X1_onOrBack cI cJ cC cG cW a_this a_p0 a_p0_minutes a_p0_lostBy a_p0_backBy a_p0_slips a_p0_takes a_p0_ties a_p1 a_p1_of u.1 u.2.1 u.2.2 z_p0_stretches z_p0_costOn z_p0_costBack z_p0_foundBy z_p0_friends z_p1_away z_p1_all z_p1_of) t) (va_A (qw_X1_onOrBack cI cJ cC cG cW a_this a_p0 a_p0_minutes a_p0_lostBy a_p0_backBy a_p0_slips a_p0_takes a_p0_ties a_p1 a_p1_of z_which z_above z_below z_p0_stretches z_p0_costOn z_p0_costBack z_p0_foundBy z_p0_friends z_p1_away z_p1_all z_p1_of) sz)) 0 0 (va_A (qw_X1_onOrBack cI cJ cC cG cW a_this a_p0 a_p0_minutes a_p0_lostBy a_p0_backBy a_p0_slips a_p0_takes a_p0_ties a_p1 a_p1_of z_which z_above z_below z_p0_stretches z_p0_costOn z_p0_costBack z_p0_foundBy z_p0_friends z_p1_away z_p1_all z_p1_of) sz) := by
  refine Met.ofM (Qc := fun A => va_Qv (fun (u : (Int32) × (Int64) × (Int64)) => Post u.1 u.2.1 u.2.2) (fun u t => poW (dC, dI) (tyL cI cJ cC cG cW) A (qw_X1_onOrBack cI cJ cC cG cW a_this a_p0 a_p0_minutes a_p0_lostBy a_p0_backBy a_p0_slips a_p0_takes a_p0_ties a_p1 a_p1_of u.1 u.2.1 u.2.2 z_p0_stretches z_p0_costOn z_p0_costBack z_p0_foundBy z_p0_friends z_p1_away z_p1_all z_p1_of) t) A) (nm := "onOrBack") (ds := "(LStileCounts$Laid;LStileCounts$Chances;)V") (own := RX1) (maxL := 7) (cc := cX1_onOrBack) (ret := none) (by decide) rfl rfl (Nat.le_of_ble_eq_true rfl) (fun p e s m below meth c A C0 hin hK hN hA hP hD hS ls hl => ?_)
  obtain ⟨hx, hb, hr, hml, hown, hts, hlocks⟩ := id C0
  have hl : lv_has ls 7 [(0, .ref a_this), (1, .ref a_p0), (2, .ref a_p1)] := hl
  obtain ⟨H, hH⟩ : ∃ h : Heap, h = s.heap := ⟨_, rfl⟩
  obtain ⟨locs, hLc⟩ : ∃ L : List Loc, L = [] := ⟨_, rfl⟩
  have hS : va_S A s.heap H locs := by rw [hH, hLc]; exact hS
  rw [← hH] at hP
  rw [← hLc, ← hH]
  clear hH hLc
  refine lv_aload_n hx hb dX1_onOrBack_0 rfl (lv_at hl 1 rfl) ?_
  refine va_get (D := (dC, dI)) (ci := 2) (v := .int z_p0_costOn) (C := RX2) (T := TX2) (N := 11) hx hb hts qi_X1_onOrBack_X2 hown hK hP 1 rfl rfl 6 (by decide) (hts _ ql_X1_onOrBack_28) (fun _ h9 => h9) rfl dX1_onOrBack_1 ?_
  refine lv_i2l hx hb dX1_onOrBack_4 rfl ?_
  refine lv_aload_n hx hb dX1_onOrBack_5 rfl (lv_at hl 2 rfl) ?_
  refine va_get (D := (dC, dI)) (ci := 0) (v := .long z_p1_away) (C := RX0) (T := TX0) (N := 3) hx hb hts qi_X1_onOrBack_X0 hown hK hP 2 rfl rfl 1 (by decide) (hts _ ql_X1_onOrBack_33) (fun _ h9 => h9) rfl dX1_onOrBack_6 ?_
  refine lv_lmul hx hb dX1_onOrBack_9 ?_
  refine lv_lstore_n (lv' := [(3, .long ((z_p0_costOn.toInt64) * z_p1_away)), (0, .ref a_this), (1, .ref a_p0), (2, .ref a_p1)]) hx hb dX1_onOrBack_10 rfl hl (by decide) rfl (fun ls hl => ?_)
  refine lv_aload_n hx hb dX1_onOrBack_11 rfl (lv_at hl 2 rfl) ?_
  refine va_get (D := (dC, dI)) (ci := 2) (v := .int z_p0_costBack) (C := RX2) (T := TX2) (N := 11) hx hb hts qi_X1_onOrBack_X2 hown hK hP 1 rfl rfl 7 (by decide) (hts _ ql_X1_onOrBack_38) (fun _ h9 => h9) rfl dX1_onOrBack_12 ?_
  refine lv_i2l hx hb dX1_onOrBack_15 rfl ?_
  refine lv_aload_n hx hb dX1_onOrBack_16 rfl (lv_at hl 3 rfl) ?_
  refine va_get (D := (dC, dI)) (ci := 0) (v := .ref a_p1_of) (C := RX0) (T := TX0) (N := 3) hx hb hts qi_X1_onOrBack_X0 hown hK hP 2 rfl rfl 0 (by decide) (hts _ ql_X1_onOrBack_41) (fun _ h9 => h9) rfl dX1_onOrBack_17 ?_
  refine lv_iconst (v := (0 : Int32)) hx hb dX1_onOrBack_20 (by decide) ?_
  obtain ⟨h1, hV⟩ := hV
  refine va_lald hx hb hK hP 3 1 rfl rfl h1 dX1_onOrBack_21 ?_
  refine lv_lmul hx hb dX1_onOrBack_22 ?_
  refine lv_lstore (lv' := [(5, .long ((z_p0_costBack.toInt64) * (z_p1_of (0 : Int32).toNatClampNeg))), (3, .long ((z_p0_costOn.toInt64) * z_p1_away)), (0, .ref a_this), (1, .ref a_p0), (2, .ref a_p1)]) hx hb dX1_onOrBack_23 hl (by decide) rfl (fun ls hl => ?_)
  refine lv_aload_n hx hb dX1_onOrBack_25 rfl (lv_at hl 2 rfl) ?_
  refine lv_lload_n hx hb dX1_onOrBack_26 rfl (lv_at hl 1 rfl) ?_
  refine lv_lload hx hb dX1_onOrBack_27 (lv_at hl 0 rfl) ?_
  refine W.lcmp hx hb dX1_onOrBack_29 ?_
  refine lv_if_gt (tgt := 37) hx hb dX1_onOrBack_30 (by decide) (fun c2 => ?_) (fun c2 => ?_)
  · have c2 := (lg_cmp_gt _ _).mp c2
    have hV := hV.1 c2
    refine lv_iconst (v := (1 : Int32)) hx hb dX1_onOrBack_37 (by decide) ?_
    exact qt_X1_onOrBack_J38 C0 hK hN hA z_which z_above z_below z_p0_stretches z_p0_costOn z_p0_costBack z_p0_foundBy z_p0_friends z_p1_away z_p1_all z_p1_of (1 : Int32) ((z_p0_costOn.toInt64) * z_p1_away) ((z_p0_costBack.toInt64) * (z_p1_of (0 : Int32).toNatClampNeg)) _ H locs ls hV hP hD hS (lv_sub hl [2, 4, 1, 0] rfl)
  · have c2 := fun h => c2 ((lg_cmp_gt _ _).mpr h)
    have hV := hV.2 c2
    refine lv_iconst (v := (0 : Int32)) hx hb dX1_onOrBack_33 (by decide) ?_
    refine lv_goto (tgt := 38) hx hb dX1_onOrBack_34 (by decide) ?_
    exact qt_X1_onOrBack_J38 C0 hK hN hA z_which z_above z_below z_p0_stretches z_p0_costOn z_p0_costBack z_p0_foundBy z_p0_friends z_p1_away z_p1_all z_p1_of (0 : Int32) ((z_p0_costOn.toInt64) * z_p1_away) ((z_p0_costBack.toInt64) * (z_p1_of (0 : Int32).toNatClampNeg)) _ H locs ls hV hP hD hS (lv_sub hl [2, 4, 1, 0] rfl)

/-! StileCounts$Choice.decidedBehind(LStileCounts$Laid;LStileCounts$Chances;I)J -/
abbrev qw_X1_decidedBehind (cI cJ cC cG cW : ClassId) (a_p0 a_p0_minutes a_p0_lostBy a_p0_backBy a_p0_slips a_p0_takes a_p0_ties a_p1 a_p1_of : Nat) (z_p0_stretches : Int32) (z_p0_costOn : Int32) (z_p0_costBack : Int32) (z_p0_foundBy : Int32) (z_p0_friends : Int32) (z_p1_away : Int64) (z_p1_all : Int64) (z_p0_slips : Nat → Int32) (z_p1_of : Nat → Int64) : va_W := [(a_p0, .inr (2, [.int z_p0_stretches, .ref a_p0_minutes, .ref a_p0_lostBy, .ref a_p0_backBy, .ref a_p0_slips, .ref a_p0_takes, .int z_p0_costOn, .int z_p0_costBack, .int z_p0_foundBy, .int z_p0_friends, .ref a_p0_ties])), (a_p1, .inr (0, [.ref a_p1_of, .long z_p1_away, .long z_p1_all])), (a_p0_slips, .inl (cI, 4, .inl z_p0_slips)), (a_p1_of, .inl (cJ, 9, .inr (.inl z_p1_of)))]
theorem qi_X1_decidedBehind_X0 : ∀ w ∈ wsX00, w ∈ wsX1_decidedBehind := by decide +kernel
theorem ql_X1_decidedBehind_33 : (.fieldLink RX1 33 "StileCounts$Chances" "away" "J" : Cond) ∈ wsX1_decidedBehind := by decide +kernel
theorem qi_X1_decidedBehind_X2 : ∀ w ∈ wsX20, w ∈ wsX1_decidedBehind := by decide +kernel
theorem ql_X1_decidedBehind_68 : (.fieldLink RX1 68 "StileCounts$Laid" "slips" "[I" : Cond) ∈ wsX1_decidedBehind := by decide +kernel
theorem qk_X1_decidedBehind_71_i : (.initialized RX7 : Cond) ∈ wsX1_decidedBehind := by decide +kernel
theorem qk_X1_decidedBehind_71_s : (.static yX7_byTen : Cond) ∈ wsX1_decidedBehind := by decide +kernel
theorem ql_X1_decidedBehind_41 : (.fieldLink RX1 41 "StileCounts$Chances" "of" "[J" : Cond) ∈ wsX1_decidedBehind := by decide +kernel
theorem ql_X1_decidedBehind_28 : (.fieldLink RX1 28 "StileCounts$Laid" "costOn" "I" : Cond) ∈ wsX1_decidedBehind := by decide +kernel
theorem ql_X1_decidedBehind_38 : (.fieldLink RX1 38 "StileCounts$Laid" "costBack" "I" : Cond) ∈ wsX1_decidedBehind := by decide +kernel
theorem qk_X1_decidedBehind_45_a : (.methodLink RX1 45 Lib.MathLoose.min_long.x : Cond) ∈ wsX1_decidedBehind := by decide +kernel
theorem qk_X1_decidedBehind_45_b : (.static Lib.MathLoose.min_long.x : Cond) ∈ wsX1_decidedBehind := by decide +kernel
theorem qk_X1_decidedBehind_45_c : (.initialized "java/lang/Math" : Cond) ∈ wsX1_decidedBehind := by decide +kernel
theorem qk_X1_decidedBehind_45_d : (.code Lib.MathLoose.min_long.x Lib.MathLoose.min_long.code 4 (some .long) : Cond) ∈ wsX1_decidedBehind := by decide +kernel
def qv_X1_decidedBehind_L6 (x2 : Int32) (z_p0_costOn : Int32) (z_p0_costBack : Int32) (z_p1_away : Int64) (z_p0_slips : Nat → Int32) (z_p1_of : Nat → Int64) (Post : Int64 → Prop) (E : (Int64) → Prop) : Nat → (Int64) → (Int32) → Prop
  | 0, _, _ => False
  | n + 1, x3, x5 => ((1 : Int32) < x5 → E x3) ∧ (¬ (1 : Int32) < x5 → vp_in x2 4 ∧ (qv_X7_byTen x2 (z_p0_slips x2.toNatClampNeg) (-1 : Int32) x5 (fun r3 => vp_in (0 : Int32) 9 ∧ (vp_in x2 4 ∧ (qv_X7_byTen x2 (z_p0_slips x2.toNatClampNeg) (0 : Int32) x5 (fun r6 => qv_X1_decidedBehind_L6 x2 z_p0_costOn z_p0_costBack z_p1_away z_p0_slips z_p1_of Post E n (x3 + (if ((z_p0_costBack.toInt64) * ((z_p1_of (0 : Int32).toNatClampNeg) * (r6.toInt64))) < ((z_p0_costOn.toInt64) * (z_p1_away * (r3.toInt64))) then ((z_p0_costBack.toInt64) * ((z_p1_of (0 : Int32).toNatClampNeg) * (r6.toInt64))) else ((z_p0_costOn.toInt64) * (z_p1_away * (r3.toInt64))))) (x5 + (1 : Int32))))))))
set_option maxHeartbeats 4000000 in
set_option maxRecDepth 100000 in
theorem qt_X1_decidedBehind_L6 {p : Program} {l : Launch} {e : Env} {s : State} {m : MethodId} {args : Array Value} {below : List Frame} {meth : Method} {c : Code} {dC : Nat → ClassId} {dI : Nat → Nat → Nat} {cI cJ cC cG cW : ClassId} {a_p0 a_p0_minutes a_p0_lostBy a_p0_backBy a_p0_slips a_p0_takes a_p0_ties a_p1 a_p1_of : Nat} (C0 : MC cX1_decidedBehind 10 (some .long) RX1 wsX1_decidedBehind p s m args meth c) (hK : va_K (dC, dI) vwCl (tyL cI cJ cC cG cW) s) (hN : NW s) (z_p0_stretches : Int32) (z_p0_costOn : Int32) (z_p0_costBack : Int32) (z_p0_foundBy : Int32) (z_p0_friends : Int32) (z_p1_away : Int64) (z_p1_all : Int64) (z_p0_slips : Nat → Int32) (z_p1_of : Nat → Int64) (hP : va_P (dC, dI) vwCl (qw_X1_decidedBehind cI cJ cC cG cW a_p0 a_p0_minutes a_p0_lostBy a_p0_backBy a_p0_slips a_p0_takes a_p0_ties a_p1 a_p1_of z_p0_stretches z_p0_costOn z_p0_costBack z_p0_foundBy z_p0_friends z_p1_away z_p1_all z_p0_slips z_p1_of) s.heap) (x2 : Int32) (Post : Int64 → Prop) (E : (Int64) → Prop) (hE : ∀ (x3 : Int64) (ls : Array Slot), E x3 → lv_has ls 10 [(3, .long x3)] → W p l e ({ frames := 1, cells := 0, slots := 0, locals := 24 } : Room) s m args below meth c s.heap [] 0 0 (MQ below (vp_Sl Post) args s 0 0 (fun _ => False)) (F0 m 84 ls [])) : ∀ (n : Nat) (x3 : Int64) (x5 : Int32) (ls : Array Slot), qv_X1_decidedBehind_L6 x2 z_p0_costOn z_p0_costBack z_p1_away z_p0_slips z_p1_of Post E n x3 x5 → lv_has ls 10 [(0, .ref a_p0), (1, .ref a_p1), (2, .int x2), (3, .long x3), (5, .int x5)] → W p l e ({ frames := 1, cells := 0, slots := 0, locals := 24 } : Room) s m args below meth c s.heap [] 0 0 (MQ below (vp_Sl Post) args s 0 0 (fun _ => False)) (F0 m 6 ls []) := by
  obtain ⟨hx, hb, hr, hml, hown, hts, hlocks⟩ := id C0
  intro n
  induction n with
  | zero =>
    intro x3 x5 ls hV
    exact False.elim hV
  | succ n ih =>
    intro x3 x5 ls hV hl
    refine lv_iload hx hb dX1_decidedBehind_6 (lv_at hl 4 rfl) ?_
    refine lv_iconst (v := (1 : Int32)) hx hb dX1_decidedBehind_8 (by decide) ?_
    refine lv_icmp_gt (tgt := 84) hx hb dX1_decidedBehind_9 (by decide) (fun c1 => ?_) (fun c1 => ?_)
    · have hV := hV.1 c1
      exact hE x3 ls hV (lv_sub hl [3] rfl)
    · have hV := hV.2 c1
      refine lv_aload_n hx hb dX1_decidedBehind_12 rfl (lv_at hl 1 rfl) ?_
      refine va_get (D := (dC, dI)) (ci := 0) (v := .long z_p1_away) (C := RX0) (T := TX0) (N := 3) hx hb hts qi_X1_decidedBehind_X0 hown hK hP 1 rfl rfl 1 (by decide) (hts _ ql_X1_decidedBehind_33) (fun _ h9 => h9) rfl dX1_decidedBehind_13 ?_
      refine lv_iload_n hx hb dX1_decidedBehind_16 rfl (lv_at hl 2 rfl) ?_
      refine lv_aload_n hx hb dX1_decidedBehind_17 rfl (lv_at hl 0 rfl) ?_
      refine va_get (D := (dC, dI)) (ci := 2) (v := .ref a_p0_slips) (C := RX2) (T := TX2) (N := 11) hx hb hts qi_X1_decidedBehind_X2 hown hK hP 0 rfl rfl 4 (by decide) (hts _ ql_X1_decidedBehind_68) (fun _ h9 => h9) rfl dX1_decidedBehind_18 ?_
      refine lv_iload_n hx hb dX1_decidedBehind_21 rfl (lv_at hl 2 rfl) ?_
      obtain ⟨h2, hV⟩ := hV
      refine va_iald hx hb hK hP 2 0 rfl rfl h2 dX1_decidedBehind_22 ?_
      refine lv_iconst (v := (-1 : Int32)) hx hb dX1_decidedBehind_23 (by decide) ?_
      refine lv_iload hx hb dX1_decidedBehind_24 (lv_at hl 4 rfl) ?_
      refine vp_callSi (va_Run.run (va_runSN (As := [.int x2, .int (z_p0_slips x2.toNatClampNeg), .int (-1 : Int32), .int x5]) (rest := [.long z_p1_away]) ⟨hx, hb, hml, hown, hts⟩ (qm_X7_byTen l dC dI cI cJ cC cG cW x2 (z_p0_slips x2.toNatClampNeg) (-1 : Int32) x5 _ hV) ⟨va_cnB 4 hts gX1_decidedBehind_X7_byTen_n71 rfl rfl rfl (hN.get 9 rfl) (hts _ qk_X1_decidedBehind_71_i) (by decide +kernel) ⟨Nat.le_of_ble_eq_true rfl, Nat.le_of_ble_eq_true rfl⟩, (hts _ qk_X1_decidedBehind_71_s), trivial⟩ (preRS hK hN (show va_P (dC, dI) vwCl (qw_X7_byTen cI cJ cC cG cW) s.heap from fun k q h => by simp at h)) rfl rfl hl.1 rfl (lv_room (Nat.le_of_ble_eq_true rfl)) dX1_decidedBehind_26 ⟨Nat.le_of_ble_eq_true rfl, Nat.le_of_ble_eq_true rfl⟩)) (fun r3 hV => ?_)
      refine lv_i2l hx hb dX1_decidedBehind_29 rfl ?_
      refine lv_lmul hx hb dX1_decidedBehind_30 ?_
      refine lv_lstore (lv' := [(6, .long (z_p1_away * (r3.toInt64))), (0, .ref a_p0), (1, .ref a_p1), (2, .int x2), (3, .long x3), (5, .int x5)]) hx hb dX1_decidedBehind_31 hl (by decide) rfl (fun ls hl => ?_)
      refine lv_aload_n hx hb dX1_decidedBehind_33 rfl (lv_at hl 2 rfl) ?_
      refine va_get (D := (dC, dI)) (ci := 0) (v := .ref a_p1_of) (C := RX0) (T := TX0) (N := 3) hx hb hts qi_X1_decidedBehind_X0 hown hK hP 1 rfl rfl 0 (by decide) (hts _ ql_X1_decidedBehind_41) (fun _ h9 => h9) rfl dX1_decidedBehind_34 ?_
      refine lv_iconst (v := (0 : Int32)) hx hb dX1_decidedBehind_37 (by decide) ?_
      obtain ⟨h4, hV⟩ := hV
      refine va_lald hx hb hK hP 3 1 rfl rfl h4 dX1_decidedBehind_38 ?_
      refine lv_iload_n hx hb dX1_decidedBehind_39 rfl (lv_at hl 3 rfl) ?_
      refine lv_aload_n hx hb dX1_decidedBehind_40 rfl (lv_at hl 1 rfl) ?_
      refine va_get (D := (dC, dI)) (ci := 2) (v := .ref a_p0_slips) (C := RX2) (T := TX2) (N := 11) hx hb hts qi_X1_decidedBehind_X2 hown hK hP 0 rfl rfl 4 (by decide) (hts _ ql_X1_decidedBehind_68) (fun _ h9 => h9) rfl dX1_decidedBehind_41 ?_
      refine lv_iload_n hx hb dX1_decidedBehind_44 rfl (lv_at hl 3 rfl) ?_
      obtain ⟨h5, hV⟩ := hV
      refine va_iald hx hb hK hP 2 0 rfl rfl h5 dX1_decidedBehind_45 ?_
      refine lv_iconst (v := (0 : Int32)) hx hb dX1_decidedBehind_46 (by decide) ?_
      refine lv_iload hx hb dX1_decidedBehind_47 (lv_at hl 5 rfl) ?_
      refine vp_callSi (va_Run.run (va_runSN (As := [.int x2, .int (z_p0_slips x2.toNatClampNeg), .int (0 : Int32), .int x5]) (rest := [.long (z_p1_of (0 : Int32).toNatClampNeg)]) ⟨hx, hb, hml, hown, hts⟩ (qm_X7_byTen l dC dI cI cJ cC cG cW x2 (z_p0_slips x2.toNatClampNeg) (0 : Int32) x5 _ hV) ⟨va_cnB 4 hts gX1_decidedBehind_X7_byTen_n71 rfl rfl rfl (hN.get 9 rfl) (hts _ qk_X1_decidedBehind_71_i) (by decide +kernel) ⟨Nat.le_of_ble_eq_true rfl, Nat.le_of_ble_eq_true rfl⟩, (hts _ qk_X1_decidedBehind_71_s), trivial⟩ (preRS hK hN (show va_P (dC, dI) vwCl (qw_X7_byTen cI cJ cC cG cW) s.heap from fun k q h => by simp at h)) rfl rfl hl.1 rfl (lv_room (Nat.le_of_ble_eq_true rfl)) dX1_decidedBehind_49 ⟨Nat.le_of_ble_eq_true rfl, Nat.le_of_ble_eq_true rfl⟩)) (fun r6 hV => ?_)
      refine lv_i2l hx hb dX1_decidedBehind_52 rfl ?_
      refine lv_lmul hx hb dX1_decidedBehind_53 ?_
      refine lv_lstore (lv' := [(8, .long ((z_p1_of (0 : Int32).toNatClampNeg) * (r6.toInt64))), (6, .long (z_p1_away * (r3.toInt64))), (0, .ref a_p0), (1, .ref a_p1), (2, .int x2), (3, .long x3), (5, .int x5)]) hx hb dX1_decidedBehind_54 hl (by decide) rfl (fun ls hl => ?_)
      refine lv_lload_n hx hb dX1_decidedBehind_56 rfl (lv_at hl 5 rfl) ?_
      refine lv_aload_n hx hb dX1_decidedBehind_57 rfl (lv_at hl 2 rfl) ?_
      refine va_get (D := (dC, dI)) (ci := 2) (v := .int z_p0_costOn) (C := RX2) (T := TX2) (N := 11) hx hb hts qi_X1_decidedBehind_X2 hown hK hP 0 rfl rfl 6 (by decide) (hts _ ql_X1_decidedBehind_28) (fun _ h9 => h9) rfl dX1_decidedBehind_58 ?_
      refine lv_i2l hx hb dX1_decidedBehind_61 rfl ?_
      refine lv_lload hx hb dX1_decidedBehind_62 (lv_at hl 1 rfl) ?_
      refine lv_lmul hx hb dX1_decidedBehind_64 ?_
      refine lv_aload_n hx hb dX1_decidedBehind_65 rfl (lv_at hl 2 rfl) ?_
      refine va_get (D := (dC, dI)) (ci := 2) (v := .int z_p0_costBack) (C := RX2) (T := TX2) (N := 11) hx hb hts qi_X1_decidedBehind_X2 hown hK hP 0 rfl rfl 7 (by decide) (hts _ ql_X1_decidedBehind_38) (fun _ h9 => h9) rfl dX1_decidedBehind_66 ?_
      refine lv_i2l hx hb dX1_decidedBehind_69 rfl ?_
      refine lv_lload hx hb dX1_decidedBehind_70 (lv_at hl 0 rfl) ?_
      refine lv_lmul hx hb dX1_decidedBehind_72 ?_
      refine va_mmin_long hx hb (hml.trans hl.1.symm) hown (hts _ qk_X1_decidedBehind_45_a) (hts _ qk_X1_decidedBehind_45_b) (hts _ qk_X1_decidedBehind_45_c) (hts _ qk_X1_decidedBehind_45_d) (Nat.le_of_ble_eq_true rfl) (Nat.le_of_ble_eq_true rfl) (Nat.zero_le _) (Nat.zero_le _) dX1_decidedBehind_73 ?_
      refine lv_ladd hx hb dX1_decidedBehind_76 ?_
      refine lv_lstore_n (lv' := [(3, .long (x3 + (if ((z_p0_costBack.toInt64) * ((z_p1_of (0 : Int32).toNatClampNeg) * (r6.toInt64))) < ((z_p0_costOn.toInt64) * (z_p1_away * (r3.toInt64))) then ((z_p0_costBack.toInt64) * ((z_p1_of (0 : Int32).toNatClampNeg) * (r6.toInt64))) else ((z_p0_costOn.toInt64) * (z_p1_away * (r3.toInt64)))))), (8, .long ((z_p1_of (0 : Int32).toNatClampNeg) * (r6.toInt64))), (6, .long (z_p1_away * (r3.toInt64))), (0, .ref a_p0), (1, .ref a_p1), (2, .int x2), (5, .int x5)]) hx hb dX1_decidedBehind_77 rfl hl (by decide) rfl (fun ls hl => ?_)
      refine lv_iinc (v := (x5 + (1 : Int32))) (lv' := [(5, .int (x5 + (1 : Int32))), (3, .long (x3 + (if ((z_p0_costBack.toInt64) * ((z_p1_of (0 : Int32).toNatClampNeg) * (r6.toInt64))) < ((z_p0_costOn.toInt64) * (z_p1_away * (r3.toInt64))) then ((z_p0_costBack.toInt64) * ((z_p1_of (0 : Int32).toNatClampNeg) * (r6.toInt64))) else ((z_p0_costOn.toInt64) * (z_p1_away * (r3.toInt64)))))), (8, .long ((z_p1_of (0 : Int32).toNatClampNeg) * (r6.toInt64))), (6, .long (z_p1_away * (r3.toInt64))), (0, .ref a_p0), (1, .ref a_p1), (2, .int x2)]) hx hb dX1_decidedBehind_78 hl (k := 6) rfl rfl (by decide) rfl (fun ls hl => ?_)
      refine lv_goto (tgt := 6) hx hb dX1_decidedBehind_81 (by decide) ?_
      exact ih (x3 + (if ((z_p0_costBack.toInt64) * ((z_p1_of (0 : Int32).toNatClampNeg) * (r6.toInt64))) < ((z_p0_costOn.toInt64) * (z_p1_away * (r3.toInt64))) then ((z_p0_costBack.toInt64) * ((z_p1_of (0 : Int32).toNatClampNeg) * (r6.toInt64))) else ((z_p0_costOn.toInt64) * (z_p1_away * (r3.toInt64))))) (x5 + (1 : Int32)) ls hV (lv_sub hl [4, 5, 6, 1, 0] rfl)
def qv_X1_decidedBehind (x2 : Int32) (z_p0_costOn : Int32) (z_p0_costBack : Int32) (z_p1_away : Int64) (z_p0_slips : Nat → Int32) (z_p1_of : Nat → Int64) (Post : Int64 → Prop) : Prop := ∃ n7, qv_X1_decidedBehind_L6 x2 z_p0_costOn z_p0_costBack z_p1_away z_p0_slips z_p1_of Post (fun x3_7 => Post x3_7) n7 (0 : Int64) (-2 : Int32)
set_option maxHeartbeats 4000000 in
set_option maxRecDepth 100000 in
theorem qm_X1_decidedBehind (l : Launch) (dC : Nat → ClassId) (dI : Nat → Nat → Nat) (cI cJ cC cG cW : ClassId) (a_p0 a_p0_minutes a_p0_lostBy a_p0_backBy a_p0_slips a_p0_takes a_p0_ties a_p1 a_p1_of : Nat) (z_p0_stretches : Int32) (z_p0_costOn : Int32) (z_p0_costBack : Int32) (z_p0_foundBy : Int32) (z_p0_friends : Int32) (z_p1_away : Int64) (z_p1_all : Int64) (z_p0_slips : Nat → Int32) (z_p1_of : Nat → Int64) (x2 : Int32) (Post : Int64 → Prop) (hV : qv_X1_decidedBehind x2 z_p0_costOn z_p0_costBack z_p1_away z_p0_slips z_p1_of Post) : Met l yX1_decidedBehind wsX1_decidedBehind ({ frames := 1, cells := 0, slots := 0, locals := 24 } : Room) (va_Pc [.ref a_p0, .ref a_p1, .int x2] (prR (dC, dI) (qw_X1_decidedBehind cI cJ cC cG cW a_p0 a_p0_minutes a_p0_lostBy a_p0_backBy a_p0_slips a_p0_takes a_p0_ties a_p1 a_p1_of z_p0_stretches z_p0_costOn z_p0_costBack z_p0_foundBy z_p0_friends z_p1_away z_p1_all z_p0_slips z_p1_of) (tyL cI cJ cC cG cW))) (vp_Sl Post) 0 0 (fun _ => False) := by
  refine Met.ofR (nm := "decidedBehind") (ds := "(LStileCounts$Laid;LStileCounts$Chances;I)J") (own := RX1) (maxL := 10) (cc := cX1_decidedBehind) (ret := (some .long)) (by decide) rfl rfl (Nat.le_of_ble_eq_true rfl) (fun p e s m below meth c C0 hK hN hP ls hl => ?_)
  obtain ⟨hx, hb, hr, hml, hown, hts, hlocks⟩ := id C0
  have hl : lv_has ls 10 [(0, .ref a_p0), (1, .ref a_p1), (2, .int x2)] := hl
  refine lv_lconst (v := (0 : Int64)) hx hb dX1_decidedBehind_0 (by decide) ?_
  refine lv_lstore_n (lv' := [(3, .long (0 : Int64)), (0, .ref a_p0), (1, .ref a_p1), (2, .int x2)]) hx hb dX1_decidedBehind_1 rfl hl (by decide) rfl (fun ls hl => ?_)
  refine lv_bipush (v := (-2 : Int32)) hx hb dX1_decidedBehind_2 (by decide) ?_
  refine lv_istore (lv' := [(5, .int (-2 : Int32)), (3, .long (0 : Int64)), (0, .ref a_p0), (1, .ref a_p1), (2, .int x2)]) hx hb dX1_decidedBehind_4 hl (by decide) rfl (fun ls hl => ?_)
  obtain ⟨n7, hV⟩ := hV
  refine qt_X1_decidedBehind_L6 C0 hK hN z_p0_stretches z_p0_costOn z_p0_costBack z_p0_foundBy z_p0_friends z_p1_away z_p1_all z_p0_slips z_p1_of hP x2 _ _ (fun x3_7 ls hV hl => ?_) n7 (0 : Int64) (-2 : Int32) ls hV (lv_sub hl [2, 3, 4, 1, 0] rfl)
  refine lv_lload_n hx hb dX1_decidedBehind_84 rfl (lv_at hl 0 rfl) ?_
  exact W.lret hx hb hr (fun t ht hW => ⟨_, rfl, hV, ht⟩) (fun q h => absurd h List.not_mem_nil) dX1_decidedBehind_85 hlocks
