/-! StileCountsModel.bits(I)I -/
abbrev qw_X8_bits (cI cJ cC cG cW : ClassId) : va_W := []
def qv_X8_bits_L4 (Post : Int32 → Prop) (E : (Int32) → Prop) : Nat → (Int32) → (Int32) → Prop
  | 0, _, _ => False
  | n + 1, x1, x2 => (x2 = (0 : Int32) → E x1) ∧ (¬ x2 = (0 : Int32) → qv_X8_bits_L4 Post E n (x1 + (1 : Int32)) (x2 &&& (x2 - (1 : Int32))))
set_option maxHeartbeats 4000000 in
set_option maxRecDepth 100000 in
theorem qt_X8_bits_L4 {p : Program} {l : Launch} {e : Env} {s : State} {m : MethodId} {args : Array Value} {below : List Frame} {meth : Method} {c : Code} {dC : Nat → ClassId} {dI : Nat → Nat → Nat} {cI cJ cC cG cW : ClassId} (C0 : MC cX8_bits 3 (some .int) RX8 wsX8_bits p s m args meth c) (hK : va_K (dC, dI) vwCl (tyL cI cJ cC cG cW) s) (hN : NW s) (hP : va_P (dC, dI) vwCl (qw_X8_bits cI cJ cC cG cW) s.heap) (Post : Int32 → Prop) (E : (Int32) → Prop) (hE : ∀ (x1 : Int32) (ls : Array Slot), E x1 → lv_has ls 3 [(1, .int x1)] → W p l e ({ frames := 0, cells := 0, slots := 0, locals := 0 } : Room) s m args below meth c s.heap [] 0 0 (MQ below (vp_Si Post) args s 0 0 (fun _ => False)) (F0 m 20 ls [])) : ∀ (n : Nat) (x1 : Int32) (x2 : Int32) (ls : Array Slot), qv_X8_bits_L4 Post E n x1 x2 → lv_has ls 3 [(1, .int x1), (2, .int x2)] → W p l e ({ frames := 0, cells := 0, slots := 0, locals := 0 } : Room) s m args below meth c s.heap [] 0 0 (MQ below (vp_Si Post) args s 0 0 (fun _ => False)) (F0 m 4 ls []) := by
  obtain ⟨hx, hb, hr, hml, hown, hts, hlocks⟩ := id C0
  intro n
  induction n with
  | zero =>
    intro x1 x2 ls hV
    exact False.elim hV
  | succ n ih =>
    intro x1 x2 ls hV hl
    refine lv_iload_n hx hb dX8_bits_4 rfl (lv_at hl 1 rfl) ?_
    refine lv_if_eq (tgt := 20) hx hb dX8_bits_5 (by decide) (fun c1 => ?_) (fun c1 => ?_)
    · have hV := hV.1 c1
      exact hE x1 ls hV (lv_sub hl [0] rfl)
    · have hV := hV.2 c1
      refine lv_iinc (v := (x1 + (1 : Int32))) (lv' := [(1, .int (x1 + (1 : Int32))), (2, .int x2)]) hx hb dX8_bits_8 hl (k := 0) rfl rfl (by decide) rfl (fun ls hl => ?_)
      refine lv_iload_n hx hb dX8_bits_11 rfl (lv_at hl 1 rfl) ?_
      refine lv_iload_n hx hb dX8_bits_12 rfl (lv_at hl 1 rfl) ?_
      refine lv_iconst (v := (1 : Int32)) hx hb dX8_bits_13 (by decide) ?_
      refine lv_isub hx hb dX8_bits_14 ?_
      refine lv_iand hx hb dX8_bits_15 ?_
      refine lv_istore_n (lv' := [(2, .int (x2 &&& (x2 - (1 : Int32)))), (1, .int (x1 + (1 : Int32)))]) hx hb dX8_bits_16 rfl hl (by decide) rfl (fun ls hl => ?_)
      refine lv_goto (tgt := 4) hx hb dX8_bits_17 (by decide) ?_
      exact ih (x1 + (1 : Int32)) (x2 &&& (x2 - (1 : Int32))) ls hV (lv_sub hl [1, 0] rfl)
def qv_X8_bits (x0 : Int32) (Post : Int32 → Prop) : Prop := ∃ n2, qv_X8_bits_L4 Post (fun x1_2 => Post x1_2) n2 (0 : Int32) x0
set_option maxHeartbeats 4000000 in
set_option maxRecDepth 100000 in
theorem qm_X8_bits (l : Launch) (dC : Nat → ClassId) (dI : Nat → Nat → Nat) (cI cJ cC cG cW : ClassId) (x0 : Int32) (Post : Int32 → Prop) (hV : qv_X8_bits x0 Post) : Met l yX8_bits wsX8_bits ({ frames := 0, cells := 0, slots := 0, locals := 0 } : Room) (va_Pc [.int x0] (prR (dC, dI) (qw_X8_bits cI cJ cC cG cW) (tyL cI cJ cC cG cW))) (vp_Si Post) 0 0 (fun _ => False) := by
  refine Met.ofR (nm := "bits") (ds := "(I)I") (own := RX8) (maxL := 3) (cc := cX8_bits) (ret := (some .int)) (by decide) rfl rfl (Nat.le_of_ble_eq_true rfl) (fun p e s m below meth c C0 hK hN hP ls hl => ?_)
  obtain ⟨hx, hb, hr, hml, hown, hts, hlocks⟩ := id C0
  have hl : lv_has ls 3 [(0, .int x0)] := hl
  refine lv_iconst (v := (0 : Int32)) hx hb dX8_bits_0 (by decide) ?_
  refine lv_istore_n (lv' := [(1, .int (0 : Int32)), (0, .int x0)]) hx hb dX8_bits_1 rfl hl (by decide) rfl (fun ls hl => ?_)
  refine lv_iload_n hx hb dX8_bits_2 rfl (lv_at hl 1 rfl) ?_
  refine lv_istore_n (lv' := [(2, .int x0), (1, .int (0 : Int32)), (0, .int x0)]) hx hb dX8_bits_3 rfl hl (by decide) rfl (fun ls hl => ?_)
  obtain ⟨n2, hV⟩ := hV
  refine qt_X8_bits_L4 C0 hK hN hP _ _ (fun x1_2 ls hV hl => ?_) n2 (0 : Int32) x0 ls hV (lv_sub hl [1, 0] rfl)
  refine lv_iload_n hx hb dX8_bits_20 rfl (lv_at hl 0 rfl) ?_
  exact W.iret hx hb hr (fun t ht hW => ⟨_, rfl, hV, ht⟩) (fun q h => absurd h List.not_mem_nil) dX8_bits_21 hlocks

/-! StileCountsModel.plan(II)J -/
abbrev qw_X8_plan (cI cJ cC cG cW : ClassId) (a_this a_this_laid a_this_text a_this_read a_this_numbers a_this_where a_this_sorts a_this_tells a_this_undone a_this_parts a_this_goesWith a_this_with a_this_keeps : Nat) (z_letters : Int32) (z_at : Int32) (z_walked : Int32) (z_counts : Int32) (z_undos : Int32) (z_all : Int64) (z_planned : Int64) (z_scale : Int64) (z_least : Int32) (z_kept : Int32) (z_laid : Nat → Int32) (z_where : Nat → Int32) (z_sorts : Nat → Int32) (z_tells : Nat → Int32) (z_parts : Nat → Int64) : va_W := [(a_this, .inr (8, [.ref a_this_laid, .ref a_this_text, .int z_letters, .ref a_this_read, .int z_at, .ref a_this_numbers, .int z_walked, .int z_counts, .ref a_this_where, .ref a_this_sorts, .ref a_this_tells, .int z_undos, .ref a_this_undone, .ref a_this_parts, .long z_all, .long z_planned, .long z_scale, .ref a_this_goesWith, .int z_least, .ref a_this_with, .int z_kept, .ref a_this_keeps])), (a_this_laid, .inl (cI, 73, .inl z_laid)), (a_this_where, .inl (cI, 6, .inl z_where)), (a_this_sorts, .inl (cI, 6, .inl z_sorts)), (a_this_tells, .inl (cI, 6, .inl z_tells)), (a_this_parts, .inl (cJ, 9, .inr (.inl z_parts)))]
theorem ql_X8_plan_184 : (.constantLong RX8 184 (99 : Int64) : Cond) ∈ wsX8_plan := by decide +kernel
theorem ql_X8_plan_155 : (.constantLong RX8 155 (-1 : Int64) : Cond) ∈ wsX8_plan := by decide +kernel
theorem ql_X8_plan_82 : (.constantLong RX8 82 (2 : Int64) : Cond) ∈ wsX8_plan := by decide +kernel
theorem qi_X8_plan_X8 : ∀ w ∈ wsX80, w ∈ wsX8_plan := by decide +kernel
theorem ql_X8_plan_114 : (.fieldLink RX8 114 "StileCountsModel" "counts" "I" : Cond) ∈ wsX8_plan := by decide +kernel
theorem ql_X8_plan_138 : (.fieldLink RX8 138 "StileCountsModel" "all" "J" : Cond) ∈ wsX8_plan := by decide +kernel
theorem ql_X8_plan_7 : (.fieldLink RX8 7 "StileCountsModel" "laid" "[I" : Cond) ∈ wsX8_plan := by decide +kernel
theorem ql_X8_plan_111 : (.fieldLink RX8 111 "StileCountsModel" "walked" "I" : Cond) ∈ wsX8_plan := by decide +kernel
theorem ql_X8_plan_178 : (.fieldLink RX8 178 "StileCountsModel" "planned" "J" : Cond) ∈ wsX8_plan := by decide +kernel
theorem ql_X8_plan_181 : (.fieldLink RX8 181 "StileCountsModel" "scale" "J" : Cond) ∈ wsX8_plan := by decide +kernel
theorem ql_X8_plan_161 : (.constantLong RX8 161 (-4 : Int64) : Cond) ∈ wsX8_plan := by decide +kernel
def qv_X8_plan_J138 (k0 : Int32) (x1 : Int32) (x2 : Int32) (x3 : Int32) (x5 : Int64) (x7 : Int32) (z_walked : Int32) (z_counts : Int32) (z_all : Int64) (z_planned : Int64) (z_scale : Int64) (z_laid : Nat → Int32) (z_where : Nat → Int32) (z_sorts : Nat → Int32) (z_tells : Nat → Int32) (z_parts : Nat → Int64) (Post : Int64 → (Int64) → (Int64) → (Int64) → (Nat → Int64) → Prop) (K : (Int32) → (Int64) → (Int32) → (Int64) → (Int64) → Prop) (E : (Int32) → (Int64) → (Int64) → (Int64) → Prop) : Prop := (x5 ≤ z_planned → K k0 x5 (x7 + (1 : Int32)) z_planned z_scale) ∧ (¬ x5 ≤ z_planned → K k0 z_planned (x7 + (1 : Int32)) z_planned z_scale)
set_option maxHeartbeats 4000000 in
set_option maxRecDepth 100000 in
theorem qt_X8_plan_J138 {p : Program} {l : Launch} {e : Env} {s : State} {m : MethodId} {args : Array Value} {below : List Frame} {meth : Method} {c : Code} {dC : Nat → ClassId} {dI : Nat → Nat → Nat} {cI cJ cC cG cW : ClassId} {a_this a_this_laid a_this_text a_this_read a_this_numbers a_this_where a_this_sorts a_this_tells a_this_undone a_this_parts a_this_goesWith a_this_with a_this_keeps : Nat} {A : Nat → Prop} (C0 : MC cX8_plan 8 (some .long) RX8 wsX8_plan p s m args meth c) (hK : va_K (dC, dI) vwCl (tyL cI cJ cC cG cW) s) (hN : NW s) (hA : ∀ q, s.heap.size ≤ q → A q) (z_letters : Int32) (z_at : Int32) (z_walked : Int32) (z_counts : Int32) (z_undos : Int32) (z_all : Int64) (z_planned : Int64) (z_scale : Int64) (z_least : Int32) (z_kept : Int32) (z_laid : Nat → Int32) (z_where : Nat → Int32) (z_sorts : Nat → Int32) (z_tells : Nat → Int32) (z_parts : Nat → Int64) (k0 : Int32) (x1 : Int32) (x2 : Int32) (x3 : Int32) (x5 : Int64) (x7 : Int32) (Post : Int64 → (Int64) → (Int64) → (Int64) → (Nat → Int64) → Prop) (K : (Int32) → (Int64) → (Int32) → (Int64) → (Int64) → Prop) (E : (Int32) → (Int64) → (Int64) → (Int64) → Prop) (hKb : ∀ (x4 : Int32) (x5 : Int64) (x7 : Int32) (z_planned : Int64) (z_scale : Int64) (H : Heap) (locs : List Loc) (ls : Array Slot), K x4 x5 x7 z_planned z_scale → va_P (dC, dI) vwCl (qw_X8_plan cI cJ cC cG cW a_this a_this_laid a_this_text a_this_read a_this_numbers a_this_where a_this_sorts a_this_tells a_this_undone a_this_parts a_this_goesWith a_this_with a_this_keeps z_letters z_at z_walked z_counts z_undos z_all z_planned z_scale z_least z_kept z_laid z_where z_sorts z_tells z_parts) H → va_D A (qw_X8_plan cI cJ cC cG cW a_this a_this_laid a_this_text a_this_read a_this_numbers a_this_where a_this_sorts a_this_tells a_this_undone a_this_parts a_this_goesWith a_this_with a_this_keeps z_letters z_at z_walked z_counts z_undos z_all z_planned z_scale z_least z_kept z_laid z_where z_sorts z_tells z_parts) → va_S A s.heap H locs → lv_has ls 8 [(0, .ref a_this), (1, .int x1), (2, .int x2), (3, .int x3), (4, .int x4), (5, .long x5), (7, .int x7)] → W p l e ({ frames := 4, cells := 0, slots := 0, locals := 104 } : Room) s m args below meth c H locs 0 0 (MQ below (va_Ql (fun (r : Int64) (u : (Int64) × (Int64) × (Int64) × (Nat → Int64)) => Post r u.1 u.2.1 u.2.2.1 u.2.2.2) (fun u t => poW (dC, dI) (tyL cI cJ cC cG cW) A (qw_X8_plan cI cJ cC cG cW a_this a_this_laid a_this_text a_this_read a_this_numbers a_this_where a_this_sorts a_this_tells a_this_undone a_this_parts a_this_goesWith a_this_with a_this_keeps z_letters z_at z_walked z_counts z_undos u.1 u.2.1 u.2.2.1 z_least z_kept z_laid z_where z_sorts z_tells u.2.2.2) t) A) args s 0 0 A) (F0 m 83 ls [])) (hE : ∀ (x4 : Int32) (x5 : Int64) (z_planned : Int64) (z_scale : Int64) (H : Heap) (locs : List Loc) (ls : Array Slot), E x4 x5 z_planned z_scale → va_P (dC, dI) vwCl (qw_X8_plan cI cJ cC cG cW a_this a_this_laid a_this_text a_this_read a_this_numbers a_this_where a_this_sorts a_this_tells a_this_undone a_this_parts a_this_goesWith a_this_with a_this_keeps z_letters z_at z_walked z_counts z_undos z_all z_planned z_scale z_least z_kept z_laid z_where z_sorts z_tells z_parts) H → va_D A (qw_X8_plan cI cJ cC cG cW a_this a_this_laid a_this_text a_this_read a_this_numbers a_this_where a_this_sorts a_this_tells a_this_undone a_this_parts a_this_goesWith a_this_with a_this_keeps z_letters z_at z_walked z_counts z_undos z_all z_planned z_scale z_least z_kept z_laid z_where z_sorts z_tells z_parts) → va_S A s.heap H locs → lv_has ls 8 [(0, .ref a_this), (2, .int x2), (4, .int x4), (5, .long x5)] → W p l e ({ frames := 4, cells := 0, slots := 0, locals := 104 } : Room) s m args below meth c H locs 0 0 (MQ below (va_Ql (fun (r : Int64) (u : (Int64) × (Int64) × (Int64) × (Nat → Int64)) => Post r u.1 u.2.1 u.2.2.1 u.2.2.2) (fun u t => poW (dC, dI) (tyL cI cJ cC cG cW) A (qw_X8_plan cI cJ cC cG cW a_this a_this_laid a_this_text a_this_read a_this_numbers a_this_where a_this_sorts a_this_tells a_this_undone a_this_parts a_this_goesWith a_this_with a_this_keeps z_letters z_at z_walked z_counts z_undos u.1 u.2.1 u.2.2.1 z_least z_kept z_laid z_where z_sorts z_tells u.2.2.2) t) A) args s 0 0 A) (F0 m 167 ls [])) (H : Heap) (locs : List Loc) (ls : Array Slot) (hV : qv_X8_plan_J138 k0 x1 x2 x3 x5 x7 z_walked z_counts z_all z_planned z_scale z_laid z_where z_sorts z_tells z_parts Post K E) (hP : va_P (dC, dI) vwCl (qw_X8_plan cI cJ cC cG cW a_this a_this_laid a_this_text a_this_read a_this_numbers a_this_where a_this_sorts a_this_tells a_this_undone a_this_parts a_this_goesWith a_this_with a_this_keeps z_letters z_at z_walked z_counts z_undos z_all z_planned z_scale z_least z_kept z_laid z_where z_sorts z_tells z_parts) H) (hD : va_D A (qw_X8_plan cI cJ cC cG cW a_this a_this_laid a_this_text a_this_read a_this_numbers a_this_where a_this_sorts a_this_tells a_this_undone a_this_parts a_this_goesWith a_this_with a_this_keeps z_letters z_at z_walked z_counts z_undos z_all z_planned z_scale z_least z_kept z_laid z_where z_sorts z_tells z_parts)) (hS : va_S A s.heap H locs) (hl : lv_has ls 8 [(0, .ref a_this), (1, .int x1), (2, .int x2), (3, .int x3), (5, .long x5), (7, .int x7)]) : W p l e ({ frames := 4, cells := 0, slots := 0, locals := 104 } : Room) s m args below meth c H locs 0 0 (MQ below (va_Ql (fun (r : Int64) (u : (Int64) × (Int64) × (Int64) × (Nat → Int64)) => Post r u.1 u.2.1 u.2.2.1 u.2.2.2) (fun u t => poW (dC, dI) (tyL cI cJ cC cG cW) A (qw_X8_plan cI cJ cC cG cW a_this a_this_laid a_this_text a_this_read a_this_numbers a_this_where a_this_sorts a_this_tells a_this_undone a_this_parts a_this_goesWith a_this_with a_this_keeps z_letters z_at z_walked z_counts z_undos u.1 u.2.1 u.2.2.1 z_least z_kept z_laid z_where z_sorts z_tells u.2.2.2) t) A) args s 0 0 A) (F0 m 138 ls [.int k0]) := by
  obtain ⟨hx, hb, hr, hml, hown, hts, hlocks⟩ := id C0
  refine lv_istore (lv' := [(4, .int k0), (0, .ref a_this), (1, .int x1), (2, .int x2), (3, .int x3), (5, .long x5), (7, .int x7)]) hx hb dX8_plan_138 hl (by decide) rfl (fun ls hl => ?_)
  refine lv_aload_n hx hb dX8_plan_140 rfl (lv_at hl 1 rfl) ?_
  refine va_get (D := (dC, dI)) (ci := 8) (v := .long z_planned) (C := RX8) (T := TX8) (N := 22) hx hb hts qi_X8_plan_X8 hown hK hP 0 rfl rfl 15 (by decide) (hts _ ql_X8_plan_178) (fun _ h9 => h9) rfl dX8_plan_141 ?_
  refine lv_lload hx hb dX8_plan_144 (lv_at hl 5 rfl) ?_
  refine W.lcmp hx hb dX8_plan_146 ?_
  refine lv_if_ge (tgt := 157) hx hb dX8_plan_147 (by decide) (fun c16 => ?_) (fun c16 => ?_)
  · have c16 := (lg_cmp_ge _ _).mp c16
    have hV := hV.1 c16
    refine lv_lload hx hb dX8_plan_157 (lv_at hl 5 rfl) ?_
    refine lv_lstore (lv' := [(5, .long x5), (4, .int k0), (0, .ref a_this), (1, .int x1), (2, .int x2), (3, .int x3), (7, .int x7)]) hx hb dX8_plan_159 hl (by decide) rfl (fun ls hl => ?_)
    refine lv_iinc (v := (x7 + (1 : Int32))) (lv' := [(7, .int (x7 + (1 : Int32))), (5, .long x5), (4, .int k0), (0, .ref a_this), (1, .int x1), (2, .int x2), (3, .int x3)]) hx hb dX8_plan_161 hl (k := 6) rfl rfl (by decide) rfl (fun ls hl => ?_)
    refine lv_goto (tgt := 83) hx hb dX8_plan_164 (by decide) ?_
    exact hKb k0 x5 (x7 + (1 : Int32)) z_planned z_scale H locs ls hV hP hD hS (lv_sub hl [3, 4, 5, 6, 2, 1, 0] rfl)
  · have c16 := fun h => c16 ((lg_cmp_ge _ _).mpr h)
    have hV := hV.2 c16
    refine lv_aload_n hx hb dX8_plan_150 rfl (lv_at hl 1 rfl) ?_
    refine va_get (D := (dC, dI)) (ci := 8) (v := .long z_planned) (C := RX8) (T := TX8) (N := 22) hx hb hts qi_X8_plan_X8 hown hK hP 0 rfl rfl 15 (by decide) (hts _ ql_X8_plan_178) (fun _ h9 => h9) rfl dX8_plan_151 ?_
    refine lv_goto (tgt := 159) hx hb dX8_plan_154 (by decide) ?_
    refine lv_lstore (lv' := [(5, .long z_planned), (4, .int k0), (0, .ref a_this), (1, .int x1), (2, .int x2), (3, .int x3), (7, .int x7)]) hx hb dX8_plan_159 hl (by decide) rfl (fun ls hl => ?_)
    refine lv_iinc (v := (x7 + (1 : Int32))) (lv' := [(7, .int (x7 + (1 : Int32))), (5, .long z_planned), (4, .int k0), (0, .ref a_this), (1, .int x1), (2, .int x2), (3, .int x3)]) hx hb dX8_plan_161 hl (k := 6) rfl rfl (by decide) rfl (fun ls hl => ?_)
    refine lv_goto (tgt := 83) hx hb dX8_plan_164 (by decide) ?_
    exact hKb k0 z_planned (x7 + (1 : Int32)) z_planned z_scale H locs ls hV hP hD hS (lv_sub hl [3, 4, 5, 6, 2, 1, 0] rfl)
def qv_X8_plan_L83 (x1 : Int32) (x2 : Int32) (x3 : Int32) (z_walked : Int32) (z_counts : Int32) (z_all : Int64) (z_laid : Nat → Int32) (z_where : Nat → Int32) (z_sorts : Nat → Int32) (z_tells : Nat → Int32) (z_parts : Nat → Int64) (Post : Int64 → (Int64) → (Int64) → (Int64) → (Nat → Int64) → Prop) (E : (Int32) → (Int64) → (Int64) → (Int64) → Prop) : Nat → (Int32) → (Int64) → (Int32) → (Int64) → (Int64) → Prop
  | 0, _, _, _, _, _ => False
  | n + 1, x4, x5, x7, z_planned, z_scale => (x3 < x7 → E x4 x5 z_planned z_scale) ∧ (¬ x3 < x7 → ((x7 &&& (x3 ^^^ (-1 : Int32))) = (0 : Int32) → qv_X8_bits x7 (fun r11 => vp_in (32 : Int32) 73 ∧ ((x1 < (r11 * (z_laid (32 : Int32).toNatClampNeg)) → qv_X8_plan_L83 x1 x2 x3 z_walked z_counts z_all z_laid z_where z_sorts z_tells z_parts Post E n x4 x5 (x7 + (1 : Int32)) z_planned z_scale) ∧ (¬ x1 < (r11 * (z_laid (32 : Int32).toNatClampNeg)) → qv_X8_plans x7 z_walked z_all z_planned z_scale z_laid z_parts (fun z_planned_14 z_scale_14 => (x5 ≤ z_planned_14 → qv_X8_plan_J138 x4 x1 x2 x3 x5 x7 z_walked z_counts z_all z_planned_14 z_scale_14 z_laid z_where z_sorts z_tells z_parts Post (qv_X8_plan_L83 x1 x2 x3 z_walked z_counts z_all z_laid z_where z_sorts z_tells z_parts Post E n) E) ∧ (¬ x5 ≤ z_planned_14 → qv_X8_plan_J138 x7 x1 x2 x3 x5 x7 z_walked z_counts z_all z_planned_14 z_scale_14 z_laid z_where z_sorts z_tells z_parts Post (qv_X8_plan_L83 x1 x2 x3 z_walked z_counts z_all z_laid z_where z_sorts z_tells z_parts Post E n) E)))))) ∧ (¬ (x7 &&& (x3 ^^^ (-1 : Int32))) = (0 : Int32) → qv_X8_plan_L83 x1 x2 x3 z_walked z_counts z_all z_laid z_where z_sorts z_tells z_parts Post E n x4 x5 (x7 + (1 : Int32)) z_planned z_scale))
set_option maxHeartbeats 4000000 in
set_option maxRecDepth 100000 in
theorem qt_X8_plan_L83 {p : Program} {l : Launch} {e : Env} {s : State} {m : MethodId} {args : Array Value} {below : List Frame} {meth : Method} {c : Code} {dC : Nat → ClassId} {dI : Nat → Nat → Nat} {cI cJ cC cG cW : ClassId} {a_this a_this_laid a_this_text a_this_read a_this_numbers a_this_where a_this_sorts a_this_tells a_this_undone a_this_parts a_this_goesWith a_this_with a_this_keeps : Nat} {A : Nat → Prop} (C0 : MC cX8_plan 8 (some .long) RX8 wsX8_plan p s m args meth c) (hK : va_K (dC, dI) vwCl (tyL cI cJ cC cG cW) s) (hN : NW s) (hA : ∀ q, s.heap.size ≤ q → A q) (z_letters : Int32) (z_at : Int32) (z_walked : Int32) (z_counts : Int32) (z_undos : Int32) (z_all : Int64) (z_least : Int32) (z_kept : Int32) (z_laid : Nat → Int32) (z_where : Nat → Int32) (z_sorts : Nat → Int32) (z_tells : Nat → Int32) (z_parts : Nat → Int64) (x1 : Int32) (x2 : Int32) (x3 : Int32) (Post : Int64 → (Int64) → (Int64) → (Int64) → (Nat → Int64) → Prop) (E : (Int32) → (Int64) → (Int64) → (Int64) → Prop) (hE : ∀ (x4 : Int32) (x5 : Int64) (z_planned : Int64) (z_scale : Int64) (H : Heap) (locs : List Loc) (ls : Array Slot), E x4 x5 z_planned z_scale → va_P (dC, dI) vwCl (qw_X8_plan cI cJ cC cG cW a_this a_this_laid a_this_text a_this_read a_this_numbers a_this_where a_this_sorts a_this_tells a_this_undone a_this_parts a_this_goesWith a_this_with a_this_keeps z_letters z_at z_walked z_counts z_undos z_all z_planned z_scale z_least z_kept z_laid z_where z_sorts z_tells z_parts) H → va_D A (qw_X8_plan cI cJ cC cG cW a_this a_this_laid a_this_text a_this_read a_this_numbers a_this_where a_this_sorts a_this_tells a_this_undone a_this_parts a_this_goesWith a_this_with a_this_keeps z_letters z_at z_walked z_counts z_undos z_all z_planned z_scale z_least z_kept z_laid z_where z_sorts z_tells z_parts) → va_S A s.heap H locs → lv_has ls 8 [(0, .ref a_this), (2, .int x2), (4, .int x4), (5, .long x5)] → W p l e ({ frames := 4, cells := 0, slots := 0, locals := 104 } : Room) s m args below meth c H locs 0 0 (MQ below (va_Ql (fun (r : Int64) (u : (Int64) × (Int64) × (Int64) × (Nat → Int64)) => Post r u.1 u.2.1 u.2.2.1 u.2.2.2) (fun u t => poW (dC, dI) (tyL cI cJ cC cG cW) A (qw_X8_plan cI cJ cC cG cW a_this a_this_laid a_this_text a_this_read a_this_numbers a_this_where a_this_sorts a_this_tells a_this_undone a_this_parts a_this_goesWith a_this_with a_this_keeps z_letters z_at z_walked z_counts z_undos u.1 u.2.1 u.2.2.1 z_least z_kept z_laid z_where z_sorts z_tells u.2.2.2) t) A) args s 0 0 A) (F0 m 167 ls [])) : ∀ (n : Nat) (x4 : Int32) (x5 : Int64) (x7 : Int32) (z_planned : Int64) (z_scale : Int64) (H : Heap) (locs : List Loc) (ls : Array Slot), qv_X8_plan_L83 x1 x2 x3 z_walked z_counts z_all z_laid z_where z_sorts z_tells z_parts Post E n x4 x5 x7 z_planned z_scale → va_P (dC, dI) vwCl (qw_X8_plan cI cJ cC cG cW a_this a_this_laid a_this_text a_this_read a_this_numbers a_this_where a_this_sorts a_this_tells a_this_undone a_this_parts a_this_goesWith a_this_with a_this_keeps z_letters z_at z_walked z_counts z_undos z_all z_planned z_scale z_least z_kept z_laid z_where z_sorts z_tells z_parts) H → va_D A (qw_X8_plan cI cJ cC cG cW a_this a_this_laid a_this_text a_this_read a_this_numbers a_this_where a_this_sorts a_this_tells a_this_undone a_this_parts a_this_goesWith a_this_with a_this_keeps z_letters z_at z_walked z_counts z_undos z_all z_planned z_scale z_least z_kept z_laid z_where z_sorts z_tells z_parts) → va_S A s.heap H locs → lv_has ls 8 [(0, .ref a_this), (1, .int x1), (2, .int x2), (3, .int x3), (4, .int x4), (5, .long x5), (7, .int x7)] → W p l e ({ frames := 4, cells := 0, slots := 0, locals := 104 } : Room) s m args below meth c H locs 0 0 (MQ below (va_Ql (fun (r : Int64) (u : (Int64) × (Int64) × (Int64) × (Nat → Int64)) => Post r u.1 u.2.1 u.2.2.1 u.2.2.2) (fun u t => poW (dC, dI) (tyL cI cJ cC cG cW) A (qw_X8_plan cI cJ cC cG cW a_this a_this_laid a_this_text a_this_read a_this_numbers a_this_where a_this_sorts a_this_tells a_this_undone a_this_parts a_this_goesWith a_this_with a_this_keeps z_letters z_at z_walked z_counts z_undos u.1 u.2.1 u.2.2.1 z_least z_kept z_laid z_where z_sorts z_tells u.2.2.2) t) A) args s 0 0 A) (F0 m 83 ls []) := by
  obtain ⟨hx, hb, hr, hml, hown, hts, hlocks⟩ := id C0
  intro n
  induction n with
  | zero =>
    intro x4 x5 x7 z_planned z_scale H locs ls hV
    exact False.elim hV
  | succ n ih =>
    intro x4 x5 x7 z_planned z_scale H locs ls hV hP hD hS hl
    refine lv_iload hx hb dX8_plan_83 (lv_at hl 6 rfl) ?_
    refine lv_iload_n hx hb dX8_plan_85 rfl (lv_at hl 3 rfl) ?_
    refine lv_icmp_gt (tgt := 167) hx hb dX8_plan_86 (by decide) (fun c9 => ?_) (fun c9 => ?_)
    · have hV := hV.1 c9
      exact hE x4 x5 z_planned z_scale H locs ls hV hP hD hS (lv_sub hl [0, 2, 4, 5] rfl)
    · have hV := hV.2 c9
      refine lv_iload hx hb dX8_plan_89 (lv_at hl 6 rfl) ?_
      refine lv_iload_n hx hb dX8_plan_91 rfl (lv_at hl 3 rfl) ?_
      refine lv_iconst (v := (-1 : Int32)) hx hb dX8_plan_92 (by decide) ?_
      refine lv_ixor hx hb dX8_plan_93 ?_
      refine lv_iand hx hb dX8_plan_94 ?_
      refine lv_if_ne (tgt := 161) hx hb dX8_plan_95 (by decide) (fun c10 => ?_) (fun c10 => ?_)
      · have hV := hV.2 c10
        refine lv_iinc (v := (x7 + (1 : Int32))) (lv' := [(7, .int (x7 + (1 : Int32))), (0, .ref a_this), (1, .int x1), (2, .int x2), (3, .int x3), (4, .int x4), (5, .long x5)]) hx hb dX8_plan_161 hl (k := 6) rfl rfl (by decide) rfl (fun ls hl => ?_)
        refine lv_goto (tgt := 83) hx hb dX8_plan_164 (by decide) ?_
        exact ih x4 x5 (x7 + (1 : Int32)) z_planned z_scale H locs ls hV hP hD hS (lv_sub hl [1, 2, 3, 4, 5, 6, 0] rfl)
      · have hV := hV.1 c10
        refine lv_iload hx hb dX8_plan_98 (lv_at hl 6 rfl) ?_
        refine vp_callSi (va_Run.run (va_runS (As := [.int x7]) (rest := []) ⟨hx, hb, hml, hown, hts⟩ (qm_X8_bits l dC dI cI cJ cC cG cW x7 _ hV) (va_cwS 1 hts gX8_plan_X8_bits rfl rfl rfl (by decide +kernel) ⟨Nat.le_of_ble_eq_true rfl, Nat.le_of_ble_eq_true rfl⟩) (preRS hK hN (show va_P (dC, dI) vwCl (qw_X8_bits cI cJ cC cG cW) H from fun k q h => by simp at h)) rfl rfl hl.1 rfl (lv_room (Nat.le_of_ble_eq_true rfl)) dX8_plan_100 ⟨Nat.le_of_ble_eq_true rfl, Nat.le_of_ble_eq_true rfl⟩)) (fun r11 hV => ?_)
        refine lv_aload_n hx hb dX8_plan_103 rfl (lv_at hl 0 rfl) ?_
        refine va_get (D := (dC, dI)) (ci := 8) (v := .ref a_this_laid) (C := RX8) (T := TX8) (N := 22) hx hb hts qi_X8_plan_X8 hown hK hP 0 rfl rfl 0 (by decide) (hts _ ql_X8_plan_7) (fun _ h9 => h9) rfl dX8_plan_104 ?_
        refine lv_bipush (v := (32 : Int32)) hx hb dX8_plan_107 (by decide) ?_
        obtain ⟨h12, hV⟩ := hV
        refine va_iald hx hb hK hP 1 0 rfl rfl h12 dX8_plan_109 ?_
        refine lv_imul hx hb dX8_plan_110 ?_
        refine lv_iload_n hx hb dX8_plan_111 rfl (lv_at hl 1 rfl) ?_
        refine lv_icmp_gt (tgt := 161) hx hb dX8_plan_112 (by decide) (fun c13 => ?_) (fun c13 => ?_)
        · have hV := hV.1 c13
          refine lv_iinc (v := (x7 + (1 : Int32))) (lv' := [(7, .int (x7 + (1 : Int32))), (0, .ref a_this), (1, .int x1), (2, .int x2), (3, .int x3), (4, .int x4), (5, .long x5)]) hx hb dX8_plan_161 hl (k := 6) rfl rfl (by decide) rfl (fun ls hl => ?_)
          refine lv_goto (tgt := 83) hx hb dX8_plan_164 (by decide) ?_
          exact ih x4 x5 (x7 + (1 : Int32)) z_planned z_scale H locs ls hV hP hD hS (lv_sub hl [1, 2, 3, 4, 5, 6, 0] rfl)
        · have hV := hV.2 c13
          refine lv_aload_n hx hb dX8_plan_115 rfl (lv_at hl 0 rfl) ?_
          refine lv_iload hx hb dX8_plan_116 (lv_at hl 6 rfl) ?_
          refine kW_v (wc := (qw_X8_plans cI cJ cC cG cW a_this a_this_laid a_this_text a_this_read a_this_numbers a_this_where a_this_sorts a_this_tells a_this_undone a_this_parts a_this_goesWith a_this_with a_this_keeps z_letters z_at z_walked z_counts z_undos z_all z_planned z_scale z_least z_kept z_laid z_parts)) (wr := List.filterMap (fun (i : Nat) => (qw_X8_plan cI cJ cC cG cW a_this a_this_laid a_this_text a_this_read a_this_numbers a_this_where a_this_sorts a_this_tells a_this_undone a_this_parts a_this_goesWith a_this_with a_this_keeps z_letters z_at z_walked z_counts z_undos z_all z_planned z_scale z_least z_kept z_laid z_where z_sorts z_tells z_parts)[i]?) [2, 3, 4]) (w1 := fun (u : (Int64) × (Int64)) => (qw_X8_plans cI cJ cC cG cW a_this a_this_laid a_this_text a_this_read a_this_numbers a_this_where a_this_sorts a_this_tells a_this_undone a_this_parts a_this_goesWith a_this_with a_this_keeps z_letters z_at z_walked z_counts z_undos z_all u.1 u.2 z_least z_kept z_laid z_parts)) (va_runV (As := [.int x7]) (rest := []) ⟨hx, hb, hml, hown, hts⟩ (qm_X8_plans l dC dI cI cJ cC cG cW a_this a_this_laid a_this_text a_this_read a_this_numbers a_this_where a_this_sorts a_this_tells a_this_undone a_this_parts a_this_goesWith a_this_with a_this_keeps z_letters z_at z_walked z_counts z_undos z_all z_planned z_scale z_least z_kept z_laid z_parts H.size x7 _ hV) (cwV 1 hts gX8_plan_X8_plans rfl rfl rfl (by decide +kernel) ⟨Nat.le_of_ble_eq_true rfl, Nat.le_of_ble_eq_true rfl⟩) (preWV hK hN (hP.sub (ws' := (qw_X8_plans cI cJ cC cG cW a_this a_this_laid a_this_text a_this_read a_this_numbers a_this_where a_this_sorts a_this_tells a_this_undone a_this_parts a_this_goesWith a_this_with a_this_keeps z_letters z_at z_walked z_counts z_undos z_all z_planned z_scale z_least z_kept z_laid z_parts)) [0, 1, 5] rfl) (hD.sub (ws' := (qw_X8_plans cI cJ cC cG cW a_this a_this_laid a_this_text a_this_read a_this_numbers a_this_where a_this_sorts a_this_tells a_this_undone a_this_parts a_this_goesWith a_this_with a_this_keeps z_letters z_at z_walked z_counts z_undos z_all z_planned z_scale z_least z_kept z_laid z_parts)) [0, 1, 5] (by decide) rfl) rfl rfl) rfl rfl hl.1 rfl (lv_room (Nat.le_of_ble_eq_true rfl)) dX8_plan_118 ⟨Nat.le_of_ble_eq_true rfl, Nat.le_of_ble_eq_true rfl⟩) hP hD hS hA [0, 1, 5] [2, 3, 4] rfl rfl (by decide) (by decide) (fun u H locs hV hP hD hS => ?_)
          obtain ⟨z_planned_14, z_scale_14⟩ := u
          try dsimp only at hV
          have hP := hP.sub (ws' := (qw_X8_plan cI cJ cC cG cW a_this a_this_laid a_this_text a_this_read a_this_numbers a_this_where a_this_sorts a_this_tells a_this_undone a_this_parts a_this_goesWith a_this_with a_this_keeps z_letters z_at z_walked z_counts z_undos z_all z_planned_14 z_scale_14 z_least z_kept z_laid z_where z_sorts z_tells z_parts)) [3, 4, 0, 1, 2, 5] rfl
          have hD := hD.sub (ws' := (qw_X8_plan cI cJ cC cG cW a_this a_this_laid a_this_text a_this_read a_this_numbers a_this_where a_this_sorts a_this_tells a_this_undone a_this_parts a_this_goesWith a_this_with a_this_keeps z_letters z_at z_walked z_counts z_undos z_all z_planned_14 z_scale_14 z_least z_kept z_laid z_where z_sorts z_tells z_parts)) [3, 4, 0, 1, 2, 5] (by decide) rfl
          refine lv_aload_n hx hb dX8_plan_121 rfl (lv_at hl 0 rfl) ?_
          refine va_get (D := (dC, dI)) (ci := 8) (v := .long z_planned_14) (C := RX8) (T := TX8) (N := 22) hx hb hts qi_X8_plan_X8 hown hK hP 0 rfl rfl 15 (by decide) (hts _ ql_X8_plan_178) (fun _ h9 => h9) rfl dX8_plan_122 ?_
          refine lv_lload hx hb dX8_plan_125 (lv_at hl 5 rfl) ?_
          refine W.lcmp hx hb dX8_plan_127 ?_
          refine lv_if_ge (tgt := 136) hx hb dX8_plan_128 (by decide) (fun c15 => ?_) (fun c15 => ?_)
          · have c15 := (lg_cmp_ge _ _).mp c15
            have hV := hV.1 c15
            refine lv_iload hx hb dX8_plan_136 (lv_at hl 4 rfl) ?_
            exact qt_X8_plan_J138 C0 hK hN hA z_letters z_at z_walked z_counts z_undos z_all z_planned_14 z_scale_14 z_least z_kept z_laid z_where z_sorts z_tells z_parts x4 x1 x2 x3 x5 x7 _ _ _ ih hE H locs ls hV hP hD hS (lv_sub hl [0, 1, 2, 3, 5, 6] rfl)
          · have c15 := fun h => c15 ((lg_cmp_ge _ _).mpr h)
            have hV := hV.2 c15
            refine lv_iload hx hb dX8_plan_131 (lv_at hl 6 rfl) ?_
            refine lv_goto (tgt := 138) hx hb dX8_plan_133 (by decide) ?_
            exact qt_X8_plan_J138 C0 hK hN hA z_letters z_at z_walked z_counts z_undos z_all z_planned_14 z_scale_14 z_least z_kept z_laid z_where z_sorts z_tells z_parts x7 x1 x2 x3 x5 x7 _ _ _ ih hE H locs ls hV hP hD hS (lv_sub hl [0, 1, 2, 3, 5, 6] rfl)
def qv_X8_plan (x1 : Int32) (x2 : Int32) (z_walked : Int32) (z_counts : Int32) (z_all : Int64) (z_planned : Int64) (z_scale : Int64) (z_laid : Nat → Int32) (z_where : Nat → Int32) (z_sorts : Nat → Int32) (z_tells : Nat → Int32) (z_parts : Nat → Int64) (Post : Int64 → (Int64) → (Int64) → (Int64) → (Nat → Int64) → Prop) : Prop := qv_X8_in (x1.toInt64) (0 : Int64) (99 : Int64) (fun r1 => (r1 = (0 : Int32) → Post (-1 : Int64) z_all z_planned z_scale z_parts) ∧ (¬ r1 = (0 : Int32) → qv_X8_in (x2.toInt64) (0 : Int64) (2 : Int64) (fun r3 => (r3 = (0 : Int32) → Post (-1 : Int64) z_all z_planned z_scale z_parts) ∧ (¬ r3 = (0 : Int32) → qv_X8_goes z_counts z_walked z_all z_laid z_where z_sorts z_tells z_parts (fun r5 z_all_5 z_parts_5 => (z_all_5 = (0 : Int64) → Post (-4 : Int64) z_all_5 z_planned z_scale z_parts_5) ∧ (¬ z_all_5 = (0 : Int64) → vp_in (0 : Int32) 73 ∧ (qv_X8_plans (0 : Int32) z_walked z_all_5 z_planned z_scale z_laid z_parts_5 (fun z_planned_8 z_scale_8 => ∃ n17, qv_X8_plan_L83 x1 x2 (((1 : Int32) <<< ((z_laid (0 : Int32).toNatClampNeg) &&& 31)) - ((1 : Int32) <<< (z_walked &&& 31))) z_walked z_counts z_all_5 z_laid z_where z_sorts z_tells z_parts_5 Post (fun x4_17 x5_17 z_planned_17 z_scale_17 => (x2 = (0 : Int32) → Post (x4_17.toInt64) z_all_5 z_planned_17 z_scale_17 z_parts_5) ∧ (¬ x2 = (0 : Int32) → qv_X8_part x5_17 z_scale_17 (x2 - (1 : Int32)) (fun r19 => Post r19 z_all_5 z_planned_17 z_scale_17 z_parts_5))) n17 (0 : Int32) z_planned_8 (1 : Int32) z_planned_8 z_scale_8))))))))
set_option maxHeartbeats 4000000 in
set_option maxRecDepth 100000 in
theorem qm_X8_plan (l : Launch) (dC : Nat → ClassId) (dI : Nat → Nat → Nat) (cI cJ cC cG cW : ClassId) (a_this a_this_laid a_this_text a_this_read a_this_numbers a_this_where a_this_sorts a_this_tells a_this_undone a_this_parts a_this_goesWith a_this_with a_this_keeps : Nat) (z_letters : Int32) (z_at : Int32) (z_walked : Int32) (z_counts : Int32) (z_undos : Int32) (z_all : Int64) (z_planned : Int64) (z_scale : Int64) (z_least : Int32) (z_kept : Int32) (z_laid : Nat → Int32) (z_where : Nat → Int32) (z_sorts : Nat → Int32) (z_tells : Nat → Int32) (z_parts : Nat → Int64) (sz : Nat) (x1 : Int32) (x2 : Int32) (Post : Int64 → (Int64) → (Int64) → (Int64) → (Nat → Int64) → Prop) (hV : qv_X8_plan x1 x2 z_walked z_counts z_all z_planned z_scale z_laid z_where z_sorts z_tells z_parts Post) : Met l yX8_plan wsX8_plan ({ frames := 4, cells := 0, slots := 0, locals := 104 } : Room) (va_Pc [.ref a_this, .int x1, .int x2] (prW (dC, dI) (qw_X8_plan cI cJ cC cG cW a_this a_this_laid a_this_text a_this_read a_this_numbers a_this_where a_this_sorts a_this_tells a_this_undone a_this_parts a_this_goesWith a_this_with a_this_keeps z_letters z_at z_walked z_counts z_undos z_all z_planned z_scale z_least z_kept z_laid z_where z_sorts z_tells z_parts) (tyL cI cJ cC cG cW) sz)) (va_Ql (fun (r : Int64) (u : (Int64) × (Int64) × (Int64) × (Nat → Int64)) => Post r u.1 u.2.1 u.2.2.1 u.2.2.2) (fun u t => poW (dC, dI) (tyL cI cJ cC cG cW) (va_A (qw_X8_plan cI cJ cC cG cW a_this a_this_laid a_this_text a_this_read a_this_numbers a_this_where a_this_sorts a_this_tells a_this_undone a_this_parts a_this_goesWith a_this_with a_this_keeps z_letters z_at z_walked z_counts z_undos z_all z_planned z_scale z_least z_kept z_laid z_where z_sorts z_tells z_parts) sz) (qw_X8_plan cI cJ cC cG cW a_this a_this_laid a_this_text a_this_read a_this_numbers a_this_where a_this_sorts a_this_tells a_this_undone a_this_parts a_this_goesWith a_this_with a_this_keeps z_letters z_at z_walked z_counts z_undos u.1 u.2.1 u.2.2.1 z_least z_kept z_laid z_where z_sorts z_tells u.2.2.2) t) (va_A (qw_X8_plan cI cJ cC cG cW a_this a_this_laid a_this_text a_this_read a_this_numbers a_this_where a_this_sorts a_this_tells a_this_undone a_this_parts a_this_goesWith a_this_with a_this_keeps z_letters z_at z_walked z_counts z_undos z_all z_planned z_scale z_least z_kept z_laid z_where z_sorts z_tells z_parts) sz)) 0 0 (va_A (qw_X8_plan cI cJ cC cG cW a_this a_this_laid a_this_text a_this_read a_this_numbers a_this_where a_this_sorts a_this_tells a_this_undone a_this_parts a_this_goesWith a_this_with a_this_keeps z_letters z_at z_walked z_counts z_undos z_all z_planned z_scale z_least z_kept z_laid z_where z_sorts z_tells z_parts) sz) := by
  refine Met.ofM (Qc := fun A => va_Ql (fun (r : Int64) (u : (Int64) × (Int64) × (Int64) × (Nat → Int64)) => Post r u.1 u.2.1 u.2.2.1 u.2.2.2) (fun u t => poW (dC, dI) (tyL cI cJ cC cG cW) A (qw_X8_plan cI cJ cC cG cW a_this a_this_laid a_this_text a_this_read a_this_numbers a_this_where a_this_sorts a_this_tells a_this_undone a_this_parts a_this_goesWith a_this_with a_this_keeps z_letters z_at z_walked z_counts z_undos u.1 u.2.1 u.2.2.1 z_least z_kept z_laid z_where z_sorts z_tells u.2.2.2) t) A) (nm := "plan") (ds := "(II)J") (own := RX8) (maxL := 8) (cc := cX8_plan) (ret := (some .long)) (by decide) rfl rfl (Nat.le_of_ble_eq_true rfl) (fun p e s m below meth c A C0 hin hK hN hA hP hD hS ls hl => ?_)
  obtain ⟨hx, hb, hr, hml, hown, hts, hlocks⟩ := id C0
  have hl : lv_has ls 8 [(0, .ref a_this), (1, .int x1), (2, .int x2)] := hl
  obtain ⟨H, hH⟩ : ∃ h : Heap, h = s.heap := ⟨_, rfl⟩
  obtain ⟨locs, hLc⟩ : ∃ L : List Loc, L = [] := ⟨_, rfl⟩
  have hS : va_S A s.heap H locs := by rw [hH, hLc]; exact hS
  rw [← hH] at hP
  rw [← hLc, ← hH]
  clear hH hLc
  refine lv_iload_n hx hb dX8_plan_0 rfl (lv_at hl 1 rfl) ?_
  refine lv_i2l hx hb dX8_plan_1 rfl ?_
  refine lv_lconst (v := (0 : Int64)) hx hb dX8_plan_2 (by decide) ?_
  refine lv_ldc2 (v := (99 : Int64)) hx hb hown (hts _ ql_X8_plan_184) dX8_plan_3 ?_
  refine vp_callSi (va_Run.run (va_runS (As := [.long (x1.toInt64), .long (0 : Int64), .long (99 : Int64)]) (rest := []) ⟨hx, hb, hml, hown, hts⟩ (qm_X8_in l dC dI cI cJ cC cG cW (x1.toInt64) (0 : Int64) (99 : Int64) _ hV) (va_cwS 3 hts gX8_plan_X8_in rfl rfl rfl (by decide +kernel) ⟨Nat.le_of_ble_eq_true rfl, Nat.le_of_ble_eq_true rfl⟩) (preRS hK hN (show va_P (dC, dI) vwCl (qw_X8_in cI cJ cC cG cW) H from fun k q h => by simp at h)) rfl rfl hl.1 rfl (lv_room (Nat.le_of_ble_eq_true rfl)) dX8_plan_6 ⟨Nat.le_of_ble_eq_true rfl, Nat.le_of_ble_eq_true rfl⟩)) (fun r1 hV => ?_)
  refine lv_if_eq (tgt := 24) hx hb dX8_plan_9 (by decide) (fun c2 => ?_) (fun c2 => ?_)
  · have hV := hV.1 c2
    refine lv_ldc2 (v := (-1 : Int64)) hx hb hown (hts _ ql_X8_plan_155) dX8_plan_24 ?_
    exact W.lret hx hb hr (fun t ht hW => ⟨⟨_, (z_all, z_planned, z_scale, z_parts), rfl, hV, ⟨by rw [ht]; exact hP, va_K.moved hW.alike hK, hD⟩⟩, hS.F ht⟩) hS.2.2 dX8_plan_27 hlocks
  · have hV := hV.2 c2
    refine lv_iload_n hx hb dX8_plan_12 rfl (lv_at hl 2 rfl) ?_
    refine lv_i2l hx hb dX8_plan_13 rfl ?_
    refine lv_lconst (v := (0 : Int64)) hx hb dX8_plan_14 (by decide) ?_
    refine lv_ldc2 (v := (2 : Int64)) hx hb hown (hts _ ql_X8_plan_82) dX8_plan_15 ?_
    refine vp_callSi (va_Run.run (va_runS (As := [.long (x2.toInt64), .long (0 : Int64), .long (2 : Int64)]) (rest := []) ⟨hx, hb, hml, hown, hts⟩ (qm_X8_in l dC dI cI cJ cC cG cW (x2.toInt64) (0 : Int64) (2 : Int64) _ hV) (va_cwS 3 hts gX8_plan_X8_in rfl rfl rfl (by decide +kernel) ⟨Nat.le_of_ble_eq_true rfl, Nat.le_of_ble_eq_true rfl⟩) (preRS hK hN (show va_P (dC, dI) vwCl (qw_X8_in cI cJ cC cG cW) H from fun k q h => by simp at h)) rfl rfl hl.1 rfl (lv_room (Nat.le_of_ble_eq_true rfl)) dX8_plan_18 ⟨Nat.le_of_ble_eq_true rfl, Nat.le_of_ble_eq_true rfl⟩)) (fun r3 hV => ?_)
    refine lv_if_ne (tgt := 28) hx hb dX8_plan_21 (by decide) (fun c4 => ?_) (fun c4 => ?_)
    · have hV := hV.2 c4
      refine lv_aload_n hx hb dX8_plan_28 rfl (lv_at hl 0 rfl) ?_
      refine lv_aload_n hx hb dX8_plan_29 rfl (lv_at hl 0 rfl) ?_
      refine va_get (D := (dC, dI)) (ci := 8) (v := .int z_counts) (C := RX8) (T := TX8) (N := 22) hx hb hts qi_X8_plan_X8 hown hK hP 0 rfl rfl 7 (by decide) (hts _ ql_X8_plan_114) (fun _ h9 => h9) rfl dX8_plan_30 ?_
      refine kW_i (wc := (qw_X8_goes cI cJ cC cG cW a_this a_this_laid a_this_text a_this_read a_this_numbers a_this_where a_this_sorts a_this_tells a_this_undone a_this_parts a_this_goesWith a_this_with a_this_keeps z_letters z_at z_walked z_counts z_undos z_all z_planned z_scale z_least z_kept z_laid z_where z_sorts z_tells z_parts)) (wr := List.filterMap (fun (i : Nat) => (qw_X8_plan cI cJ cC cG cW a_this a_this_laid a_this_text a_this_read a_this_numbers a_this_where a_this_sorts a_this_tells a_this_undone a_this_parts a_this_goesWith a_this_with a_this_keeps z_letters z_at z_walked z_counts z_undos z_all z_planned z_scale z_least z_kept z_laid z_where z_sorts z_tells z_parts)[i]?) []) (w1 := fun (u : (Int64) × (Nat → Int64)) => (qw_X8_goes cI cJ cC cG cW a_this a_this_laid a_this_text a_this_read a_this_numbers a_this_where a_this_sorts a_this_tells a_this_undone a_this_parts a_this_goesWith a_this_with a_this_keeps z_letters z_at z_walked z_counts z_undos u.1 z_planned z_scale z_least z_kept z_laid z_where z_sorts z_tells u.2)) (va_runV (As := [.int z_counts]) (rest := []) ⟨hx, hb, hml, hown, hts⟩ (qm_X8_goes l dC dI cI cJ cC cG cW a_this a_this_laid a_this_text a_this_read a_this_numbers a_this_where a_this_sorts a_this_tells a_this_undone a_this_parts a_this_goesWith a_this_with a_this_keeps z_letters z_at z_walked z_counts z_undos z_all z_planned z_scale z_least z_kept z_laid z_where z_sorts z_tells z_parts H.size z_counts _ hV) (cwV 1 hts gX8_plan_X8_goes rfl rfl rfl (by decide +kernel) ⟨Nat.le_of_ble_eq_true rfl, Nat.le_of_ble_eq_true rfl⟩) (preWV hK hN (show va_P (dC, dI) vwCl (qw_X8_goes cI cJ cC cG cW a_this a_this_laid a_this_text a_this_read a_this_numbers a_this_where a_this_sorts a_this_tells a_this_undone a_this_parts a_this_goesWith a_this_with a_this_keeps z_letters z_at z_walked z_counts z_undos z_all z_planned z_scale z_least z_kept z_laid z_where z_sorts z_tells z_parts) H from hP) (hD.sub (ws' := (qw_X8_goes cI cJ cC cG cW a_this a_this_laid a_this_text a_this_read a_this_numbers a_this_where a_this_sorts a_this_tells a_this_undone a_this_parts a_this_goesWith a_this_with a_this_keeps z_letters z_at z_walked z_counts z_undos z_all z_planned z_scale z_least z_kept z_laid z_where z_sorts z_tells z_parts)) [0, 1, 2, 3, 4, 5] (by decide) rfl) rfl rfl) rfl rfl hl.1 rfl (lv_room (Nat.le_of_ble_eq_true rfl)) dX8_plan_33 ⟨Nat.le_of_ble_eq_true rfl, Nat.le_of_ble_eq_true rfl⟩) hP hD hS hA [0, 1, 2, 3, 4, 5] [] rfl rfl (by decide) (by decide) (fun r5 u H locs hV hP hD hS => ?_)
      obtain ⟨z_all_5, z_parts_5⟩ := u
      try dsimp only at hV
      have hP := hP.sub (ws' := (qw_X8_plan cI cJ cC cG cW a_this a_this_laid a_this_text a_this_read a_this_numbers a_this_where a_this_sorts a_this_tells a_this_undone a_this_parts a_this_goesWith a_this_with a_this_keeps z_letters z_at z_walked z_counts z_undos z_all_5 z_planned z_scale z_least z_kept z_laid z_where z_sorts z_tells z_parts_5)) [0, 1, 2, 3, 4, 5] rfl
      have hD := hD.sub (ws' := (qw_X8_plan cI cJ cC cG cW a_this a_this_laid a_this_text a_this_read a_this_numbers a_this_where a_this_sorts a_this_tells a_this_undone a_this_parts a_this_goesWith a_this_with a_this_keeps z_letters z_at z_walked z_counts z_undos z_all_5 z_planned z_scale z_least z_kept z_laid z_where z_sorts z_tells z_parts_5)) [0, 1, 2, 3, 4, 5] (by decide) rfl
      refine lv_pop hx hb dX8_plan_36 rfl ?_
      refine lv_aload_n hx hb dX8_plan_37 rfl (lv_at hl 0 rfl) ?_
      refine va_get (D := (dC, dI)) (ci := 8) (v := .long z_all_5) (C := RX8) (T := TX8) (N := 22) hx hb hts qi_X8_plan_X8 hown hK hP 0 rfl rfl 14 (by decide) (hts _ ql_X8_plan_138) (fun _ h9 => h9) rfl dX8_plan_38 ?_
      refine lv_lconst (v := (0 : Int64)) hx hb dX8_plan_41 (by decide) ?_
      refine W.lcmp hx hb dX8_plan_42 ?_
      refine lv_if_ne (tgt := 50) hx hb dX8_plan_43 (by decide) (fun c6 => ?_) (fun c6 => ?_)
      · have c6 := fun h => c6 ((lg_cmp_eq _ _).mpr h)
        have hV := hV.2 c6
        refine lv_iconst (v := (1 : Int32)) hx hb dX8_plan_50 (by decide) ?_
        refine lv_aload_n hx hb dX8_plan_51 rfl (lv_at hl 0 rfl) ?_
        refine va_get (D := (dC, dI)) (ci := 8) (v := .ref a_this_laid) (C := RX8) (T := TX8) (N := 22) hx hb hts qi_X8_plan_X8 hown hK hP 0 rfl rfl 0 (by decide) (hts _ ql_X8_plan_7) (fun _ h9 => h9) rfl dX8_plan_52 ?_
        refine lv_iconst (v := (0 : Int32)) hx hb dX8_plan_55 (by decide) ?_
        obtain ⟨h7, hV⟩ := hV
        refine va_iald hx hb hK hP 1 0 rfl rfl h7 dX8_plan_56 ?_
        refine lv_ishl hx hb dX8_plan_57 ?_
        refine lv_iconst (v := (1 : Int32)) hx hb dX8_plan_58 (by decide) ?_
        refine lv_aload_n hx hb dX8_plan_59 rfl (lv_at hl 0 rfl) ?_
        refine va_get (D := (dC, dI)) (ci := 8) (v := .int z_walked) (C := RX8) (T := TX8) (N := 22) hx hb hts qi_X8_plan_X8 hown hK hP 0 rfl rfl 6 (by decide) (hts _ ql_X8_plan_111) (fun _ h9 => h9) rfl dX8_plan_60 ?_
        refine lv_ishl hx hb dX8_plan_63 ?_
        refine lv_isub hx hb dX8_plan_64 ?_
        refine lv_istore_n (lv' := [(3, .int (((1 : Int32) <<< ((z_laid (0 : Int32).toNatClampNeg) &&& 31)) - ((1 : Int32) <<< (z_walked &&& 31)))), (0, .ref a_this), (1, .int x1), (2, .int x2)]) hx hb dX8_plan_65 rfl hl (by decide) rfl (fun ls hl => ?_)
        refine lv_iconst (v := (0 : Int32)) hx hb dX8_plan_66 (by decide) ?_
        refine lv_istore (lv' := [(4, .int (0 : Int32)), (3, .int (((1 : Int32) <<< ((z_laid (0 : Int32).toNatClampNeg) &&& 31)) - ((1 : Int32) <<< (z_walked &&& 31)))), (0, .ref a_this), (1, .int x1), (2, .int x2)]) hx hb dX8_plan_67 hl (by decide) rfl (fun ls hl => ?_)
        refine lv_aload_n hx hb dX8_plan_69 rfl (lv_at hl 2 rfl) ?_
        refine lv_iconst (v := (0 : Int32)) hx hb dX8_plan_70 (by decide) ?_
        refine kW_v (wc := (qw_X8_plans cI cJ cC cG cW a_this a_this_laid a_this_text a_this_read a_this_numbers a_this_where a_this_sorts a_this_tells a_this_undone a_this_parts a_this_goesWith a_this_with a_this_keeps z_letters z_at z_walked z_counts z_undos z_all_5 z_planned z_scale z_least z_kept z_laid z_parts_5)) (wr := List.filterMap (fun (i : Nat) => (qw_X8_plan cI cJ cC cG cW a_this a_this_laid a_this_text a_this_read a_this_numbers a_this_where a_this_sorts a_this_tells a_this_undone a_this_parts a_this_goesWith a_this_with a_this_keeps z_letters z_at z_walked z_counts z_undos z_all_5 z_planned z_scale z_least z_kept z_laid z_where z_sorts z_tells z_parts_5)[i]?) [2, 3, 4]) (w1 := fun (u : (Int64) × (Int64)) => (qw_X8_plans cI cJ cC cG cW a_this a_this_laid a_this_text a_this_read a_this_numbers a_this_where a_this_sorts a_this_tells a_this_undone a_this_parts a_this_goesWith a_this_with a_this_keeps z_letters z_at z_walked z_counts z_undos z_all_5 u.1 u.2 z_least z_kept z_laid z_parts_5)) (va_runV (As := [.int (0 : Int32)]) (rest := []) ⟨hx, hb, hml, hown, hts⟩ (qm_X8_plans l dC dI cI cJ cC cG cW a_this a_this_laid a_this_text a_this_read a_this_numbers a_this_where a_this_sorts a_this_tells a_this_undone a_this_parts a_this_goesWith a_this_with a_this_keeps z_letters z_at z_walked z_counts z_undos z_all_5 z_planned z_scale z_least z_kept z_laid z_parts_5 H.size (0 : Int32) _ hV) (cwV 1 hts gX8_plan_X8_plans rfl rfl rfl (by decide +kernel) ⟨Nat.le_of_ble_eq_true rfl, Nat.le_of_ble_eq_true rfl⟩) (preWV hK hN (hP.sub (ws' := (qw_X8_plans cI cJ cC cG cW a_this a_this_laid a_this_text a_this_read a_this_numbers a_this_where a_this_sorts a_this_tells a_this_undone a_this_parts a_this_goesWith a_this_with a_this_keeps z_letters z_at z_walked z_counts z_undos z_all_5 z_planned z_scale z_least z_kept z_laid z_parts_5)) [0, 1, 5] rfl) (hD.sub (ws' := (qw_X8_plans cI cJ cC cG cW a_this a_this_laid a_this_text a_this_read a_this_numbers a_this_where a_this_sorts a_this_tells a_this_undone a_this_parts a_this_goesWith a_this_with a_this_keeps z_letters z_at z_walked z_counts z_undos z_all_5 z_planned z_scale z_least z_kept z_laid z_parts_5)) [0, 1, 5] (by decide) rfl) rfl rfl) rfl rfl hl.1 rfl (lv_room (Nat.le_of_ble_eq_true rfl)) dX8_plan_71 ⟨Nat.le_of_ble_eq_true rfl, Nat.le_of_ble_eq_true rfl⟩) hP hD hS hA [0, 1, 5] [2, 3, 4] rfl rfl (by decide) (by decide) (fun u H locs hV hP hD hS => ?_)
        obtain ⟨z_planned_8, z_scale_8⟩ := u
        try dsimp only at hV
        have hP := hP.sub (ws' := (qw_X8_plan cI cJ cC cG cW a_this a_this_laid a_this_text a_this_read a_this_numbers a_this_where a_this_sorts a_this_tells a_this_undone a_this_parts a_this_goesWith a_this_with a_this_keeps z_letters z_at z_walked z_counts z_undos z_all_5 z_planned_8 z_scale_8 z_least z_kept z_laid z_where z_sorts z_tells z_parts_5)) [3, 4, 0, 1, 2, 5] rfl
        have hD := hD.sub (ws' := (qw_X8_plan cI cJ cC cG cW a_this a_this_laid a_this_text a_this_read a_this_numbers a_this_where a_this_sorts a_this_tells a_this_undone a_this_parts a_this_goesWith a_this_with a_this_keeps z_letters z_at z_walked z_counts z_undos z_all_5 z_planned_8 z_scale_8 z_least z_kept z_laid z_where z_sorts z_tells z_parts_5)) [3, 4, 0, 1, 2, 5] (by decide) rfl
        refine lv_aload_n hx hb dX8_plan_74 rfl (lv_at hl 2 rfl) ?_
        refine va_get (D := (dC, dI)) (ci := 8) (v := .long z_planned_8) (C := RX8) (T := TX8) (N := 22) hx hb hts qi_X8_plan_X8 hown hK hP 0 rfl rfl 15 (by decide) (hts _ ql_X8_plan_178) (fun _ h9 => h9) rfl dX8_plan_75 ?_
        refine lv_lstore (lv' := [(5, .long z_planned_8), (4, .int (0 : Int32)), (3, .int (((1 : Int32) <<< ((z_laid (0 : Int32).toNatClampNeg) &&& 31)) - ((1 : Int32) <<< (z_walked &&& 31)))), (0, .ref a_this), (1, .int x1), (2, .int x2)]) hx hb dX8_plan_78 hl (by decide) rfl (fun ls hl => ?_)
        refine lv_iconst (v := (1 : Int32)) hx hb dX8_plan_80 (by decide) ?_
        refine lv_istore (lv' := [(7, .int (1 : Int32)), (5, .long z_planned_8), (4, .int (0 : Int32)), (3, .int (((1 : Int32) <<< ((z_laid (0 : Int32).toNatClampNeg) &&& 31)) - ((1 : Int32) <<< (z_walked &&& 31)))), (0, .ref a_this), (1, .int x1), (2, .int x2)]) hx hb dX8_plan_81 hl (by decide) rfl (fun ls hl => ?_)
        obtain ⟨n17, hV⟩ := hV
        refine qt_X8_plan_L83 C0 hK hN hA z_letters z_at z_walked z_counts z_undos z_all_5 z_least z_kept z_laid z_where z_sorts z_tells z_parts_5 x1 x2 (((1 : Int32) <<< ((z_laid (0 : Int32).toNatClampNeg) &&& 31)) - ((1 : Int32) <<< (z_walked &&& 31))) _ _ (fun x4_17 x5_17 z_planned_17 z_scale_17 H locs ls hV hP hD hS hl => ?_) n17 (0 : Int32) z_planned_8 (1 : Int32) z_planned_8 z_scale_8 H locs ls hV hP hD hS (lv_sub hl [4, 5, 6, 3, 2, 1, 0] rfl)
        refine lv_iload_n hx hb dX8_plan_167 rfl (lv_at hl 1 rfl) ?_
        refine lv_if_ne (tgt := 177) hx hb dX8_plan_168 (by decide) (fun c18 => ?_) (fun c18 => ?_)
        · have hV := hV.2 c18
          refine lv_lload hx hb dX8_plan_177 (lv_at hl 3 rfl) ?_
          refine lv_aload_n hx hb dX8_plan_179 rfl (lv_at hl 0 rfl) ?_
          refine va_get (D := (dC, dI)) (ci := 8) (v := .long z_scale_17) (C := RX8) (T := TX8) (N := 22) hx hb hts qi_X8_plan_X8 hown hK hP 0 rfl rfl 16 (by decide) (hts _ ql_X8_plan_181) (fun _ h9 => h9) rfl dX8_plan_180 ?_
          refine lv_iload_n hx hb dX8_plan_183 rfl (lv_at hl 1 rfl) ?_
          refine lv_iconst (v := (1 : Int32)) hx hb dX8_plan_184 (by decide) ?_
          refine lv_isub hx hb dX8_plan_185 ?_
          refine vp_callSl (va_Run.run (va_runS (As := [.long x5_17, .long z_scale_17, .int (x2 - (1 : Int32))]) (rest := []) ⟨hx, hb, hml, hown, hts⟩ (qm_X8_part l dC dI cI cJ cC cG cW x5_17 z_scale_17 (x2 - (1 : Int32)) _ hV) (va_cwS 3 hts gX8_plan_X8_part rfl rfl rfl (by decide +kernel) ⟨Nat.le_of_ble_eq_true rfl, Nat.le_of_ble_eq_true rfl⟩) (preRS hK hN (show va_P (dC, dI) vwCl (qw_X8_part cI cJ cC cG cW) H from fun k q h => by simp at h)) rfl rfl hl.1 rfl (lv_room (Nat.le_of_ble_eq_true rfl)) dX8_plan_186 ⟨Nat.le_of_ble_eq_true rfl, Nat.le_of_ble_eq_true rfl⟩)) (fun r19 hV => ?_)
          exact W.lret hx hb hr (fun t ht hW => ⟨⟨_, (z_all_5, z_planned_17, z_scale_17, z_parts_5), rfl, hV, ⟨by rw [ht]; exact hP, va_K.moved hW.alike hK, hD⟩⟩, hS.F ht⟩) hS.2.2 dX8_plan_189 hlocks
        · have hV := hV.1 c18
          refine lv_iload hx hb dX8_plan_171 (lv_at hl 2 rfl) ?_
          refine lv_i2l hx hb dX8_plan_173 rfl ?_
          refine lv_goto (tgt := 189) hx hb dX8_plan_174 (by decide) ?_
          exact W.lret hx hb hr (fun t ht hW => ⟨⟨_, (z_all_5, z_planned_17, z_scale_17, z_parts_5), rfl, hV, ⟨by rw [ht]; exact hP, va_K.moved hW.alike hK, hD⟩⟩, hS.F ht⟩) hS.2.2 dX8_plan_189 hlocks
      · have c6 := (lg_cmp_eq _ _).mp c6
        have hV := hV.1 c6
        refine lv_ldc2 (v := (-4 : Int64)) hx hb hown (hts _ ql_X8_plan_161) dX8_plan_46 ?_
        exact W.lret hx hb hr (fun t ht hW => ⟨⟨_, (z_all_5, z_planned, z_scale, z_parts_5), rfl, hV, ⟨by rw [ht]; exact hP, va_K.moved hW.alike hK, hD⟩⟩, hS.F ht⟩) hS.2.2 dX8_plan_49 hlocks
    · have hV := hV.1 c4
      refine lv_ldc2 (v := (-1 : Int64)) hx hb hown (hts _ ql_X8_plan_155) dX8_plan_24 ?_
      exact W.lret hx hb hr (fun t ht hW => ⟨⟨_, (z_all, z_planned, z_scale, z_parts), rfl, hV, ⟨by rw [ht]; exact hP, va_K.moved hW.alike hK, hD⟩⟩, hS.F ht⟩) hS.2.2 dX8_plan_27 hlocks

/-! StileCountsModel.two(ZI)I -/
abbrev qw_X8_two (cI cJ cC cG cW : ClassId) (a_this a_this_laid a_this_text a_this_read a_this_numbers a_this_where a_this_sorts a_this_tells a_this_undone a_this_parts a_this_goesWith a_this_with a_this_keeps : Nat) (z_letters : Int32) (z_at : Int32) (z_walked : Int32) (z_counts : Int32) (z_undos : Int32) (z_all : Int64) (z_planned : Int64) (z_scale : Int64) (z_least : Int32) (z_kept : Int32) (z_laid : Nat → Int32) : va_W := [(a_this, .inr (8, [.ref a_this_laid, .ref a_this_text, .int z_letters, .ref a_this_read, .int z_at, .ref a_this_numbers, .int z_walked, .int z_counts, .ref a_this_where, .ref a_this_sorts, .ref a_this_tells, .int z_undos, .ref a_this_undone, .ref a_this_parts, .long z_all, .long z_planned, .long z_scale, .ref a_this_goesWith, .int z_least, .ref a_this_with, .int z_kept, .ref a_this_keeps])), (a_this_laid, .inl (cI, 73, .inl z_laid))]
theorem qi_X8_two_X8 : ∀ w ∈ wsX80, w ∈ wsX8_two := by decide +kernel
theorem ql_X8_two_7 : (.fieldLink RX8 7 "StileCountsModel" "laid" "[I" : Cond) ∈ wsX8_two := by decide +kernel
theorem ql_X8_two_192 : (.constantLong RX8 192 (100 : Int64) : Cond) ∈ wsX8_two := by decide +kernel
def qv_X8_two (x1 : Int32) (x2 : Int32) (z_laid : Nat → Int32) (Post : Int32 → Prop) : Prop := qv_X8_in (x2.toInt64) (0 : Int64) (1 : Int64) (fun r1 => (r1 = (0 : Int32) → Post (-1 : Int32)) ∧ (¬ r1 = (0 : Int32) → vp_in (29 : Int32) 73 ∧ ((x1 = (0 : Int32) → qv_X8_part ((((2 : Int32) * (z_laid (29 : Int32).toNatClampNeg)) * (z_laid (29 : Int32).toNatClampNeg)).toInt64) (100 : Int64) x2 (fun r5 => Post (r5.toInt32))) ∧ (¬ x1 = (0 : Int32) → qv_X8_part ((((10 : Int32) - ((2 : Int32) * (z_laid (29 : Int32).toNatClampNeg))) * ((10 : Int32) - ((2 : Int32) * (z_laid (29 : Int32).toNatClampNeg)))).toInt64) (100 : Int64) x2 (fun r6 => Post (r6.toInt32))))))
set_option maxHeartbeats 4000000 in
set_option maxRecDepth 100000 in
theorem qm_X8_two (l : Launch) (dC : Nat → ClassId) (dI : Nat → Nat → Nat) (cI cJ cC cG cW : ClassId) (a_this a_this_laid a_this_text a_this_read a_this_numbers a_this_where a_this_sorts a_this_tells a_this_undone a_this_parts a_this_goesWith a_this_with a_this_keeps : Nat) (z_letters : Int32) (z_at : Int32) (z_walked : Int32) (z_counts : Int32) (z_undos : Int32) (z_all : Int64) (z_planned : Int64) (z_scale : Int64) (z_least : Int32) (z_kept : Int32) (z_laid : Nat → Int32) (x1 : Int32) (x2 : Int32) (Post : Int32 → Prop) (hV : qv_X8_two x1 x2 z_laid Post) : Met l yX8_two wsX8_two ({ frames := 2, cells := 0, slots := 0, locals := 55 } : Room) (va_Pc [.ref a_this, .int x1, .int x2] (prR (dC, dI) (qw_X8_two cI cJ cC cG cW a_this a_this_laid a_this_text a_this_read a_this_numbers a_this_where a_this_sorts a_this_tells a_this_undone a_this_parts a_this_goesWith a_this_with a_this_keeps z_letters z_at z_walked z_counts z_undos z_all z_planned z_scale z_least z_kept z_laid) (tyL cI cJ cC cG cW))) (vp_Si Post) 0 0 (fun _ => False) := by
  refine Met.ofR (nm := "two") (ds := "(ZI)I") (own := RX8) (maxL := 4) (cc := cX8_two) (ret := (some .int)) (by decide) rfl rfl (Nat.le_of_ble_eq_true rfl) (fun p e s m below meth c C0 hK hN hP ls hl => ?_)
  obtain ⟨hx, hb, hr, hml, hown, hts, hlocks⟩ := id C0
  have hl : lv_has ls 4 [(0, .ref a_this), (1, .int x1), (2, .int x2)] := hl
  refine lv_iload_n hx hb dX8_two_0 rfl (lv_at hl 2 rfl) ?_
  refine lv_i2l hx hb dX8_two_1 rfl ?_
  refine lv_lconst (v := (0 : Int64)) hx hb dX8_two_2 (by decide) ?_
  refine lv_lconst (v := (1 : Int64)) hx hb dX8_two_3 (by decide) ?_
  refine vp_callSi (va_Run.run (va_runS (As := [.long (x2.toInt64), .long (0 : Int64), .long (1 : Int64)]) (rest := []) ⟨hx, hb, hml, hown, hts⟩ (qm_X8_in l dC dI cI cJ cC cG cW (x2.toInt64) (0 : Int64) (1 : Int64) _ hV) (va_cwS 3 hts gX8_two_X8_in rfl rfl rfl (by decide +kernel) ⟨Nat.le_of_ble_eq_true rfl, Nat.le_of_ble_eq_true rfl⟩) (preRS hK hN (show va_P (dC, dI) vwCl (qw_X8_in cI cJ cC cG cW) s.heap from fun k q h => by simp at h)) rfl rfl hl.1 rfl (lv_room (Nat.le_of_ble_eq_true rfl)) dX8_two_4 ⟨Nat.le_of_ble_eq_true rfl, Nat.le_of_ble_eq_true rfl⟩)) (fun r1 hV => ?_)
  refine lv_if_ne (tgt := 12) hx hb dX8_two_7 (by decide) (fun c2 => ?_) (fun c2 => ?_)
  · have hV := hV.2 c2
    refine lv_aload_n hx hb dX8_two_12 rfl (lv_at hl 0 rfl) ?_
    refine va_get (D := (dC, dI)) (ci := 8) (v := .ref a_this_laid) (C := RX8) (T := TX8) (N := 22) hx hb hts qi_X8_two_X8 hown hK hP 0 rfl rfl 0 (by decide) (hts _ ql_X8_two_7) (fun _ h9 => h9) rfl dX8_two_13 ?_
    refine lv_bipush (v := (29 : Int32)) hx hb dX8_two_16 (by decide) ?_
    obtain ⟨h3, hV⟩ := hV
    refine va_iald hx hb hK hP 1 0 rfl rfl h3 dX8_two_18 ?_
    refine lv_istore_n (lv' := [(3, .int (z_laid (29 : Int32).toNatClampNeg)), (0, .ref a_this), (1, .int x1), (2, .int x2)]) hx hb dX8_two_19 rfl hl (by decide) rfl (fun ls hl => ?_)
    refine lv_iload_n hx hb dX8_two_20 rfl (lv_at hl 2 rfl) ?_
    refine lv_if_eq (tgt := 41) hx hb dX8_two_21 (by decide) (fun c4 => ?_) (fun c4 => ?_)
    · have hV := hV.1 c4
      refine lv_iconst (v := (2 : Int32)) hx hb dX8_two_41 (by decide) ?_
      refine lv_iload_n hx hb dX8_two_42 rfl (lv_at hl 0 rfl) ?_
      refine lv_imul hx hb dX8_two_43 ?_
      refine lv_iload_n hx hb dX8_two_44 rfl (lv_at hl 0 rfl) ?_
      refine lv_imul hx hb dX8_two_45 ?_
      refine lv_i2l hx hb dX8_two_46 rfl ?_
      refine lv_ldc2 (v := (100 : Int64)) hx hb hown (hts _ ql_X8_two_192) dX8_two_47 ?_
      refine lv_iload_n hx hb dX8_two_50 rfl (lv_at hl 3 rfl) ?_
      refine vp_callSl (va_Run.run (va_runS (As := [.long ((((2 : Int32) * (z_laid (29 : Int32).toNatClampNeg)) * (z_laid (29 : Int32).toNatClampNeg)).toInt64), .long (100 : Int64), .int x2]) (rest := []) ⟨hx, hb, hml, hown, hts⟩ (qm_X8_part l dC dI cI cJ cC cG cW ((((2 : Int32) * (z_laid (29 : Int32).toNatClampNeg)) * (z_laid (29 : Int32).toNatClampNeg)).toInt64) (100 : Int64) x2 _ hV) (va_cwS 3 hts gX8_two_X8_part rfl rfl rfl (by decide +kernel) ⟨Nat.le_of_ble_eq_true rfl, Nat.le_of_ble_eq_true rfl⟩) (preRS hK hN (show va_P (dC, dI) vwCl (qw_X8_part cI cJ cC cG cW) s.heap from fun k q h => by simp at h)) rfl rfl hl.1 rfl (lv_room (Nat.le_of_ble_eq_true rfl)) dX8_two_51 ⟨Nat.le_of_ble_eq_true rfl, Nat.le_of_ble_eq_true rfl⟩)) (fun r5 hV => ?_)
      refine lv_l2i hx hb dX8_two_54 rfl ?_
      exact W.iret hx hb hr (fun t ht hW => ⟨_, rfl, hV, ht⟩) (fun q h => absurd h List.not_mem_nil) dX8_two_55 hlocks
    · have hV := hV.2 c4
      refine lv_bipush (v := (10 : Int32)) hx hb dX8_two_24 (by decide) ?_
      refine lv_iconst (v := (2 : Int32)) hx hb dX8_two_26 (by decide) ?_
      refine lv_iload_n hx hb dX8_two_27 rfl (lv_at hl 0 rfl) ?_
      refine lv_imul hx hb dX8_two_28 ?_
      refine lv_isub hx hb dX8_two_29 ?_
      refine lv_bipush (v := (10 : Int32)) hx hb dX8_two_30 (by decide) ?_
      refine lv_iconst (v := (2 : Int32)) hx hb dX8_two_32 (by decide) ?_
      refine lv_iload_n hx hb dX8_two_33 rfl (lv_at hl 0 rfl) ?_
      refine lv_imul hx hb dX8_two_34 ?_
      refine lv_isub hx hb dX8_two_35 ?_
      refine lv_imul hx hb dX8_two_36 ?_
      refine lv_i2l hx hb dX8_two_37 rfl ?_
      refine lv_goto (tgt := 47) hx hb dX8_two_38 (by decide) ?_
      refine lv_ldc2 (v := (100 : Int64)) hx hb hown (hts _ ql_X8_two_192) dX8_two_47 ?_
      refine lv_iload_n hx hb dX8_two_50 rfl (lv_at hl 3 rfl) ?_
      refine vp_callSl (va_Run.run (va_runS (As := [.long ((((10 : Int32) - ((2 : Int32) * (z_laid (29 : Int32).toNatClampNeg))) * ((10 : Int32) - ((2 : Int32) * (z_laid (29 : Int32).toNatClampNeg)))).toInt64), .long (100 : Int64), .int x2]) (rest := []) ⟨hx, hb, hml, hown, hts⟩ (qm_X8_part l dC dI cI cJ cC cG cW ((((10 : Int32) - ((2 : Int32) * (z_laid (29 : Int32).toNatClampNeg))) * ((10 : Int32) - ((2 : Int32) * (z_laid (29 : Int32).toNatClampNeg)))).toInt64) (100 : Int64) x2 _ hV) (va_cwS 3 hts gX8_two_X8_part rfl rfl rfl (by decide +kernel) ⟨Nat.le_of_ble_eq_true rfl, Nat.le_of_ble_eq_true rfl⟩) (preRS hK hN (show va_P (dC, dI) vwCl (qw_X8_part cI cJ cC cG cW) s.heap from fun k q h => by simp at h)) rfl rfl hl.1 rfl (lv_room (Nat.le_of_ble_eq_true rfl)) dX8_two_51 ⟨Nat.le_of_ble_eq_true rfl, Nat.le_of_ble_eq_true rfl⟩)) (fun r6 hV => ?_)
      refine lv_l2i hx hb dX8_two_54 rfl ?_
      exact W.iret hx hb hr (fun t ht hW => ⟨_, rfl, hV, ht⟩) (fun q h => absurd h List.not_mem_nil) dX8_two_55 hlocks
  · have hV := hV.1 c2
    refine lv_iconst (v := (-1 : Int32)) hx hb dX8_two_10 (by decide) ?_
    exact W.iret hx hb hr (fun t ht hW => ⟨_, rfl, hV, ht⟩) (fun q h => absurd h List.not_mem_nil) dX8_two_11 hlocks

/-! StileCountsModel.power(II)I -/
abbrev qw_X8_power (cI cJ cC cG cW : ClassId) (a_this a_this_laid a_this_text a_this_read a_this_numbers a_this_where a_this_sorts a_this_tells a_this_undone a_this_parts a_this_goesWith a_this_with a_this_keeps : Nat) (z_letters : Int32) (z_at : Int32) (z_walked : Int32) (z_counts : Int32) (z_undos : Int32) (z_all : Int64) (z_planned : Int64) (z_scale : Int64) (z_least : Int32) (z_kept : Int32) : va_W := [(a_this, .inr (8, [.ref a_this_laid, .ref a_this_text, .int z_letters, .ref a_this_read, .int z_at, .ref a_this_numbers, .int z_walked, .int z_counts, .ref a_this_where, .ref a_this_sorts, .ref a_this_tells, .int z_undos, .ref a_this_undone, .ref a_this_parts, .long z_all, .long z_planned, .long z_scale, .ref a_this_goesWith, .int z_least, .ref a_this_with, .int z_kept, .ref a_this_keeps]))]
def qv_X8_power_L5 (x1 : Int32) (x2 : Int32) (Post : Int32 → Prop) (E : (Int32) → Prop) : Nat → (Int32) → (Int32) → Prop
  | 0, _, _ => False
  | n + 1, x3, x4 => (x2 ≤ x4 → E x3) ∧ (¬ x2 ≤ x4 → qv_X8_power_L5 x1 x2 Post E n (x3 * x1) (x4 + (1 : Int32)))
set_option maxHeartbeats 4000000 in
set_option maxRecDepth 100000 in
theorem qt_X8_power_L5 {p : Program} {l : Launch} {e : Env} {s : State} {m : MethodId} {args : Array Value} {below : List Frame} {meth : Method} {c : Code} {dC : Nat → ClassId} {dI : Nat → Nat → Nat} {cI cJ cC cG cW : ClassId} {a_this a_this_laid a_this_text a_this_read a_this_numbers a_this_where a_this_sorts a_this_tells a_this_undone a_this_parts a_this_goesWith a_this_with a_this_keeps : Nat} (C0 : MC cX8_power 5 (some .int) RX8 wsX8_power p s m args meth c) (hK : va_K (dC, dI) vwCl (tyL cI cJ cC cG cW) s) (hN : NW s) (z_letters : Int32) (z_at : Int32) (z_walked : Int32) (z_counts : Int32) (z_undos : Int32) (z_all : Int64) (z_planned : Int64) (z_scale : Int64) (z_least : Int32) (z_kept : Int32) (hP : va_P (dC, dI) vwCl (qw_X8_power cI cJ cC cG cW a_this a_this_laid a_this_text a_this_read a_this_numbers a_this_where a_this_sorts a_this_tells a_this_undone a_this_parts a_this_goesWith a_this_with a_this_keeps z_letters z_at z_walked z_counts z_undos z_all z_planned z_scale z_least z_kept) s.heap) (x1 : Int32) (x2 : Int32) (Post : Int32 → Prop) (E : (Int32) → Prop) (hE : ∀ (x3 : Int32) (ls : Array Slot), E x3 → lv_has ls 5 [(3, .int x3)] → W p l e ({ frames := 0, cells := 0, slots := 0, locals := 0 } : Room) s m args below meth c s.heap [] 0 0 (MQ below (vp_Si Post) args s 0 0 (fun _ => False)) (F0 m 21 ls [])) : ∀ (n : Nat) (x3 : Int32) (x4 : Int32) (ls : Array Slot), qv_X8_power_L5 x1 x2 Post E n x3 x4 → lv_has ls 5 [(1, .int x1), (2, .int x2), (3, .int x3), (4, .int x4)] → W p l e ({ frames := 0, cells := 0, slots := 0, locals := 0 } : Room) s m args below meth c s.heap [] 0 0 (MQ below (vp_Si Post) args s 0 0 (fun _ => False)) (F0 m 5 ls []) := by
  obtain ⟨hx, hb, hr, hml, hown, hts, hlocks⟩ := id C0
  intro n
  induction n with
  | zero =>
    intro x3 x4 ls hV
    exact False.elim hV
  | succ n ih =>
    intro x3 x4 ls hV hl
    refine lv_iload hx hb dX8_power_5 (lv_at hl 3 rfl) ?_
    refine lv_iload_n hx hb dX8_power_7 rfl (lv_at hl 1 rfl) ?_
    refine lv_icmp_ge (tgt := 21) hx hb dX8_power_8 (by decide) (fun c1 => ?_) (fun c1 => ?_)
    · have hV := hV.1 c1
      exact hE x3 ls hV (lv_sub hl [2] rfl)
    · have hV := hV.2 c1
      refine lv_iload_n hx hb dX8_power_11 rfl (lv_at hl 2 rfl) ?_
      refine lv_iload_n hx hb dX8_power_12 rfl (lv_at hl 0 rfl) ?_
      refine lv_imul hx hb dX8_power_13 ?_
      refine lv_istore_n (lv' := [(3, .int (x3 * x1)), (1, .int x1), (2, .int x2), (4, .int x4)]) hx hb dX8_power_14 rfl hl (by decide) rfl (fun ls hl => ?_)
      refine lv_iinc (v := (x4 + (1 : Int32))) (lv' := [(4, .int (x4 + (1 : Int32))), (3, .int (x3 * x1)), (1, .int x1), (2, .int x2)]) hx hb dX8_power_15 hl (k := 3) rfl rfl (by decide) rfl (fun ls hl => ?_)
      refine lv_goto (tgt := 5) hx hb dX8_power_18 (by decide) ?_
      exact ih (x3 * x1) (x4 + (1 : Int32)) ls hV (lv_sub hl [2, 3, 1, 0] rfl)
def qv_X8_power (x1 : Int32) (x2 : Int32) (Post : Int32 → Prop) : Prop := ∃ n2, qv_X8_power_L5 x1 x2 Post (fun x3_2 => Post x3_2) n2 (1 : Int32) (0 : Int32)
set_option maxHeartbeats 4000000 in
set_option maxRecDepth 100000 in
theorem qm_X8_power (l : Launch) (dC : Nat → ClassId) (dI : Nat → Nat → Nat) (cI cJ cC cG cW : ClassId) (a_this a_this_laid a_this_text a_this_read a_this_numbers a_this_where a_this_sorts a_this_tells a_this_undone a_this_parts a_this_goesWith a_this_with a_this_keeps : Nat) (z_letters : Int32) (z_at : Int32) (z_walked : Int32) (z_counts : Int32) (z_undos : Int32) (z_all : Int64) (z_planned : Int64) (z_scale : Int64) (z_least : Int32) (z_kept : Int32) (x1 : Int32) (x2 : Int32) (Post : Int32 → Prop) (hV : qv_X8_power x1 x2 Post) : Met l yX8_power wsX8_power ({ frames := 0, cells := 0, slots := 0, locals := 0 } : Room) (va_Pc [.ref a_this, .int x1, .int x2] (prR (dC, dI) (qw_X8_power cI cJ cC cG cW a_this a_this_laid a_this_text a_this_read a_this_numbers a_this_where a_this_sorts a_this_tells a_this_undone a_this_parts a_this_goesWith a_this_with a_this_keeps z_letters z_at z_walked z_counts z_undos z_all z_planned z_scale z_least z_kept) (tyL cI cJ cC cG cW))) (vp_Si Post) 0 0 (fun _ => False) := by
  refine Met.ofR (nm := "power") (ds := "(II)I") (own := RX8) (maxL := 5) (cc := cX8_power) (ret := (some .int)) (by decide) rfl rfl (Nat.le_of_ble_eq_true rfl) (fun p e s m below meth c C0 hK hN hP ls hl => ?_)
  obtain ⟨hx, hb, hr, hml, hown, hts, hlocks⟩ := id C0
  have hl : lv_has ls 5 [(0, .ref a_this), (1, .int x1), (2, .int x2)] := hl
  refine lv_iconst (v := (1 : Int32)) hx hb dX8_power_0 (by decide) ?_
  refine lv_istore_n (lv' := [(3, .int (1 : Int32)), (0, .ref a_this), (1, .int x1), (2, .int x2)]) hx hb dX8_power_1 rfl hl (by decide) rfl (fun ls hl => ?_)
  refine lv_iconst (v := (0 : Int32)) hx hb dX8_power_2 (by decide) ?_
  refine lv_istore (lv' := [(4, .int (0 : Int32)), (3, .int (1 : Int32)), (0, .ref a_this), (1, .int x1), (2, .int x2)]) hx hb dX8_power_3 hl (by decide) rfl (fun ls hl => ?_)
  obtain ⟨n2, hV⟩ := hV
  refine qt_X8_power_L5 C0 hK hN z_letters z_at z_walked z_counts z_undos z_all z_planned z_scale z_least z_kept hP x1 x2 _ _ (fun x3_2 ls hV hl => ?_) n2 (1 : Int32) (0 : Int32) ls hV (lv_sub hl [3, 4, 1, 0] rfl)
  refine lv_iload_n hx hb dX8_power_21 rfl (lv_at hl 0 rfl) ?_
  exact W.iret hx hb hr (fun t ht hW => ⟨_, rfl, hV, ht⟩) (fun q h => absurd h List.not_mem_nil) dX8_power_22 hlocks

/-! StileCountsModel.groups(II)I -/
abbrev qw_X8_groups (cI cJ cC cG cW : ClassId) (a_this a_this_laid a_this_text a_this_read a_this_numbers a_this_where a_this_sorts a_this_tells a_this_undone a_this_parts a_this_goesWith a_this_with a_this_keeps : Nat) (z_letters : Int32) (z_at : Int32) (z_walked : Int32) (z_counts : Int32) (z_undos : Int32) (z_all : Int64) (z_planned : Int64) (z_scale : Int64) (z_least : Int32) (z_kept : Int32) (z_laid : Nat → Int32) : va_W := [(a_this, .inr (8, [.ref a_this_laid, .ref a_this_text, .int z_letters, .ref a_this_read, .int z_at, .ref a_this_numbers, .int z_walked, .int z_counts, .ref a_this_where, .ref a_this_sorts, .ref a_this_tells, .int z_undos, .ref a_this_undone, .ref a_this_parts, .long z_all, .long z_planned, .long z_scale, .ref a_this_goesWith, .int z_least, .ref a_this_with, .int z_kept, .ref a_this_keeps])), (a_this_laid, .inl (cI, 73, .inl z_laid))]
theorem ql_X8_groups_82 : (.constantLong RX8 82 (2 : Int64) : Cond) ∈ wsX8_groups := by decide +kernel
theorem ql_X8_groups_194 : (.constantLong RX8 194 (5 : Int64) : Cond) ∈ wsX8_groups := by decide +kernel
theorem qi_X8_groups_X8 : ∀ w ∈ wsX80, w ∈ wsX8_groups := by decide +kernel
theorem ql_X8_groups_7 : (.fieldLink RX8 7 "StileCountsModel" "laid" "[I" : Cond) ∈ wsX8_groups := by decide +kernel
def qv_X8_groups (x1 : Int32) (x2 : Int32) (z_laid : Nat → Int32) (Post : Int32 → Prop) : Prop := qv_X8_in (x1.toInt64) (2 : Int64) (5 : Int64) (fun r1 => (r1 = (0 : Int32) → Post (-1 : Int32)) ∧ (¬ r1 = (0 : Int32) → qv_X8_in (x2.toInt64) (0 : Int64) (1 : Int64) (fun r3 => (r3 = (0 : Int32) → Post (-1 : Int32)) ∧ (¬ r3 = (0 : Int32) → vp_in (33 : Int32) 73 ∧ (qv_X8_power (z_laid (33 : Int32).toNatClampNeg) (x1 - (1 : Int32)) (fun r6 => qv_X8_power (10 : Int32) (x1 - (1 : Int32)) (fun r7 => qv_X8_part (r6.toInt64) (r7.toInt64) x2 (fun r8 => Post (r8.toInt32)))))))))
set_option maxHeartbeats 4000000 in
set_option maxRecDepth 100000 in
theorem qm_X8_groups (l : Launch) (dC : Nat → ClassId) (dI : Nat → Nat → Nat) (cI cJ cC cG cW : ClassId) (a_this a_this_laid a_this_text a_this_read a_this_numbers a_this_where a_this_sorts a_this_tells a_this_undone a_this_parts a_this_goesWith a_this_with a_this_keeps : Nat) (z_letters : Int32) (z_at : Int32) (z_walked : Int32) (z_counts : Int32) (z_undos : Int32) (z_all : Int64) (z_planned : Int64) (z_scale : Int64) (z_least : Int32) (z_kept : Int32) (z_laid : Nat → Int32) (x1 : Int32) (x2 : Int32) (Post : Int32 → Prop) (hV : qv_X8_groups x1 x2 z_laid Post) : Met l yX8_groups wsX8_groups ({ frames := 2, cells := 0, slots := 0, locals := 55 } : Room) (va_Pc [.ref a_this, .int x1, .int x2] (prR (dC, dI) (qw_X8_groups cI cJ cC cG cW a_this a_this_laid a_this_text a_this_read a_this_numbers a_this_where a_this_sorts a_this_tells a_this_undone a_this_parts a_this_goesWith a_this_with a_this_keeps z_letters z_at z_walked z_counts z_undos z_all z_planned z_scale z_least z_kept z_laid) (tyL cI cJ cC cG cW))) (vp_Si Post) 0 0 (fun _ => False) := by
  refine Met.ofR (nm := "groups") (ds := "(II)I") (own := RX8) (maxL := 3) (cc := cX8_groups) (ret := (some .int)) (by decide) rfl rfl (Nat.le_of_ble_eq_true rfl) (fun p e s m below meth c C0 hK hN hP ls hl => ?_)
  obtain ⟨hx, hb, hr, hml, hown, hts, hlocks⟩ := id C0
  have hl : lv_has ls 3 [(0, .ref a_this), (1, .int x1), (2, .int x2)] := hl
  refine lv_iload_n hx hb dX8_groups_0 rfl (lv_at hl 1 rfl) ?_
  refine lv_i2l hx hb dX8_groups_1 rfl ?_
  refine lv_ldc2 (v := (2 : Int64)) hx hb hown (hts _ ql_X8_groups_82) dX8_groups_2 ?_
  refine lv_ldc2 (v := (5 : Int64)) hx hb hown (hts _ ql_X8_groups_194) dX8_groups_5 ?_
  refine vp_callSi (va_Run.run (va_runS (As := [.long (x1.toInt64), .long (2 : Int64), .long (5 : Int64)]) (rest := []) ⟨hx, hb, hml, hown, hts⟩ (qm_X8_in l dC dI cI cJ cC cG cW (x1.toInt64) (2 : Int64) (5 : Int64) _ hV) (va_cwS 3 hts gX8_groups_X8_in rfl rfl rfl (by decide +kernel) ⟨Nat.le_of_ble_eq_true rfl, Nat.le_of_ble_eq_true rfl⟩) (preRS hK hN (show va_P (dC, dI) vwCl (qw_X8_in cI cJ cC cG cW) s.heap from fun k q h => by simp at h)) rfl rfl hl.1 rfl (lv_room (Nat.le_of_ble_eq_true rfl)) dX8_groups_8 ⟨Nat.le_of_ble_eq_true rfl, Nat.le_of_ble_eq_true rfl⟩)) (fun r1 hV => ?_)
  refine lv_if_eq (tgt := 24) hx hb dX8_groups_11 (by decide) (fun c2 => ?_) (fun c2 => ?_)
  · have hV := hV.1 c2
    refine lv_iconst (v := (-1 : Int32)) hx hb dX8_groups_24 (by decide) ?_
    exact W.iret hx hb hr (fun t ht hW => ⟨_, rfl, hV, ht⟩) (fun q h => absurd h List.not_mem_nil) dX8_groups_25 hlocks
  · have hV := hV.2 c2
    refine lv_iload_n hx hb dX8_groups_14 rfl (lv_at hl 2 rfl) ?_
    refine lv_i2l hx hb dX8_groups_15 rfl ?_
    refine lv_lconst (v := (0 : Int64)) hx hb dX8_groups_16 (by decide) ?_
    refine lv_lconst (v := (1 : Int64)) hx hb dX8_groups_17 (by decide) ?_
    refine vp_callSi (va_Run.run (va_runS (As := [.long (x2.toInt64), .long (0 : Int64), .long (1 : Int64)]) (rest := []) ⟨hx, hb, hml, hown, hts⟩ (qm_X8_in l dC dI cI cJ cC cG cW (x2.toInt64) (0 : Int64) (1 : Int64) _ hV) (va_cwS 3 hts gX8_groups_X8_in rfl rfl rfl (by decide +kernel) ⟨Nat.le_of_ble_eq_true rfl, Nat.le_of_ble_eq_true rfl⟩) (preRS hK hN (show va_P (dC, dI) vwCl (qw_X8_in cI cJ cC cG cW) s.heap from fun k q h => by simp at h)) rfl rfl hl.1 rfl (lv_room (Nat.le_of_ble_eq_true rfl)) dX8_groups_18 ⟨Nat.le_of_ble_eq_true rfl, Nat.le_of_ble_eq_true rfl⟩)) (fun r3 hV => ?_)
    refine lv_if_ne (tgt := 26) hx hb dX8_groups_21 (by decide) (fun c4 => ?_) (fun c4 => ?_)
    · have hV := hV.2 c4
      refine lv_aload_n hx hb dX8_groups_26 rfl (lv_at hl 0 rfl) ?_
      refine lv_aload_n hx hb dX8_groups_27 rfl (lv_at hl 0 rfl) ?_
      refine va_get (D := (dC, dI)) (ci := 8) (v := .ref a_this_laid) (C := RX8) (T := TX8) (N := 22) hx hb hts qi_X8_groups_X8 hown hK hP 0 rfl rfl 0 (by decide) (hts _ ql_X8_groups_7) (fun _ h9 => h9) rfl dX8_groups_28 ?_
      refine lv_bipush (v := (33 : Int32)) hx hb dX8_groups_31 (by decide) ?_
      obtain ⟨h5, hV⟩ := hV
      refine va_iald hx hb hK hP 1 0 rfl rfl h5 dX8_groups_33 ?_
      refine lv_iload_n hx hb dX8_groups_34 rfl (lv_at hl 1 rfl) ?_
      refine lv_iconst (v := (1 : Int32)) hx hb dX8_groups_35 (by decide) ?_
      refine lv_isub hx hb dX8_groups_36 ?_
      refine vp_callSi (va_Run.run (va_runV (As := [.int (z_laid (33 : Int32).toNatClampNeg), .int (x1 - (1 : Int32))]) (rest := []) ⟨hx, hb, hml, hown, hts⟩ (qm_X8_power l dC dI cI cJ cC cG cW a_this a_this_laid a_this_text a_this_read a_this_numbers a_this_where a_this_sorts a_this_tells a_this_undone a_this_parts a_this_goesWith a_this_with a_this_keeps z_letters z_at z_walked z_counts z_undos z_all z_planned z_scale z_least z_kept (z_laid (33 : Int32).toNatClampNeg) (x1 - (1 : Int32)) _ hV) (cwV 2 hts gX8_groups_X8_power rfl rfl rfl (by decide +kernel) ⟨Nat.le_of_ble_eq_true rfl, Nat.le_of_ble_eq_true rfl⟩) (preRV hK hN (hP.sub (ws' := (qw_X8_power cI cJ cC cG cW a_this a_this_laid a_this_text a_this_read a_this_numbers a_this_where a_this_sorts a_this_tells a_this_undone a_this_parts a_this_goesWith a_this_with a_this_keeps z_letters z_at z_walked z_counts z_undos z_all z_planned z_scale z_least z_kept)) [0] rfl) rfl rfl) rfl rfl hl.1 rfl (lv_room (Nat.le_of_ble_eq_true rfl)) dX8_groups_37 ⟨Nat.le_of_ble_eq_true rfl, Nat.le_of_ble_eq_true rfl⟩)) (fun r6 hV => ?_)
      refine lv_i2l hx hb dX8_groups_40 rfl ?_
      refine lv_aload_n hx hb dX8_groups_41 rfl (lv_at hl 0 rfl) ?_
      refine lv_bipush (v := (10 : Int32)) hx hb dX8_groups_42 (by decide) ?_
      refine lv_iload_n hx hb dX8_groups_44 rfl (lv_at hl 1 rfl) ?_
      refine lv_iconst (v := (1 : Int32)) hx hb dX8_groups_45 (by decide) ?_
      refine lv_isub hx hb dX8_groups_46 ?_
      refine vp_callSi (va_Run.run (va_runV (As := [.int (10 : Int32), .int (x1 - (1 : Int32))]) (rest := [.long (r6.toInt64)]) ⟨hx, hb, hml, hown, hts⟩ (qm_X8_power l dC dI cI cJ cC cG cW a_this a_this_laid a_this_text a_this_read a_this_numbers a_this_where a_this_sorts a_this_tells a_this_undone a_this_parts a_this_goesWith a_this_with a_this_keeps z_letters z_at z_walked z_counts z_undos z_all z_planned z_scale z_least z_kept (10 : Int32) (x1 - (1 : Int32)) _ hV) (cwV 2 hts gX8_groups_X8_power rfl rfl rfl (by decide +kernel) ⟨Nat.le_of_ble_eq_true rfl, Nat.le_of_ble_eq_true rfl⟩) (preRV hK hN (hP.sub (ws' := (qw_X8_power cI cJ cC cG cW a_this a_this_laid a_this_text a_this_read a_this_numbers a_this_where a_this_sorts a_this_tells a_this_undone a_this_parts a_this_goesWith a_this_with a_this_keeps z_letters z_at z_walked z_counts z_undos z_all z_planned z_scale z_least z_kept)) [0] rfl) rfl rfl) rfl rfl hl.1 rfl (lv_room (Nat.le_of_ble_eq_true rfl)) dX8_groups_47 ⟨Nat.le_of_ble_eq_true rfl, Nat.le_of_ble_eq_true rfl⟩)) (fun r7 hV => ?_)
      refine lv_i2l hx hb dX8_groups_50 rfl ?_
      refine lv_iload_n hx hb dX8_groups_51 rfl (lv_at hl 2 rfl) ?_
      refine vp_callSl (va_Run.run (va_runS (As := [.long (r6.toInt64), .long (r7.toInt64), .int x2]) (rest := []) ⟨hx, hb, hml, hown, hts⟩ (qm_X8_part l dC dI cI cJ cC cG cW (r6.toInt64) (r7.toInt64) x2 _ hV) (va_cwS 3 hts gX8_groups_X8_part rfl rfl rfl (by decide +kernel) ⟨Nat.le_of_ble_eq_true rfl, Nat.le_of_ble_eq_true rfl⟩) (preRS hK hN (show va_P (dC, dI) vwCl (qw_X8_part cI cJ cC cG cW) s.heap from fun k q h => by simp at h)) rfl rfl hl.1 rfl (lv_room (Nat.le_of_ble_eq_true rfl)) dX8_groups_52 ⟨Nat.le_of_ble_eq_true rfl, Nat.le_of_ble_eq_true rfl⟩)) (fun r8 hV => ?_)
      refine lv_l2i hx hb dX8_groups_55 rfl ?_
      exact W.iret hx hb hr (fun t ht hW => ⟨_, rfl, hV, ht⟩) (fun q h => absurd h List.not_mem_nil) dX8_groups_56 hlocks
    · have hV := hV.1 c4
      refine lv_iconst (v := (-1 : Int32)) hx hb dX8_groups_24 (by decide) ?_
      exact W.iret hx hb hr (fun t ht hW => ⟨_, rfl, hV, ht⟩) (fun q h => absurd h List.not_mem_nil) dX8_groups_25 hlocks

/-! StileCountsModel.size(I)I -/
abbrev qw_X8_size (cI cJ cC cG cW : ClassId) (a_this a_this_laid a_this_text a_this_read a_this_numbers a_this_where a_this_sorts a_this_tells a_this_undone a_this_parts a_this_goesWith a_this_with a_this_keeps : Nat) (z_letters : Int32) (z_at : Int32) (z_walked : Int32) (z_counts : Int32) (z_undos : Int32) (z_all : Int64) (z_planned : Int64) (z_scale : Int64) (z_least : Int32) (z_kept : Int32) (z_laid : Nat → Int32) : va_W := [(a_this, .inr (8, [.ref a_this_laid, .ref a_this_text, .int z_letters, .ref a_this_read, .int z_at, .ref a_this_numbers, .int z_walked, .int z_counts, .ref a_this_where, .ref a_this_sorts, .ref a_this_tells, .int z_undos, .ref a_this_undone, .ref a_this_parts, .long z_all, .long z_planned, .long z_scale, .ref a_this_goesWith, .int z_least, .ref a_this_with, .int z_kept, .ref a_this_keeps])), (a_this_laid, .inl (cI, 73, .inl z_laid))]
theorem ql_X8_size_184 : (.constantLong RX8 184 (99 : Int64) : Cond) ∈ wsX8_size := by decide +kernel
theorem qi_X8_size_X8 : ∀ w ∈ wsX80, w ∈ wsX8_size := by decide +kernel
theorem ql_X8_size_7 : (.fieldLink RX8 7 "StileCountsModel" "laid" "[I" : Cond) ∈ wsX8_size := by decide +kernel
def qv_X8_size_L19 (x1 : Int32) (z_laid : Nat → Int32) (Post : Int32 → Prop) (E : (Int32) → Prop) : Nat → (Int32) → (Int32) → Prop
  | 0, _, _ => False
  | n + 1, x2, x3 => (x3 ≤ (1 : Int32) → E x2) ∧ (¬ x3 ≤ (1 : Int32) → vp_in (33 : Int32) 73 ∧ (qv_X8_power (z_laid (33 : Int32).toNatClampNeg) (x3 - (1 : Int32)) (fun r5 => qv_X8_power (10 : Int32) (x3 - (1 : Int32)) (fun r6 => ((x1 * r6) < ((100 : Int32) * r5) → qv_X8_size_L19 x1 z_laid Post E n x2 (x3 + (-1 : Int32))) ∧ (¬ (x1 * r6) < ((100 : Int32) * r5) → qv_X8_size_L19 x1 z_laid Post E n x3 (x3 + (-1 : Int32)))))))
set_option maxHeartbeats 4000000 in
set_option maxRecDepth 100000 in
theorem qt_X8_size_L19 {p : Program} {l : Launch} {e : Env} {s : State} {m : MethodId} {args : Array Value} {below : List Frame} {meth : Method} {c : Code} {dC : Nat → ClassId} {dI : Nat → Nat → Nat} {cI cJ cC cG cW : ClassId} {a_this a_this_laid a_this_text a_this_read a_this_numbers a_this_where a_this_sorts a_this_tells a_this_undone a_this_parts a_this_goesWith a_this_with a_this_keeps : Nat} (C0 : MC cX8_size 4 (some .int) RX8 wsX8_size p s m args meth c) (hK : va_K (dC, dI) vwCl (tyL cI cJ cC cG cW) s) (hN : NW s) (z_letters : Int32) (z_at : Int32) (z_walked : Int32) (z_counts : Int32) (z_undos : Int32) (z_all : Int64) (z_planned : Int64) (z_scale : Int64) (z_least : Int32) (z_kept : Int32) (z_laid : Nat → Int32) (hP : va_P (dC, dI) vwCl (qw_X8_size cI cJ cC cG cW a_this a_this_laid a_this_text a_this_read a_this_numbers a_this_where a_this_sorts a_this_tells a_this_undone a_this_parts a_this_goesWith a_this_with a_this_keeps z_letters z_at z_walked z_counts z_undos z_all z_planned z_scale z_least z_kept z_laid) s.heap) (x1 : Int32) (Post : Int32 → Prop) (E : (Int32) → Prop) (hE : ∀ (x2 : Int32) (ls : Array Slot), E x2 → lv_has ls 4 [(2, .int x2)] → W p l e ({ frames := 1, cells := 0, slots := 0, locals := 25 } : Room) s m args below meth c s.heap [] 0 0 (MQ below (vp_Si Post) args s 0 0 (fun _ => False)) (F0 m 67 ls [])) : ∀ (n : Nat) (x2 : Int32) (x3 : Int32) (ls : Array Slot), qv_X8_size_L19 x1 z_laid Post E n x2 x3 → lv_has ls 4 [(0, .ref a_this), (1, .int x1), (2, .int x2), (3, .int x3)] → W p l e ({ frames := 1, cells := 0, slots := 0, locals := 25 } : Room) s m args below meth c s.heap [] 0 0 (MQ below (vp_Si Post) args s 0 0 (fun _ => False)) (F0 m 19 ls []) := by
  obtain ⟨hx, hb, hr, hml, hown, hts, hlocks⟩ := id C0
  intro n
  induction n with
  | zero =>
    intro x2 x3 ls hV
    exact False.elim hV
  | succ n ih =>
    intro x2 x3 ls hV hl
    refine lv_iload_n hx hb dX8_size_19 rfl (lv_at hl 3 rfl) ?_
    refine lv_iconst (v := (1 : Int32)) hx hb dX8_size_20 (by decide) ?_
    refine lv_icmp_le (tgt := 67) hx hb dX8_size_21 (by decide) (fun c3 => ?_) (fun c3 => ?_)
    · have hV := hV.1 c3
      exact hE x2 ls hV (lv_sub hl [2] rfl)
    · have hV := hV.2 c3
      refine lv_bipush (v := (100 : Int32)) hx hb dX8_size_24 (by decide) ?_
      refine lv_aload_n hx hb dX8_size_26 rfl (lv_at hl 0 rfl) ?_
      refine lv_aload_n hx hb dX8_size_27 rfl (lv_at hl 0 rfl) ?_
      refine va_get (D := (dC, dI)) (ci := 8) (v := .ref a_this_laid) (C := RX8) (T := TX8) (N := 22) hx hb hts qi_X8_size_X8 hown hK hP 0 rfl rfl 0 (by decide) (hts _ ql_X8_size_7) (fun _ h9 => h9) rfl dX8_size_28 ?_
      refine lv_bipush (v := (33 : Int32)) hx hb dX8_size_31 (by decide) ?_
      obtain ⟨h4, hV⟩ := hV
      refine va_iald hx hb hK hP 1 0 rfl rfl h4 dX8_size_33 ?_
      refine lv_iload_n hx hb dX8_size_34 rfl (lv_at hl 3 rfl) ?_
      refine lv_iconst (v := (1 : Int32)) hx hb dX8_size_35 (by decide) ?_
      refine lv_isub hx hb dX8_size_36 ?_
      refine vp_callSi (va_Run.run (va_runV (As := [.int (z_laid (33 : Int32).toNatClampNeg), .int (x3 - (1 : Int32))]) (rest := [.int (100 : Int32)]) ⟨hx, hb, hml, hown, hts⟩ (qm_X8_power l dC dI cI cJ cC cG cW a_this a_this_laid a_this_text a_this_read a_this_numbers a_this_where a_this_sorts a_this_tells a_this_undone a_this_parts a_this_goesWith a_this_with a_this_keeps z_letters z_at z_walked z_counts z_undos z_all z_planned z_scale z_least z_kept (z_laid (33 : Int32).toNatClampNeg) (x3 - (1 : Int32)) _ hV) (cwV 2 hts gX8_size_X8_power rfl rfl rfl (by decide +kernel) ⟨Nat.le_of_ble_eq_true rfl, Nat.le_of_ble_eq_true rfl⟩) (preRV hK hN (hP.sub (ws' := (qw_X8_power cI cJ cC cG cW a_this a_this_laid a_this_text a_this_read a_this_numbers a_this_where a_this_sorts a_this_tells a_this_undone a_this_parts a_this_goesWith a_this_with a_this_keeps z_letters z_at z_walked z_counts z_undos z_all z_planned z_scale z_least z_kept)) [0] rfl) rfl rfl) rfl rfl hl.1 rfl (lv_room (Nat.le_of_ble_eq_true rfl)) dX8_size_37 ⟨Nat.le_of_ble_eq_true rfl, Nat.le_of_ble_eq_true rfl⟩)) (fun r5 hV => ?_)
      refine lv_imul hx hb dX8_size_40 ?_
      refine lv_iload_n hx hb dX8_size_41 rfl (lv_at hl 1 rfl) ?_
      refine lv_aload_n hx hb dX8_size_42 rfl (lv_at hl 0 rfl) ?_
      refine lv_bipush (v := (10 : Int32)) hx hb dX8_size_43 (by decide) ?_
      refine lv_iload_n hx hb dX8_size_45 rfl (lv_at hl 3 rfl) ?_
      refine lv_iconst (v := (1 : Int32)) hx hb dX8_size_46 (by decide) ?_
      refine lv_isub hx hb dX8_size_47 ?_
      refine vp_callSi (va_Run.run (va_runV (As := [.int (10 : Int32), .int (x3 - (1 : Int32))]) (rest := [.int x1, .int ((100 : Int32) * r5)]) ⟨hx, hb, hml, hown, hts⟩ (qm_X8_power l dC dI cI cJ cC cG cW a_this a_this_laid a_this_text a_this_read a_this_numbers a_this_where a_this_sorts a_this_tells a_this_undone a_this_parts a_this_goesWith a_this_with a_this_keeps z_letters z_at z_walked z_counts z_undos z_all z_planned z_scale z_least z_kept (10 : Int32) (x3 - (1 : Int32)) _ hV) (cwV 2 hts gX8_size_X8_power rfl rfl rfl (by decide +kernel) ⟨Nat.le_of_ble_eq_true rfl, Nat.le_of_ble_eq_true rfl⟩) (preRV hK hN (hP.sub (ws' := (qw_X8_power cI cJ cC cG cW a_this a_this_laid a_this_text a_this_read a_this_numbers a_this_where a_this_sorts a_this_tells a_this_undone a_this_parts a_this_goesWith a_this_with a_this_keeps z_letters z_at z_walked z_counts z_undos z_all z_planned z_scale z_least z_kept)) [0] rfl) rfl rfl) rfl rfl hl.1 rfl (lv_room (Nat.le_of_ble_eq_true rfl)) dX8_size_48 ⟨Nat.le_of_ble_eq_true rfl, Nat.le_of_ble_eq_true rfl⟩)) (fun r6 hV => ?_)
      refine lv_imul hx hb dX8_size_51 ?_
      refine lv_icmp_gt (tgt := 59) hx hb dX8_size_52 (by decide) (fun c7 => ?_) (fun c7 => ?_)
      · have hV := hV.1 c7
        refine lv_iload_n hx hb dX8_size_59 rfl (lv_at hl 2 rfl) ?_
        refine lv_istore_n (lv' := [(2, .int x2), (0, .ref a_this), (1, .int x1), (3, .int x3)]) hx hb dX8_size_60 rfl hl (by decide) rfl (fun ls hl => ?_)
        refine lv_iinc (v := (x3 + (-1 : Int32))) (lv' := [(3, .int (x3 + (-1 : Int32))), (2, .int x2), (0, .ref a_this), (1, .int x1)]) hx hb dX8_size_61 hl (k := 3) rfl rfl (by decide) rfl (fun ls hl => ?_)
        refine lv_goto (tgt := 19) hx hb dX8_size_64 (by decide) ?_
        exact ih x2 (x3 + (-1 : Int32)) ls hV (lv_sub hl [2, 3, 1, 0] rfl)
      · have hV := hV.2 c7
        refine lv_iload_n hx hb dX8_size_55 rfl (lv_at hl 3 rfl) ?_
        refine lv_goto (tgt := 60) hx hb dX8_size_56 (by decide) ?_
        refine lv_istore_n (lv' := [(2, .int x3), (0, .ref a_this), (1, .int x1), (3, .int x3)]) hx hb dX8_size_60 rfl hl (by decide) rfl (fun ls hl => ?_)
        refine lv_iinc (v := (x3 + (-1 : Int32))) (lv' := [(3, .int (x3 + (-1 : Int32))), (2, .int x3), (0, .ref a_this), (1, .int x1)]) hx hb dX8_size_61 hl (k := 3) rfl rfl (by decide) rfl (fun ls hl => ?_)
        refine lv_goto (tgt := 19) hx hb dX8_size_64 (by decide) ?_
        exact ih x3 (x3 + (-1 : Int32)) ls hV (lv_sub hl [2, 3, 1, 0] rfl)
def qv_X8_size (x1 : Int32) (z_laid : Nat → Int32) (Post : Int32 → Prop) : Prop := qv_X8_in (x1.toInt64) (0 : Int64) (99 : Int64) (fun r1 => (r1 = (0 : Int32) → Post (-1 : Int32)) ∧ (¬ r1 = (0 : Int32) → ∃ n8, qv_X8_size_L19 x1 z_laid Post (fun x2_8 => Post x2_8) n8 (-4 : Int32) (5 : Int32)))
set_option maxHeartbeats 4000000 in
set_option maxRecDepth 100000 in
theorem qm_X8_size (l : Launch) (dC : Nat → ClassId) (dI : Nat → Nat → Nat) (cI cJ cC cG cW : ClassId) (a_this a_this_laid a_this_text a_this_read a_this_numbers a_this_where a_this_sorts a_this_tells a_this_undone a_this_parts a_this_goesWith a_this_with a_this_keeps : Nat) (z_letters : Int32) (z_at : Int32) (z_walked : Int32) (z_counts : Int32) (z_undos : Int32) (z_all : Int64) (z_planned : Int64) (z_scale : Int64) (z_least : Int32) (z_kept : Int32) (z_laid : Nat → Int32) (x1 : Int32) (Post : Int32 → Prop) (hV : qv_X8_size x1 z_laid Post) : Met l yX8_size wsX8_size ({ frames := 1, cells := 0, slots := 0, locals := 25 } : Room) (va_Pc [.ref a_this, .int x1] (prR (dC, dI) (qw_X8_size cI cJ cC cG cW a_this a_this_laid a_this_text a_this_read a_this_numbers a_this_where a_this_sorts a_this_tells a_this_undone a_this_parts a_this_goesWith a_this_with a_this_keeps z_letters z_at z_walked z_counts z_undos z_all z_planned z_scale z_least z_kept z_laid) (tyL cI cJ cC cG cW))) (vp_Si Post) 0 0 (fun _ => False) := by
  refine Met.ofR (nm := "size") (ds := "(I)I") (own := RX8) (maxL := 4) (cc := cX8_size) (ret := (some .int)) (by decide) rfl rfl (Nat.le_of_ble_eq_true rfl) (fun p e s m below meth c C0 hK hN hP ls hl => ?_)
  obtain ⟨hx, hb, hr, hml, hown, hts, hlocks⟩ := id C0
  have hl : lv_has ls 4 [(0, .ref a_this), (1, .int x1)] := hl
  refine lv_iload_n hx hb dX8_size_0 rfl (lv_at hl 1 rfl) ?_
  refine lv_i2l hx hb dX8_size_1 rfl ?_
  refine lv_lconst (v := (0 : Int64)) hx hb dX8_size_2 (by decide) ?_
  refine lv_ldc2 (v := (99 : Int64)) hx hb hown (hts _ ql_X8_size_184) dX8_size_3 ?_
  refine vp_callSi (va_Run.run (va_runS (As := [.long (x1.toInt64), .long (0 : Int64), .long (99 : Int64)]) (rest := []) ⟨hx, hb, hml, hown, hts⟩ (qm_X8_in l dC dI cI cJ cC cG cW (x1.toInt64) (0 : Int64) (99 : Int64) _ hV) (va_cwS 3 hts gX8_size_X8_in rfl rfl rfl (by decide +kernel) ⟨Nat.le_of_ble_eq_true rfl, Nat.le_of_ble_eq_true rfl⟩) (preRS hK hN (show va_P (dC, dI) vwCl (qw_X8_in cI cJ cC cG cW) s.heap from fun k q h => by simp at h)) rfl rfl hl.1 rfl (lv_room (Nat.le_of_ble_eq_true rfl)) dX8_size_6 ⟨Nat.le_of_ble_eq_true rfl, Nat.le_of_ble_eq_true rfl⟩)) (fun r1 hV => ?_)
  refine lv_if_ne (tgt := 14) hx hb dX8_size_9 (by decide) (fun c2 => ?_) (fun c2 => ?_)
  · have hV := hV.2 c2
    refine lv_bipush (v := (-4 : Int32)) hx hb dX8_size_14 (by decide) ?_
    refine lv_istore_n (lv' := [(2, .int (-4 : Int32)), (0, .ref a_this), (1, .int x1)]) hx hb dX8_size_16 rfl hl (by decide) rfl (fun ls hl => ?_)
    refine lv_iconst (v := (5 : Int32)) hx hb dX8_size_17 (by decide) ?_
    refine lv_istore_n (lv' := [(3, .int (5 : Int32)), (2, .int (-4 : Int32)), (0, .ref a_this), (1, .int x1)]) hx hb dX8_size_18 rfl hl (by decide) rfl (fun ls hl => ?_)
    obtain ⟨n8, hV⟩ := hV
    refine qt_X8_size_L19 C0 hK hN z_letters z_at z_walked z_counts z_undos z_all z_planned z_scale z_least z_kept z_laid hP x1 _ _ (fun x2_8 ls hV hl => ?_) n8 (-4 : Int32) (5 : Int32) ls hV (lv_sub hl [2, 3, 1, 0] rfl)
    refine lv_iload_n hx hb dX8_size_67 rfl (lv_at hl 0 rfl) ?_
    exact W.iret hx hb hr (fun t ht hW => ⟨_, rfl, hV, ht⟩) (fun q h => absurd h List.not_mem_nil) dX8_size_68 hlocks
  · have hV := hV.1 c2
    refine lv_iconst (v := (-1 : Int32)) hx hb dX8_size_12 (by decide) ?_
    exact W.iret hx hb hr (fun t ht hW => ⟨_, rfl, hV, ht⟩) (fun q h => absurd h List.not_mem_nil) dX8_size_13 hlocks

/-! StileCountsModel.answered(II)I -/
abbrev qw_X8_answered (cI cJ cC cG cW : ClassId) (a_this a_this_laid a_this_text a_this_read a_this_numbers a_this_where a_this_sorts a_this_tells a_this_undone a_this_parts a_this_goesWith a_this_with a_this_keeps : Nat) (z_letters : Int32) (z_at : Int32) (z_walked : Int32) (z_counts : Int32) (z_undos : Int32) (z_all : Int64) (z_planned : Int64) (z_scale : Int64) (z_least : Int32) (z_kept : Int32) (z_laid : Nat → Int32) : va_W := [(a_this, .inr (8, [.ref a_this_laid, .ref a_this_text, .int z_letters, .ref a_this_read, .int z_at, .ref a_this_numbers, .int z_walked, .int z_counts, .ref a_this_where, .ref a_this_sorts, .ref a_this_tells, .int z_undos, .ref a_this_undone, .ref a_this_parts, .long z_all, .long z_planned, .long z_scale, .ref a_this_goesWith, .int z_least, .ref a_this_with, .int z_kept, .ref a_this_keeps])), (a_this_laid, .inl (cI, 73, .inl z_laid))]
theorem ql_X8_answered_82 : (.constantLong RX8 82 (2 : Int64) : Cond) ∈ wsX8_answered := by decide +kernel
theorem qi_X8_answered_X8 : ∀ w ∈ wsX80, w ∈ wsX8_answered := by decide +kernel
theorem ql_X8_answered_7 : (.fieldLink RX8 7 "StileCountsModel" "laid" "[I" : Cond) ∈ wsX8_answered := by decide +kernel
def qv_X8_answered_L31 (x1 : Int32) (x2 : Int32) (z_laid : Nat → Int32) (Post : Int32 → Prop) (E : (Int32) → (Int32) → Prop) : Nat → (Int32) → (Int32) → (Int32) → Prop
  | 0, _, _, _ => False
  | n + 1, x3, x4, x5 => vp_in (1 : Int32) 73 ∧ (((z_laid (1 : Int32).toNatClampNeg) ≤ x5 → E x3 x4) ∧ (¬ (z_laid (1 : Int32).toNatClampNeg) ≤ x5 → vp_in (((37 : Int32) + ((6 : Int32) * x1)) + x5) 73 ∧ (((z_laid (((37 : Int32) + ((6 : Int32) * x1)) + x5).toNatClampNeg) ≤ (0 : Int32) → qv_X8_answered_L31 x1 x2 z_laid Post E n x3 (x4 + (z_laid (((37 : Int32) + ((6 : Int32) * x1)) + x5).toNatClampNeg)) (x5 + (1 : Int32))) ∧ (¬ (z_laid (((37 : Int32) + ((6 : Int32) * x1)) + x5).toNatClampNeg) ≤ (0 : Int32) → (x3 = (-4 : Int32) → qv_X8_answered_L31 x1 x2 z_laid Post E n x5 (x4 + (z_laid (((37 : Int32) + ((6 : Int32) * x1)) + x5).toNatClampNeg)) (x5 + (1 : Int32))) ∧ (¬ x3 = (-4 : Int32) → vp_in (((37 : Int32) + ((6 : Int32) * x1)) + x3) 73 ∧ (((z_laid (((37 : Int32) + ((6 : Int32) * x1)) + x5).toNatClampNeg) ≤ (z_laid (((37 : Int32) + ((6 : Int32) * x1)) + x3).toNatClampNeg) → qv_X8_answered_L31 x1 x2 z_laid Post E n x3 (x4 + (z_laid (((37 : Int32) + ((6 : Int32) * x1)) + x5).toNatClampNeg)) (x5 + (1 : Int32))) ∧ (¬ (z_laid (((37 : Int32) + ((6 : Int32) * x1)) + x5).toNatClampNeg) ≤ (z_laid (((37 : Int32) + ((6 : Int32) * x1)) + x3).toNatClampNeg) → qv_X8_answered_L31 x1 x2 z_laid Post E n x5 (x4 + (z_laid (((37 : Int32) + ((6 : Int32) * x1)) + x5).toNatClampNeg)) (x5 + (1 : Int32)))))))))
set_option maxHeartbeats 4000000 in
set_option maxRecDepth 100000 in
theorem qt_X8_answered_L31 {p : Program} {l : Launch} {e : Env} {s : State} {m : MethodId} {args : Array Value} {below : List Frame} {meth : Method} {c : Code} {dC : Nat → ClassId} {dI : Nat → Nat → Nat} {cI cJ cC cG cW : ClassId} {a_this a_this_laid a_this_text a_this_read a_this_numbers a_this_where a_this_sorts a_this_tells a_this_undone a_this_parts a_this_goesWith a_this_with a_this_keeps : Nat} (C0 : MC cX8_answered 7 (some .int) RX8 wsX8_answered p s m args meth c) (hK : va_K (dC, dI) vwCl (tyL cI cJ cC cG cW) s) (hN : NW s) (z_letters : Int32) (z_at : Int32) (z_walked : Int32) (z_counts : Int32) (z_undos : Int32) (z_all : Int64) (z_planned : Int64) (z_scale : Int64) (z_least : Int32) (z_kept : Int32) (z_laid : Nat → Int32) (hP : va_P (dC, dI) vwCl (qw_X8_answered cI cJ cC cG cW a_this a_this_laid a_this_text a_this_read a_this_numbers a_this_where a_this_sorts a_this_tells a_this_undone a_this_parts a_this_goesWith a_this_with a_this_keeps z_letters z_at z_walked z_counts z_undos z_all z_planned z_scale z_least z_kept z_laid) s.heap) (x1 : Int32) (x2 : Int32) (Post : Int32 → Prop) (E : (Int32) → (Int32) → Prop) (hE : ∀ (x3 : Int32) (x4 : Int32) (ls : Array Slot), E x3 x4 → lv_has ls 7 [(0, .ref a_this), (1, .int x1), (2, .int x2), (3, .int x3), (4, .int x4)] → W p l e ({ frames := 2, cells := 0, slots := 0, locals := 55 } : Room) s m args below meth c s.heap [] 0 0 (MQ below (vp_Si Post) args s 0 0 (fun _ => False)) (F0 m 109 ls [])) : ∀ (n : Nat) (x3 : Int32) (x4 : Int32) (x5 : Int32) (ls : Array Slot), qv_X8_answered_L31 x1 x2 z_laid Post E n x3 x4 x5 → lv_has ls 7 [(0, .ref a_this), (1, .int x1), (2, .int x2), (3, .int x3), (4, .int x4), (5, .int x5)] → W p l e ({ frames := 2, cells := 0, slots := 0, locals := 55 } : Room) s m args below meth c s.heap [] 0 0 (MQ below (vp_Si Post) args s 0 0 (fun _ => False)) (F0 m 31 ls []) := by
  obtain ⟨hx, hb, hr, hml, hown, hts, hlocks⟩ := id C0
  intro n
  induction n with
  | zero =>
    intro x3 x4 x5 ls hV
    exact False.elim hV
  | succ n ih =>
    intro x3 x4 x5 ls hV hl
    refine lv_iload hx hb dX8_answered_31 (lv_at hl 5 rfl) ?_
    refine lv_aload_n hx hb dX8_answered_33 rfl (lv_at hl 0 rfl) ?_
    refine va_get (D := (dC, dI)) (ci := 8) (v := .ref a_this_laid) (C := RX8) (T := TX8) (N := 22) hx hb hts qi_X8_answered_X8 hown hK hP 0 rfl rfl 0 (by decide) (hts _ ql_X8_answered_7) (fun _ h9 => h9) rfl dX8_answered_34 ?_
    refine lv_iconst (v := (1 : Int32)) hx hb dX8_answered_37 (by decide) ?_
    obtain ⟨h5, hV⟩ := hV
    refine va_iald hx hb hK hP 1 0 rfl rfl h5 dX8_answered_38 ?_
    refine lv_icmp_ge (tgt := 109) hx hb dX8_answered_39 (by decide) (fun c6 => ?_) (fun c6 => ?_)
    · have hV := hV.1 c6
      exact hE x3 x4 ls hV (lv_sub hl [0, 1, 2, 3, 4] rfl)
    · have hV := hV.2 c6
      refine lv_aload_n hx hb dX8_answered_42 rfl (lv_at hl 0 rfl) ?_
      refine va_get (D := (dC, dI)) (ci := 8) (v := .ref a_this_laid) (C := RX8) (T := TX8) (N := 22) hx hb hts qi_X8_answered_X8 hown hK hP 0 rfl rfl 0 (by decide) (hts _ ql_X8_answered_7) (fun _ h9 => h9) rfl dX8_answered_43 ?_
      refine lv_bipush (v := (37 : Int32)) hx hb dX8_answered_46 (by decide) ?_
      refine lv_bipush (v := (6 : Int32)) hx hb dX8_answered_48 (by decide) ?_
      refine lv_iload_n hx hb dX8_answered_50 rfl (lv_at hl 1 rfl) ?_
      refine lv_imul hx hb dX8_answered_51 ?_
      refine lv_iadd hx hb dX8_answered_52 ?_
      refine lv_iload hx hb dX8_answered_53 (lv_at hl 5 rfl) ?_
      refine lv_iadd hx hb dX8_answered_55 ?_
      obtain ⟨h7, hV⟩ := hV
      refine va_iald hx hb hK hP 1 0 rfl rfl h7 dX8_answered_56 ?_
      refine lv_istore (lv' := [(6, .int (z_laid (((37 : Int32) + ((6 : Int32) * x1)) + x5).toNatClampNeg)), (0, .ref a_this), (1, .int x1), (2, .int x2), (3, .int x3), (4, .int x4), (5, .int x5)]) hx hb dX8_answered_57 hl (by decide) rfl (fun ls hl => ?_)
      refine lv_iload hx hb dX8_answered_59 (lv_at hl 5 rfl) ?_
      refine lv_iload hx hb dX8_answered_61 (lv_at hl 0 rfl) ?_
      refine lv_iadd hx hb dX8_answered_63 ?_
      refine lv_istore (lv' := [(4, .int (x4 + (z_laid (((37 : Int32) + ((6 : Int32) * x1)) + x5).toNatClampNeg))), (6, .int (z_laid (((37 : Int32) + ((6 : Int32) * x1)) + x5).toNatClampNeg)), (0, .ref a_this), (1, .int x1), (2, .int x2), (3, .int x3), (5, .int x5)]) hx hb dX8_answered_64 hl (by decide) rfl (fun ls hl => ?_)
      refine lv_iload hx hb dX8_answered_66 (lv_at hl 1 rfl) ?_
      refine lv_if_le (tgt := 101) hx hb dX8_answered_68 (by decide) (fun c8 => ?_) (fun c8 => ?_)
      · have hV := hV.1 c8
        refine lv_iload_n hx hb dX8_answered_101 rfl (lv_at hl 5 rfl) ?_
        refine lv_istore_n (lv' := [(3, .int x3), (4, .int (x4 + (z_laid (((37 : Int32) + ((6 : Int32) * x1)) + x5).toNatClampNeg))), (6, .int (z_laid (((37 : Int32) + ((6 : Int32) * x1)) + x5).toNatClampNeg)), (0, .ref a_this), (1, .int x1), (2, .int x2), (5, .int x5)]) hx hb dX8_answered_102 rfl hl (by decide) rfl (fun ls hl => ?_)
        refine lv_iinc (v := (x5 + (1 : Int32))) (lv' := [(5, .int (x5 + (1 : Int32))), (3, .int x3), (4, .int (x4 + (z_laid (((37 : Int32) + ((6 : Int32) * x1)) + x5).toNatClampNeg))), (6, .int (z_laid (((37 : Int32) + ((6 : Int32) * x1)) + x5).toNatClampNeg)), (0, .ref a_this), (1, .int x1), (2, .int x2)]) hx hb dX8_answered_103 hl (k := 6) rfl rfl (by decide) rfl (fun ls hl => ?_)
        refine lv_goto (tgt := 31) hx hb dX8_answered_106 (by decide) ?_
        exact ih x3 (x4 + (z_laid (((37 : Int32) + ((6 : Int32) * x1)) + x5).toNatClampNeg)) (x5 + (1 : Int32)) ls hV (lv_sub hl [4, 5, 6, 1, 2, 0] rfl)
      · have hV := hV.2 c8
        refine lv_iload_n hx hb dX8_answered_71 rfl (lv_at hl 5 rfl) ?_
        refine lv_bipush (v := (-4 : Int32)) hx hb dX8_answered_72 (by decide) ?_
        refine lv_icmp_eq (tgt := 96) hx hb dX8_answered_74 (by decide) (fun c9 => ?_) (fun c9 => ?_)
        · have hV := hV.1 c9
          refine lv_iload hx hb dX8_answered_96 (lv_at hl 6 rfl) ?_
          refine lv_goto (tgt := 102) hx hb dX8_answered_98 (by decide) ?_
          refine lv_istore_n (lv' := [(3, .int x5), (4, .int (x4 + (z_laid (((37 : Int32) + ((6 : Int32) * x1)) + x5).toNatClampNeg))), (6, .int (z_laid (((37 : Int32) + ((6 : Int32) * x1)) + x5).toNatClampNeg)), (0, .ref a_this), (1, .int x1), (2, .int x2), (5, .int x5)]) hx hb dX8_answered_102 rfl hl (by decide) rfl (fun ls hl => ?_)
          refine lv_iinc (v := (x5 + (1 : Int32))) (lv' := [(5, .int (x5 + (1 : Int32))), (3, .int x5), (4, .int (x4 + (z_laid (((37 : Int32) + ((6 : Int32) * x1)) + x5).toNatClampNeg))), (6, .int (z_laid (((37 : Int32) + ((6 : Int32) * x1)) + x5).toNatClampNeg)), (0, .ref a_this), (1, .int x1), (2, .int x2)]) hx hb dX8_answered_103 hl (k := 6) rfl rfl (by decide) rfl (fun ls hl => ?_)
          refine lv_goto (tgt := 31) hx hb dX8_answered_106 (by decide) ?_
          exact ih x5 (x4 + (z_laid (((37 : Int32) + ((6 : Int32) * x1)) + x5).toNatClampNeg)) (x5 + (1 : Int32)) ls hV (lv_sub hl [4, 5, 6, 1, 2, 0] rfl)
        · have hV := hV.2 c9
          refine lv_iload hx hb dX8_answered_77 (lv_at hl 1 rfl) ?_
          refine lv_aload_n hx hb dX8_answered_79 rfl (lv_at hl 2 rfl) ?_
          refine va_get (D := (dC, dI)) (ci := 8) (v := .ref a_this_laid) (C := RX8) (T := TX8) (N := 22) hx hb hts qi_X8_answered_X8 hown hK hP 0 rfl rfl 0 (by decide) (hts _ ql_X8_answered_7) (fun _ h9 => h9) rfl dX8_answered_80 ?_
          refine lv_bipush (v := (37 : Int32)) hx hb dX8_answered_83 (by decide) ?_
          refine lv_bipush (v := (6 : Int32)) hx hb dX8_answered_85 (by decide) ?_
          refine lv_iload_n hx hb dX8_answered_87 rfl (lv_at hl 3 rfl) ?_
          refine lv_imul hx hb dX8_answered_88 ?_
          refine lv_iadd hx hb dX8_answered_89 ?_
          refine lv_iload_n hx hb dX8_answered_90 rfl (lv_at hl 5 rfl) ?_
          refine lv_iadd hx hb dX8_answered_91 ?_
          obtain ⟨h10, hV⟩ := hV
          refine va_iald hx hb hK hP 1 0 rfl rfl h10 dX8_answered_92 ?_
          refine lv_icmp_le (tgt := 101) hx hb dX8_answered_93 (by decide) (fun c11 => ?_) (fun c11 => ?_)
          · have hV := hV.1 c11
            refine lv_iload_n hx hb dX8_answered_101 rfl (lv_at hl 5 rfl) ?_
            refine lv_istore_n (lv' := [(3, .int x3), (4, .int (x4 + (z_laid (((37 : Int32) + ((6 : Int32) * x1)) + x5).toNatClampNeg))), (6, .int (z_laid (((37 : Int32) + ((6 : Int32) * x1)) + x5).toNatClampNeg)), (0, .ref a_this), (1, .int x1), (2, .int x2), (5, .int x5)]) hx hb dX8_answered_102 rfl hl (by decide) rfl (fun ls hl => ?_)
            refine lv_iinc (v := (x5 + (1 : Int32))) (lv' := [(5, .int (x5 + (1 : Int32))), (3, .int x3), (4, .int (x4 + (z_laid (((37 : Int32) + ((6 : Int32) * x1)) + x5).toNatClampNeg))), (6, .int (z_laid (((37 : Int32) + ((6 : Int32) * x1)) + x5).toNatClampNeg)), (0, .ref a_this), (1, .int x1), (2, .int x2)]) hx hb dX8_answered_103 hl (k := 6) rfl rfl (by decide) rfl (fun ls hl => ?_)
            refine lv_goto (tgt := 31) hx hb dX8_answered_106 (by decide) ?_
            exact ih x3 (x4 + (z_laid (((37 : Int32) + ((6 : Int32) * x1)) + x5).toNatClampNeg)) (x5 + (1 : Int32)) ls hV (lv_sub hl [4, 5, 6, 1, 2, 0] rfl)
          · have hV := hV.2 c11
            refine lv_iload hx hb dX8_answered_96 (lv_at hl 6 rfl) ?_
            refine lv_goto (tgt := 102) hx hb dX8_answered_98 (by decide) ?_
            refine lv_istore_n (lv' := [(3, .int x5), (4, .int (x4 + (z_laid (((37 : Int32) + ((6 : Int32) * x1)) + x5).toNatClampNeg))), (6, .int (z_laid (((37 : Int32) + ((6 : Int32) * x1)) + x5).toNatClampNeg)), (0, .ref a_this), (1, .int x1), (2, .int x2), (5, .int x5)]) hx hb dX8_answered_102 rfl hl (by decide) rfl (fun ls hl => ?_)
            refine lv_iinc (v := (x5 + (1 : Int32))) (lv' := [(5, .int (x5 + (1 : Int32))), (3, .int x5), (4, .int (x4 + (z_laid (((37 : Int32) + ((6 : Int32) * x1)) + x5).toNatClampNeg))), (6, .int (z_laid (((37 : Int32) + ((6 : Int32) * x1)) + x5).toNatClampNeg)), (0, .ref a_this), (1, .int x1), (2, .int x2)]) hx hb dX8_answered_103 hl (k := 6) rfl rfl (by decide) rfl (fun ls hl => ?_)
            refine lv_goto (tgt := 31) hx hb dX8_answered_106 (by decide) ?_
            exact ih x5 (x4 + (z_laid (((37 : Int32) + ((6 : Int32) * x1)) + x5).toNatClampNeg)) (x5 + (1 : Int32)) ls hV (lv_sub hl [4, 5, 6, 1, 2, 0] rfl)
def qv_X8_answered (x1 : Int32) (x2 : Int32) (z_laid : Nat → Int32) (Post : Int32 → Prop) : Prop := qv_X8_isFriend x1 z_laid (fun r1 => (r1 = (0 : Int32) → Post (-1 : Int32)) ∧ (¬ r1 = (0 : Int32) → qv_X8_in (x2.toInt64) (0 : Int64) (2 : Int64) (fun r3 => (r3 = (0 : Int32) → Post (-1 : Int32)) ∧ (¬ r3 = (0 : Int32) → ∃ n12, qv_X8_answered_L31 x1 x2 z_laid Post (fun x3_12 x4_12 => (x3_12 = (-4 : Int32) → Post (-4 : Int32)) ∧ (¬ x3_12 = (-4 : Int32) → (x2 = (0 : Int32) → Post x3_12) ∧ (¬ x2 = (0 : Int32) → vp_in (((37 : Int32) + ((6 : Int32) * x1)) + x3_12) 73 ∧ (qv_X8_part ((z_laid (((37 : Int32) + ((6 : Int32) * x1)) + x3_12).toNatClampNeg).toInt64) (x4_12.toInt64) (x2 - (1 : Int32)) (fun r16 => Post (r16.toInt32)))))) n12 (-4 : Int32) (0 : Int32) (0 : Int32)))))
set_option maxHeartbeats 4000000 in
set_option maxRecDepth 100000 in
theorem qm_X8_answered (l : Launch) (dC : Nat → ClassId) (dI : Nat → Nat → Nat) (cI cJ cC cG cW : ClassId) (a_this a_this_laid a_this_text a_this_read a_this_numbers a_this_where a_this_sorts a_this_tells a_this_undone a_this_parts a_this_goesWith a_this_with a_this_keeps : Nat) (z_letters : Int32) (z_at : Int32) (z_walked : Int32) (z_counts : Int32) (z_undos : Int32) (z_all : Int64) (z_planned : Int64) (z_scale : Int64) (z_least : Int32) (z_kept : Int32) (z_laid : Nat → Int32) (x1 : Int32) (x2 : Int32) (Post : Int32 → Prop) (hV : qv_X8_answered x1 x2 z_laid Post) : Met l yX8_answered wsX8_answered ({ frames := 2, cells := 0, slots := 0, locals := 55 } : Room) (va_Pc [.ref a_this, .int x1, .int x2] (prR (dC, dI) (qw_X8_answered cI cJ cC cG cW a_this a_this_laid a_this_text a_this_read a_this_numbers a_this_where a_this_sorts a_this_tells a_this_undone a_this_parts a_this_goesWith a_this_with a_this_keeps z_letters z_at z_walked z_counts z_undos z_all z_planned z_scale z_least z_kept z_laid) (tyL cI cJ cC cG cW))) (vp_Si Post) 0 0 (fun _ => False) := by
  refine Met.ofR (nm := "answered") (ds := "(II)I") (own := RX8) (maxL := 7) (cc := cX8_answered) (ret := (some .int)) (by decide) rfl rfl (Nat.le_of_ble_eq_true rfl) (fun p e s m below meth c C0 hK hN hP ls hl => ?_)
  obtain ⟨hx, hb, hr, hml, hown, hts, hlocks⟩ := id C0
  have hl : lv_has ls 7 [(0, .ref a_this), (1, .int x1), (2, .int x2)] := hl
  refine lv_aload_n hx hb dX8_answered_0 rfl (lv_at hl 0 rfl) ?_
  refine lv_iload_n hx hb dX8_answered_1 rfl (lv_at hl 1 rfl) ?_
  refine vp_callSi (va_Run.run (va_runV (As := [.int x1]) (rest := []) ⟨hx, hb, hml, hown, hts⟩ (qm_X8_isFriend l dC dI cI cJ cC cG cW a_this a_this_laid a_this_text a_this_read a_this_numbers a_this_where a_this_sorts a_this_tells a_this_undone a_this_parts a_this_goesWith a_this_with a_this_keeps z_letters z_at z_walked z_counts z_undos z_all z_planned z_scale z_least z_kept z_laid x1 _ hV) (cwV 1 hts gX8_answered_X8_isFriend rfl rfl rfl (by decide +kernel) ⟨Nat.le_of_ble_eq_true rfl, Nat.le_of_ble_eq_true rfl⟩) (preRV hK hN (show va_P (dC, dI) vwCl (qw_X8_isFriend cI cJ cC cG cW a_this a_this_laid a_this_text a_this_read a_this_numbers a_this_where a_this_sorts a_this_tells a_this_undone a_this_parts a_this_goesWith a_this_with a_this_keeps z_letters z_at z_walked z_counts z_undos z_all z_planned z_scale z_least z_kept z_laid) s.heap from hP) rfl rfl) rfl rfl hl.1 rfl (lv_room (Nat.le_of_ble_eq_true rfl)) dX8_answered_2 ⟨Nat.le_of_ble_eq_true rfl, Nat.le_of_ble_eq_true rfl⟩)) (fun r1 hV => ?_)
  refine lv_if_eq (tgt := 20) hx hb dX8_answered_5 (by decide) (fun c2 => ?_) (fun c2 => ?_)
  · have hV := hV.1 c2
    refine lv_iconst (v := (-1 : Int32)) hx hb dX8_answered_20 (by decide) ?_
    exact W.iret hx hb hr (fun t ht hW => ⟨_, rfl, hV, ht⟩) (fun q h => absurd h List.not_mem_nil) dX8_answered_21 hlocks
  · have hV := hV.2 c2
    refine lv_iload_n hx hb dX8_answered_8 rfl (lv_at hl 2 rfl) ?_
    refine lv_i2l hx hb dX8_answered_9 rfl ?_
    refine lv_lconst (v := (0 : Int64)) hx hb dX8_answered_10 (by decide) ?_
    refine lv_ldc2 (v := (2 : Int64)) hx hb hown (hts _ ql_X8_answered_82) dX8_answered_11 ?_
    refine vp_callSi (va_Run.run (va_runS (As := [.long (x2.toInt64), .long (0 : Int64), .long (2 : Int64)]) (rest := []) ⟨hx, hb, hml, hown, hts⟩ (qm_X8_in l dC dI cI cJ cC cG cW (x2.toInt64) (0 : Int64) (2 : Int64) _ hV) (va_cwS 3 hts gX8_answered_X8_in rfl rfl rfl (by decide +kernel) ⟨Nat.le_of_ble_eq_true rfl, Nat.le_of_ble_eq_true rfl⟩) (preRS hK hN (show va_P (dC, dI) vwCl (qw_X8_in cI cJ cC cG cW) s.heap from fun k q h => by simp at h)) rfl rfl hl.1 rfl (lv_room (Nat.le_of_ble_eq_true rfl)) dX8_answered_14 ⟨Nat.le_of_ble_eq_true rfl, Nat.le_of_ble_eq_true rfl⟩)) (fun r3 hV => ?_)
    refine lv_if_ne (tgt := 22) hx hb dX8_answered_17 (by decide) (fun c4 => ?_) (fun c4 => ?_)
    · have hV := hV.2 c4
      refine lv_bipush (v := (-4 : Int32)) hx hb dX8_answered_22 (by decide) ?_
      refine lv_istore_n (lv' := [(3, .int (-4 : Int32)), (0, .ref a_this), (1, .int x1), (2, .int x2)]) hx hb dX8_answered_24 rfl hl (by decide) rfl (fun ls hl => ?_)
      refine lv_iconst (v := (0 : Int32)) hx hb dX8_answered_25 (by decide) ?_
      refine lv_istore (lv' := [(4, .int (0 : Int32)), (3, .int (-4 : Int32)), (0, .ref a_this), (1, .int x1), (2, .int x2)]) hx hb dX8_answered_26 hl (by decide) rfl (fun ls hl => ?_)
      refine lv_iconst (v := (0 : Int32)) hx hb dX8_answered_28 (by decide) ?_
      refine lv_istore (lv' := [(5, .int (0 : Int32)), (4, .int (0 : Int32)), (3, .int (-4 : Int32)), (0, .ref a_this), (1, .int x1), (2, .int x2)]) hx hb dX8_answered_29 hl (by decide) rfl (fun ls hl => ?_)
      obtain ⟨n12, hV⟩ := hV
      refine qt_X8_answered_L31 C0 hK hN z_letters z_at z_walked z_counts z_undos z_all z_planned z_scale z_least z_kept z_laid hP x1 x2 _ _ (fun x3_12 x4_12 ls hV hl => ?_) n12 (-4 : Int32) (0 : Int32) (0 : Int32) ls hV (lv_sub hl [3, 4, 5, 2, 1, 0] rfl)
      refine lv_iload_n hx hb dX8_answered_109 rfl (lv_at hl 3 rfl) ?_
      refine lv_bipush (v := (-4 : Int32)) hx hb dX8_answered_110 (by decide) ?_
      refine lv_icmp_ne (tgt := 120) hx hb dX8_answered_112 (by decide) (fun c13 => ?_) (fun c13 => ?_)
      · have hV := hV.2 c13
        refine lv_iload_n hx hb dX8_answered_120 rfl (lv_at hl 2 rfl) ?_
        refine lv_if_ne (tgt := 128) hx hb dX8_answered_121 (by decide) (fun c14 => ?_) (fun c14 => ?_)
        · have hV := hV.2 c14
          refine lv_aload_n hx hb dX8_answered_128 rfl (lv_at hl 0 rfl) ?_
          refine va_get (D := (dC, dI)) (ci := 8) (v := .ref a_this_laid) (C := RX8) (T := TX8) (N := 22) hx hb hts qi_X8_answered_X8 hown hK hP 0 rfl rfl 0 (by decide) (hts _ ql_X8_answered_7) (fun _ h9 => h9) rfl dX8_answered_129 ?_
          refine lv_bipush (v := (37 : Int32)) hx hb dX8_answered_132 (by decide) ?_
          refine lv_bipush (v := (6 : Int32)) hx hb dX8_answered_134 (by decide) ?_
          refine lv_iload_n hx hb dX8_answered_136 rfl (lv_at hl 1 rfl) ?_
          refine lv_imul hx hb dX8_answered_137 ?_
          refine lv_iadd hx hb dX8_answered_138 ?_
          refine lv_iload_n hx hb dX8_answered_139 rfl (lv_at hl 3 rfl) ?_
          refine lv_iadd hx hb dX8_answered_140 ?_
          obtain ⟨h15, hV⟩ := hV
          refine va_iald hx hb hK hP 1 0 rfl rfl h15 dX8_answered_141 ?_
          refine lv_i2l hx hb dX8_answered_142 rfl ?_
          refine lv_iload hx hb dX8_answered_143 (lv_at hl 4 rfl) ?_
          refine lv_i2l hx hb dX8_answered_145 rfl ?_
          refine lv_iload_n hx hb dX8_answered_146 rfl (lv_at hl 2 rfl) ?_
          refine lv_iconst (v := (1 : Int32)) hx hb dX8_answered_147 (by decide) ?_
          refine lv_isub hx hb dX8_answered_148 ?_
          refine vp_callSl (va_Run.run (va_runS (As := [.long ((z_laid (((37 : Int32) + ((6 : Int32) * x1)) + x3_12).toNatClampNeg).toInt64), .long (x4_12.toInt64), .int (x2 - (1 : Int32))]) (rest := []) ⟨hx, hb, hml, hown, hts⟩ (qm_X8_part l dC dI cI cJ cC cG cW ((z_laid (((37 : Int32) + ((6 : Int32) * x1)) + x3_12).toNatClampNeg).toInt64) (x4_12.toInt64) (x2 - (1 : Int32)) _ hV) (va_cwS 3 hts gX8_answered_X8_part rfl rfl rfl (by decide +kernel) ⟨Nat.le_of_ble_eq_true rfl, Nat.le_of_ble_eq_true rfl⟩) (preRS hK hN (show va_P (dC, dI) vwCl (qw_X8_part cI cJ cC cG cW) s.heap from fun k q h => by simp at h)) rfl rfl hl.1 rfl (lv_room (Nat.le_of_ble_eq_true rfl)) dX8_answered_149 ⟨Nat.le_of_ble_eq_true rfl, Nat.le_of_ble_eq_true rfl⟩)) (fun r16 hV => ?_)
          refine lv_l2i hx hb dX8_answered_152 rfl ?_
          exact W.iret hx hb hr (fun t ht hW => ⟨_, rfl, hV, ht⟩) (fun q h => absurd h List.not_mem_nil) dX8_answered_153 hlocks
        · have hV := hV.1 c14
          refine lv_iload_n hx hb dX8_answered_124 rfl (lv_at hl 3 rfl) ?_
          refine lv_goto (tgt := 153) hx hb dX8_answered_125 (by decide) ?_
          exact W.iret hx hb hr (fun t ht hW => ⟨_, rfl, hV, ht⟩) (fun q h => absurd h List.not_mem_nil) dX8_answered_153 hlocks
      · have hV := hV.1 c13
        refine lv_bipush (v := (-4 : Int32)) hx hb dX8_answered_115 (by decide) ?_
        refine lv_goto (tgt := 153) hx hb dX8_answered_117 (by decide) ?_
        exact W.iret hx hb hr (fun t ht hW => ⟨_, rfl, hV, ht⟩) (fun q h => absurd h List.not_mem_nil) dX8_answered_153 hlocks
    · have hV := hV.1 c4
      refine lv_iconst (v := (-1 : Int32)) hx hb dX8_answered_20 (by decide) ?_
      exact W.iret hx hb hr (fun t ht hW => ⟨_, rfl, hV, ht⟩) (fun q h => absurd h List.not_mem_nil) dX8_answered_21 hlocks

/-! StileCountsModel.marches()V -/
abbrev qw_X8_marches (cI cJ cC cG cW : ClassId) (a_this a_this_laid a_this_text a_this_read a_this_numbers a_this_where a_this_sorts a_this_tells a_this_undone a_this_parts a_this_goesWith a_this_with a_this_keeps : Nat) (z_letters : Int32) (z_at : Int32) (z_walked : Int32) (z_counts : Int32) (z_undos : Int32) (z_all : Int64) (z_planned : Int64) (z_scale : Int64) (z_least : Int32) (z_kept : Int32) (z_laid : Nat → Int32) (z_goesWith : Nat → Int32) (z_with : Nat → Int32) : va_W := [(a_this, .inr (8, [.ref a_this_laid, .ref a_this_text, .int z_letters, .ref a_this_read, .int z_at, .ref a_this_numbers, .int z_walked, .int z_counts, .ref a_this_where, .ref a_this_sorts, .ref a_this_tells, .int z_undos, .ref a_this_undone, .ref a_this_parts, .long z_all, .long z_planned, .long z_scale, .ref a_this_goesWith, .int z_least, .ref a_this_with, .int z_kept, .ref a_this_keeps])), (a_this_laid, .inl (cI, 73, .inl z_laid)), (a_this_goesWith, .inl (cI, 6, .inl z_goesWith)), (a_this_with, .inl (cI, 6, .inl z_with))]
theorem qi_X8_marches_X8 : ∀ w ∈ wsX80, w ∈ wsX8_marches := by decide +kernel
theorem ql_X8_marches_7 : (.fieldLink RX8 7 "StileCountsModel" "laid" "[I" : Cond) ∈ wsX8_marches := by decide +kernel
theorem ql_X8_marches_200 : (.fieldLink RX8 200 "StileCountsModel" "least" "I" : Cond) ∈ wsX8_marches := by decide +kernel
theorem ql_X8_marches_41 : (.fieldLink RX8 41 "StileCountsModel" "with" "[I" : Cond) ∈ wsX8_marches := by decide +kernel
theorem ql_X8_marches_38 : (.fieldLink RX8 38 "StileCountsModel" "goesWith" "[I" : Cond) ∈ wsX8_marches := by decide +kernel
def qv_X8_marches_J173 (k0 : Int32) (x1 : Int32) (x2 : Int32) (x3 : Int32) (x4 : Int32) (x5 : Int32) (x6 : Int32) (x7 : Int32) (x9 : Int32) (x11 : Int32) (z_least : Int32) (z_laid : Nat → Int32) (z_goesWith : Nat → Int32) (z_with : Nat → Int32) (Post : (Int32) → (Nat → Int32) → (Nat → Int32) → Prop) (K : (Int32) → (Int32) → (Int32) → (Int32) → (Int32) → (Int32) → (Nat → Int32) → Prop) (E : (Int32) → (Int32) → (Int32) → (Nat → Int32) → Prop) : Prop := (k0 = (0 : Int32) → K x4 x5 x6 x7 k0 (x9 + (1 : Int32)) z_with) ∧ (¬ k0 = (0 : Int32) → vp_in (((37 : Int32) + ((6 : Int32) * x9)) + x11) 73 ∧ (vp_in x9 6 ∧ (vp_in x11 6 ∧ (K (x4 ||| (((1 : Int32) <<< (x9 &&& 31)) ||| ((1 : Int32) <<< (x11 &&& 31)))) x5 (x6 + (z_laid (((37 : Int32) + ((6 : Int32) * x9)) + x11).toNatClampNeg)) x7 k0 (x9 + (1 : Int32)) (upd (upd z_with x9.toNatClampNeg x11) x11.toNatClampNeg x9)))))
set_option maxHeartbeats 4000000 in
set_option maxRecDepth 100000 in
theorem qt_X8_marches_J173 {p : Program} {l : Launch} {e : Env} {s : State} {m : MethodId} {args : Array Value} {below : List Frame} {meth : Method} {c : Code} {dC : Nat → ClassId} {dI : Nat → Nat → Nat} {cI cJ cC cG cW : ClassId} {a_this a_this_laid a_this_text a_this_read a_this_numbers a_this_where a_this_sorts a_this_tells a_this_undone a_this_parts a_this_goesWith a_this_with a_this_keeps : Nat} {A : Nat → Prop} (C0 : MC cX8_marches 12 none RX8 wsX8_marches p s m args meth c) (hK : va_K (dC, dI) vwCl (tyL cI cJ cC cG cW) s) (hN : NW s) (hA : ∀ q, s.heap.size ≤ q → A q) (z_letters : Int32) (z_at : Int32) (z_walked : Int32) (z_counts : Int32) (z_undos : Int32) (z_all : Int64) (z_planned : Int64) (z_scale : Int64) (z_least : Int32) (z_kept : Int32) (z_laid : Nat → Int32) (z_goesWith : Nat → Int32) (z_with : Nat → Int32) (k0 : Int32) (x1 : Int32) (x2 : Int32) (x3 : Int32) (x4 : Int32) (x5 : Int32) (x6 : Int32) (x7 : Int32) (x9 : Int32) (x11 : Int32) (Post : (Int32) → (Nat → Int32) → (Nat → Int32) → Prop) (K : (Int32) → (Int32) → (Int32) → (Int32) → (Int32) → (Int32) → (Nat → Int32) → Prop) (E : (Int32) → (Int32) → (Int32) → (Nat → Int32) → Prop) (hKb : ∀ (x4 : Int32) (x5 : Int32) (x6 : Int32) (x7 : Int32) (x8 : Int32) (x9 : Int32) (z_with : Nat → Int32) (H : Heap) (locs : List Loc) (ls : Array Slot), K x4 x5 x6 x7 x8 x9 z_with → va_P (dC, dI) vwCl (qw_X8_marches cI cJ cC cG cW a_this a_this_laid a_this_text a_this_read a_this_numbers a_this_where a_this_sorts a_this_tells a_this_undone a_this_parts a_this_goesWith a_this_with a_this_keeps z_letters z_at z_walked z_counts z_undos z_all z_planned z_scale z_least z_kept z_laid z_goesWith z_with) H → va_D A (qw_X8_marches cI cJ cC cG cW a_this a_this_laid a_this_text a_this_read a_this_numbers a_this_where a_this_sorts a_this_tells a_this_undone a_this_parts a_this_goesWith a_this_with a_this_keeps z_letters z_at z_walked z_counts z_undos z_all z_planned z_scale z_least z_kept z_laid z_goesWith z_with) → va_S A s.heap H locs → lv_has ls 12 [(0, .ref a_this), (1, .int x1), (2, .int x2), (3, .int x3), (4, .int x4), (5, .int x5), (6, .int x6), (7, .int x7), (8, .int x8), (9, .int x9)] → W p l e ({ frames := 1, cells := 0, slots := 0, locals := 24 } : Room) s m args below meth c H locs 0 0 (MQ below (va_Qv (fun (u : (Int32) × (Nat → Int32) × (Nat → Int32)) => Post u.1 u.2.1 u.2.2) (fun u t => poW (dC, dI) (tyL cI cJ cC cG cW) A (qw_X8_marches cI cJ cC cG cW a_this a_this_laid a_this_text a_this_read a_this_numbers a_this_where a_this_sorts a_this_tells a_this_undone a_this_parts a_this_goesWith a_this_with a_this_keeps z_letters z_at z_walked z_counts z_undos z_all z_planned z_scale u.1 z_kept z_laid u.2.1 u.2.2) t) A) args s 0 0 A) (F0 m 45 ls [])) (hE : ∀ (x5 : Int32) (x6 : Int32) (x8 : Int32) (z_with : Nat → Int32) (H : Heap) (locs : List Loc) (ls : Array Slot), E x5 x6 x8 z_with → va_P (dC, dI) vwCl (qw_X8_marches cI cJ cC cG cW a_this a_this_laid a_this_text a_this_read a_this_numbers a_this_where a_this_sorts a_this_tells a_this_undone a_this_parts a_this_goesWith a_this_with a_this_keeps z_letters z_at z_walked z_counts z_undos z_all z_planned z_scale z_least z_kept z_laid z_goesWith z_with) H → va_D A (qw_X8_marches cI cJ cC cG cW a_this a_this_laid a_this_text a_this_read a_this_numbers a_this_where a_this_sorts a_this_tells a_this_undone a_this_parts a_this_goesWith a_this_with a_this_keeps z_letters z_at z_walked z_counts z_undos z_all z_planned z_scale z_least z_kept z_laid z_goesWith z_with) → va_S A s.heap H locs → lv_has ls 12 [(0, .ref a_this), (1, .int x1), (2, .int x2), (3, .int x3), (5, .int x5), (6, .int x6), (8, .int x8)] → W p l e ({ frames := 1, cells := 0, slots := 0, locals := 24 } : Room) s m args below meth c H locs 0 0 (MQ below (va_Qv (fun (u : (Int32) × (Nat → Int32) × (Nat → Int32)) => Post u.1 u.2.1 u.2.2) (fun u t => poW (dC, dI) (tyL cI cJ cC cG cW) A (qw_X8_marches cI cJ cC cG cW a_this a_this_laid a_this_text a_this_read a_this_numbers a_this_where a_this_sorts a_this_tells a_this_undone a_this_parts a_this_goesWith a_this_with a_this_keeps z_letters z_at z_walked z_counts z_undos z_all z_planned z_scale u.1 z_kept z_laid u.2.1 u.2.2) t) A) args s 0 0 A) (F0 m 239 ls [])) (H : Heap) (locs : List Loc) (ls : Array Slot) (hV : qv_X8_marches_J173 k0 x1 x2 x3 x4 x5 x6 x7 x9 x11 z_least z_laid z_goesWith z_with Post K E) (hP : va_P (dC, dI) vwCl (qw_X8_marches cI cJ cC cG cW a_this a_this_laid a_this_text a_this_read a_this_numbers a_this_where a_this_sorts a_this_tells a_this_undone a_this_parts a_this_goesWith a_this_with a_this_keeps z_letters z_at z_walked z_counts z_undos z_all z_planned z_scale z_least z_kept z_laid z_goesWith z_with) H) (hD : va_D A (qw_X8_marches cI cJ cC cG cW a_this a_this_laid a_this_text a_this_read a_this_numbers a_this_where a_this_sorts a_this_tells a_this_undone a_this_parts a_this_goesWith a_this_with a_this_keeps z_letters z_at z_walked z_counts z_undos z_all z_planned z_scale z_least z_kept z_laid z_goesWith z_with)) (hS : va_S A s.heap H locs) (hl : lv_has ls 12 [(0, .ref a_this), (1, .int x1), (2, .int x2), (3, .int x3), (4, .int x4), (5, .int x5), (6, .int x6), (7, .int x7), (9, .int x9), (11, .int x11)]) : W p l e ({ frames := 1, cells := 0, slots := 0, locals := 24 } : Room) s m args below meth c H locs 0 0 (MQ below (va_Qv (fun (u : (Int32) × (Nat → Int32) × (Nat → Int32)) => Post u.1 u.2.1 u.2.2) (fun u t => poW (dC, dI) (tyL cI cJ cC cG cW) A (qw_X8_marches cI cJ cC cG cW a_this a_this_laid a_this_text a_this_read a_this_numbers a_this_where a_this_sorts a_this_tells a_this_undone a_this_parts a_this_goesWith a_this_with a_this_keeps z_letters z_at z_walked z_counts z_undos z_all z_planned z_scale u.1 z_kept z_laid u.2.1 u.2.2) t) A) args s 0 0 A) (F0 m 173 ls [.int k0]) := by
  obtain ⟨hx, hb, hr, hml, hown, hts, hlocks⟩ := id C0
  refine lv_istore (lv' := [(8, .int k0), (0, .ref a_this), (1, .int x1), (2, .int x2), (3, .int x3), (4, .int x4), (5, .int x5), (6, .int x6), (7, .int x7), (9, .int x9), (11, .int x11)]) hx hb dX8_marches_173 hl (by decide) rfl (fun ls hl => ?_)
  refine lv_iload hx hb dX8_marches_175 (lv_at hl 0 rfl) ?_
  refine lv_if_eq (tgt := 233) hx hb dX8_marches_177 (by decide) (fun c13 => ?_) (fun c13 => ?_)
  · have hV := hV.1 c13
    refine lv_iinc (v := (x9 + (1 : Int32))) (lv' := [(9, .int (x9 + (1 : Int32))), (8, .int k0), (0, .ref a_this), (1, .int x1), (2, .int x2), (3, .int x3), (4, .int x4), (5, .int x5), (6, .int x6), (7, .int x7), (11, .int x11)]) hx hb dX8_marches_233 hl (k := 9) rfl rfl (by decide) rfl (fun ls hl => ?_)
    refine lv_goto (tgt := 45) hx hb dX8_marches_236 (by decide) ?_
    exact hKb x4 x5 x6 x7 k0 (x9 + (1 : Int32)) z_with H locs ls hV hP hD hS (lv_sub hl [2, 3, 4, 5, 6, 7, 8, 9, 1, 0] rfl)
  · have hV := hV.2 c13
    refine lv_iload hx hb dX8_marches_180 (lv_at hl 7 rfl) ?_
    refine lv_aload_n hx hb dX8_marches_182 rfl (lv_at hl 1 rfl) ?_
    refine va_get (D := (dC, dI)) (ci := 8) (v := .ref a_this_laid) (C := RX8) (T := TX8) (N := 22) hx hb hts qi_X8_marches_X8 hown hK hP 0 rfl rfl 0 (by decide) (hts _ ql_X8_marches_7) (fun _ h9 => h9) rfl dX8_marches_183 ?_
    refine lv_bipush (v := (37 : Int32)) hx hb dX8_marches_186 (by decide) ?_
    refine lv_bipush (v := (6 : Int32)) hx hb dX8_marches_188 (by decide) ?_
    refine lv_iload hx hb dX8_marches_190 (lv_at hl 9 rfl) ?_
    refine lv_imul hx hb dX8_marches_192 ?_
    refine lv_iadd hx hb dX8_marches_193 ?_
    refine lv_iload hx hb dX8_marches_194 (lv_at hl 10 rfl) ?_
    refine lv_iadd hx hb dX8_marches_196 ?_
    obtain ⟨h14, hV⟩ := hV
    refine va_iald hx hb hK hP 1 0 rfl rfl h14 dX8_marches_197 ?_
    refine lv_iadd hx hb dX8_marches_198 ?_
    refine lv_istore (lv' := [(6, .int (x6 + (z_laid (((37 : Int32) + ((6 : Int32) * x9)) + x11).toNatClampNeg))), (8, .int k0), (0, .ref a_this), (1, .int x1), (2, .int x2), (3, .int x3), (4, .int x4), (5, .int x5), (7, .int x7), (9, .int x9), (11, .int x11)]) hx hb dX8_marches_199 hl (by decide) rfl (fun ls hl => ?_)
    refine lv_aload_n hx hb dX8_marches_201 rfl (lv_at hl 2 rfl) ?_
    refine va_get (D := (dC, dI)) (ci := 8) (v := .ref a_this_with) (C := RX8) (T := TX8) (N := 22) hx hb hts qi_X8_marches_X8 hown hK hP 0 rfl rfl 19 (by decide) (hts _ ql_X8_marches_41) (fun _ h9 => h9) rfl dX8_marches_202 ?_
    refine lv_iload hx hb dX8_marches_205 (lv_at hl 9 rfl) ?_
    refine lv_iload hx hb dX8_marches_207 (lv_at hl 10 rfl) ?_
    obtain ⟨h15, hV⟩ := hV
    refine va_iast hx hb hK hP hD hS 3 0 rfl rfl h15 dX8_marches_209 (fun H locs hP hD hS => ?_)
    have hP : va_P (dC, dI) vwCl (qw_X8_marches cI cJ cC cG cW a_this a_this_laid a_this_text a_this_read a_this_numbers a_this_where a_this_sorts a_this_tells a_this_undone a_this_parts a_this_goesWith a_this_with a_this_keeps z_letters z_at z_walked z_counts z_undos z_all z_planned z_scale z_least z_kept z_laid z_goesWith (upd z_with x9.toNatClampNeg x11)) H := hP
    have hD : va_D A (qw_X8_marches cI cJ cC cG cW a_this a_this_laid a_this_text a_this_read a_this_numbers a_this_where a_this_sorts a_this_tells a_this_undone a_this_parts a_this_goesWith a_this_with a_this_keeps z_letters z_at z_walked z_counts z_undos z_all z_planned z_scale z_least z_kept z_laid z_goesWith (upd z_with x9.toNatClampNeg x11)) := hD
    refine lv_aload_n hx hb dX8_marches_210 rfl (lv_at hl 2 rfl) ?_
    refine va_get (D := (dC, dI)) (ci := 8) (v := .ref a_this_with) (C := RX8) (T := TX8) (N := 22) hx hb hts qi_X8_marches_X8 hown hK hP 0 rfl rfl 19 (by decide) (hts _ ql_X8_marches_41) (fun _ h9 => h9) rfl dX8_marches_211 ?_
    refine lv_iload hx hb dX8_marches_214 (lv_at hl 10 rfl) ?_
    refine lv_iload hx hb dX8_marches_216 (lv_at hl 9 rfl) ?_
    obtain ⟨h16, hV⟩ := hV
    refine va_iast hx hb hK hP hD hS 3 0 rfl rfl h16 dX8_marches_218 (fun H locs hP hD hS => ?_)
    have hP : va_P (dC, dI) vwCl (qw_X8_marches cI cJ cC cG cW a_this a_this_laid a_this_text a_this_read a_this_numbers a_this_where a_this_sorts a_this_tells a_this_undone a_this_parts a_this_goesWith a_this_with a_this_keeps z_letters z_at z_walked z_counts z_undos z_all z_planned z_scale z_least z_kept z_laid z_goesWith (upd (upd z_with x9.toNatClampNeg x11) x11.toNatClampNeg x9)) H := hP
    have hD : va_D A (qw_X8_marches cI cJ cC cG cW a_this a_this_laid a_this_text a_this_read a_this_numbers a_this_where a_this_sorts a_this_tells a_this_undone a_this_parts a_this_goesWith a_this_with a_this_keeps z_letters z_at z_walked z_counts z_undos z_all z_planned z_scale z_least z_kept z_laid z_goesWith (upd (upd z_with x9.toNatClampNeg x11) x11.toNatClampNeg x9)) := hD
    refine lv_iload hx hb dX8_marches_219 (lv_at hl 6 rfl) ?_
    refine lv_iconst (v := (1 : Int32)) hx hb dX8_marches_221 (by decide) ?_
    refine lv_iload hx hb dX8_marches_222 (lv_at hl 9 rfl) ?_
    refine lv_ishl hx hb dX8_marches_224 ?_
    refine lv_iconst (v := (1 : Int32)) hx hb dX8_marches_225 (by decide) ?_
    refine lv_iload hx hb dX8_marches_226 (lv_at hl 10 rfl) ?_
    refine lv_ishl hx hb dX8_marches_228 ?_
    refine lv_ior hx hb dX8_marches_229 ?_
    refine lv_ior hx hb dX8_marches_230 ?_
    refine lv_istore (lv' := [(4, .int (x4 ||| (((1 : Int32) <<< (x9 &&& 31)) ||| ((1 : Int32) <<< (x11 &&& 31))))), (6, .int (x6 + (z_laid (((37 : Int32) + ((6 : Int32) * x9)) + x11).toNatClampNeg))), (8, .int k0), (0, .ref a_this), (1, .int x1), (2, .int x2), (3, .int x3), (5, .int x5), (7, .int x7), (9, .int x9), (11, .int x11)]) hx hb dX8_marches_231 hl (by decide) rfl (fun ls hl => ?_)
    refine lv_iinc (v := (x9 + (1 : Int32))) (lv' := [(9, .int (x9 + (1 : Int32))), (4, .int (x4 ||| (((1 : Int32) <<< (x9 &&& 31)) ||| ((1 : Int32) <<< (x11 &&& 31))))), (6, .int (x6 + (z_laid (((37 : Int32) + ((6 : Int32) * x9)) + x11).toNatClampNeg))), (8, .int k0), (0, .ref a_this), (1, .int x1), (2, .int x2), (3, .int x3), (5, .int x5), (7, .int x7), (11, .int x11)]) hx hb dX8_marches_233 hl (k := 9) rfl rfl (by decide) rfl (fun ls hl => ?_)
    refine lv_goto (tgt := 45) hx hb dX8_marches_236 (by decide) ?_
    exact hKb (x4 ||| (((1 : Int32) <<< (x9 &&& 31)) ||| ((1 : Int32) <<< (x11 &&& 31)))) x5 (x6 + (z_laid (((37 : Int32) + ((6 : Int32) * x9)) + x11).toNatClampNeg)) x7 k0 (x9 + (1 : Int32)) (upd (upd z_with x9.toNatClampNeg x11) x11.toNatClampNeg x9) H locs ls hV hP hD hS (lv_sub hl [4, 5, 6, 7, 1, 8, 2, 9, 3, 0] rfl)
def qv_X8_marches_L45 (x1 : Int32) (x2 : Int32) (x3 : Int32) (z_least : Int32) (z_laid : Nat → Int32) (z_goesWith : Nat → Int32) (Post : (Int32) → (Nat → Int32) → (Nat → Int32) → Prop) (E : (Int32) → (Int32) → (Int32) → (Nat → Int32) → Prop) : Nat → (Int32) → (Int32) → (Int32) → (Int32) → (Int32) → (Int32) → (Nat → Int32) → Prop
  | 0, _, _, _, _, _, _, _ => False
  | n + 1, x4, x5, x6, x7, x8, x9, z_with => (x1 ≤ x9 → E x5 x6 x8 z_with) ∧ (¬ x1 ≤ x9 → (x8 = (0 : Int32) → E x5 x6 x8 z_with) ∧ (¬ x8 = (0 : Int32) → qv_X8_power (6 : Int32) ((x1 - (1 : Int32)) - x9) (fun r6 => (¬ r6 = (0 : Int32)) ∧ (qv_X8_power (6 : Int32) ((x1 - (1 : Int32)) - x9) (fun r8 => (¬ r8 = (0 : Int32)) ∧ ((((x4 >>> (x9 &&& 31)) &&& (1 : Int32)) = (1 : Int32) → ((x7 / r6) = (0 : Int32) → qv_X8_marches_L45 x1 x2 x3 z_least z_laid z_goesWith Post E n x4 x5 x6 (x7 - x7 / r8 * r8) (1 : Int32) (x9 + (1 : Int32)) z_with) ∧ (¬ (x7 / r6) = (0 : Int32) → qv_X8_marches_L45 x1 x2 x3 z_least z_laid z_goesWith Post E n x4 x5 x6 (x7 - x7 / r8 * r8) (0 : Int32) (x9 + (1 : Int32)) z_with)) ∧ (¬ ((x4 >>> (x9 &&& 31)) &&& (1 : Int32)) = (1 : Int32) → ((x7 / r6) = (0 : Int32) → vp_in x9 6 ∧ (qv_X8_marches_L45 x1 x2 x3 z_least z_laid z_goesWith Post E n (x4 ||| ((1 : Int32) <<< (x9 &&& 31))) (x5 + (1 : Int32)) x6 (x7 - x7 / r8 * r8) x8 (x9 + (1 : Int32)) (upd z_with x9.toNatClampNeg (-4 : Int32)))) ∧ (¬ (x7 / r6) = (0 : Int32) → (x1 ≤ (x9 + (x7 / r6)) → qv_X8_marches_J173 (0 : Int32) x1 x2 x3 x4 x5 x6 (x7 - x7 / r8 * r8) x9 (x9 + (x7 / r6)) z_least z_laid z_goesWith z_with Post (qv_X8_marches_L45 x1 x2 x3 z_least z_laid z_goesWith Post E n) E) ∧ (¬ x1 ≤ (x9 + (x7 / r6)) → (((x4 >>> ((x9 + (x7 / r6)) &&& 31)) &&& (1 : Int32)) = (0 : Int32) → qv_X8_marches_J173 (1 : Int32) x1 x2 x3 x4 x5 x6 (x7 - x7 / r8 * r8) x9 (x9 + (x7 / r6)) z_least z_laid z_goesWith z_with Post (qv_X8_marches_L45 x1 x2 x3 z_least z_laid z_goesWith Post E n) E) ∧ (¬ ((x4 >>> ((x9 + (x7 / r6)) &&& 31)) &&& (1 : Int32)) = (0 : Int32) → qv_X8_marches_J173 (0 : Int32) x1 x2 x3 x4 x5 x6 (x7 - x7 / r8 * r8) x9 (x9 + (x7 / r6)) z_least z_laid z_goesWith z_with Post (qv_X8_marches_L45 x1 x2 x3 z_least z_laid z_goesWith Post E n) E))))))))))
set_option maxHeartbeats 4000000 in
set_option maxRecDepth 100000 in
theorem qt_X8_marches_L45 {p : Program} {l : Launch} {e : Env} {s : State} {m : MethodId} {args : Array Value} {below : List Frame} {meth : Method} {c : Code} {dC : Nat → ClassId} {dI : Nat → Nat → Nat} {cI cJ cC cG cW : ClassId} {a_this a_this_laid a_this_text a_this_read a_this_numbers a_this_where a_this_sorts a_this_tells a_this_undone a_this_parts a_this_goesWith a_this_with a_this_keeps : Nat} {A : Nat → Prop} (C0 : MC cX8_marches 12 none RX8 wsX8_marches p s m args meth c) (hK : va_K (dC, dI) vwCl (tyL cI cJ cC cG cW) s) (hN : NW s) (hA : ∀ q, s.heap.size ≤ q → A q) (z_letters : Int32) (z_at : Int32) (z_walked : Int32) (z_counts : Int32) (z_undos : Int32) (z_all : Int64) (z_planned : Int64) (z_scale : Int64) (z_least : Int32) (z_kept : Int32) (z_laid : Nat → Int32) (z_goesWith : Nat → Int32) (x1 : Int32) (x2 : Int32) (x3 : Int32) (Post : (Int32) → (Nat → Int32) → (Nat → Int32) → Prop) (E : (Int32) → (Int32) → (Int32) → (Nat → Int32) → Prop) (hE : ∀ (x5 : Int32) (x6 : Int32) (x8 : Int32) (z_with : Nat → Int32) (H : Heap) (locs : List Loc) (ls : Array Slot), E x5 x6 x8 z_with → va_P (dC, dI) vwCl (qw_X8_marches cI cJ cC cG cW a_this a_this_laid a_this_text a_this_read a_this_numbers a_this_where a_this_sorts a_this_tells a_this_undone a_this_parts a_this_goesWith a_this_with a_this_keeps z_letters z_at z_walked z_counts z_undos z_all z_planned z_scale z_least z_kept z_laid z_goesWith z_with) H → va_D A (qw_X8_marches cI cJ cC cG cW a_this a_this_laid a_this_text a_this_read a_this_numbers a_this_where a_this_sorts a_this_tells a_this_undone a_this_parts a_this_goesWith a_this_with a_this_keeps z_letters z_at z_walked z_counts z_undos z_all z_planned z_scale z_least z_kept z_laid z_goesWith z_with) → va_S A s.heap H locs → lv_has ls 12 [(0, .ref a_this), (1, .int x1), (2, .int x2), (3, .int x3), (5, .int x5), (6, .int x6), (8, .int x8)] → W p l e ({ frames := 1, cells := 0, slots := 0, locals := 24 } : Room) s m args below meth c H locs 0 0 (MQ below (va_Qv (fun (u : (Int32) × (Nat → Int32) × (Nat → Int32)) => Post u.1 u.2.1 u.2.2) (fun u t => poW (dC, dI) (tyL cI cJ cC cG cW) A (qw_X8_marches cI cJ cC cG cW a_this a_this_laid a_this_text a_this_read a_this_numbers a_this_where a_this_sorts a_this_tells a_this_undone a_this_parts a_this_goesWith a_this_with a_this_keeps z_letters z_at z_walked z_counts z_undos z_all z_planned z_scale u.1 z_kept z_laid u.2.1 u.2.2) t) A) args s 0 0 A) (F0 m 239 ls [])) : ∀ (n : Nat) (x4 : Int32) (x5 : Int32) (x6 : Int32) (x7 : Int32) (x8 : Int32) (x9 : Int32) (z_with : Nat → Int32) (H : Heap) (locs : List Loc) (ls : Array Slot), qv_X8_marches_L45 x1 x2 x3 z_least z_laid z_goesWith Post E n x4 x5 x6 x7 x8 x9 z_with → va_P (dC, dI) vwCl (qw_X8_marches cI cJ cC cG cW a_this a_this_laid a_this_text a_this_read a_this_numbers a_this_where a_this_sorts a_this_tells a_this_undone a_this_parts a_this_goesWith a_this_with a_this_keeps z_letters z_at z_walked z_counts z_undos z_all z_planned z_scale z_least z_kept z_laid z_goesWith z_with) H → va_D A (qw_X8_marches cI cJ cC cG cW a_this a_this_laid a_this_text a_this_read a_this_numbers a_this_where a_this_sorts a_this_tells a_this_undone a_this_parts a_this_goesWith a_this_with a_this_keeps z_letters z_at z_walked z_counts z_undos z_all z_planned z_scale z_least z_kept z_laid z_goesWith z_with) → va_S A s.heap H locs → lv_has ls 12 [(0, .ref a_this), (1, .int x1), (2, .int x2), (3, .int x3), (4, .int x4), (5, .int x5), (6, .int x6), (7, .int x7), (8, .int x8), (9, .int x9)] → W p l e ({ frames := 1, cells := 0, slots := 0, locals := 24 } : Room) s m args below meth c H locs 0 0 (MQ below (va_Qv (fun (u : (Int32) × (Nat → Int32) × (Nat → Int32)) => Post u.1 u.2.1 u.2.2) (fun u t => poW (dC, dI) (tyL cI cJ cC cG cW) A (qw_X8_marches cI cJ cC cG cW a_this a_this_laid a_this_text a_this_read a_this_numbers a_this_where a_this_sorts a_this_tells a_this_undone a_this_parts a_this_goesWith a_this_with a_this_keeps z_letters z_at z_walked z_counts z_undos z_all z_planned z_scale u.1 z_kept z_laid u.2.1 u.2.2) t) A) args s 0 0 A) (F0 m 45 ls []) := by
  obtain ⟨hx, hb, hr, hml, hown, hts, hlocks⟩ := id C0
  intro n
  induction n with
  | zero =>
    intro x4 x5 x6 x7 x8 x9 z_with H locs ls hV
    exact False.elim hV
  | succ n ih =>
    intro x4 x5 x6 x7 x8 x9 z_with H locs ls hV hP hD hS hl
    refine lv_iload hx hb dX8_marches_45 (lv_at hl 9 rfl) ?_
    refine lv_iload_n hx hb dX8_marches_47 rfl (lv_at hl 1 rfl) ?_
    refine lv_icmp_ge (tgt := 239) hx hb dX8_marches_48 (by decide) (fun c4 => ?_) (fun c4 => ?_)
    · have hV := hV.1 c4
      exact hE x5 x6 x8 z_with H locs ls hV hP hD hS (lv_sub hl [0, 1, 2, 3, 5, 6, 8] rfl)
    · have hV := hV.2 c4
      refine lv_iload hx hb dX8_marches_51 (lv_at hl 8 rfl) ?_
      refine lv_if_eq (tgt := 239) hx hb dX8_marches_53 (by decide) (fun c5 => ?_) (fun c5 => ?_)
      · have hV := hV.1 c5
        exact hE x5 x6 x8 z_with H locs ls hV hP hD hS (lv_sub hl [0, 1, 2, 3, 5, 6, 8] rfl)
      · have hV := hV.2 c5
        refine lv_iload hx hb dX8_marches_56 (lv_at hl 7 rfl) ?_
        refine lv_aload_n hx hb dX8_marches_58 rfl (lv_at hl 0 rfl) ?_
        refine lv_bipush (v := (6 : Int32)) hx hb dX8_marches_59 (by decide) ?_
        refine lv_iload_n hx hb dX8_marches_61 rfl (lv_at hl 1 rfl) ?_
        refine lv_iconst (v := (1 : Int32)) hx hb dX8_marches_62 (by decide) ?_
        refine lv_isub hx hb dX8_marches_63 ?_
        refine lv_iload hx hb dX8_marches_64 (lv_at hl 9 rfl) ?_
        refine lv_isub hx hb dX8_marches_66 ?_
        refine vp_callSi (va_Run.run (va_runV (As := [.int (6 : Int32), .int ((x1 - (1 : Int32)) - x9)]) (rest := [.int x7]) ⟨hx, hb, hml, hown, hts⟩ (qm_X8_power l dC dI cI cJ cC cG cW a_this a_this_laid a_this_text a_this_read a_this_numbers a_this_where a_this_sorts a_this_tells a_this_undone a_this_parts a_this_goesWith a_this_with a_this_keeps z_letters z_at z_walked z_counts z_undos z_all z_planned z_scale z_least z_kept (6 : Int32) ((x1 - (1 : Int32)) - x9) _ hV) (cwV 2 hts gX8_marches_X8_power rfl rfl rfl (by decide +kernel) ⟨Nat.le_of_ble_eq_true rfl, Nat.le_of_ble_eq_true rfl⟩) (preRV hK hN (hP.sub (ws' := (qw_X8_power cI cJ cC cG cW a_this a_this_laid a_this_text a_this_read a_this_numbers a_this_where a_this_sorts a_this_tells a_this_undone a_this_parts a_this_goesWith a_this_with a_this_keeps z_letters z_at z_walked z_counts z_undos z_all z_planned z_scale z_least z_kept)) [0] rfl) rfl rfl) rfl rfl hl.1 rfl (lv_room (Nat.le_of_ble_eq_true rfl)) dX8_marches_67 ⟨Nat.le_of_ble_eq_true rfl, Nat.le_of_ble_eq_true rfl⟩)) (fun r6 hV => ?_)
        obtain ⟨hz7, hV⟩ := hV
        refine lv_idiv hx hb dX8_marches_70 hz7 ?_
        refine lv_istore (lv' := [(10, .int (x7 / r6)), (0, .ref a_this), (1, .int x1), (2, .int x2), (3, .int x3), (4, .int x4), (5, .int x5), (6, .int x6), (7, .int x7), (8, .int x8), (9, .int x9)]) hx hb dX8_marches_71 hl (by decide) rfl (fun ls hl => ?_)
        refine lv_iload hx hb dX8_marches_73 (lv_at hl 8 rfl) ?_
        refine lv_aload_n hx hb dX8_marches_75 rfl (lv_at hl 1 rfl) ?_
        refine lv_bipush (v := (6 : Int32)) hx hb dX8_marches_76 (by decide) ?_
        refine lv_iload_n hx hb dX8_marches_78 rfl (lv_at hl 2 rfl) ?_
        refine lv_iconst (v := (1 : Int32)) hx hb dX8_marches_79 (by decide) ?_
        refine lv_isub hx hb dX8_marches_80 ?_
        refine lv_iload hx hb dX8_marches_81 (lv_at hl 10 rfl) ?_
        refine lv_isub hx hb dX8_marches_83 ?_
        refine vp_callSi (va_Run.run (va_runV (As := [.int (6 : Int32), .int ((x1 - (1 : Int32)) - x9)]) (rest := [.int x7]) ⟨hx, hb, hml, hown, hts⟩ (qm_X8_power l dC dI cI cJ cC cG cW a_this a_this_laid a_this_text a_this_read a_this_numbers a_this_where a_this_sorts a_this_tells a_this_undone a_this_parts a_this_goesWith a_this_with a_this_keeps z_letters z_at z_walked z_counts z_undos z_all z_planned z_scale z_least z_kept (6 : Int32) ((x1 - (1 : Int32)) - x9) _ hV) (cwV 2 hts gX8_marches_X8_power rfl rfl rfl (by decide +kernel) ⟨Nat.le_of_ble_eq_true rfl, Nat.le_of_ble_eq_true rfl⟩) (preRV hK hN (hP.sub (ws' := (qw_X8_power cI cJ cC cG cW a_this a_this_laid a_this_text a_this_read a_this_numbers a_this_where a_this_sorts a_this_tells a_this_undone a_this_parts a_this_goesWith a_this_with a_this_keeps z_letters z_at z_walked z_counts z_undos z_all z_planned z_scale z_least z_kept)) [0] rfl) rfl rfl) rfl rfl hl.1 rfl (lv_room (Nat.le_of_ble_eq_true rfl)) dX8_marches_84 ⟨Nat.le_of_ble_eq_true rfl, Nat.le_of_ble_eq_true rfl⟩)) (fun r8 hV => ?_)
        obtain ⟨hz9, hV⟩ := hV
        refine lv_irem hx hb dX8_marches_87 hz9 ?_
        refine lv_istore (lv' := [(7, .int (x7 - x7 / r8 * r8)), (10, .int (x7 / r6)), (0, .ref a_this), (1, .int x1), (2, .int x2), (3, .int x3), (4, .int x4), (5, .int x5), (6, .int x6), (8, .int x8), (9, .int x9)]) hx hb dX8_marches_88 hl (by decide) rfl (fun ls hl => ?_)
        refine lv_iload hx hb dX8_marches_90 (lv_at hl 6 rfl) ?_
        refine lv_iload hx hb dX8_marches_92 (lv_at hl 10 rfl) ?_
        refine lv_ishr hx hb dX8_marches_94 ?_
        refine lv_iconst (v := (1 : Int32)) hx hb dX8_marches_95 (by decide) ?_
        refine lv_iand hx hb dX8_marches_96 ?_
        refine lv_iconst (v := (1 : Int32)) hx hb dX8_marches_97 (by decide) ?_
        refine lv_icmp_ne (tgt := 116) hx hb dX8_marches_98 (by decide) (fun c10 => ?_) (fun c10 => ?_)
        · have hV := hV.2 c10
          refine lv_iload hx hb dX8_marches_116 (lv_at hl 1 rfl) ?_
          refine lv_if_ne (tgt := 145) hx hb dX8_marches_118 (by decide) (fun c11 => ?_) (fun c11 => ?_)
          · have hV := hV.2 c11
            refine lv_iload hx hb dX8_marches_145 (lv_at hl 10 rfl) ?_
            refine lv_iload hx hb dX8_marches_147 (lv_at hl 1 rfl) ?_
            refine lv_iadd hx hb dX8_marches_149 ?_
            refine lv_istore (lv' := [(11, .int (x9 + (x7 / r6))), (7, .int (x7 - x7 / r8 * r8)), (10, .int (x7 / r6)), (0, .ref a_this), (1, .int x1), (2, .int x2), (3, .int x3), (4, .int x4), (5, .int x5), (6, .int x6), (8, .int x8), (9, .int x9)]) hx hb dX8_marches_150 hl (by decide) rfl (fun ls hl => ?_)
            refine lv_iload hx hb dX8_marches_152 (lv_at hl 0 rfl) ?_
            refine lv_iload_n hx hb dX8_marches_154 rfl (lv_at hl 4 rfl) ?_
            refine lv_icmp_ge (tgt := 172) hx hb dX8_marches_155 (by decide) (fun c12 => ?_) (fun c12 => ?_)
            · have hV := hV.1 c12
              refine lv_iconst (v := (0 : Int32)) hx hb dX8_marches_172 (by decide) ?_
              exact qt_X8_marches_J173 C0 hK hN hA z_letters z_at z_walked z_counts z_undos z_all z_planned z_scale z_least z_kept z_laid z_goesWith z_with (0 : Int32) x1 x2 x3 x4 x5 x6 (x7 - x7 / r8 * r8) x9 (x9 + (x7 / r6)) _ _ _ ih hE H locs ls hV hP hD hS (lv_sub hl [3, 4, 5, 6, 7, 8, 9, 1, 11, 0] rfl)
            · have hV := hV.2 c12
              refine lv_iload hx hb dX8_marches_158 (lv_at hl 7 rfl) ?_
              refine lv_iload hx hb dX8_marches_160 (lv_at hl 0 rfl) ?_
              refine lv_ishr hx hb dX8_marches_162 ?_
              refine lv_iconst (v := (1 : Int32)) hx hb dX8_marches_163 (by decide) ?_
              refine lv_iand hx hb dX8_marches_164 ?_
              refine lv_if_ne (tgt := 172) hx hb dX8_marches_165 (by decide) (fun c17 => ?_) (fun c17 => ?_)
              · have hV := hV.2 c17
                refine lv_iconst (v := (0 : Int32)) hx hb dX8_marches_172 (by decide) ?_
                exact qt_X8_marches_J173 C0 hK hN hA z_letters z_at z_walked z_counts z_undos z_all z_planned z_scale z_least z_kept z_laid z_goesWith z_with (0 : Int32) x1 x2 x3 x4 x5 x6 (x7 - x7 / r8 * r8) x9 (x9 + (x7 / r6)) _ _ _ ih hE H locs ls hV hP hD hS (lv_sub hl [3, 4, 5, 6, 7, 8, 9, 1, 11, 0] rfl)
              · have hV := hV.1 c17
                refine lv_iconst (v := (1 : Int32)) hx hb dX8_marches_168 (by decide) ?_
                refine lv_goto (tgt := 173) hx hb dX8_marches_169 (by decide) ?_
                exact qt_X8_marches_J173 C0 hK hN hA z_letters z_at z_walked z_counts z_undos z_all z_planned z_scale z_least z_kept z_laid z_goesWith z_with (1 : Int32) x1 x2 x3 x4 x5 x6 (x7 - x7 / r8 * r8) x9 (x9 + (x7 / r6)) _ _ _ ih hE H locs ls hV hP hD hS (lv_sub hl [3, 4, 5, 6, 7, 8, 9, 1, 11, 0] rfl)
          · have hV := hV.1 c11
            refine lv_iinc (v := (x5 + (1 : Int32))) (lv' := [(5, .int (x5 + (1 : Int32))), (7, .int (x7 - x7 / r8 * r8)), (10, .int (x7 / r6)), (0, .ref a_this), (1, .int x1), (2, .int x2), (3, .int x3), (4, .int x4), (6, .int x6), (8, .int x8), (9, .int x9)]) hx hb dX8_marches_121 hl (k := 7) rfl rfl (by decide) rfl (fun ls hl => ?_)
            refine lv_aload_n hx hb dX8_marches_124 rfl (lv_at hl 3 rfl) ?_
            refine va_get (D := (dC, dI)) (ci := 8) (v := .ref a_this_with) (C := RX8) (T := TX8) (N := 22) hx hb hts qi_X8_marches_X8 hown hK hP 0 rfl rfl 19 (by decide) (hts _ ql_X8_marches_41) (fun _ h9 => h9) rfl dX8_marches_125 ?_
            refine lv_iload hx hb dX8_marches_128 (lv_at hl 10 rfl) ?_
            refine lv_bipush (v := (-4 : Int32)) hx hb dX8_marches_130 (by decide) ?_
            obtain ⟨h18, hV⟩ := hV
            refine va_iast hx hb hK hP hD hS 3 0 rfl rfl h18 dX8_marches_132 (fun H locs hP hD hS => ?_)
            have hP : va_P (dC, dI) vwCl (qw_X8_marches cI cJ cC cG cW a_this a_this_laid a_this_text a_this_read a_this_numbers a_this_where a_this_sorts a_this_tells a_this_undone a_this_parts a_this_goesWith a_this_with a_this_keeps z_letters z_at z_walked z_counts z_undos z_all z_planned z_scale z_least z_kept z_laid z_goesWith (upd z_with x9.toNatClampNeg (-4 : Int32))) H := hP
            have hD : va_D A (qw_X8_marches cI cJ cC cG cW a_this a_this_laid a_this_text a_this_read a_this_numbers a_this_where a_this_sorts a_this_tells a_this_undone a_this_parts a_this_goesWith a_this_with a_this_keeps z_letters z_at z_walked z_counts z_undos z_all z_planned z_scale z_least z_kept z_laid z_goesWith (upd z_with x9.toNatClampNeg (-4 : Int32))) := hD
            refine lv_iload hx hb dX8_marches_133 (lv_at hl 7 rfl) ?_
            refine lv_iconst (v := (1 : Int32)) hx hb dX8_marches_135 (by decide) ?_
            refine lv_iload hx hb dX8_marches_136 (lv_at hl 10 rfl) ?_
            refine lv_ishl hx hb dX8_marches_138 ?_
            refine lv_ior hx hb dX8_marches_139 ?_
            refine lv_istore (lv' := [(4, .int (x4 ||| ((1 : Int32) <<< (x9 &&& 31)))), (5, .int (x5 + (1 : Int32))), (7, .int (x7 - x7 / r8 * r8)), (10, .int (x7 / r6)), (0, .ref a_this), (1, .int x1), (2, .int x2), (3, .int x3), (6, .int x6), (8, .int x8), (9, .int x9)]) hx hb dX8_marches_140 hl (by decide) rfl (fun ls hl => ?_)
            refine lv_goto (tgt := 233) hx hb dX8_marches_142 (by decide) ?_
            refine lv_iinc (v := (x9 + (1 : Int32))) (lv' := [(9, .int (x9 + (1 : Int32))), (4, .int (x4 ||| ((1 : Int32) <<< (x9 &&& 31)))), (5, .int (x5 + (1 : Int32))), (7, .int (x7 - x7 / r8 * r8)), (10, .int (x7 / r6)), (0, .ref a_this), (1, .int x1), (2, .int x2), (3, .int x3), (6, .int x6), (8, .int x8)]) hx hb dX8_marches_233 hl (k := 10) rfl rfl (by decide) rfl (fun ls hl => ?_)
            refine lv_goto (tgt := 45) hx hb dX8_marches_236 (by decide) ?_
            exact ih (x4 ||| ((1 : Int32) <<< (x9 &&& 31))) (x5 + (1 : Int32)) x6 (x7 - x7 / r8 * r8) x8 (x9 + (1 : Int32)) (upd z_with x9.toNatClampNeg (-4 : Int32)) H locs ls hV hP hD hS (lv_sub hl [5, 6, 7, 8, 1, 2, 9, 3, 10, 0] rfl)
        · have hV := hV.1 c10
          refine lv_iload hx hb dX8_marches_101 (lv_at hl 1 rfl) ?_
          refine lv_if_ne (tgt := 110) hx hb dX8_marches_103 (by decide) (fun c19 => ?_) (fun c19 => ?_)
          · have hV := hV.2 c19
            refine lv_iconst (v := (0 : Int32)) hx hb dX8_marches_110 (by decide) ?_
            refine lv_istore (lv' := [(8, .int (0 : Int32)), (7, .int (x7 - x7 / r8 * r8)), (10, .int (x7 / r6)), (0, .ref a_this), (1, .int x1), (2, .int x2), (3, .int x3), (4, .int x4), (5, .int x5), (6, .int x6), (9, .int x9)]) hx hb dX8_marches_111 hl (by decide) rfl (fun ls hl => ?_)
            refine lv_goto (tgt := 233) hx hb dX8_marches_113 (by decide) ?_
            refine lv_iinc (v := (x9 + (1 : Int32))) (lv' := [(9, .int (x9 + (1 : Int32))), (8, .int (0 : Int32)), (7, .int (x7 - x7 / r8 * r8)), (10, .int (x7 / r6)), (0, .ref a_this), (1, .int x1), (2, .int x2), (3, .int x3), (4, .int x4), (5, .int x5), (6, .int x6)]) hx hb dX8_marches_233 hl (k := 10) rfl rfl (by decide) rfl (fun ls hl => ?_)
            refine lv_goto (tgt := 45) hx hb dX8_marches_236 (by decide) ?_
            exact ih x4 x5 x6 (x7 - x7 / r8 * r8) (0 : Int32) (x9 + (1 : Int32)) z_with H locs ls hV hP hD hS (lv_sub hl [4, 5, 6, 7, 8, 9, 10, 2, 1, 0] rfl)
          · have hV := hV.1 c19
            refine lv_iconst (v := (1 : Int32)) hx hb dX8_marches_106 (by decide) ?_
            refine lv_goto (tgt := 111) hx hb dX8_marches_107 (by decide) ?_
            refine lv_istore (lv' := [(8, .int (1 : Int32)), (7, .int (x7 - x7 / r8 * r8)), (10, .int (x7 / r6)), (0, .ref a_this), (1, .int x1), (2, .int x2), (3, .int x3), (4, .int x4), (5, .int x5), (6, .int x6), (9, .int x9)]) hx hb dX8_marches_111 hl (by decide) rfl (fun ls hl => ?_)
            refine lv_goto (tgt := 233) hx hb dX8_marches_113 (by decide) ?_
            refine lv_iinc (v := (x9 + (1 : Int32))) (lv' := [(9, .int (x9 + (1 : Int32))), (8, .int (1 : Int32)), (7, .int (x7 - x7 / r8 * r8)), (10, .int (x7 / r6)), (0, .ref a_this), (1, .int x1), (2, .int x2), (3, .int x3), (4, .int x4), (5, .int x5), (6, .int x6)]) hx hb dX8_marches_233 hl (k := 10) rfl rfl (by decide) rfl (fun ls hl => ?_)
            refine lv_goto (tgt := 45) hx hb dX8_marches_236 (by decide) ?_
            exact ih x4 x5 x6 (x7 - x7 / r8 * r8) (1 : Int32) (x9 + (1 : Int32)) z_with H locs ls hV hP hD hS (lv_sub hl [4, 5, 6, 7, 8, 9, 10, 2, 1, 0] rfl)
def qv_X8_marches_L296 (x1 : Int32) (x2 : Int32) (x3 : Int32) (x8 : Int32) (z_least : Int32) (z_laid : Nat → Int32) (z_with : Nat → Int32) (Post : (Int32) → (Nat → Int32) → (Nat → Int32) → Prop) (E : (Nat → Int32) → Prop) : Nat → (Int32) → (Nat → Int32) → Prop
  | 0, _, _ => False
  | n + 1, x9, z_goesWith => (x1 ≤ x9 → E z_goesWith) ∧ (¬ x1 ≤ x9 → (x8 = (0 : Int32) → E z_goesWith) ∧ (¬ x8 = (0 : Int32) → vp_in x9 6 ∧ (vp_in x9 6 ∧ (qv_X8_marches_L296 x1 x2 x3 x8 z_least z_laid z_with Post E n (x9 + (1 : Int32)) (upd z_goesWith x9.toNatClampNeg (z_with x9.toNatClampNeg))))))
set_option maxHeartbeats 4000000 in
set_option maxRecDepth 100000 in
theorem qt_X8_marches_L296 {p : Program} {l : Launch} {e : Env} {s : State} {m : MethodId} {args : Array Value} {below : List Frame} {meth : Method} {c : Code} {dC : Nat → ClassId} {dI : Nat → Nat → Nat} {cI cJ cC cG cW : ClassId} {a_this a_this_laid a_this_text a_this_read a_this_numbers a_this_where a_this_sorts a_this_tells a_this_undone a_this_parts a_this_goesWith a_this_with a_this_keeps : Nat} {A : Nat → Prop} (C0 : MC cX8_marches 12 none RX8 wsX8_marches p s m args meth c) (hK : va_K (dC, dI) vwCl (tyL cI cJ cC cG cW) s) (hN : NW s) (hA : ∀ q, s.heap.size ≤ q → A q) (z_letters : Int32) (z_at : Int32) (z_walked : Int32) (z_counts : Int32) (z_undos : Int32) (z_all : Int64) (z_planned : Int64) (z_scale : Int64) (z_least : Int32) (z_kept : Int32) (z_laid : Nat → Int32) (z_with : Nat → Int32) (x1 : Int32) (x2 : Int32) (x3 : Int32) (x8 : Int32) (Post : (Int32) → (Nat → Int32) → (Nat → Int32) → Prop) (E : (Nat → Int32) → Prop) (hE : ∀ (z_goesWith : Nat → Int32) (H : Heap) (locs : List Loc) (ls : Array Slot), E z_goesWith → va_P (dC, dI) vwCl (qw_X8_marches cI cJ cC cG cW a_this a_this_laid a_this_text a_this_read a_this_numbers a_this_where a_this_sorts a_this_tells a_this_undone a_this_parts a_this_goesWith a_this_with a_this_keeps z_letters z_at z_walked z_counts z_undos z_all z_planned z_scale z_least z_kept z_laid z_goesWith z_with) H → va_D A (qw_X8_marches cI cJ cC cG cW a_this a_this_laid a_this_text a_this_read a_this_numbers a_this_where a_this_sorts a_this_tells a_this_undone a_this_parts a_this_goesWith a_this_with a_this_keeps z_letters z_at z_walked z_counts z_undos z_all z_planned z_scale z_least z_kept z_laid z_goesWith z_with) → va_S A s.heap H locs → lv_has ls 12 [(0, .ref a_this), (1, .int x1), (2, .int x2), (3, .int x3)] → W p l e ({ frames := 1, cells := 0, slots := 0, locals := 24 } : Room) s m args below meth c H locs 0 0 (MQ below (va_Qv (fun (u : (Int32) × (Nat → Int32) × (Nat → Int32)) => Post u.1 u.2.1 u.2.2) (fun u t => poW (dC, dI) (tyL cI cJ cC cG cW) A (qw_X8_marches cI cJ cC cG cW a_this a_this_laid a_this_text a_this_read a_this_numbers a_this_where a_this_sorts a_this_tells a_this_undone a_this_parts a_this_goesWith a_this_with a_this_keeps z_letters z_at z_walked z_counts z_undos z_all z_planned z_scale u.1 z_kept z_laid u.2.1 u.2.2) t) A) args s 0 0 A) (F0 m 327 ls [])) : ∀ (n : Nat) (x9 : Int32) (z_goesWith : Nat → Int32) (H : Heap) (locs : List Loc) (ls : Array Slot), qv_X8_marches_L296 x1 x2 x3 x8 z_least z_laid z_with Post E n x9 z_goesWith → va_P (dC, dI) vwCl (qw_X8_marches cI cJ cC cG cW a_this a_this_laid a_this_text a_this_read a_this_numbers a_this_where a_this_sorts a_this_tells a_this_undone a_this_parts a_this_goesWith a_this_with a_this_keeps z_letters z_at z_walked z_counts z_undos z_all z_planned z_scale z_least z_kept z_laid z_goesWith z_with) H → va_D A (qw_X8_marches cI cJ cC cG cW a_this a_this_laid a_this_text a_this_read a_this_numbers a_this_where a_this_sorts a_this_tells a_this_undone a_this_parts a_this_goesWith a_this_with a_this_keeps z_letters z_at z_walked z_counts z_undos z_all z_planned z_scale z_least z_kept z_laid z_goesWith z_with) → va_S A s.heap H locs → lv_has ls 12 [(0, .ref a_this), (1, .int x1), (2, .int x2), (3, .int x3), (8, .int x8), (9, .int x9)] → W p l e ({ frames := 1, cells := 0, slots := 0, locals := 24 } : Room) s m args below meth c H locs 0 0 (MQ below (va_Qv (fun (u : (Int32) × (Nat → Int32) × (Nat → Int32)) => Post u.1 u.2.1 u.2.2) (fun u t => poW (dC, dI) (tyL cI cJ cC cG cW) A (qw_X8_marches cI cJ cC cG cW a_this a_this_laid a_this_text a_this_read a_this_numbers a_this_where a_this_sorts a_this_tells a_this_undone a_this_parts a_this_goesWith a_this_with a_this_keeps z_letters z_at z_walked z_counts z_undos z_all z_planned z_scale u.1 z_kept z_laid u.2.1 u.2.2) t) A) args s 0 0 A) (F0 m 296 ls []) := by
  obtain ⟨hx, hb, hr, hml, hown, hts, hlocks⟩ := id C0
  intro n
  induction n with
  | zero =>
    intro x9 z_goesWith H locs ls hV
    exact False.elim hV
  | succ n ih =>
    intro x9 z_goesWith H locs ls hV hP hD hS hl
    refine lv_iload hx hb dX8_marches_296 (lv_at hl 5 rfl) ?_
    refine lv_iload_n hx hb dX8_marches_298 rfl (lv_at hl 1 rfl) ?_
    refine lv_icmp_ge (tgt := 327) hx hb dX8_marches_299 (by decide) (fun c23 => ?_) (fun c23 => ?_)
    · have hV := hV.1 c23
      exact hE z_goesWith H locs ls hV hP hD hS (lv_sub hl [0, 1, 2, 3] rfl)
    · have hV := hV.2 c23
      refine lv_iload hx hb dX8_marches_302 (lv_at hl 4 rfl) ?_
      refine lv_if_eq (tgt := 327) hx hb dX8_marches_304 (by decide) (fun c24 => ?_) (fun c24 => ?_)
      · have hV := hV.1 c24
        exact hE z_goesWith H locs ls hV hP hD hS (lv_sub hl [0, 1, 2, 3] rfl)
      · have hV := hV.2 c24
        refine lv_aload_n hx hb dX8_marches_307 rfl (lv_at hl 0 rfl) ?_
        refine va_get (D := (dC, dI)) (ci := 8) (v := .ref a_this_goesWith) (C := RX8) (T := TX8) (N := 22) hx hb hts qi_X8_marches_X8 hown hK hP 0 rfl rfl 17 (by decide) (hts _ ql_X8_marches_38) (fun _ h9 => h9) rfl dX8_marches_308 ?_
        refine lv_iload hx hb dX8_marches_311 (lv_at hl 5 rfl) ?_
        refine lv_aload_n hx hb dX8_marches_313 rfl (lv_at hl 0 rfl) ?_
        refine va_get (D := (dC, dI)) (ci := 8) (v := .ref a_this_with) (C := RX8) (T := TX8) (N := 22) hx hb hts qi_X8_marches_X8 hown hK hP 0 rfl rfl 19 (by decide) (hts _ ql_X8_marches_41) (fun _ h9 => h9) rfl dX8_marches_314 ?_
        refine lv_iload hx hb dX8_marches_317 (lv_at hl 5 rfl) ?_
        obtain ⟨h25, hV⟩ := hV
        refine va_iald hx hb hK hP 3 0 rfl rfl h25 dX8_marches_319 ?_
        obtain ⟨h26, hV⟩ := hV
        refine va_iast hx hb hK hP hD hS 2 0 rfl rfl h26 dX8_marches_320 (fun H locs hP hD hS => ?_)
        have hP : va_P (dC, dI) vwCl (qw_X8_marches cI cJ cC cG cW a_this a_this_laid a_this_text a_this_read a_this_numbers a_this_where a_this_sorts a_this_tells a_this_undone a_this_parts a_this_goesWith a_this_with a_this_keeps z_letters z_at z_walked z_counts z_undos z_all z_planned z_scale z_least z_kept z_laid (upd z_goesWith x9.toNatClampNeg (z_with x9.toNatClampNeg)) z_with) H := hP
        have hD : va_D A (qw_X8_marches cI cJ cC cG cW a_this a_this_laid a_this_text a_this_read a_this_numbers a_this_where a_this_sorts a_this_tells a_this_undone a_this_parts a_this_goesWith a_this_with a_this_keeps z_letters z_at z_walked z_counts z_undos z_all z_planned z_scale z_least z_kept z_laid (upd z_goesWith x9.toNatClampNeg (z_with x9.toNatClampNeg)) z_with) := hD
        refine lv_iinc (v := (x9 + (1 : Int32))) (lv' := [(9, .int (x9 + (1 : Int32))), (0, .ref a_this), (1, .int x1), (2, .int x2), (3, .int x3), (8, .int x8)]) hx hb dX8_marches_321 hl (k := 5) rfl rfl (by decide) rfl (fun ls hl => ?_)
        refine lv_goto (tgt := 296) hx hb dX8_marches_324 (by decide) ?_
        exact ih (x9 + (1 : Int32)) (upd z_goesWith x9.toNatClampNeg (z_with x9.toNatClampNeg)) H locs ls hV hP hD hS (lv_sub hl [1, 2, 3, 4, 5, 0] rfl)
def qv_X8_marches_J273 (k0 : Int32) (x1 : Int32) (x2 : Int32) (x3 : Int32) (x6 : Int32) (z_least : Int32) (z_laid : Nat → Int32) (z_goesWith : Nat → Int32) (z_with : Nat → Int32) (Post : (Int32) → (Nat → Int32) → (Nat → Int32) → Prop) (K : (Int32) → (Int32) → (Nat → Int32) → (Nat → Int32) → Prop) (E : (Int32) → (Nat → Int32) → (Nat → Int32) → Prop) : Prop := (k0 = (0 : Int32) → ∃ n27, qv_X8_marches_L296 x1 x2 x3 k0 z_least z_laid z_with Post (fun z_goesWith_27 => K (x3 + (1 : Int32)) z_least z_goesWith_27 z_with) n27 (0 : Int32) z_goesWith) ∧ (¬ k0 = (0 : Int32) → ∃ n28, qv_X8_marches_L296 x1 x2 x3 k0 x6 z_laid z_with Post (fun z_goesWith_28 => K (x3 + (1 : Int32)) x6 z_goesWith_28 z_with) n28 (0 : Int32) z_goesWith)
set_option maxHeartbeats 4000000 in
set_option maxRecDepth 100000 in
theorem qt_X8_marches_J273 {p : Program} {l : Launch} {e : Env} {s : State} {m : MethodId} {args : Array Value} {below : List Frame} {meth : Method} {c : Code} {dC : Nat → ClassId} {dI : Nat → Nat → Nat} {cI cJ cC cG cW : ClassId} {a_this a_this_laid a_this_text a_this_read a_this_numbers a_this_where a_this_sorts a_this_tells a_this_undone a_this_parts a_this_goesWith a_this_with a_this_keeps : Nat} {A : Nat → Prop} (C0 : MC cX8_marches 12 none RX8 wsX8_marches p s m args meth c) (hK : va_K (dC, dI) vwCl (tyL cI cJ cC cG cW) s) (hN : NW s) (hA : ∀ q, s.heap.size ≤ q → A q) (z_letters : Int32) (z_at : Int32) (z_walked : Int32) (z_counts : Int32) (z_undos : Int32) (z_all : Int64) (z_planned : Int64) (z_scale : Int64) (z_least : Int32) (z_kept : Int32) (z_laid : Nat → Int32) (z_goesWith : Nat → Int32) (z_with : Nat → Int32) (k0 : Int32) (x1 : Int32) (x2 : Int32) (x3 : Int32) (x6 : Int32) (Post : (Int32) → (Nat → Int32) → (Nat → Int32) → Prop) (K : (Int32) → (Int32) → (Nat → Int32) → (Nat → Int32) → Prop) (E : (Int32) → (Nat → Int32) → (Nat → Int32) → Prop) (hKb : ∀ (x3 : Int32) (z_least : Int32) (z_goesWith : Nat → Int32) (z_with : Nat → Int32) (H : Heap) (locs : List Loc) (ls : Array Slot), K x3 z_least z_goesWith z_with → va_P (dC, dI) vwCl (qw_X8_marches cI cJ cC cG cW a_this a_this_laid a_this_text a_this_read a_this_numbers a_this_where a_this_sorts a_this_tells a_this_undone a_this_parts a_this_goesWith a_this_with a_this_keeps z_letters z_at z_walked z_counts z_undos z_all z_planned z_scale z_least z_kept z_laid z_goesWith z_with) H → va_D A (qw_X8_marches cI cJ cC cG cW a_this a_this_laid a_this_text a_this_read a_this_numbers a_this_where a_this_sorts a_this_tells a_this_undone a_this_parts a_this_goesWith a_this_with a_this_keeps z_letters z_at z_walked z_counts z_undos z_all z_planned z_scale z_least z_kept z_laid z_goesWith z_with) → va_S A s.heap H locs → lv_has ls 12 [(0, .ref a_this), (1, .int x1), (2, .int x2), (3, .int x3)] → W p l e ({ frames := 1, cells := 0, slots := 0, locals := 24 } : Room) s m args below meth c H locs 0 0 (MQ below (va_Qv (fun (u : (Int32) × (Nat → Int32) × (Nat → Int32)) => Post u.1 u.2.1 u.2.2) (fun u t => poW (dC, dI) (tyL cI cJ cC cG cW) A (qw_X8_marches cI cJ cC cG cW a_this a_this_laid a_this_text a_this_read a_this_numbers a_this_where a_this_sorts a_this_tells a_this_undone a_this_parts a_this_goesWith a_this_with a_this_keeps z_letters z_at z_walked z_counts z_undos z_all z_planned z_scale u.1 z_kept z_laid u.2.1 u.2.2) t) A) args s 0 0 A) (F0 m 22 ls [])) (hE : ∀ (z_least : Int32) (z_goesWith : Nat → Int32) (z_with : Nat → Int32) (H : Heap) (locs : List Loc) (ls : Array Slot), E z_least z_goesWith z_with → va_P (dC, dI) vwCl (qw_X8_marches cI cJ cC cG cW a_this a_this_laid a_this_text a_this_read a_this_numbers a_this_where a_this_sorts a_this_tells a_this_undone a_this_parts a_this_goesWith a_this_with a_this_keeps z_letters z_at z_walked z_counts z_undos z_all z_planned z_scale z_least z_kept z_laid z_goesWith z_with) H → va_D A (qw_X8_marches cI cJ cC cG cW a_this a_this_laid a_this_text a_this_read a_this_numbers a_this_where a_this_sorts a_this_tells a_this_undone a_this_parts a_this_goesWith a_this_with a_this_keeps z_letters z_at z_walked z_counts z_undos z_all z_planned z_scale z_least z_kept z_laid z_goesWith z_with) → va_S A s.heap H locs → lv_has ls 12 [] → W p l e ({ frames := 1, cells := 0, slots := 0, locals := 24 } : Room) s m args below meth c H locs 0 0 (MQ below (va_Qv (fun (u : (Int32) × (Nat → Int32) × (Nat → Int32)) => Post u.1 u.2.1 u.2.2) (fun u t => poW (dC, dI) (tyL cI cJ cC cG cW) A (qw_X8_marches cI cJ cC cG cW a_this a_this_laid a_this_text a_this_read a_this_numbers a_this_where a_this_sorts a_this_tells a_this_undone a_this_parts a_this_goesWith a_this_with a_this_keeps z_letters z_at z_walked z_counts z_undos z_all z_planned z_scale u.1 z_kept z_laid u.2.1 u.2.2) t) A) args s 0 0 A) (F0 m 333 ls [])) (H : Heap) (locs : List Loc) (ls : Array Slot) (hV : qv_X8_marches_J273 k0 x1 x2 x3 x6 z_least z_laid z_goesWith z_with Post K E) (hP : va_P (dC, dI) vwCl (qw_X8_marches cI cJ cC cG cW a_this a_this_laid a_this_text a_this_read a_this_numbers a_this_where a_this_sorts a_this_tells a_this_undone a_this_parts a_this_goesWith a_this_with a_this_keeps z_letters z_at z_walked z_counts z_undos z_all z_planned z_scale z_least z_kept z_laid z_goesWith z_with) H) (hD : va_D A (qw_X8_marches cI cJ cC cG cW a_this a_this_laid a_this_text a_this_read a_this_numbers a_this_where a_this_sorts a_this_tells a_this_undone a_this_parts a_this_goesWith a_this_with a_this_keeps z_letters z_at z_walked z_counts z_undos z_all z_planned z_scale z_least z_kept z_laid z_goesWith z_with)) (hS : va_S A s.heap H locs) (hl : lv_has ls 12 [(0, .ref a_this), (1, .int x1), (2, .int x2), (3, .int x3), (6, .int x6)]) : W p l e ({ frames := 1, cells := 0, slots := 0, locals := 24 } : Room) s m args below meth c H locs 0 0 (MQ below (va_Qv (fun (u : (Int32) × (Nat → Int32) × (Nat → Int32)) => Post u.1 u.2.1 u.2.2) (fun u t => poW (dC, dI) (tyL cI cJ cC cG cW) A (qw_X8_marches cI cJ cC cG cW a_this a_this_laid a_this_text a_this_read a_this_numbers a_this_where a_this_sorts a_this_tells a_this_undone a_this_parts a_this_goesWith a_this_with a_this_keeps z_letters z_at z_walked z_counts z_undos z_all z_planned z_scale u.1 z_kept z_laid u.2.1 u.2.2) t) A) args s 0 0 A) (F0 m 273 ls [.int k0]) := by
  obtain ⟨hx, hb, hr, hml, hown, hts, hlocks⟩ := id C0
  refine lv_istore (lv' := [(8, .int k0), (0, .ref a_this), (1, .int x1), (2, .int x2), (3, .int x3), (6, .int x6)]) hx hb dX8_marches_273 hl (by decide) rfl (fun ls hl => ?_)
  refine lv_aload_n hx hb dX8_marches_275 rfl (lv_at hl 1 rfl) ?_
  refine lv_iload hx hb dX8_marches_276 (lv_at hl 0 rfl) ?_
  refine lv_if_eq (tgt := 286) hx hb dX8_marches_278 (by decide) (fun c22 => ?_) (fun c22 => ?_)
  · have hV := hV.1 c22
    refine lv_aload_n hx hb dX8_marches_286 rfl (lv_at hl 1 rfl) ?_
    refine va_get (D := (dC, dI)) (ci := 8) (v := .int z_least) (C := RX8) (T := TX8) (N := 22) hx hb hts qi_X8_marches_X8 hown hK hP 0 rfl rfl 18 (by decide) (hts _ ql_X8_marches_200) (fun _ h9 => h9) rfl dX8_marches_287 ?_
    refine va_put (D := (dC, dI)) (ci := 8) (v := .int z_least) (ty := .int) (C := RX8) (T := TX8) (N := 22) hx hb hts qi_X8_marches_X8 tyX8 tyX8_ok nmX8 hown hK hP hD hS 0 rfl rfl 18 (by decide) (hts _ ql_X8_marches_200) (fun _ h9 => h9) rfl (by decide +kernel) rfl rfl (Nat.le_of_ble_eq_true rfl) dX8_marches_290 (fun H locs hP hD hS => ?_)
    have hP : va_P (dC, dI) vwCl (qw_X8_marches cI cJ cC cG cW a_this a_this_laid a_this_text a_this_read a_this_numbers a_this_where a_this_sorts a_this_tells a_this_undone a_this_parts a_this_goesWith a_this_with a_this_keeps z_letters z_at z_walked z_counts z_undos z_all z_planned z_scale z_least z_kept z_laid z_goesWith z_with) H := hP
    have hD : va_D A (qw_X8_marches cI cJ cC cG cW a_this a_this_laid a_this_text a_this_read a_this_numbers a_this_where a_this_sorts a_this_tells a_this_undone a_this_parts a_this_goesWith a_this_with a_this_keeps z_letters z_at z_walked z_counts z_undos z_all z_planned z_scale z_least z_kept z_laid z_goesWith z_with) := hD
    refine lv_iconst (v := (0 : Int32)) hx hb dX8_marches_293 (by decide) ?_
    refine lv_istore (lv' := [(9, .int (0 : Int32)), (8, .int k0), (0, .ref a_this), (1, .int x1), (2, .int x2), (3, .int x3), (6, .int x6)]) hx hb dX8_marches_294 hl (by decide) rfl (fun ls hl => ?_)
    obtain ⟨n27, hV⟩ := hV
    refine qt_X8_marches_L296 C0 hK hN hA z_letters z_at z_walked z_counts z_undos z_all z_planned z_scale z_least z_kept z_laid z_with x1 x2 x3 k0 _ _ (fun z_goesWith_27 H locs ls hV hP hD hS hl => ?_) n27 (0 : Int32) z_goesWith H locs ls hV hP hD hS (lv_sub hl [2, 3, 4, 5, 1, 0] rfl)
    refine lv_iinc (v := (x3 + (1 : Int32))) (lv' := [(3, .int (x3 + (1 : Int32))), (0, .ref a_this), (1, .int x1), (2, .int x2)]) hx hb dX8_marches_327 hl (k := 3) rfl rfl (by decide) rfl (fun ls hl => ?_)
    refine lv_goto (tgt := 22) hx hb dX8_marches_330 (by decide) ?_
    exact hKb (x3 + (1 : Int32)) z_least z_goesWith_27 z_with H locs ls hV hP hD hS (lv_sub hl [1, 2, 3, 0] rfl)
  · have hV := hV.2 c22
    refine lv_iload hx hb dX8_marches_281 (lv_at hl 5 rfl) ?_
    refine lv_goto (tgt := 290) hx hb dX8_marches_283 (by decide) ?_
    refine va_put (D := (dC, dI)) (ci := 8) (v := .int x6) (ty := .int) (C := RX8) (T := TX8) (N := 22) hx hb hts qi_X8_marches_X8 tyX8 tyX8_ok nmX8 hown hK hP hD hS 0 rfl rfl 18 (by decide) (hts _ ql_X8_marches_200) (fun _ h9 => h9) rfl (by decide +kernel) rfl rfl (Nat.le_of_ble_eq_true rfl) dX8_marches_290 (fun H locs hP hD hS => ?_)
    have hP : va_P (dC, dI) vwCl (qw_X8_marches cI cJ cC cG cW a_this a_this_laid a_this_text a_this_read a_this_numbers a_this_where a_this_sorts a_this_tells a_this_undone a_this_parts a_this_goesWith a_this_with a_this_keeps z_letters z_at z_walked z_counts z_undos z_all z_planned z_scale x6 z_kept z_laid z_goesWith z_with) H := hP
    have hD : va_D A (qw_X8_marches cI cJ cC cG cW a_this a_this_laid a_this_text a_this_read a_this_numbers a_this_where a_this_sorts a_this_tells a_this_undone a_this_parts a_this_goesWith a_this_with a_this_keeps z_letters z_at z_walked z_counts z_undos z_all z_planned z_scale x6 z_kept z_laid z_goesWith z_with) := hD
    refine lv_iconst (v := (0 : Int32)) hx hb dX8_marches_293 (by decide) ?_
    refine lv_istore (lv' := [(9, .int (0 : Int32)), (8, .int k0), (0, .ref a_this), (1, .int x1), (2, .int x2), (3, .int x3), (6, .int x6)]) hx hb dX8_marches_294 hl (by decide) rfl (fun ls hl => ?_)
    obtain ⟨n28, hV⟩ := hV
    refine qt_X8_marches_L296 C0 hK hN hA z_letters z_at z_walked z_counts z_undos z_all z_planned z_scale x6 z_kept z_laid z_with x1 x2 x3 k0 _ _ (fun z_goesWith_28 H locs ls hV hP hD hS hl => ?_) n28 (0 : Int32) z_goesWith H locs ls hV hP hD hS (lv_sub hl [2, 3, 4, 5, 1, 0] rfl)
    refine lv_iinc (v := (x3 + (1 : Int32))) (lv' := [(3, .int (x3 + (1 : Int32))), (0, .ref a_this), (1, .int x1), (2, .int x2)]) hx hb dX8_marches_327 hl (k := 3) rfl rfl (by decide) rfl (fun ls hl => ?_)
    refine lv_goto (tgt := 22) hx hb dX8_marches_330 (by decide) ?_
    exact hKb (x3 + (1 : Int32)) x6 z_goesWith_28 z_with H locs ls hV hP hD hS (lv_sub hl [1, 2, 3, 0] rfl)
def qv_X8_marches_L22 (x1 : Int32) (x2 : Int32) (z_laid : Nat → Int32) (Post : (Int32) → (Nat → Int32) → (Nat → Int32) → Prop) (E : (Int32) → (Nat → Int32) → (Nat → Int32) → Prop) : Nat → (Int32) → (Int32) → (Nat → Int32) → (Nat → Int32) → Prop
  | 0, _, _, _, _ => False
  | n + 1, x3, z_least, z_goesWith, z_with => (x2 ≤ x3 → E z_least z_goesWith z_with) ∧ (¬ x2 ≤ x3 → ∃ n20, qv_X8_marches_L45 x1 x2 x3 z_least z_laid z_goesWith Post (fun x5_20 x6_20 x8_20 z_with_20 => (x8_20 = (0 : Int32) → qv_X8_marches_J273 (0 : Int32) x1 x2 x3 x6_20 z_least z_laid z_goesWith z_with_20 Post (qv_X8_marches_L22 x1 x2 z_laid Post E n) E) ∧ (¬ x8_20 = (0 : Int32) → (x5_20 = (x1 - x1 / (2 : Int32) * (2 : Int32)) → (z_least < (0 : Int32) → qv_X8_marches_J273 (1 : Int32) x1 x2 x3 x6_20 z_least z_laid z_goesWith z_with_20 Post (qv_X8_marches_L22 x1 x2 z_laid Post E n) E) ∧ (¬ z_least < (0 : Int32) → (z_least ≤ x6_20 → qv_X8_marches_J273 (0 : Int32) x1 x2 x3 x6_20 z_least z_laid z_goesWith z_with_20 Post (qv_X8_marches_L22 x1 x2 z_laid Post E n) E) ∧ (¬ z_least ≤ x6_20 → qv_X8_marches_J273 (1 : Int32) x1 x2 x3 x6_20 z_least z_laid z_goesWith z_with_20 Post (qv_X8_marches_L22 x1 x2 z_laid Post E n) E))) ∧ (¬ x5_20 = (x1 - x1 / (2 : Int32) * (2 : Int32)) → qv_X8_marches_J273 (0 : Int32) x1 x2 x3 x6_20 z_least z_laid z_goesWith z_with_20 Post (qv_X8_marches_L22 x1 x2 z_laid Post E n) E))) n20 (0 : Int32) (0 : Int32) (0 : Int32) x3 (1 : Int32) (0 : Int32) z_with)
set_option maxHeartbeats 4000000 in
set_option maxRecDepth 100000 in
theorem qt_X8_marches_L22 {p : Program} {l : Launch} {e : Env} {s : State} {m : MethodId} {args : Array Value} {below : List Frame} {meth : Method} {c : Code} {dC : Nat → ClassId} {dI : Nat → Nat → Nat} {cI cJ cC cG cW : ClassId} {a_this a_this_laid a_this_text a_this_read a_this_numbers a_this_where a_this_sorts a_this_tells a_this_undone a_this_parts a_this_goesWith a_this_with a_this_keeps : Nat} {A : Nat → Prop} (C0 : MC cX8_marches 12 none RX8 wsX8_marches p s m args meth c) (hK : va_K (dC, dI) vwCl (tyL cI cJ cC cG cW) s) (hN : NW s) (hA : ∀ q, s.heap.size ≤ q → A q) (z_letters : Int32) (z_at : Int32) (z_walked : Int32) (z_counts : Int32) (z_undos : Int32) (z_all : Int64) (z_planned : Int64) (z_scale : Int64) (z_kept : Int32) (z_laid : Nat → Int32) (x1 : Int32) (x2 : Int32) (Post : (Int32) → (Nat → Int32) → (Nat → Int32) → Prop) (E : (Int32) → (Nat → Int32) → (Nat → Int32) → Prop) (hE : ∀ (z_least : Int32) (z_goesWith : Nat → Int32) (z_with : Nat → Int32) (H : Heap) (locs : List Loc) (ls : Array Slot), E z_least z_goesWith z_with → va_P (dC, dI) vwCl (qw_X8_marches cI cJ cC cG cW a_this a_this_laid a_this_text a_this_read a_this_numbers a_this_where a_this_sorts a_this_tells a_this_undone a_this_parts a_this_goesWith a_this_with a_this_keeps z_letters z_at z_walked z_counts z_undos z_all z_planned z_scale z_least z_kept z_laid z_goesWith z_with) H → va_D A (qw_X8_marches cI cJ cC cG cW a_this a_this_laid a_this_text a_this_read a_this_numbers a_this_where a_this_sorts a_this_tells a_this_undone a_this_parts a_this_goesWith a_this_with a_this_keeps z_letters z_at z_walked z_counts z_undos z_all z_planned z_scale z_least z_kept z_laid z_goesWith z_with) → va_S A s.heap H locs → lv_has ls 12 [] → W p l e ({ frames := 1, cells := 0, slots := 0, locals := 24 } : Room) s m args below meth c H locs 0 0 (MQ below (va_Qv (fun (u : (Int32) × (Nat → Int32) × (Nat → Int32)) => Post u.1 u.2.1 u.2.2) (fun u t => poW (dC, dI) (tyL cI cJ cC cG cW) A (qw_X8_marches cI cJ cC cG cW a_this a_this_laid a_this_text a_this_read a_this_numbers a_this_where a_this_sorts a_this_tells a_this_undone a_this_parts a_this_goesWith a_this_with a_this_keeps z_letters z_at z_walked z_counts z_undos z_all z_planned z_scale u.1 z_kept z_laid u.2.1 u.2.2) t) A) args s 0 0 A) (F0 m 333 ls [])) : ∀ (n : Nat) (x3 : Int32) (z_least : Int32) (z_goesWith : Nat → Int32) (z_with : Nat → Int32) (H : Heap) (locs : List Loc) (ls : Array Slot), qv_X8_marches_L22 x1 x2 z_laid Post E n x3 z_least z_goesWith z_with → va_P (dC, dI) vwCl (qw_X8_marches cI cJ cC cG cW a_this a_this_laid a_this_text a_this_read a_this_numbers a_this_where a_this_sorts a_this_tells a_this_undone a_this_parts a_this_goesWith a_this_with a_this_keeps z_letters z_at z_walked z_counts z_undos z_all z_planned z_scale z_least z_kept z_laid z_goesWith z_with) H → va_D A (qw_X8_marches cI cJ cC cG cW a_this a_this_laid a_this_text a_this_read a_this_numbers a_this_where a_this_sorts a_this_tells a_this_undone a_this_parts a_this_goesWith a_this_with a_this_keeps z_letters z_at z_walked z_counts z_undos z_all z_planned z_scale z_least z_kept z_laid z_goesWith z_with) → va_S A s.heap H locs → lv_has ls 12 [(0, .ref a_this), (1, .int x1), (2, .int x2), (3, .int x3)] → W p l e ({ frames := 1, cells := 0, slots := 0, locals := 24 } : Room) s m args below meth c H locs 0 0 (MQ below (va_Qv (fun (u : (Int32) × (Nat → Int32) × (Nat → Int32)) => Post u.1 u.2.1 u.2.2) (fun u t => poW (dC, dI) (tyL cI cJ cC cG cW) A (qw_X8_marches cI cJ cC cG cW a_this a_this_laid a_this_text a_this_read a_this_numbers a_this_where a_this_sorts a_this_tells a_this_undone a_this_parts a_this_goesWith a_this_with a_this_keeps z_letters z_at z_walked z_counts z_undos z_all z_planned z_scale u.1 z_kept z_laid u.2.1 u.2.2) t) A) args s 0 0 A) (F0 m 22 ls []) := by
  obtain ⟨hx, hb, hr, hml, hown, hts, hlocks⟩ := id C0
  intro n
  induction n with
  | zero =>
    intro x3 z_least z_goesWith z_with H locs ls hV
    exact False.elim hV
  | succ n ih =>
    intro x3 z_least z_goesWith z_with H locs ls hV hP hD hS hl
    refine lv_iload_n hx hb dX8_marches_22 rfl (lv_at hl 3 rfl) ?_
    refine lv_iload_n hx hb dX8_marches_23 rfl (lv_at hl 2 rfl) ?_
    refine lv_icmp_ge (tgt := 333) hx hb dX8_marches_24 (by decide) (fun c3 => ?_) (fun c3 => ?_)
    · have hV := hV.1 c3
      exact hE z_least z_goesWith z_with H locs ls hV hP hD hS (lv_sub hl [] rfl)
    · have hV := hV.2 c3
      refine lv_iconst (v := (0 : Int32)) hx hb dX8_marches_27 (by decide) ?_
      refine lv_istore (lv' := [(4, .int (0 : Int32)), (0, .ref a_this), (1, .int x1), (2, .int x2), (3, .int x3)]) hx hb dX8_marches_28 hl (by decide) rfl (fun ls hl => ?_)
      refine lv_iconst (v := (0 : Int32)) hx hb dX8_marches_30 (by decide) ?_
      refine lv_istore (lv' := [(5, .int (0 : Int32)), (4, .int (0 : Int32)), (0, .ref a_this), (1, .int x1), (2, .int x2), (3, .int x3)]) hx hb dX8_marches_31 hl (by decide) rfl (fun ls hl => ?_)
      refine lv_iconst (v := (0 : Int32)) hx hb dX8_marches_33 (by decide) ?_
      refine lv_istore (lv' := [(6, .int (0 : Int32)), (5, .int (0 : Int32)), (4, .int (0 : Int32)), (0, .ref a_this), (1, .int x1), (2, .int x2), (3, .int x3)]) hx hb dX8_marches_34 hl (by decide) rfl (fun ls hl => ?_)
      refine lv_iload_n hx hb dX8_marches_36 rfl (lv_at hl 6 rfl) ?_
      refine lv_istore (lv' := [(7, .int x3), (6, .int (0 : Int32)), (5, .int (0 : Int32)), (4, .int (0 : Int32)), (0, .ref a_this), (1, .int x1), (2, .int x2), (3, .int x3)]) hx hb dX8_marches_37 hl (by decide) rfl (fun ls hl => ?_)
      refine lv_iconst (v := (1 : Int32)) hx hb dX8_marches_39 (by decide) ?_
      refine lv_istore (lv' := [(8, .int (1 : Int32)), (7, .int x3), (6, .int (0 : Int32)), (5, .int (0 : Int32)), (4, .int (0 : Int32)), (0, .ref a_this), (1, .int x1), (2, .int x2), (3, .int x3)]) hx hb dX8_marches_40 hl (by decide) rfl (fun ls hl => ?_)
      refine lv_iconst (v := (0 : Int32)) hx hb dX8_marches_42 (by decide) ?_
      refine lv_istore (lv' := [(9, .int (0 : Int32)), (8, .int (1 : Int32)), (7, .int x3), (6, .int (0 : Int32)), (5, .int (0 : Int32)), (4, .int (0 : Int32)), (0, .ref a_this), (1, .int x1), (2, .int x2), (3, .int x3)]) hx hb dX8_marches_43 hl (by decide) rfl (fun ls hl => ?_)
      obtain ⟨n20, hV⟩ := hV
      refine qt_X8_marches_L45 C0 hK hN hA z_letters z_at z_walked z_counts z_undos z_all z_planned z_scale z_least z_kept z_laid z_goesWith x1 x2 x3 _ _ (fun x5_20 x6_20 x8_20 z_with_20 H locs ls hV hP hD hS hl => ?_) n20 (0 : Int32) (0 : Int32) (0 : Int32) x3 (1 : Int32) (0 : Int32) z_with H locs ls hV hP hD hS (lv_sub hl [6, 7, 8, 9, 5, 4, 3, 2, 1, 0] rfl)
      refine lv_iload hx hb dX8_marches_239 (lv_at hl 6 rfl) ?_
      refine lv_if_eq (tgt := 272) hx hb dX8_marches_241 (by decide) (fun c21 => ?_) (fun c21 => ?_)
      · have hV := hV.1 c21
        refine lv_iconst (v := (0 : Int32)) hx hb dX8_marches_272 (by decide) ?_
        exact qt_X8_marches_J273 C0 hK hN hA z_letters z_at z_walked z_counts z_undos z_all z_planned z_scale z_least z_kept z_laid z_goesWith z_with_20 (0 : Int32) x1 x2 x3 x6_20 _ _ _ ih hE H locs ls hV hP hD hS (lv_sub hl [0, 1, 2, 3, 5] rfl)
      · have hV := hV.2 c21
        refine lv_iload hx hb dX8_marches_244 (lv_at hl 4 rfl) ?_
        refine lv_iload_n hx hb dX8_marches_246 rfl (lv_at hl 1 rfl) ?_
        refine lv_iconst (v := (2 : Int32)) hx hb dX8_marches_247 (by decide) ?_
        refine lv_irem hx hb dX8_marches_248 (by decide) ?_
        refine lv_icmp_ne (tgt := 272) hx hb dX8_marches_249 (by decide) (fun c29 => ?_) (fun c29 => ?_)
        · have hV := hV.2 c29
          refine lv_iconst (v := (0 : Int32)) hx hb dX8_marches_272 (by decide) ?_
          exact qt_X8_marches_J273 C0 hK hN hA z_letters z_at z_walked z_counts z_undos z_all z_planned z_scale z_least z_kept z_laid z_goesWith z_with_20 (0 : Int32) x1 x2 x3 x6_20 _ _ _ ih hE H locs ls hV hP hD hS (lv_sub hl [0, 1, 2, 3, 5] rfl)
        · have hV := hV.1 c29
          refine lv_aload_n hx hb dX8_marches_252 rfl (lv_at hl 0 rfl) ?_
          refine va_get (D := (dC, dI)) (ci := 8) (v := .int z_least) (C := RX8) (T := TX8) (N := 22) hx hb hts qi_X8_marches_X8 hown hK hP 0 rfl rfl 18 (by decide) (hts _ ql_X8_marches_200) (fun _ h9 => h9) rfl dX8_marches_253 ?_
          refine lv_if_lt (tgt := 268) hx hb dX8_marches_256 (by decide) (fun c30 => ?_) (fun c30 => ?_)
          · have hV := hV.1 c30
            refine lv_iconst (v := (1 : Int32)) hx hb dX8_marches_268 (by decide) ?_
            refine lv_goto (tgt := 273) hx hb dX8_marches_269 (by decide) ?_
            exact qt_X8_marches_J273 C0 hK hN hA z_letters z_at z_walked z_counts z_undos z_all z_planned z_scale z_least z_kept z_laid z_goesWith z_with_20 (1 : Int32) x1 x2 x3 x6_20 _ _ _ ih hE H locs ls hV hP hD hS (lv_sub hl [0, 1, 2, 3, 5] rfl)
          · have hV := hV.2 c30
            refine lv_iload hx hb dX8_marches_259 (lv_at hl 5 rfl) ?_
            refine lv_aload_n hx hb dX8_marches_261 rfl (lv_at hl 0 rfl) ?_
            refine va_get (D := (dC, dI)) (ci := 8) (v := .int z_least) (C := RX8) (T := TX8) (N := 22) hx hb hts qi_X8_marches_X8 hown hK hP 0 rfl rfl 18 (by decide) (hts _ ql_X8_marches_200) (fun _ h9 => h9) rfl dX8_marches_262 ?_
            refine lv_icmp_ge (tgt := 272) hx hb dX8_marches_265 (by decide) (fun c31 => ?_) (fun c31 => ?_)
            · have hV := hV.1 c31
              refine lv_iconst (v := (0 : Int32)) hx hb dX8_marches_272 (by decide) ?_
              exact qt_X8_marches_J273 C0 hK hN hA z_letters z_at z_walked z_counts z_undos z_all z_planned z_scale z_least z_kept z_laid z_goesWith z_with_20 (0 : Int32) x1 x2 x3 x6_20 _ _ _ ih hE H locs ls hV hP hD hS (lv_sub hl [0, 1, 2, 3, 5] rfl)
            · have hV := hV.2 c31
              refine lv_iconst (v := (1 : Int32)) hx hb dX8_marches_268 (by decide) ?_
              refine lv_goto (tgt := 273) hx hb dX8_marches_269 (by decide) ?_
              exact qt_X8_marches_J273 C0 hK hN hA z_letters z_at z_walked z_counts z_undos z_all z_planned z_scale z_least z_kept z_laid z_goesWith z_with_20 (1 : Int32) x1 x2 x3 x6_20 _ _ _ ih hE H locs ls hV hP hD hS (lv_sub hl [0, 1, 2, 3, 5] rfl)
def qv_X8_marches (z_least : Int32) (z_laid : Nat → Int32) (z_goesWith : Nat → Int32) (z_with : Nat → Int32) (Post : (Int32) → (Nat → Int32) → (Nat → Int32) → Prop) : Prop := vp_in (1 : Int32) 73 ∧ (qv_X8_power (6 : Int32) (z_laid (1 : Int32).toNatClampNeg) (fun r2 => ∃ n32, qv_X8_marches_L22 (z_laid (1 : Int32).toNatClampNeg) r2 z_laid Post (fun z_least_32 z_goesWith_32 z_with_32 => Post z_least_32 z_goesWith_32 z_with_32) n32 (0 : Int32) (-1 : Int32) z_goesWith z_with))
set_option maxHeartbeats 4000000 in
set_option maxRecDepth 100000 in
theorem qm_X8_marches (l : Launch) (dC : Nat → ClassId) (dI : Nat → Nat → Nat) (cI cJ cC cG cW : ClassId) (a_this a_this_laid a_this_text a_this_read a_this_numbers a_this_where a_this_sorts a_this_tells a_this_undone a_this_parts a_this_goesWith a_this_with a_this_keeps : Nat) (z_letters : Int32) (z_at : Int32) (z_walked : Int32) (z_counts : Int32) (z_undos : Int32) (z_all : Int64) (z_planned : Int64) (z_scale : Int64) (z_least : Int32) (z_kept : Int32) (z_laid : Nat → Int32) (z_goesWith : Nat → Int32) (z_with : Nat → Int32) (sz : Nat) (Post : (Int32) → (Nat → Int32) → (Nat → Int32) → Prop) (hV : qv_X8_marches z_least z_laid z_goesWith z_with Post) : Met l yX8_marches wsX8_marches ({ frames := 1, cells := 0, slots := 0, locals := 24 } : Room) (va_Pc [.ref a_this] (prW (dC, dI) (qw_X8_marches cI cJ cC cG cW a_this a_this_laid a_this_text a_this_read a_this_numbers a_this_where a_this_sorts a_this_tells a_this_undone a_this_parts a_this_goesWith a_this_with a_this_keeps z_letters z_at z_walked z_counts z_undos z_all z_planned z_scale z_least z_kept z_laid z_goesWith z_with) (tyL cI cJ cC cG cW) sz)) (va_Qv (fun (u : (Int32) × (Nat → Int32) × (Nat → Int32)) => Post u.1 u.2.1 u.2.2) (fun u t => poW (dC, dI) (tyL cI cJ cC cG cW) (va_A (qw_X8_marches cI cJ cC cG cW a_this a_this_laid a_this_text a_this_read a_this_numbers a_this_where a_this_sorts a_this_tells a_this_undone a_this_parts a_this_goesWith a_this_with a_this_keeps z_letters z_at z_walked z_counts z_undos z_all z_planned z_scale z_least z_kept z_laid z_goesWith z_with) sz) (qw_X8_marches cI cJ cC cG cW a_this a_this_laid a_this_text a_this_read a_this_numbers a_this_where a_this_sorts a_this_tells a_this_undone a_this_parts a_this_goesWith a_this_with a_this_keeps z_letters z_at z_walked z_counts z_undos z_all z_planned z_scale u.1 z_kept z_laid u.2.1 u.2.2) t) (va_A (qw_X8_marches cI cJ cC cG cW a_this a_this_laid a_this_text a_this_read a_this_numbers a_this_where a_this_sorts a_this_tells a_this_undone a_this_parts a_this_goesWith a_this_with a_this_keeps z_letters z_at z_walked z_counts z_undos z_all z_planned z_scale z_least z_kept z_laid z_goesWith z_with) sz)) 0 0 (va_A (qw_X8_marches cI cJ cC cG cW a_this a_this_laid a_this_text a_this_read a_this_numbers a_this_where a_this_sorts a_this_tells a_this_undone a_this_parts a_this_goesWith a_this_with a_this_keeps z_letters z_at z_walked z_counts z_undos z_all z_planned z_scale z_least z_kept z_laid z_goesWith z_with) sz) := by
  refine Met.ofM (Qc := fun A => va_Qv (fun (u : (Int32) × (Nat → Int32) × (Nat → Int32)) => Post u.1 u.2.1 u.2.2) (fun u t => poW (dC, dI) (tyL cI cJ cC cG cW) A (qw_X8_marches cI cJ cC cG cW a_this a_this_laid a_this_text a_this_read a_this_numbers a_this_where a_this_sorts a_this_tells a_this_undone a_this_parts a_this_goesWith a_this_with a_this_keeps z_letters z_at z_walked z_counts z_undos z_all z_planned z_scale u.1 z_kept z_laid u.2.1 u.2.2) t) A) (nm := "marches") (ds := "()V") (own := RX8) (maxL := 12) (cc := cX8_marches) (ret := none) (by decide) rfl rfl (Nat.le_of_ble_eq_true rfl) (fun p e s m below meth c A C0 hin hK hN hA hP hD hS ls hl => ?_)
  obtain ⟨hx, hb, hr, hml, hown, hts, hlocks⟩ := id C0
  have hl : lv_has ls 12 [(0, .ref a_this)] := hl
  obtain ⟨H, hH⟩ : ∃ h : Heap, h = s.heap := ⟨_, rfl⟩
  obtain ⟨locs, hLc⟩ : ∃ L : List Loc, L = [] := ⟨_, rfl⟩
  have hS : va_S A s.heap H locs := by rw [hH, hLc]; exact hS
  rw [← hH] at hP
  rw [← hLc, ← hH]
  clear hH hLc
  refine lv_aload_n hx hb dX8_marches_0 rfl (lv_at hl 0 rfl) ?_
  refine va_get (D := (dC, dI)) (ci := 8) (v := .ref a_this_laid) (C := RX8) (T := TX8) (N := 22) hx hb hts qi_X8_marches_X8 hown hK hP 0 rfl rfl 0 (by decide) (hts _ ql_X8_marches_7) (fun _ h9 => h9) rfl dX8_marches_1 ?_
  refine lv_iconst (v := (1 : Int32)) hx hb dX8_marches_4 (by decide) ?_
  obtain ⟨h1, hV⟩ := hV
  refine va_iald hx hb hK hP 1 0 rfl rfl h1 dX8_marches_5 ?_
  refine lv_istore_n (lv' := [(1, .int (z_laid (1 : Int32).toNatClampNeg)), (0, .ref a_this)]) hx hb dX8_marches_6 rfl hl (by decide) rfl (fun ls hl => ?_)
  refine lv_aload_n hx hb dX8_marches_7 rfl (lv_at hl 1 rfl) ?_
  refine lv_bipush (v := (6 : Int32)) hx hb dX8_marches_8 (by decide) ?_
  refine lv_iload_n hx hb dX8_marches_10 rfl (lv_at hl 0 rfl) ?_
  refine vp_callSi (va_Run.run (va_runV (As := [.int (6 : Int32), .int (z_laid (1 : Int32).toNatClampNeg)]) (rest := []) ⟨hx, hb, hml, hown, hts⟩ (qm_X8_power l dC dI cI cJ cC cG cW a_this a_this_laid a_this_text a_this_read a_this_numbers a_this_where a_this_sorts a_this_tells a_this_undone a_this_parts a_this_goesWith a_this_with a_this_keeps z_letters z_at z_walked z_counts z_undos z_all z_planned z_scale z_least z_kept (6 : Int32) (z_laid (1 : Int32).toNatClampNeg) _ hV) (cwV 2 hts gX8_marches_X8_power rfl rfl rfl (by decide +kernel) ⟨Nat.le_of_ble_eq_true rfl, Nat.le_of_ble_eq_true rfl⟩) (preRV hK hN (hP.sub (ws' := (qw_X8_power cI cJ cC cG cW a_this a_this_laid a_this_text a_this_read a_this_numbers a_this_where a_this_sorts a_this_tells a_this_undone a_this_parts a_this_goesWith a_this_with a_this_keeps z_letters z_at z_walked z_counts z_undos z_all z_planned z_scale z_least z_kept)) [0] rfl) rfl rfl) rfl rfl hl.1 rfl (lv_room (Nat.le_of_ble_eq_true rfl)) dX8_marches_11 ⟨Nat.le_of_ble_eq_true rfl, Nat.le_of_ble_eq_true rfl⟩)) (fun r2 hV => ?_)
  refine lv_istore_n (lv' := [(2, .int r2), (1, .int (z_laid (1 : Int32).toNatClampNeg)), (0, .ref a_this)]) hx hb dX8_marches_14 rfl hl (by decide) rfl (fun ls hl => ?_)
  refine lv_aload_n hx hb dX8_marches_15 rfl (lv_at hl 2 rfl) ?_
  refine lv_iconst (v := (-1 : Int32)) hx hb dX8_marches_16 (by decide) ?_
  refine va_put (D := (dC, dI)) (ci := 8) (v := .int (-1 : Int32)) (ty := .int) (C := RX8) (T := TX8) (N := 22) hx hb hts qi_X8_marches_X8 tyX8 tyX8_ok nmX8 hown hK hP hD hS 0 rfl rfl 18 (by decide) (hts _ ql_X8_marches_200) (fun _ h9 => h9) rfl (by decide +kernel) rfl rfl (Nat.le_of_ble_eq_true rfl) dX8_marches_17 (fun H locs hP hD hS => ?_)
  have hP : va_P (dC, dI) vwCl (qw_X8_marches cI cJ cC cG cW a_this a_this_laid a_this_text a_this_read a_this_numbers a_this_where a_this_sorts a_this_tells a_this_undone a_this_parts a_this_goesWith a_this_with a_this_keeps z_letters z_at z_walked z_counts z_undos z_all z_planned z_scale (-1 : Int32) z_kept z_laid z_goesWith z_with) H := hP
  have hD : va_D A (qw_X8_marches cI cJ cC cG cW a_this a_this_laid a_this_text a_this_read a_this_numbers a_this_where a_this_sorts a_this_tells a_this_undone a_this_parts a_this_goesWith a_this_with a_this_keeps z_letters z_at z_walked z_counts z_undos z_all z_planned z_scale (-1 : Int32) z_kept z_laid z_goesWith z_with) := hD
  refine lv_iconst (v := (0 : Int32)) hx hb dX8_marches_20 (by decide) ?_
  refine lv_istore_n (lv' := [(3, .int (0 : Int32)), (2, .int r2), (1, .int (z_laid (1 : Int32).toNatClampNeg)), (0, .ref a_this)]) hx hb dX8_marches_21 rfl hl (by decide) rfl (fun ls hl => ?_)
  obtain ⟨n32, hV⟩ := hV
  refine qt_X8_marches_L22 C0 hK hN hA z_letters z_at z_walked z_counts z_undos z_all z_planned z_scale z_kept z_laid (z_laid (1 : Int32).toNatClampNeg) r2 _ _ (fun z_least_32 z_goesWith_32 z_with_32 H locs ls hV hP hD hS hl => ?_) n32 (0 : Int32) (-1 : Int32) z_goesWith z_with H locs ls hV hP hD hS (lv_sub hl [3, 2, 1, 0] rfl)
  exact W.vret hx hb hr (fun t ht hW => ⟨⟨(z_least_32, z_goesWith_32, z_with_32), rfl, hV, ⟨by rw [ht]; exact hP, va_K.moved hW.alike hK, hD⟩⟩, hS.F ht⟩) hS.2.2 dX8_marches_333 hlocks
