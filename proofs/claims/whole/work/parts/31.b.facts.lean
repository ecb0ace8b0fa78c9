/-! what the start gives: classes, array classes, nest links, text constants, the static rows -/
theorem e_F : ∀ j, j < 73 → (Cond.eq (.elem (.field (.string RX7 69) "java/lang/String" "value" "[B") (.int (Int32.ofNat j))) (.int (bytF.getD j 0))) ∈ flatC (Jvm.Cond.and given_1 narrow_1) := by decide +kernel
theorem e_K : ∀ j, j < 5 → (Cond.eq (.elem (.field (.string RX4 33) "java/lang/String" "value" "[B") (.int (Int32.ofNat j))) (.int (bytK.getD j 0))) ∈ flatC (Jvm.Cond.and given_1 narrow_1) := by decide +kernel
theorem e_N : ∀ j, j < 5 → (Cond.eq (.elem (.static RX4 "NUMBERS" "[I") (.int (Int32.ofNat j))) (.int (numF j))) ∈ flatC (Jvm.Cond.and given_1 narrow_1) := by decide +kernel
theorem e_L : ∀ j, j < 15 → (Cond.eq (.elem (.static RX4 "LEAST" "[I") (.int (Int32.ofNat j))) (.int (leaF j))) ∈ flatC (Jvm.Cond.and given_1 narrow_1) := by decide +kernel
theorem e_M : ∀ j, j < 15 → (Cond.eq (.elem (.static RX4 "MOST" "[I") (.int (Int32.ofNat j))) (.int (mosF j))) ∈ flatC (Jvm.Cond.and given_1 narrow_1) := by decide +kernel
def tmS : Nat → Term := fun i => if i = 0 then .string RX7 69 else .string RX4 33
theorem two_c {P : Nat → Prop} (h0 : P 0) (h1 : P 1) : ∀ i, i < 2 → P i := fun i hi => by
  rcases (show i = 0 ∨ i = 1 by omega) with rfl | rfl
  · exact h0
  · exact h1
theorem start_Z {s : State} {args : Array Value} (hts : ∀ w ∈ lw_tbl, w.before args s = true) (hgv : (Jvm.Cond.and given_1 narrow_1).before args s = true) : ∃ (adK adV : Nat → Nat) (t0 t1 t2 : Nat), ST adK adV t0 t1 t2 (fun q : Nat => s.heap.size ≤ q) s s.heap := by
  have hs := flat_of_before _ hgv
  have hA : ∀ a : Nat, a < s.heap.size → ¬ (fun q : Nat => s.heap.size ≤ q) a := fun a h => Nat.not_le.mpr h
  have hno := hs (Cond.not (Cond.eq (.string RX7 69) (.string RX4 33))) (by decide +kernel)
  obtain ⟨adK, adV, hS, hev⟩ := vk_Sof (args := args) (s := s) (N := 2) (tm := tmS) (len := lenS) (byt := bytS) (A := fun q : Nat => s.heap.size ≤ q)
    (two_c (by first | decide | exact vd (by decide)) (by first | decide | exact vd (by decide)))
    (two_c (hs (Cond.exactly (.string RX7 69) "java/lang/String") (by decide +kernel)) (hs (Cond.exactly (.string RX4 33) "java/lang/String") (by decide +kernel)))
    (two_c (hs (Cond.eq (.field (.string RX7 69) "java/lang/String" "coder" "B") (.int 0)) (by decide +kernel)) (hs (Cond.eq (.field (.string RX4 33) "java/lang/String" "coder" "B") (.int 0)) (by decide +kernel)))
    (two_c (hs (Cond.arrayOf (.field (.string RX7 69) "java/lang/String" "value" "[B") .byte) (by decide +kernel)) (hs (Cond.arrayOf (.field (.string RX4 33) "java/lang/String" "value" "[B") .byte) (by decide +kernel)))
    (two_c (hs (Cond.eq (.length (.field (.string RX7 69) "java/lang/String" "value" "[B")) (.int 73)) (by decide +kernel)) (hs (Cond.eq (.length (.field (.string RX4 33) "java/lang/String" "value" "[B")) (.int 5)) (by decide +kernel)))
    (two_c (fun j hj => hs _ (e_F j hj)) (fun j hj => hs _ (e_K j hj)))
    (fun i j hi hj hn => by
      rcases (show (i = 0 ∧ j = 1) ∨ (i = 1 ∧ j = 0) by omega) with ⟨rfl, rfl⟩ | ⟨rfl, rfl⟩
      · exact Or.inl hno
      · exact Or.inr hno) hA
  · obtain ⟨t0, h0, T0⟩ := va_Tof (args := args) (s := s) (tm := .static RX4 "NUMBERS" "[I") (ty := .int) (N := 5) (f := fun j => .int (numF j)) (A := fun q : Nat => s.heap.size ≤ q) (by first | decide | exact vd (by decide)) (hs (Cond.arrayOf (.static RX4 "NUMBERS" "[I") .int) (by decide +kernel)) (va_eqt (hs (Cond.eq (.length (.static RX4 "NUMBERS" "[I")) (.int 5)) (by decide +kernel))) (fun j hj => va_eqt (hs _ (e_N j hj))) hA
    obtain ⟨t1, h1, T1⟩ := va_Tof (args := args) (s := s) (tm := .static RX4 "LEAST" "[I") (ty := .int) (N := 15) (f := fun j => .int (leaF j)) (A := fun q : Nat => s.heap.size ≤ q) (by first | decide | exact vd (by decide)) (hs (Cond.arrayOf (.static RX4 "LEAST" "[I") .int) (by decide +kernel)) (va_eqt (hs (Cond.eq (.length (.static RX4 "LEAST" "[I")) (.int 15)) (by decide +kernel))) (fun j hj => va_eqt (hs _ (e_L j hj))) hA
    obtain ⟨t2, h2, T2⟩ := va_Tof (args := args) (s := s) (tm := .static RX4 "MOST" "[I") (ty := .int) (N := 15) (f := fun j => .int (mosF j)) (A := fun q : Nat => s.heap.size ≤ q) (by first | decide | exact vd (by decide)) (hs (Cond.arrayOf (.static RX4 "MOST" "[I") .int) (by decide +kernel)) (va_eqt (hs (Cond.eq (.length (.static RX4 "MOST" "[I")) (.int 15)) (by decide +kernel))) (fun j hj => va_eqt (hs _ (e_M j hj))) hA
    refine ⟨adK, adV, t0, t1, t2, hS, ?_, ?_, ?_, ?_, ⟨?_, T0⟩, ⟨?_, T1⟩, ⟨?_, T2⟩⟩
    · exact va_Zof (hts _ tw_ls0) (hts _ tw_iz0) (va_eqt (hs (Cond.eq (.static "java/lang/String" "COMPACT_STRINGS" "Z") (.int 1)) (by decide +kernel))) hA
    · exact va_Zqof (hts _ tw_ls1) (hts _ tw_iz1) (hs (Cond.isRef (.static "jdk/internal/util/Preconditions" "SIOOBE_FORMATTER" "Ljava/util/function/BiFunction;")) (by decide +kernel)) hA
    · exact vk_R.of (A := args) (hts _ tw_sr0) (hev 0 (by first | decide | exact vd (by decide)))
    · exact vk_R.of (A := args) (hts _ tw_sr1) (hev 1 (by first | decide | exact vd (by decide)))
    · exact va_Zref (hts _ tw_ls2) (hts _ tw_iz4) h0 hA
    · exact va_Zref (hts _ tw_ls3) (hts _ tw_iz4) h1 hA
    · exact va_Zref (hts _ tw_ls4) (hts _ tw_iz4) h2 hA
theorem nw_in : ∀ q ∈ nwL, (Cond.methodLinkNest q.1 q.2.1 q.2.2 "StileCounts") ∈ lw_tbl := by decide +kernel
theorem start_N {s : State} {args : Array Value} (hts : ∀ w ∈ lw_tbl, w.before args s = true) : NW s :=
  ⟨fun q hq => va_Nw.of rfl (hts _ (nw_in q hq)), va_AO.of (hts _ tw_ao_o), hts _ tw_ao_a⟩
theorem ac_of {s : State} {args : Array Value} {t : FieldType} (h : (Cond.arrayClass t).before args s = true) : ∃ cA : ClassId, ArrOfT s cA t ∧ s.vm.findClass ("[" ++ t.toString) = some cA := by
  obtain ⟨c, k, comp, h1, h2, h3⟩ := Cond.arrayClass_spec h
  exact ⟨c, fun n z => ⟨fun k h => (by cases h), k, h2, comp, h3⟩, h1⟩
theorem start_K {s : State} {args : Array Value} (hts : ∀ w ∈ lw_tbl, w.before args s = true) : ∃ (dC : Nat → ClassId) (dI : Nat → Nat → Nat) (cI cJ cC cG cW : ClassId), va_K (dC, dI) vwCl (tyL cI cJ cC cG cW) s := by
  obtain ⟨c0, i0, k0⟩ := u_known (C := RX0) (T := TX0) (N := 3) (n := 3) hts inX0 (hts _ tw_in0)
  obtain ⟨c1, i1, k1⟩ := u_known (C := RX1) (T := TX1) (N := 3) (n := 3) hts inX1 (hts _ tw_in1)
  obtain ⟨c2, i2, k2⟩ := u_known (C := RX2) (T := TX2) (N := 11) (n := 11) hts inX2 (hts _ tw_in2)
  obtain ⟨c3, i3, k3⟩ := u_known (C := RX3) (T := TX3) (N := 4) (n := 4) hts inX3 (hts _ tw_in3)
  obtain ⟨c4, i4, k4⟩ := u_known (C := RX4) (T := TX4) (N := 2) (n := 2) hts inX4 (hts _ tw_in4)
  obtain ⟨c5, i5, k5⟩ := u_known (C := RX5) (T := TX5) (N := 2) (n := 2) hts inX5 (hts _ tw_in5)
  obtain ⟨c6, i6, k6⟩ := u_known (C := RX6) (T := TX6) (N := 6) (n := 6) hts inX6 (hts _ tw_in6)
  obtain ⟨c7, i7, k7⟩ := u_known (C := RX7) (T := TX7) (N := 10) (n := 10) hts inX7 (hts _ tw_in7)
  obtain ⟨c8, i8, k8⟩ := u_known (C := RX8) (T := TX8) (N := 22) (n := 22) hts inX8 (hts _ tw_in8)
  obtain ⟨cI, aI, bI⟩ := ac_of (hts _ tw_ac_int)
  obtain ⟨cJ, aJ, bJ⟩ := ac_of (hts _ tw_ac_long)
  obtain ⟨cC, aC, bC⟩ := ac_of (hts _ tw_ac_char)
  obtain ⟨gp, cG, gk, g1, g2, g3, g4, g5⟩ := va_AOA.told (hts _ tw_ao_a)
  obtain ⟨wp, cW, wk, w1, w2, w3, w4, w5⟩ := Cond.arrayOver_spec (hts _ tw_ao_o)
  refine ⟨fun k => if k = 0 then c0 else if k = 1 then c1 else if k = 2 then c2 else if k = 3 then c3 else if k = 4 then c4 else if k = 5 then c5 else if k = 6 then c6 else if k = 7 then c7 else c8, fun k => if k = 0 then i0 else if k = 1 then i1 else if k = 2 then i2 else if k = 3 then i3 else if k = 4 then i4 else if k = 5 then i5 else if k = 6 then i6 else if k = 7 then i7 else i8, cI, cJ, cC, cG, cW, ?_, ?_⟩
  · intro k q hq
    match k, hq with
    | 0, hq => cases hq; exact k0
    | 1, hq => cases hq; exact k1
    | 2, hq => cases hq; exact k2
    | 3, hq => cases hq; exact k3
    | 4, hq => cases hq; exact k4
    | 5, hq => cases hq; exact k5
    | 6, hq => cases hq; exact k6
    | 7, hq => cases hq; exact k7
    | 8, hq => cases hq; exact k8
    | k + 9, hq => simp [vwCl] at hq
  · intro k q hq
    match k, hq with
    | 0, hq => cases hq; exact ⟨aI, bI⟩
    | 1, hq => cases hq; exact ⟨aJ, bJ⟩
    | 2, hq => cases hq; exact ⟨aC, bC⟩
    | 3, hq => cases hq; exact ⟨fun n z => ⟨fun k h => (by cases h), gk, g3, gp, g4⟩, g5⟩
    | 4, hq => cases hq; exact ⟨fun n z => ⟨fun k h => (by cases h), wk, w3, wp, w4⟩, wk, wp, w3, w4, w1, w5⟩
    | k + 5, hq => simp [tyL] at hq
