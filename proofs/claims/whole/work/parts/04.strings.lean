/-! text constants and the static rows: what the start gives of them, and the String methods over them -/
def lenS : List Nat := [73, 5]
def bytF : List Int32 := [115, 50, 48, 44, 49, 44, 50, 59, 115, 51, 48, 44, 51, 44, 49, 59, 115, 49, 48, 44, 48, 44, 53, 59, 117, 48, 44, 50, 44, 49, 59, 117, 49, 44, 48, 44, 52, 59, 117, 50, 44, 49, 44, 50, 59, 117, 51, 44, 51, 44, 49, 59, 116, 48, 44, 49, 44, 53, 59, 116, 50, 44, 51, 44, 50, 59, 116, 48, 44, 50, 44, 49, 59]
def bytK : List Int32 := [115, 117, 104, 107, 116]
def bytS : List (List Int32) := [bytF, bytK]
def numF : Nat → Int32 := fun i => ([3, 3, 3, 1, 3] : List Int32).getD i 0
def leaF : Nat → Int32 := fun i => ([1, 0, 0, 0, 0, 0, 0, 0, 0, 1, 0, 0, 0, 0, 0] : List Int32).getD i 0
def mosF : Nat → Int32 := fun i => ([60, 10, 10, 3, 5, 60, 99, 99, 10, 6, 0, 0, 5, 5, 9] : List Int32).getD i 0
def txF : String := "s20,1,2;s30,3,1;s10,0,5;u0,2,1;u1,0,4;u2,1,2;u3,3,1;t0,1,5;t2,3,2;t0,2,1;"
/-- what stands outside the system's own cells: the text constants, COMPACT_STRINGS, the three static rows of Reader -/
def ST (adK adV : Nat → Nat) (t0 t1 t2 : Nat) (A : Nat → Prop) (U : State) (H : Heap) : Prop :=
  vk_S 2 lenS bytS adK adV A U H ∧ va_Z "java/lang/String" "COMPACT_STRINGS" "Z" (.int 1) A U H ∧ va_Zq "jdk/internal/util/Preconditions" "SIOOBE_FORMATTER" "Ljava/util/function/BiFunction;" A U H ∧ vk_R RX7 69 txF (adK 0) U ∧ vk_R RX4 33 "suhkt" (adK 1) U ∧
  (va_Z RX4 "NUMBERS" "[I" (.ref t0) A U H ∧ va_T .int t0 5 (fun j => .int (numF j)) A U H) ∧ (va_Z RX4 "LEAST" "[I" (.ref t1) A U H ∧ va_T .int t1 15 (fun j => .int (leaF j)) A U H) ∧ (va_Z RX4 "MOST" "[I" (.ref t2) A U H ∧ va_T .int t2 15 (fun j => .int (mosF j)) A U H)
section KS
variable {adK adV : Nat → Nat} {t0 t1 t2 : Nat} {A B : Nat → Prop} {s U : State} {H H1 : Heap}
theorem ST.warm (hW : s.WarmedH U.vm) (h : ST adK adV t0 t1 t2 A s H) : ST adK adV t0 t1 t2 A U H := by
  obtain ⟨h1, h2, h3, h4, h5, ⟨h6, h7⟩, ⟨h8, h9⟩, h10, h11⟩ := h
  exact ⟨h1.moved hW.alike, h2.moved hW.alike, h3.moved hW.alike, h4.warm hW, h5.warm hW, ⟨h6.moved hW.alike, h7.moved hW.alike⟩, ⟨h8.moved hW.alike, h9.moved hW.alike⟩, h10.moved hW.alike, h11.moved hW.alike⟩
theorem ST.same (hv : U.vm = s.vm) (h : ST adK adV t0 t1 t2 A s H) : ST adK adV t0 t1 t2 A U H := by
  have hw : s.vm.Alike U.vm := by rw [hv]; exact Vm.Alike.refl _
  obtain ⟨h1, h2, h3, h4, h5, ⟨h6, h7⟩, ⟨h8, h9⟩, h10, h11⟩ := h
  exact ⟨h1.moved hw, h2.moved hw, h3.moved hw, h4.same hv, h5.same hv, ⟨h6.moved hw, h7.moved hw⟩, ⟨h8.moved hw, h9.moved hw⟩, h10.moved hw, h11.moved hw⟩
theorem ST.kept (h : ST adK adV t0 t1 t2 A s H) (hq : ∀ a : Nat, a < H.size → ¬ A a → H1[a]? = H[a]?) : ST adK adV t0 t1 t2 A s H1 := by
  obtain ⟨h1, h2, h3, h4, h5, ⟨h6, h7⟩, ⟨h8, h9⟩, h10, h11⟩ := h
  exact ⟨h1.kept hq, h2.kept hq, h3.kept hq, h4, h5, ⟨h6.kept hq, h7.kept hq⟩, ⟨h8.kept hq, h9.kept hq⟩, h10.kept hq, h11.kept hq⟩
theorem ST.narrow (h : ST adK adV t0 t1 t2 A s H) (hAB : ∀ q, B q → A q) : ST adK adV t0 t1 t2 B s H := by
  obtain ⟨h1, h2, h3, h4, h5, ⟨h6, h7⟩, ⟨h8, h9⟩, h10, h11⟩ := h
  exact ⟨h1.narrow hAB, h2.narrow hAB, h3.narrow hAB, h4, h5, ⟨h6.narrow hAB, h7.narrow hAB⟩, ⟨h8.narrow hAB, h9.narrow hAB⟩, h10.narrow hAB, h11.narrow hAB⟩
end KS
/-- the start of a String method -/
def prJ (adK adV : Nat → Nat) (t0 t1 t2 : Nat) : State → Prop := fun U => ST adK adV t0 t1 t2 (fun _ => False) U U.heap
theorem blJ {adK adV : Nat → Nat} {t0 t1 t2 : Nat} {av : List Value} : FrameBlind (va_Pc av (prJ adK adV t0 t1 t2)) := fun a U g mk q => ⟨q.1, ST.same (s := U) (U := U.calling g mk a) rfl q.2⟩
section KJ
variable {p : Program} {l : Launch} {e : Env} {R : Room} {s : State} {m : MethodId} {H : Heap} {locs : List Loc} {adK adV : Nat → Nat} {t0 t1 t2 : Nat} {A : Nat → Prop}
theorem prJ.of (hZ : ST adK adV t0 t1 t2 A s s.heap) (hS : va_S A s.heap H locs) : ∀ U : State, U.heap = H → s.WarmedH U.vm → prJ adK adV t0 t1 t2 U := fun U hU hW => by
  show ST adK adV t0 t1 t2 (fun _ => False) U U.heap
  rw [hU]
  exact (ST.warm hW (hZ.kept (H1 := H) (fun a h1 h2 => hS.2.1 a h1 h2))).narrow (fun _ h => False.elim h)
theorem preJV {i : Nat} (hi : i < 2) {As : List Value} (hZ : ST adK adV t0 t1 t2 A s s.heap) (hS : va_S A s.heap H locs) : PreV s H RJ0 (adK i) (va_Pc (.ref (adK i) :: As) (prJ adK adV t0 t1 t2)) As := ⟨blJ, vk_recv hZ.1 hi hS, fun U hU hW => ⟨rfl, prJ.of hZ hS U hU hW⟩⟩
theorem preJS {As : List Value} (hZ : ST adK adV t0 t1 t2 A s s.heap) (hS : va_S A s.heap H locs) : PreS s H (va_Pc As (prJ adK adV t0 t1 t2)) As := ⟨blJ, fun U hU hW => ⟨rfl, prJ.of hZ hS U hU hW⟩⟩
end KJ
theorem Met.ofJ {l : Launch} {y : MethodName} {ws ws' : List Cond} {rm : Room} {av : List Value} {G : State → Prop} {Qc : Array Value → State → Outcome → State → Prop} {cc : ByteArray} {maxL : Nat} {ret : Option FieldType} {nm ds own : String}
    (hy : plainName own = true) (hyy : y = ⟨own, nm, ds⟩) (hw : ws = Cond.code y cc maxL ret :: ws') (hle : (lg_sl av).length ≤ maxL)
    (body : ∀ (p : Program) (e : Env) (s : State) (m : MethodId) (below : List Frame) (meth : Method) (c : Code), MC cc maxL ret own ws p s m av.toArray meth c → G s → ∀ ls : Array Slot, lv_has ls maxL (lv_args 0 av) → W p l e rm s m av.toArray below meth c s.heap [] 0 0 (MQ below Qc av.toArray s 0 0 (fun _ => False)) (F0 m 0 ls [])) :
    Met l y ws rm (va_Pc av G) Qc 0 0 (fun _ => False) := by
  subst hyy
  refine Met.ofW (cc := cc) (maxL := maxL) (ret := ret) hy hw ?_
  intro p e s m args below meth c s₁ B hml hv
  obtain ⟨rfl, hG⟩ := hv
  rw [lg_entry_eq]
  exact body p e s m below meth c ⟨B.exec, B.bytes, B.returns, hml, findClass_of_methodNamed B.named, atoms_spec (ws := ws) B.pre, B.notSynchronized⟩ hG _ (lv_entry av hle)
set_option maxHeartbeats 4000000 in
set_option maxRecDepth 100000 in
theorem qm_J0_coder_7d493 (l : Launch) (adK adV : Nat → Nat) (t0 t1 t2 : Nat) (i : Nat) (hi : i < 2) : Met l yJ0_coder_7d493 wsJ0_coder_7d493 ({ frames := 0, cells := 0, slots := 0, locals := 0 } : Room) (va_Pc [.ref (adK i)] (prJ adK adV t0 t1 t2)) (vp_Si (fun r => r = 0)) 0 0 (fun _ => False) := by
  refine Met.ofJ (nm := "coder") (ds := "()B") (own := RJ0) (maxL := 1) (cc := cJ0_coder_7d493) (ret := (some .byte)) (by decide) rfl rfl (Nat.le_of_ble_eq_true rfl) (fun p e s m below meth c C0 hZ ls hl => ?_)
  obtain ⟨hx, hb, hr, hml, hown, hts, hlocks⟩ := id C0
  have hl : lv_has ls 1 [(0, .ref (adK i))] := hl
  have hS : va_S (fun _ => False) s.heap s.heap [] := va_S.rf
  have hZ : ST adK adV t0 t1 t2 (fun _ => False) s s.heap := hZ
  have hV : (0 : Int32) = 0 := rfl
  refine va_gets hx hb hZ.2.1 hS hown (hts (.fieldLink RJ0 38 "java/lang/String" "COMPACT_STRINGS" "Z") (by decide +kernel)) (fun _ h9 => h9) dJ0_coder_7d493_0 ?_
  refine lv_if_eq (tgt := 13) hx hb dJ0_coder_7d493_3 (by decide) (fun c1 => ?_) (fun c1 => ?_)
  · exact absurd c1 (by decide)
  · refine lv_aload_n hx hb dJ0_coder_7d493_6 rfl (lv_at hl 0 rfl) ?_
    refine vk_getf hx hb (hZ.1.1 i hi).2.1 hS hown (hts (.fieldLink RJ0 15 "java/lang/String" "coder" "B") (by decide +kernel)) (fun _ h9 => h9) dJ0_coder_7d493_7 ?_
    refine lv_goto (tgt := 14) hx hb dJ0_coder_7d493_10 (by decide) ?_
    exact W.zret hx hb hr rfl (fun t ht hW => ⟨_, rfl, hV, ht⟩) (fun q h => absurd h List.not_mem_nil) dJ0_coder_7d493_14 hlocks
set_option maxHeartbeats 4000000 in
set_option maxRecDepth 100000 in
theorem qm_J0_isLatin1_aae02 (l : Launch) (adK adV : Nat → Nat) (t0 t1 t2 : Nat) (i : Nat) (hi : i < 2) : Met l yJ0_isLatin1_aae02 wsJ0_isLatin1_aae02 ({ frames := 0, cells := 0, slots := 0, locals := 0 } : Room) (va_Pc [.ref (adK i)] (prJ adK adV t0 t1 t2)) (vp_Si (fun r => r = 1)) 0 0 (fun _ => False) := by
  refine Met.ofJ (nm := "isLatin1") (ds := "()Z") (own := RJ0) (maxL := 1) (cc := cJ0_isLatin1_aae02) (ret := (some .boolean)) (by decide) rfl rfl (Nat.le_of_ble_eq_true rfl) (fun p e s m below meth c C0 hZ ls hl => ?_)
  obtain ⟨hx, hb, hr, hml, hown, hts, hlocks⟩ := id C0
  have hl : lv_has ls 1 [(0, .ref (adK i))] := hl
  have hS : va_S (fun _ => False) s.heap s.heap [] := va_S.rf
  have hZ : ST adK adV t0 t1 t2 (fun _ => False) s s.heap := hZ
  have hV : (1 : Int32) = 1 := rfl
  refine va_gets hx hb hZ.2.1 hS hown (hts (.fieldLink RJ0 38 "java/lang/String" "COMPACT_STRINGS" "Z") (by decide +kernel)) (fun _ h9 => h9) dJ0_isLatin1_aae02_0 ?_
  refine lv_if_eq (tgt := 17) hx hb dJ0_isLatin1_aae02_3 (by decide) (fun c1 => ?_) (fun c1 => ?_)
  · exact absurd c1 (by decide)
  · refine lv_aload_n hx hb dJ0_isLatin1_aae02_6 rfl (lv_at hl 0 rfl) ?_
    refine vk_getf hx hb (hZ.1.1 i hi).2.1 hS hown (hts (.fieldLink RJ0 15 "java/lang/String" "coder" "B") (by decide +kernel)) (fun _ h9 => h9) dJ0_isLatin1_aae02_7 ?_
    refine lv_if_ne (tgt := 17) hx hb dJ0_isLatin1_aae02_10 (by decide) (fun c1 => ?_) (fun c1 => ?_)
    · exact absurd rfl c1
    · refine lv_iconst (v := (1 : Int32)) hx hb dJ0_isLatin1_aae02_13 (by decide) ?_
      refine lv_goto (tgt := 18) hx hb dJ0_isLatin1_aae02_14 (by decide) ?_
      exact W.zret hx hb hr rfl (fun t ht hW => ⟨_, rfl, hV, ht⟩) (fun q h => absurd h List.not_mem_nil) dJ0_isLatin1_aae02_18 hlocks
set_option maxHeartbeats 4000000 in
set_option maxRecDepth 100000 in
theorem qm_J0_length_8abf5 (l : Launch) (adK adV : Nat → Nat) (t0 t1 t2 : Nat) (i : Nat) (hi : i < 2) : Met l yJ0_length_8abf5 wsJ0_length_8abf5 ({ frames := 1, cells := 0, slots := 0, locals := 20 } : Room) (va_Pc [.ref (adK i)] (prJ adK adV t0 t1 t2)) (vp_Si (fun r => r = Int32.ofNat (lenS.getD i 0))) 0 0 (fun _ => False) := by
  refine Met.ofJ (nm := "length") (ds := "()I") (own := RJ0) (maxL := 1) (cc := cJ0_length_8abf5) (ret := (some .int)) (by decide) rfl rfl (Nat.le_of_ble_eq_true rfl) (fun p e s m below meth c C0 hZ ls hl => ?_)
  obtain ⟨hx, hb, hr, hml, hown, hts, hlocks⟩ := id C0
  have hl : lv_has ls 1 [(0, .ref (adK i))] := hl
  have hS : va_S (fun _ => False) s.heap s.heap [] := va_S.rf
  have hZ : ST adK adV t0 t1 t2 (fun _ => False) s s.heap := hZ
  refine lv_aload_n hx hb dJ0_length_8abf5_0 rfl (lv_at hl 0 rfl) ?_
  refine vk_getf hx hb (hZ.1.1 i hi).2.2.1 hS hown (hts (.fieldLink RJ0 9 "java/lang/String" "value" "[B") (by decide +kernel)) (fun _ h9 => h9) dJ0_length_8abf5_1 ?_
  refine va_tlen hx hb (hZ.1.1 i hi).2.2.2 hS (v := Int32.ofNat (lenS.getD i 0)) rfl dJ0_length_8abf5_4 ?_
  refine lv_aload_n hx hb dJ0_length_8abf5_5 rfl (lv_at hl 0 rfl) ?_
  refine vp_callSi (va_Run.run (va_runV (As := []) (rest := [.int (Int32.ofNat (lenS.getD i 0))]) ⟨hx, hb, hml, hown, hts⟩ (qm_J0_coder_7d493 l adK adV t0 t1 t2 i hi) (cwV 0 hts gJ0_length_8abf5_J0_coder_7d493 rfl rfl rfl (by decide +kernel) ⟨Nat.le_of_ble_eq_true rfl, Nat.le_of_ble_eq_true rfl⟩) (preJV hi hZ hS) rfl rfl hl.1 rfl (lv_room (Nat.le_of_ble_eq_true rfl)) dJ0_length_8abf5_6 ⟨Nat.le_of_ble_eq_true rfl, Nat.le_of_ble_eq_true rfl⟩)) (fun r hV0 => ?_)
  subst hV0
  refine lv_ishr hx hb dJ0_length_8abf5_9 ?_
  have hV : Int32.ofNat (lenS.getD i 0) >>> ((0 : Int32) &&& 31) = Int32.ofNat (lenS.getD i 0) := sb_shr0 _
  exact W.iret hx hb hr (fun t ht hW => ⟨_, rfl, hV, ht⟩) (fun q h => absurd h List.not_mem_nil) dJ0_length_8abf5_10 hlocks
set_option maxHeartbeats 4000000 in
set_option maxRecDepth 100000 in
theorem qm_J3_checkIndex_8e157_n (l : Launch) (adK adV : Nat → Nat) (t0 t1 t2 : Nat) (fv : Nat) (x n : Int32) (h0 : ¬ x < 0) (h1 : x < n) : Met l yJ3_checkIndex_8e157 wsJ3_checkIndex_8e157 ({ frames := 0, cells := 0, slots := 0, locals := 0 } : Room) (va_Pc [.int x, .int n, .null] (prJ adK adV t0 t1 t2)) (vp_Si (fun r => r = x)) 0 0 (fun _ => False) := by
  refine Met.ofJ (nm := "checkIndex") (ds := "(IILjava/util/function/BiFunction;)I") (own := RJ3) (maxL := 3) (cc := cJ3_checkIndex_8e157) (ret := (some .int)) (by decide) rfl rfl (Nat.le_of_ble_eq_true rfl) (fun p e s m below meth c C0 hZ ls hl => ?_)
  obtain ⟨hx, hb, hr, hml, hown, hts, hlocks⟩ := id C0
  have hl : lv_has ls 3 [(0, .int x), (1, .int n), (2, .null)] := hl
  have hV : x = x := rfl
  refine lv_iload_n hx hb dJ3_checkIndex_8e157_0 rfl (lv_at hl 0 rfl) ?_
  refine lv_if_lt (tgt := 9) hx hb dJ3_checkIndex_8e157_1 (by decide) (fun c1 => ?_) (fun c1 => ?_)
  · exact absurd c1 h0
  · refine lv_iload_n hx hb dJ3_checkIndex_8e157_4 rfl (lv_at hl 0 rfl) ?_
    refine lv_iload_n hx hb dJ3_checkIndex_8e157_5 rfl (lv_at hl 1 rfl) ?_
    refine lv_icmp_lt (tgt := 16) hx hb dJ3_checkIndex_8e157_6 (by decide) (fun c2 => ?_) (fun c2 => ?_)
    · refine lv_iload_n hx hb dJ3_checkIndex_8e157_16 rfl (lv_at hl 0 rfl) ?_
      exact W.iret hx hb hr (fun t ht hW => ⟨_, rfl, hV, ht⟩) (fun q h => absurd h List.not_mem_nil) dJ3_checkIndex_8e157_17 hlocks
    · exact absurd h1 c2
set_option maxHeartbeats 4000000 in
set_option maxRecDepth 100000 in
theorem qm_J3_checkIndex_8e157_r (l : Launch) (adK adV : Nat → Nat) (t0 t1 t2 : Nat) (fv : Nat) (x n : Int32) (h0 : ¬ x < 0) (h1 : x < n) : Met l yJ3_checkIndex_8e157 wsJ3_checkIndex_8e157 ({ frames := 0, cells := 0, slots := 0, locals := 0 } : Room) (va_Pc [.int x, .int n, .ref fv] (prJ adK adV t0 t1 t2)) (vp_Si (fun r => r = x)) 0 0 (fun _ => False) := by
  refine Met.ofJ (nm := "checkIndex") (ds := "(IILjava/util/function/BiFunction;)I") (own := RJ3) (maxL := 3) (cc := cJ3_checkIndex_8e157) (ret := (some .int)) (by decide) rfl rfl (Nat.le_of_ble_eq_true rfl) (fun p e s m below meth c C0 hZ ls hl => ?_)
  obtain ⟨hx, hb, hr, hml, hown, hts, hlocks⟩ := id C0
  have hl : lv_has ls 3 [(0, .int x), (1, .int n), (2, .ref fv)] := hl
  have hV : x = x := rfl
  refine lv_iload_n hx hb dJ3_checkIndex_8e157_0 rfl (lv_at hl 0 rfl) ?_
  refine lv_if_lt (tgt := 9) hx hb dJ3_checkIndex_8e157_1 (by decide) (fun c1 => ?_) (fun c1 => ?_)
  · exact absurd c1 h0
  · refine lv_iload_n hx hb dJ3_checkIndex_8e157_4 rfl (lv_at hl 0 rfl) ?_
    refine lv_iload_n hx hb dJ3_checkIndex_8e157_5 rfl (lv_at hl 1 rfl) ?_
    refine lv_icmp_lt (tgt := 16) hx hb dJ3_checkIndex_8e157_6 (by decide) (fun c2 => ?_) (fun c2 => ?_)
    · refine lv_iload_n hx hb dJ3_checkIndex_8e157_16 rfl (lv_at hl 0 rfl) ?_
      exact W.iret hx hb hr (fun t ht hW => ⟨_, rfl, hV, ht⟩) (fun q h => absurd h List.not_mem_nil) dJ3_checkIndex_8e157_17 hlocks
    · exact absurd h1 c2
set_option maxHeartbeats 4000000 in
set_option maxRecDepth 100000 in
theorem qm_J0_checkIndex_df160 (l : Launch) (adK adV : Nat → Nat) (t0 t1 t2 : Nat) (x n : Int32) (h0 : ¬ x < 0) (h1 : x < n) : Met l yJ0_checkIndex_df160 wsJ0_checkIndex_df160 ({ frames := 1, cells := 0, slots := 0, locals := 22 } : Room) (va_Pc [.int x, .int n] (prJ adK adV t0 t1 t2)) (va_Sv (fun _ => True)) 0 0 (fun _ => False) := by
  refine Met.ofJ (nm := "checkIndex") (ds := "(II)V") (own := RJ0) (maxL := 2) (cc := cJ0_checkIndex_df160) (ret := none) (by decide) rfl rfl (Nat.le_of_ble_eq_true rfl) (fun p e s m below meth c C0 hZ ls hl => ?_)
  obtain ⟨hx, hb, hr, hml, hown, hts, hlocks⟩ := id C0
  have hl : lv_has ls 2 [(0, .int x), (1, .int n)] := hl
  have hS : va_S (fun _ => False) s.heap s.heap [] := va_S.rf
  have hZ : ST adK adV t0 t1 t2 (fun _ => False) s s.heap := hZ
  refine lv_iload_n hx hb dJ0_checkIndex_df160_0 rfl (lv_at hl 0 rfl) ?_
  refine lv_iload_n hx hb dJ0_checkIndex_df160_1 rfl (lv_at hl 1 rfl) ?_
  rcases hZ.2.2.1 with hq | ⟨tq, hq⟩
  · refine va_gets hx hb hq hS hown (hts (.fieldLink RJ0 1053 "jdk/internal/util/Preconditions" "SIOOBE_FORMATTER" "Ljava/util/function/BiFunction;") (by decide +kernel)) (fun _ h9 => h9) dJ0_checkIndex_df160_2 ?_
    refine vp_callSi (va_Run.run (va_runS (As := [.int x, .int n, .null]) (rest := []) ⟨hx, hb, hml, hown, hts⟩ (qm_J3_checkIndex_8e157_n l adK adV t0 t1 t2 0 x n h0 h1) (va_cwS 3 hts gJ0_checkIndex_df160_J3_checkIndex_8e157 rfl rfl rfl (by decide +kernel) ⟨Nat.le_of_ble_eq_true rfl, Nat.le_of_ble_eq_true rfl⟩) (preJS hZ hS) rfl rfl hl.1 rfl (lv_room (Nat.le_of_ble_eq_true rfl)) dJ0_checkIndex_df160_5 ⟨Nat.le_of_ble_eq_true rfl, Nat.le_of_ble_eq_true rfl⟩)) (fun r hV0 => ?_)
    refine lv_pop hx hb dJ0_checkIndex_df160_8 rfl ?_
    exact W.vret hx hb hr (fun t ht hW => ⟨rfl, trivial, ht⟩) (fun q h => absurd h List.not_mem_nil) dJ0_checkIndex_df160_9 hlocks
  · refine va_gets hx hb hq hS hown (hts (.fieldLink RJ0 1053 "jdk/internal/util/Preconditions" "SIOOBE_FORMATTER" "Ljava/util/function/BiFunction;") (by decide +kernel)) (fun _ h9 => h9) dJ0_checkIndex_df160_2 ?_
    refine vp_callSi (va_Run.run (va_runS (As := [.int x, .int n, .ref tq]) (rest := []) ⟨hx, hb, hml, hown, hts⟩ (qm_J3_checkIndex_8e157_r l adK adV t0 t1 t2 tq x n h0 h1) (va_cwS 3 hts gJ0_checkIndex_df160_J3_checkIndex_8e157 rfl rfl rfl (by decide +kernel) ⟨Nat.le_of_ble_eq_true rfl, Nat.le_of_ble_eq_true rfl⟩) (preJS hZ hS) rfl rfl hl.1 rfl (lv_room (Nat.le_of_ble_eq_true rfl)) dJ0_checkIndex_df160_5 ⟨Nat.le_of_ble_eq_true rfl, Nat.le_of_ble_eq_true rfl⟩)) (fun r hV0 => ?_)
    refine lv_pop hx hb dJ0_checkIndex_df160_8 rfl ?_
    exact W.vret hx hb hr (fun t ht hW => ⟨rfl, trivial, ht⟩) (fun q h => absurd h List.not_mem_nil) dJ0_checkIndex_df160_9 hlocks
set_option maxHeartbeats 4000000 in
set_option maxRecDepth 100000 in
theorem qm_J1_charAt_3b067 (l : Launch) (adK adV : Nat → Nat) (t0 t1 t2 : Nat) (i : Nat) (hi : i < 2) (x : Int32) (hin : vp_in x (lenS.getD i 0)) (h0 : ¬ x < 0) (h1 : x < Int32.ofNat (lenS.getD i 0)) : Met l yJ1_charAt_3b067 wsJ1_charAt_3b067 ({ frames := 2, cells := 0, slots := 0, locals := 43 } : Room) (va_Pc [.ref (adV i), .int x] (prJ adK adV t0 t1 t2)) (vp_Si (fun r => r = (bytS.getD i []).getD x.toNatClampNeg 0 &&& 255)) 0 0 (fun _ => False) := by
  refine Met.ofJ (nm := "charAt") (ds := "([BI)C") (own := RJ1) (maxL := 2) (cc := cJ1_charAt_3b067) (ret := (some .char)) (by decide) rfl rfl (Nat.le_of_ble_eq_true rfl) (fun p e s m below meth c C0 hZ ls hl => ?_)
  obtain ⟨hx, hb, hr, hml, hown, hts, hlocks⟩ := id C0
  have hl : lv_has ls 2 [(0, .ref (adV i)), (1, .int x)] := hl
  have hS : va_S (fun _ => False) s.heap s.heap [] := va_S.rf
  have hZ : ST adK adV t0 t1 t2 (fun _ => False) s s.heap := hZ
  refine lv_iload_n hx hb dJ1_charAt_3b067_0 rfl (lv_at hl 1 rfl) ?_
  refine lv_aload_n hx hb dJ1_charAt_3b067_1 rfl (lv_at hl 0 rfl) ?_
  refine va_tlen hx hb (hZ.1.1 i hi).2.2.2 hS (v := Int32.ofNat (lenS.getD i 0)) rfl dJ1_charAt_3b067_2 ?_
  refine va_csv (va_Run.run (va_runS (As := [.int x, .int (Int32.ofNat (lenS.getD i 0))]) (rest := []) ⟨hx, hb, hml, hown, hts⟩ (qm_J0_checkIndex_df160 l adK adV t0 t1 t2 x (Int32.ofNat (lenS.getD i 0)) h0 h1) (va_cwS 2 hts gJ1_charAt_3b067_J0_checkIndex_df160 rfl rfl rfl (by decide +kernel) ⟨Nat.le_of_ble_eq_true rfl, Nat.le_of_ble_eq_true rfl⟩) (preJS hZ hS) rfl rfl hl.1 rfl (lv_room (Nat.le_of_ble_eq_true rfl)) dJ1_charAt_3b067_3 ⟨Nat.le_of_ble_eq_true rfl, Nat.le_of_ble_eq_true rfl⟩)) (fun hU => ?_)
  refine lv_aload_n hx hb dJ1_charAt_3b067_6 rfl (lv_at hl 0 rfl) ?_
  refine lv_iload_n hx hb dJ1_charAt_3b067_7 rfl (lv_at hl 1 rfl) ?_
  refine va_tb hx hb (hZ.1.1 i hi).2.2.2 hS hin rfl dJ1_charAt_3b067_8 ?_
  refine lv_sipush (v := (255 : Int32)) hx hb dJ1_charAt_3b067_9 (by decide) ?_
  refine lv_iand hx hb dJ1_charAt_3b067_12 ?_
  refine lv_i2c hx hb dJ1_charAt_3b067_13 (sc_c2 _) ?_
  have hV : (bytS.getD i []).getD x.toNatClampNeg 0 &&& 255 = (bytS.getD i []).getD x.toNatClampNeg 0 &&& 255 := rfl
  exact W.zret hx hb hr (sc_nar _) (fun t ht hW => ⟨_, rfl, hV, ht⟩) (fun q h => absurd h List.not_mem_nil) dJ1_charAt_3b067_14 hlocks
set_option maxHeartbeats 4000000 in
set_option maxRecDepth 100000 in
theorem qm_J0_charAt_5068e (l : Launch) (adK adV : Nat → Nat) (t0 t1 t2 : Nat) (i : Nat) (hi : i < 2) (x : Int32) (hin : vp_in x (lenS.getD i 0)) (h0 : ¬ x < 0) (h1 : x < Int32.ofNat (lenS.getD i 0)) : Met l yJ0_charAt_5068e wsJ0_charAt_5068e ({ frames := 3, cells := 0, slots := 0, locals := 64 } : Room) (va_Pc [.ref (adK i), .int x] (prJ adK adV t0 t1 t2)) (vp_Si (fun r => r = (bytS.getD i []).getD x.toNatClampNeg 0 &&& 255)) 0 0 (fun _ => False) := by
  refine Met.ofJ (nm := "charAt") (ds := "(I)C") (own := RJ0) (maxL := 2) (cc := cJ0_charAt_5068e) (ret := (some .char)) (by decide) rfl rfl (Nat.le_of_ble_eq_true rfl) (fun p e s m below meth c C0 hZ ls hl => ?_)
  obtain ⟨hx, hb, hr, hml, hown, hts, hlocks⟩ := id C0
  have hl : lv_has ls 2 [(0, .ref (adK i)), (1, .int x)] := hl
  have hS : va_S (fun _ => False) s.heap s.heap [] := va_S.rf
  have hZ : ST adK adV t0 t1 t2 (fun _ => False) s s.heap := hZ
  refine lv_aload_n hx hb dJ0_charAt_5068e_0 rfl (lv_at hl 0 rfl) ?_
  refine vp_callSi (va_Run.run (va_runV (As := []) (rest := []) ⟨hx, hb, hml, hown, hts⟩ (qm_J0_isLatin1_aae02 l adK adV t0 t1 t2 i hi) (cwV 0 hts gJ0_charAt_5068e_J0_isLatin1_aae02 rfl rfl rfl (by decide +kernel) ⟨Nat.le_of_ble_eq_true rfl, Nat.le_of_ble_eq_true rfl⟩) (preJV hi hZ hS) rfl rfl hl.1 rfl (lv_room (Nat.le_of_ble_eq_true rfl)) dJ0_charAt_5068e_1 ⟨Nat.le_of_ble_eq_true rfl, Nat.le_of_ble_eq_true rfl⟩)) (fun r hV0 => ?_)
  refine lv_if_eq (tgt := 16) hx hb dJ0_charAt_5068e_4 (by decide) (fun c1 => ?_) (fun c1 => ?_)
  · exact absurd (hV0.symm.trans c1) (by decide)
  · refine lv_aload_n hx hb dJ0_charAt_5068e_7 rfl (lv_at hl 0 rfl) ?_
    refine vk_getf hx hb (hZ.1.1 i hi).2.2.1 hS hown (hts (.fieldLink RJ0 9 "java/lang/String" "value" "[B") (by decide +kernel)) (fun _ h9 => h9) dJ0_charAt_5068e_8 ?_
    refine lv_iload_n hx hb dJ0_charAt_5068e_11 rfl (lv_at hl 1 rfl) ?_
    refine vp_callSi (va_Run.run (va_runS (As := [.ref (adV i), .int x]) (rest := []) ⟨hx, hb, hml, hown, hts⟩ (qm_J1_charAt_3b067 l adK adV t0 t1 t2 i hi x hin h0 h1) (va_cwS 2 hts gJ0_charAt_5068e_J1_charAt_3b067 rfl rfl rfl (by decide +kernel) ⟨Nat.le_of_ble_eq_true rfl, Nat.le_of_ble_eq_true rfl⟩) (preJS hZ hS) rfl rfl hl.1 rfl (lv_room (Nat.le_of_ble_eq_true rfl)) dJ0_charAt_5068e_12 ⟨Nat.le_of_ble_eq_true rfl, Nat.le_of_ble_eq_true rfl⟩)) (fun r2 hV => ?_)
    exact W.zret hx hb hr (by rw [hV]; exact sc_nar _) (fun t ht hW => ⟨_, rfl, hV, ht⟩) (fun q h => absurd h List.not_mem_nil) dJ0_charAt_5068e_15 hlocks
set_option maxHeartbeats 4000000 in
set_option maxRecDepth 100000 in
theorem qm_J1_canEncode_9a6ad (l : Launch) (adK adV : Nat → Nat) (t0 t1 t2 : Nat) (x : Int32) (Post : Int32 → Prop) (hV : (x < (0 : Int32) → Post 0) ∧ (¬ x < (0 : Int32) → ((255 : Int32) < x → Post 0) ∧ (¬ (255 : Int32) < x → Post 1))) : Met l yJ1_canEncode_9a6ad wsJ1_canEncode_9a6ad ({ frames := 0, cells := 0, slots := 0, locals := 0 } : Room) (va_Pc [.int x] (prJ adK adV t0 t1 t2)) (vp_Si Post) 0 0 (fun _ => False) := by
  refine Met.ofJ (nm := "canEncode") (ds := "(I)Z") (own := RJ1) (maxL := 1) (cc := cJ1_canEncode_9a6ad) (ret := (some .boolean)) (by decide) rfl rfl (Nat.le_of_ble_eq_true rfl) (fun p e s m below meth c C0 hZ ls hl => ?_)
  obtain ⟨hx, hb, hr, hml, hown, hts, hlocks⟩ := id C0
  have hl : lv_has ls 1 [(0, .int x)] := hl
  have hS : va_S (fun _ => False) s.heap s.heap [] := va_S.rf
  have hZ : ST adK adV t0 t1 t2 (fun _ => False) s s.heap := hZ
  refine lv_iload_n hx hb dJ1_canEncode_9a6ad_0 rfl (lv_at hl 0 rfl) ?_
  refine lv_if_lt (tgt := 15) hx hb dJ1_canEncode_9a6ad_1 (by decide) (fun c1 => ?_) (fun c1 => ?_)
  · have hV := hV.1 c1
    refine lv_iconst (v := (0 : Int32)) hx hb dJ1_canEncode_9a6ad_15 (by decide) ?_
    exact W.zret hx hb hr rfl (fun t ht hW => ⟨_, rfl, hV, ht⟩) (fun q h => absurd h List.not_mem_nil) dJ1_canEncode_9a6ad_16 hlocks
  · have hV := hV.2 c1
    refine lv_iload_n hx hb dJ1_canEncode_9a6ad_4 rfl (lv_at hl 0 rfl) ?_
    refine lv_sipush (v := (255 : Int32)) hx hb dJ1_canEncode_9a6ad_5 (by decide) ?_
    refine lv_icmp_gt (tgt := 15) hx hb dJ1_canEncode_9a6ad_8 (by decide) (fun c2 => ?_) (fun c2 => ?_)
    · have hV := hV.1 c2
      refine lv_iconst (v := (0 : Int32)) hx hb dJ1_canEncode_9a6ad_15 (by decide) ?_
      exact W.zret hx hb hr rfl (fun t ht hW => ⟨_, rfl, hV, ht⟩) (fun q h => absurd h List.not_mem_nil) dJ1_canEncode_9a6ad_16 hlocks
    · have hV := hV.2 c2
      refine lv_iconst (v := (1 : Int32)) hx hb dJ1_canEncode_9a6ad_11 (by decide) ?_
      refine lv_goto (tgt := 16) hx hb dJ1_canEncode_9a6ad_12 (by decide) ?_
      exact W.zret hx hb hr rfl (fun t ht hW => ⟨_, rfl, hV, ht⟩) (fun q h => absurd h List.not_mem_nil) dJ1_canEncode_9a6ad_16 hlocks
set_option maxHeartbeats 4000000 in
set_option maxRecDepth 100000 in
theorem qm_J1_indexOfChar_4cfef (l : Launch) (adK adV : Nat → Nat) (t0 t1 t2 : Nat) (x : Int32) (Post : Int32 → Prop) (hV : ((115 : Int32) = x.toInt8.toInt32 → Post 0) ∧ (¬ (115 : Int32) = x.toInt8.toInt32 → ((117 : Int32) = x.toInt8.toInt32 → Post 1) ∧ (¬ (117 : Int32) = x.toInt8.toInt32 → ((104 : Int32) = x.toInt8.toInt32 → Post 2) ∧ (¬ (104 : Int32) = x.toInt8.toInt32 → ((107 : Int32) = x.toInt8.toInt32 → Post 3) ∧ (¬ (107 : Int32) = x.toInt8.toInt32 → ((116 : Int32) = x.toInt8.toInt32 → Post 4) ∧ (¬ (116 : Int32) = x.toInt8.toInt32 → Post (-1))))))) : Met l yJ1_indexOfChar_4cfef wsJ1_indexOfChar_4cfef ({ frames := 0, cells := 0, slots := 0, locals := 0 } : Room) (va_Pc [.ref (adV 1), .int x, .int (0 : Int32), .int (5 : Int32)] (prJ adK adV t0 t1 t2)) (vp_Si Post) 0 0 (fun _ => False) := by
  refine Met.ofJ (nm := "indexOfChar") (ds := "([BIII)I") (own := RJ1) (maxL := 6) (cc := cJ1_indexOfChar_4cfef) (ret := (some .int)) (by decide) rfl rfl (Nat.le_of_ble_eq_true rfl) (fun p e s m below meth c C0 hZ ls hl => ?_)
  obtain ⟨hx, hb, hr, hml, hown, hts, hlocks⟩ := id C0
  have hl : lv_has ls 6 [(0, .ref (adV 1)), (1, .int x), (2, .int (0 : Int32)), (3, .int (5 : Int32))] := hl
  have hS : va_S (fun _ => False) s.heap s.heap [] := va_S.rf
  have hZ : ST adK adV t0 t1 t2 (fun _ => False) s s.heap := hZ
  refine lv_iload_n hx hb dJ1_indexOfChar_4cfef_0 rfl (lv_at hl 1 rfl) ?_
  refine lv_i2b hx hb dJ1_indexOfChar_4cfef_1 rfl ?_
  refine lv_istore (lv' := [(4, .int x.toInt8.toInt32), (0, .ref (adV 1)), (1, .int x), (2, .int (0 : Int32)), (3, .int (5 : Int32))]) hx hb dJ1_indexOfChar_4cfef_2 hl (by decide) rfl (fun ls hl => ?_)
  refine lv_iload_n hx hb dJ1_indexOfChar_4cfef_4 rfl (lv_at hl 3 rfl) ?_
  refine lv_istore (lv' := [(5, .int (0 : Int32)), (4, .int x.toInt8.toInt32), (0, .ref (adV 1)), (1, .int x), (2, .int (0 : Int32)), (3, .int (5 : Int32))]) hx hb dJ1_indexOfChar_4cfef_5 hl (by decide) rfl (fun ls hl => ?_)
  refine lv_iload hx hb dJ1_indexOfChar_4cfef_7 (lv_at hl 0 rfl) ?_
  refine lv_iload_n hx hb dJ1_indexOfChar_4cfef_9 rfl (lv_at hl 5 rfl) ?_
  refine lv_icmp_ge (tgt := 31) hx hb dJ1_indexOfChar_4cfef_10 (by decide) (fun c0 => absurd c0 (by decide)) (fun c0 => ?_)
  clear c0
  refine lv_aload_n hx hb dJ1_indexOfChar_4cfef_13 rfl (lv_at hl 2 rfl) ?_
  refine lv_iload hx hb dJ1_indexOfChar_4cfef_14 (lv_at hl 0 rfl) ?_
  refine va_tb hx hb (hZ.1.1 1 (by decide)).2.2.2 hS (v := .int (115 : Int32)) (vp_in_nI (n := 0) (by decide) (by decide)) rfl dJ1_indexOfChar_4cfef_16 ?_
  refine lv_iload hx hb dJ1_indexOfChar_4cfef_17 (lv_at hl 1 rfl) ?_
  refine lv_icmp_ne (tgt := 25) hx hb dJ1_indexOfChar_4cfef_19 (by decide) (fun c1 => ?_) (fun c1 => ?_)
  rotate_left
  · have hV := hV.1 c1
    refine lv_iload hx hb dJ1_indexOfChar_4cfef_22 (lv_at hl 0 rfl) ?_
    exact W.iret hx hb hr (fun t ht hW => ⟨_, rfl, hV, ht⟩) (fun q h => absurd h List.not_mem_nil) dJ1_indexOfChar_4cfef_24 hlocks
  have hV := hV.2 c1
  refine lv_iinc (v := (1 : Int32)) (lv' := [(5, .int (1 : Int32)), (4, .int x.toInt8.toInt32), (0, .ref (adV 1)), (1, .int x), (2, .int (0 : Int32)), (3, .int (5 : Int32))]) hx hb dJ1_indexOfChar_4cfef_25 hl (k := 0) rfl rfl (by decide) rfl (fun ls hl => ?_)
  refine lv_goto (tgt := 7) hx hb dJ1_indexOfChar_4cfef_28 (by decide) ?_
  refine lv_iload hx hb dJ1_indexOfChar_4cfef_7 (lv_at hl 0 rfl) ?_
  refine lv_iload_n hx hb dJ1_indexOfChar_4cfef_9 rfl (lv_at hl 5 rfl) ?_
  refine lv_icmp_ge (tgt := 31) hx hb dJ1_indexOfChar_4cfef_10 (by decide) (fun c0 => absurd c0 (by decide)) (fun c0 => ?_)
  clear c0
  refine lv_aload_n hx hb dJ1_indexOfChar_4cfef_13 rfl (lv_at hl 2 rfl) ?_
  refine lv_iload hx hb dJ1_indexOfChar_4cfef_14 (lv_at hl 0 rfl) ?_
  refine va_tb hx hb (hZ.1.1 1 (by decide)).2.2.2 hS (v := .int (117 : Int32)) (vp_in_nI (n := 1) (by decide) (by decide)) rfl dJ1_indexOfChar_4cfef_16 ?_
  refine lv_iload hx hb dJ1_indexOfChar_4cfef_17 (lv_at hl 1 rfl) ?_
  refine lv_icmp_ne (tgt := 25) hx hb dJ1_indexOfChar_4cfef_19 (by decide) (fun c1 => ?_) (fun c1 => ?_)
  rotate_left
  · have hV := hV.1 c1
    refine lv_iload hx hb dJ1_indexOfChar_4cfef_22 (lv_at hl 0 rfl) ?_
    exact W.iret hx hb hr (fun t ht hW => ⟨_, rfl, hV, ht⟩) (fun q h => absurd h List.not_mem_nil) dJ1_indexOfChar_4cfef_24 hlocks
  have hV := hV.2 c1
  refine lv_iinc (v := (2 : Int32)) (lv' := [(5, .int (2 : Int32)), (4, .int x.toInt8.toInt32), (0, .ref (adV 1)), (1, .int x), (2, .int (0 : Int32)), (3, .int (5 : Int32))]) hx hb dJ1_indexOfChar_4cfef_25 hl (k := 0) rfl rfl (by decide) rfl (fun ls hl => ?_)
  refine lv_goto (tgt := 7) hx hb dJ1_indexOfChar_4cfef_28 (by decide) ?_
  refine lv_iload hx hb dJ1_indexOfChar_4cfef_7 (lv_at hl 0 rfl) ?_
  refine lv_iload_n hx hb dJ1_indexOfChar_4cfef_9 rfl (lv_at hl 5 rfl) ?_
  refine lv_icmp_ge (tgt := 31) hx hb dJ1_indexOfChar_4cfef_10 (by decide) (fun c0 => absurd c0 (by decide)) (fun c0 => ?_)
  clear c0
  refine lv_aload_n hx hb dJ1_indexOfChar_4cfef_13 rfl (lv_at hl 2 rfl) ?_
  refine lv_iload hx hb dJ1_indexOfChar_4cfef_14 (lv_at hl 0 rfl) ?_
  refine va_tb hx hb (hZ.1.1 1 (by decide)).2.2.2 hS (v := .int (104 : Int32)) (vp_in_nI (n := 2) (by decide) (by decide)) rfl dJ1_indexOfChar_4cfef_16 ?_
  refine lv_iload hx hb dJ1_indexOfChar_4cfef_17 (lv_at hl 1 rfl) ?_
  refine lv_icmp_ne (tgt := 25) hx hb dJ1_indexOfChar_4cfef_19 (by decide) (fun c1 => ?_) (fun c1 => ?_)
  rotate_left
  · have hV := hV.1 c1
    refine lv_iload hx hb dJ1_indexOfChar_4cfef_22 (lv_at hl 0 rfl) ?_
    exact W.iret hx hb hr (fun t ht hW => ⟨_, rfl, hV, ht⟩) (fun q h => absurd h List.not_mem_nil) dJ1_indexOfChar_4cfef_24 hlocks
  have hV := hV.2 c1
  refine lv_iinc (v := (3 : Int32)) (lv' := [(5, .int (3 : Int32)), (4, .int x.toInt8.toInt32), (0, .ref (adV 1)), (1, .int x), (2, .int (0 : Int32)), (3, .int (5 : Int32))]) hx hb dJ1_indexOfChar_4cfef_25 hl (k := 0) rfl rfl (by decide) rfl (fun ls hl => ?_)
  refine lv_goto (tgt := 7) hx hb dJ1_indexOfChar_4cfef_28 (by decide) ?_
  refine lv_iload hx hb dJ1_indexOfChar_4cfef_7 (lv_at hl 0 rfl) ?_
  refine lv_iload_n hx hb dJ1_indexOfChar_4cfef_9 rfl (lv_at hl 5 rfl) ?_
  refine lv_icmp_ge (tgt := 31) hx hb dJ1_indexOfChar_4cfef_10 (by decide) (fun c0 => absurd c0 (by decide)) (fun c0 => ?_)
  clear c0
  refine lv_aload_n hx hb dJ1_indexOfChar_4cfef_13 rfl (lv_at hl 2 rfl) ?_
  refine lv_iload hx hb dJ1_indexOfChar_4cfef_14 (lv_at hl 0 rfl) ?_
  refine va_tb hx hb (hZ.1.1 1 (by decide)).2.2.2 hS (v := .int (107 : Int32)) (vp_in_nI (n := 3) (by decide) (by decide)) rfl dJ1_indexOfChar_4cfef_16 ?_
  refine lv_iload hx hb dJ1_indexOfChar_4cfef_17 (lv_at hl 1 rfl) ?_
  refine lv_icmp_ne (tgt := 25) hx hb dJ1_indexOfChar_4cfef_19 (by decide) (fun c1 => ?_) (fun c1 => ?_)
  rotate_left
  · have hV := hV.1 c1
    refine lv_iload hx hb dJ1_indexOfChar_4cfef_22 (lv_at hl 0 rfl) ?_
    exact W.iret hx hb hr (fun t ht hW => ⟨_, rfl, hV, ht⟩) (fun q h => absurd h List.not_mem_nil) dJ1_indexOfChar_4cfef_24 hlocks
  have hV := hV.2 c1
  refine lv_iinc (v := (4 : Int32)) (lv' := [(5, .int (4 : Int32)), (4, .int x.toInt8.toInt32), (0, .ref (adV 1)), (1, .int x), (2, .int (0 : Int32)), (3, .int (5 : Int32))]) hx hb dJ1_indexOfChar_4cfef_25 hl (k := 0) rfl rfl (by decide) rfl (fun ls hl => ?_)
  refine lv_goto (tgt := 7) hx hb dJ1_indexOfChar_4cfef_28 (by decide) ?_
  refine lv_iload hx hb dJ1_indexOfChar_4cfef_7 (lv_at hl 0 rfl) ?_
  refine lv_iload_n hx hb dJ1_indexOfChar_4cfef_9 rfl (lv_at hl 5 rfl) ?_
  refine lv_icmp_ge (tgt := 31) hx hb dJ1_indexOfChar_4cfef_10 (by decide) (fun c0 => absurd c0 (by decide)) (fun c0 => ?_)
  clear c0
  refine lv_aload_n hx hb dJ1_indexOfChar_4cfef_13 rfl (lv_at hl 2 rfl) ?_
  refine lv_iload hx hb dJ1_indexOfChar_4cfef_14 (lv_at hl 0 rfl) ?_
  refine va_tb hx hb (hZ.1.1 1 (by decide)).2.2.2 hS (v := .int (116 : Int32)) (vp_in_nI (n := 4) (by decide) (by decide)) rfl dJ1_indexOfChar_4cfef_16 ?_
  refine lv_iload hx hb dJ1_indexOfChar_4cfef_17 (lv_at hl 1 rfl) ?_
  refine lv_icmp_ne (tgt := 25) hx hb dJ1_indexOfChar_4cfef_19 (by decide) (fun c1 => ?_) (fun c1 => ?_)
  rotate_left
  · have hV := hV.1 c1
    refine lv_iload hx hb dJ1_indexOfChar_4cfef_22 (lv_at hl 0 rfl) ?_
    exact W.iret hx hb hr (fun t ht hW => ⟨_, rfl, hV, ht⟩) (fun q h => absurd h List.not_mem_nil) dJ1_indexOfChar_4cfef_24 hlocks
  have hV := hV.2 c1
  refine lv_iinc (v := (5 : Int32)) (lv' := [(5, .int (5 : Int32)), (4, .int x.toInt8.toInt32), (0, .ref (adV 1)), (1, .int x), (2, .int (0 : Int32)), (3, .int (5 : Int32))]) hx hb dJ1_indexOfChar_4cfef_25 hl (k := 0) rfl rfl (by decide) rfl (fun ls hl => ?_)
  refine lv_goto (tgt := 7) hx hb dJ1_indexOfChar_4cfef_28 (by decide) ?_
  refine lv_iload hx hb dJ1_indexOfChar_4cfef_7 (lv_at hl 0 rfl) ?_
  refine lv_iload_n hx hb dJ1_indexOfChar_4cfef_9 rfl (lv_at hl 5 rfl) ?_
  refine lv_icmp_ge (tgt := 31) hx hb dJ1_indexOfChar_4cfef_10 (by decide) (fun c0 => ?_) (fun c0 => absurd (by decide) c0)
  refine lv_iconst (v := (-1 : Int32)) hx hb dJ1_indexOfChar_4cfef_31 (by decide) ?_
  exact W.iret hx hb hr (fun t ht hW => ⟨_, rfl, hV, ht⟩) (fun q h => absurd h List.not_mem_nil) dJ1_indexOfChar_4cfef_32 hlocks
def kIx (c : Int32) : Int32 := if c = 115 then 0 else if c = 117 then 1 else if c = 104 then 2 else if c = 107 then 3 else if c = 116 then 4 else -1
theorem kIx_byte : ∀ n, n < 256 → ∀ b, b < 128 → ((nI b = (nI n).toInt8.toInt32) ↔ nI n = nI b) := by decide +kernel
theorem kIx_out {c : Int32} (h : c < 0 ∨ 255 < c) : kIx c = -1 := by
  have e : ∀ k : Int32, (¬ k < 0) → (¬ 255 < k) → ¬ c = k := fun k h0 h1 q => by subst q; exact h.elim h0 h1
  simp only [kIx, if_neg (e 115 (by decide) (by decide)), if_neg (e 117 (by decide) (by decide)), if_neg (e 104 (by decide) (by decide)), if_neg (e 107 (by decide) (by decide)), if_neg (e 116 (by decide) (by decide))]
theorem kIx_in {x : Int32} {P : Int32 → Prop} (h0 : ¬ x < 0) (h1 : ¬ (255 : Int32) < x) (h : P (kIx x)) : ((115 : Int32) = x.toInt8.toInt32 → P 0) ∧ (¬ (115 : Int32) = x.toInt8.toInt32 → ((117 : Int32) = x.toInt8.toInt32 → P 1) ∧ (¬ (117 : Int32) = x.toInt8.toInt32 → ((104 : Int32) = x.toInt8.toInt32 → P 2) ∧ (¬ (104 : Int32) = x.toInt8.toInt32 → ((107 : Int32) = x.toInt8.toInt32 → P 3) ∧ (¬ (107 : Int32) = x.toInt8.toInt32 → ((116 : Int32) = x.toInt8.toInt32 → P 4) ∧ (¬ (116 : Int32) = x.toInt8.toInt32 → P (-1)))))) := by
  have hn : ∃ n : Nat, n < 256 ∧ x = nI n := by
    have h0 := h0
    have h1 := h1
    rw [Int32.lt_iff_toInt_lt, show (0 : Int32).toInt = 0 from rfl] at h0
    rw [Int32.lt_iff_toInt_lt, show (255 : Int32).toInt = 255 from rfl] at h1
    have h3 : vp_in x 256 := vp_in_iff.mpr ⟨by omega, by omega⟩
    exact vp_in_of h3 (by decide)
  obtain ⟨n, hn, rfl⟩ := hn
  have e : ∀ b, b < 128 → ((nI b = (nI n).toInt8.toInt32) ↔ nI n = nI b) := kIx_byte n hn
  have e0 : ((115 : Int32) = (nI n).toInt8.toInt32) ↔ nI n = (115 : Int32) := e 115 (by decide)
  have e1 : ((117 : Int32) = (nI n).toInt8.toInt32) ↔ nI n = (117 : Int32) := e 117 (by decide)
  have e2 : ((104 : Int32) = (nI n).toInt8.toInt32) ↔ nI n = (104 : Int32) := e 104 (by decide)
  have e3 : ((107 : Int32) = (nI n).toInt8.toInt32) ↔ nI n = (107 : Int32) := e 107 (by decide)
  have e4 : ((116 : Int32) = (nI n).toInt8.toInt32) ↔ nI n = (116 : Int32) := e 116 (by decide)
  unfold kIx at h
  rw [e0, e1, e2, e3, e4]
  by_cases c0 : nI n = (115 : Int32)
  · simp only [if_pos c0] at h; exact ⟨fun _ => h, fun q => absurd c0 q⟩
  rw [if_neg c0] at h
  refine ⟨fun q => absurd q c0, fun _ => ?_⟩
  by_cases c1 : nI n = (117 : Int32)
  · rw [if_pos c1] at h; exact ⟨fun _ => h, fun q => absurd c1 q⟩
  rw [if_neg c1] at h
  refine ⟨fun q => absurd q c1, fun _ => ?_⟩
  by_cases c2 : nI n = (104 : Int32)
  · rw [if_pos c2] at h; exact ⟨fun _ => h, fun q => absurd c2 q⟩
  rw [if_neg c2] at h
  refine ⟨fun q => absurd q c2, fun _ => ?_⟩
  by_cases c3 : nI n = (107 : Int32)
  · rw [if_pos c3] at h; exact ⟨fun _ => h, fun q => absurd c3 q⟩
  rw [if_neg c3] at h
  refine ⟨fun q => absurd q c3, fun _ => ?_⟩
  by_cases c4 : nI n = (116 : Int32)
  · rw [if_pos c4] at h; exact ⟨fun _ => h, fun q => absurd c4 q⟩
  rw [if_neg c4] at h
  exact ⟨fun q => absurd q c4, fun _ => h⟩
set_option maxHeartbeats 4000000 in
set_option maxRecDepth 100000 in
theorem qm_J1_indexOf_4cfef (l : Launch) (adK adV : Nat → Nat) (t0 t1 t2 : Nat) (x : Int32) (Post : Int32 → Prop) (hV : Post (kIx x)) : Met l yJ1_indexOf_4cfef wsJ1_indexOf_4cfef ({ frames := 1, cells := 0, slots := 0, locals := 25 } : Room) (va_Pc [.ref (adV 1), .int x, .int (0 : Int32), .int (5 : Int32)] (prJ adK adV t0 t1 t2)) (vp_Si Post) 0 0 (fun _ => False) := by
  refine Met.ofJ (nm := "indexOf") (ds := "([BIII)I") (own := RJ1) (maxL := 4) (cc := cJ1_indexOf_4cfef) (ret := (some .int)) (by decide) rfl rfl (Nat.le_of_ble_eq_true rfl) (fun p e s m below meth c C0 hZ ls hl => ?_)
  obtain ⟨hx, hb, hr, hml, hown, hts, hlocks⟩ := id C0
  have hl : lv_has ls 4 [(0, .ref (adV 1)), (1, .int x), (2, .int (0 : Int32)), (3, .int (5 : Int32))] := hl
  have hS : va_S (fun _ => False) s.heap s.heap [] := va_S.rf
  have hZ : ST adK adV t0 t1 t2 (fun _ => False) s s.heap := hZ
  refine lv_iload_n hx hb dJ1_indexOf_4cfef_0 rfl (lv_at hl 1 rfl) ?_
  refine vp_callSi (va_Run.run (va_runS (As := [.int x]) (rest := []) ⟨hx, hb, hml, hown, hts⟩ (qm_J1_canEncode_9a6ad l adK adV t0 t1 t2 x (fun r => (r = 0 → kIx x = -1) ∧ (¬ r = 0 → ¬ x < 0 ∧ ¬ (255 : Int32) < x)) ⟨fun q => ⟨fun _ => kIx_out (Or.inl q), fun z => absurd rfl z⟩, fun q => ⟨fun q2 => ⟨fun _ => kIx_out (Or.inr q2), fun z => absurd rfl z⟩, fun q2 => ⟨fun z => absurd z (by decide), fun _ => ⟨q, q2⟩⟩⟩⟩) (va_cwS 1 hts gJ1_indexOf_4cfef_J1_canEncode_9a6ad rfl rfl rfl (by decide +kernel) ⟨Nat.le_of_ble_eq_true rfl, Nat.le_of_ble_eq_true rfl⟩) (preJS hZ hS) rfl rfl hl.1 rfl (lv_room (Nat.le_of_ble_eq_true rfl)) dJ1_indexOf_4cfef_1 ⟨Nat.le_of_ble_eq_true rfl, Nat.le_of_ble_eq_true rfl⟩)) (fun r hV0 => ?_)
  refine lv_if_ne (tgt := 9) hx hb dJ1_indexOf_4cfef_4 (by decide) (fun c1 => ?_) (fun c1 => ?_)
  rotate_left
  · rw [hV0.1 c1] at hV
    refine lv_iconst (v := (-1 : Int32)) hx hb dJ1_indexOf_4cfef_7 (by decide) ?_
    exact W.iret hx hb hr (fun t ht hW => ⟨_, rfl, hV, ht⟩) (fun q h => absurd h List.not_mem_nil) dJ1_indexOf_4cfef_8 hlocks
  obtain ⟨q0, q1⟩ := hV0.2 c1
  refine lv_iload_n hx hb dJ1_indexOf_4cfef_9 rfl (lv_at hl 2 rfl) ?_
  refine lv_iconst (v := (0 : Int32)) hx hb dJ1_indexOf_4cfef_10 (by decide) ?_
  refine va_mmax hx hb (hml.trans hl.1.symm) hown (hts (.methodLink RJ1 92 Lib.Math.max.name) (by decide +kernel)) (hts (.static Lib.Math.max.name) (by decide +kernel)) (hts (.initialized "java/lang/Math") (by decide +kernel)) (hts (.code Lib.Math.max.name Lib.Math.max.code 2 (some .int)) (by decide +kernel)) (Nat.le_of_ble_eq_true rfl) (Nat.le_of_ble_eq_true rfl) (Nat.zero_le _) (Nat.zero_le _) dJ1_indexOf_4cfef_11 ?_
  refine lv_istore_n (lv' := [(2, .int (0 : Int32)), (0, .ref (adV 1)), (1, .int x), (3, .int (5 : Int32))]) hx hb dJ1_indexOf_4cfef_14 rfl hl (by decide) rfl (fun ls hl => ?_)
  refine lv_iload_n hx hb dJ1_indexOf_4cfef_15 rfl (lv_at hl 3 rfl) ?_
  refine lv_aload_n hx hb dJ1_indexOf_4cfef_16 rfl (lv_at hl 1 rfl) ?_
  refine va_tlen hx hb (hZ.1.1 1 (by decide)).2.2.2 hS (v := (5 : Int32)) rfl dJ1_indexOf_4cfef_17 ?_
  refine va_mmin hx hb (hml.trans hl.1.symm) hown (hts (.methodLink RJ1 38 Lib.Math.min.name) (by decide +kernel)) (hts (.static Lib.Math.min.name) (by decide +kernel)) (hts (.initialized "java/lang/Math") (by decide +kernel)) (hts (.code Lib.Math.min.name Lib.Math.min.code 2 (some .int)) (by decide +kernel)) (Nat.le_of_ble_eq_true rfl) (Nat.le_of_ble_eq_true rfl) (Nat.zero_le _) (Nat.zero_le _) dJ1_indexOf_4cfef_18 ?_
  refine lv_istore_n (lv' := [(3, .int (5 : Int32)), (2, .int (0 : Int32)), (0, .ref (adV 1)), (1, .int x)]) hx hb dJ1_indexOf_4cfef_21 rfl hl (by decide) rfl (fun ls hl => ?_)
  refine lv_iload_n hx hb dJ1_indexOf_4cfef_22 rfl (lv_at hl 1 rfl) ?_
  refine lv_iload_n hx hb dJ1_indexOf_4cfef_23 rfl (lv_at hl 0 rfl) ?_
  refine lv_icmp_lt (tgt := 29) hx hb dJ1_indexOf_4cfef_24 (by decide) (fun c2 => ?_) (fun c2 => absurd (by decide) c2)
  refine lv_aload_n hx hb dJ1_indexOf_4cfef_29 rfl (lv_at hl 2 rfl) ?_
  refine lv_iload_n hx hb dJ1_indexOf_4cfef_30 rfl (lv_at hl 3 rfl) ?_
  refine lv_iload_n hx hb dJ1_indexOf_4cfef_31 rfl (lv_at hl 1 rfl) ?_
  refine lv_iload_n hx hb dJ1_indexOf_4cfef_32 rfl (lv_at hl 0 rfl) ?_
  refine vp_callSi (va_Run.run (va_runS (As := [.ref (adV 1), .int x, .int (0 : Int32), .int (5 : Int32)]) (rest := []) ⟨hx, hb, hml, hown, hts⟩ (qm_J1_indexOfChar_4cfef l adK adV t0 t1 t2 x Post (kIx_in q0 q1 hV)) (va_cwS 4 hts gJ1_indexOf_4cfef_J1_indexOfChar_4cfef rfl rfl rfl (by decide +kernel) ⟨Nat.le_of_ble_eq_true rfl, Nat.le_of_ble_eq_true rfl⟩) (preJS hZ hS) rfl rfl hl.1 rfl (lv_room (Nat.le_of_ble_eq_true rfl)) dJ1_indexOf_4cfef_33 ⟨Nat.le_of_ble_eq_true rfl, Nat.le_of_ble_eq_true rfl⟩)) (fun r2 hV => ?_)
  exact W.iret hx hb hr (fun t ht hW => ⟨_, rfl, hV, ht⟩) (fun q h => absurd h List.not_mem_nil) dJ1_indexOf_4cfef_36 hlocks
set_option maxHeartbeats 4000000 in
set_option maxRecDepth 100000 in
theorem qm_J0_indexOf_7cf53 (l : Launch) (adK adV : Nat → Nat) (t0 t1 t2 : Nat) (x : Int32) (Post : Int32 → Prop) (hV : Post (kIx x)) : Met l yJ0_indexOf_7cf53 wsJ0_indexOf_7cf53 ({ frames := 2, cells := 0, slots := 0, locals := 48 } : Room) (va_Pc [.ref (adK 1), .int x, .int (0 : Int32)] (prJ adK adV t0 t1 t2)) (vp_Si Post) 0 0 (fun _ => False) := by
  refine Met.ofJ (nm := "indexOf") (ds := "(II)I") (own := RJ0) (maxL := 3) (cc := cJ0_indexOf_7cf53) (ret := (some .int)) (by decide) rfl rfl (Nat.le_of_ble_eq_true rfl) (fun p e s m below meth c C0 hZ ls hl => ?_)
  obtain ⟨hx, hb, hr, hml, hown, hts, hlocks⟩ := id C0
  have hl : lv_has ls 3 [(0, .ref (adK 1)), (1, .int x), (2, .int (0 : Int32))] := hl
  have hS : va_S (fun _ => False) s.heap s.heap [] := va_S.rf
  have hZ : ST adK adV t0 t1 t2 (fun _ => False) s s.heap := hZ
  have hi : 1 < 2 := by decide
  refine lv_aload_n hx hb dJ0_indexOf_7cf53_0 rfl (lv_at hl 0 rfl) ?_
  refine vp_callSi (va_Run.run (va_runV (As := []) (rest := []) ⟨hx, hb, hml, hown, hts⟩ (qm_J0_isLatin1_aae02 l adK adV t0 t1 t2 1 hi) (cwV 0 hts gJ0_indexOf_7cf53_J0_isLatin1_aae02 rfl rfl rfl (by decide +kernel) ⟨Nat.le_of_ble_eq_true rfl, Nat.le_of_ble_eq_true rfl⟩) (preJV hi hZ hS) rfl rfl hl.1 rfl (lv_room (Nat.le_of_ble_eq_true rfl)) dJ0_indexOf_7cf53_1 ⟨Nat.le_of_ble_eq_true rfl, Nat.le_of_ble_eq_true rfl⟩)) (fun r hV0 => ?_)
  refine lv_if_eq (tgt := 23) hx hb dJ0_indexOf_7cf53_4 (by decide) (fun c1 => absurd (hV0.symm.trans c1) (by decide)) (fun c1 => ?_)
  refine lv_aload_n hx hb dJ0_indexOf_7cf53_7 rfl (lv_at hl 0 rfl) ?_
  refine vk_getf hx hb (hZ.1.1 1 hi).2.2.1 hS hown (hts (.fieldLink RJ0 9 "java/lang/String" "value" "[B") (by decide +kernel)) (fun _ h9 => h9) dJ0_indexOf_7cf53_8 ?_
  refine lv_iload_n hx hb dJ0_indexOf_7cf53_11 rfl (lv_at hl 1 rfl) ?_
  refine lv_iload_n hx hb dJ0_indexOf_7cf53_12 rfl (lv_at hl 2 rfl) ?_
  refine lv_aload_n hx hb dJ0_indexOf_7cf53_13 rfl (lv_at hl 0 rfl) ?_
  refine vp_callSi (va_Run.run (va_runV (As := []) (rest := [.int (0 : Int32), .int x, .ref (adV 1)]) ⟨hx, hb, hml, hown, hts⟩ (qm_J0_length_8abf5 l adK adV t0 t1 t2 1 hi) (cwV 0 hts gJ0_indexOf_7cf53_J0_length_8abf5 rfl rfl rfl (by decide +kernel) ⟨Nat.le_of_ble_eq_true rfl, Nat.le_of_ble_eq_true rfl⟩) (preJV hi hZ hS) rfl rfl hl.1 rfl (lv_room (Nat.le_of_ble_eq_true rfl)) dJ0_indexOf_7cf53_14 ⟨Nat.le_of_ble_eq_true rfl, Nat.le_of_ble_eq_true rfl⟩)) (fun r3 hV3 => ?_)
  have hV3 : r3 = (5 : Int32) := hV3
  subst hV3
  refine vp_callSi (va_Run.run (va_runS (As := [.ref (adV 1), .int x, .int (0 : Int32), .int (5 : Int32)]) (rest := []) ⟨hx, hb, hml, hown, hts⟩ (qm_J1_indexOf_4cfef l adK adV t0 t1 t2 x Post hV) (va_cwS 4 hts gJ0_indexOf_7cf53_J1_indexOf_4cfef rfl rfl rfl (by decide +kernel) ⟨Nat.le_of_ble_eq_true rfl, Nat.le_of_ble_eq_true rfl⟩) (preJS hZ hS) rfl rfl hl.1 rfl (lv_room (Nat.le_of_ble_eq_true rfl)) dJ0_indexOf_7cf53_17 ⟨Nat.le_of_ble_eq_true rfl, Nat.le_of_ble_eq_true rfl⟩)) (fun r2 hV => ?_)
  refine lv_goto (tgt := 36) hx hb dJ0_indexOf_7cf53_20 (by decide) ?_
  exact W.iret hx hb hr (fun t ht hW => ⟨_, rfl, hV, ht⟩) (fun q h => absurd h List.not_mem_nil) dJ0_indexOf_7cf53_36 hlocks
set_option maxHeartbeats 4000000 in
set_option maxRecDepth 100000 in
theorem qm_J0_indexOf_0f7a4 (l : Launch) (adK adV : Nat → Nat) (t0 t1 t2 : Nat) (x : Int32) (Post : Int32 → Prop) (hV : Post (kIx x)) : Met l yJ0_indexOf_0f7a4 wsJ0_indexOf_0f7a4 ({ frames := 3, cells := 0, slots := 0, locals := 70 } : Room) (va_Pc [.ref (adK 1), .int x] (prJ adK adV t0 t1 t2)) (vp_Si Post) 0 0 (fun _ => False) := by
  refine Met.ofJ (nm := "indexOf") (ds := "(I)I") (own := RJ0) (maxL := 2) (cc := cJ0_indexOf_0f7a4) (ret := (some .int)) (by decide) rfl rfl (Nat.le_of_ble_eq_true rfl) (fun p e s m below meth c C0 hZ ls hl => ?_)
  obtain ⟨hx, hb, hr, hml, hown, hts, hlocks⟩ := id C0
  have hl : lv_has ls 2 [(0, .ref (adK 1)), (1, .int x)] := hl
  have hS : va_S (fun _ => False) s.heap s.heap [] := va_S.rf
  have hZ : ST adK adV t0 t1 t2 (fun _ => False) s s.heap := hZ
  have hi : 1 < 2 := by decide
  refine lv_aload_n hx hb dJ0_indexOf_0f7a4_0 rfl (lv_at hl 0 rfl) ?_
  refine lv_iload_n hx hb dJ0_indexOf_0f7a4_1 rfl (lv_at hl 1 rfl) ?_
  refine lv_iconst (v := (0 : Int32)) hx hb dJ0_indexOf_0f7a4_2 (by decide) ?_
  refine vp_callSi (va_Run.run (va_runV (As := [.int x, .int (0 : Int32)]) (rest := []) ⟨hx, hb, hml, hown, hts⟩ (qm_J0_indexOf_7cf53 l adK adV t0 t1 t2 x Post hV) (cwV 2 hts gJ0_indexOf_0f7a4_J0_indexOf_7cf53 rfl rfl rfl (by decide +kernel) ⟨Nat.le_of_ble_eq_true rfl, Nat.le_of_ble_eq_true rfl⟩) (preJV hi hZ hS) rfl rfl hl.1 rfl (lv_room (Nat.le_of_ble_eq_true rfl)) dJ0_indexOf_0f7a4_3 ⟨Nat.le_of_ble_eq_true rfl, Nat.le_of_ble_eq_true rfl⟩)) (fun r2 hV => ?_)
  exact W.iret hx hb hr (fun t ht hW => ⟨_, rfl, hV, ht⟩) (fun q h => absurd h List.not_mem_nil) dJ0_indexOf_0f7a4_6 hlocks
