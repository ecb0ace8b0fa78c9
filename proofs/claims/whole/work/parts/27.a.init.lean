/-! a new object: the first text, what it tells, and the reference's own row -/
def FT : Nat → Nat := fun i => ([115, 50, 48, 44, 49, 44, 50, 59, 115, 51, 48, 44, 51, 44, 49, 59, 115, 49, 48, 44, 48, 44, 53, 59, 117, 48, 44, 50, 44, 49, 59, 117, 49, 44, 48, 44, 52, 59, 117, 50, 44, 49, 44, 50, 59, 117, 51, 44, 51, 44, 49, 59, 116, 48, 44, 49, 44, 53, 59, 116, 50, 44, 51, 44, 50, 59, 116, 48, 44, 50, 44, 49, 59] : List Nat).getD i 0
theorem FT_ch : ∀ i, i < 73 → vp_nar .char (chF (nI i)) = nI (FT i) ∧ FT i ≤ 126 := by decide +kernel
theorem FT_0 : ∀ i, 73 ≤ i → FT i = 0 := by
  intro i h
  unfold FT
  rw [List.getD_eq_getElem?_getD, List.getElem?_eq_none (by simpa using h)]
  rfl
theorem FT_prs : (prs FT 73 73 0 A0).1 = none := by decide +kernel
def A1 : Nat → Nat := (prs FT 73 73 0 A0).2
def A2 : Nat → Nat := un (un (un (un (un (un (un (un (un (un (un (un (un (un (un (un (un (un (un (un (un (un (un (un A0 0 3) 5 20) 6 1) 7 2) 8 30) 9 3) 10 1) 11 10) 12 0) 13 5) 29 2) 30 1) 31 0) 32 4) 33 1) 34 2) 35 3) 36 1) 38 5) 43 5) 52 2) 57 2) 39 1) 49 1
theorem A12 : ∀ k, k < 73 → A1 k = A2 k := by decide +kernel
theorem ok_A1 : OKL A1 := by
  have h : ∀ {n : Nat} {L : Nat → Nat} {le : Nat → Int32}, TX n L le → (prs L n n 0 A0).1 = none → OKL (prs L n n 0 A0).2 := by
    intro n L le hT hn
    have G : ∀ f at_ A, OKL A → at_ ≤ n → (prs L n f at_ A).1 = none → OKL (prs L n f at_ A).2 := by
      intro f
      induction f with
      | zero => intro at_ A hA _ _; exact hA
      | succ f ih =>
        intro at_ A hA ha h
        rw [prs] at h ⊢
        by_cases c : n ≤ at_
        · rw [if_pos c]; exact hA
        · rw [if_neg c] at h ⊢
          cases e : item L A at_ with
          | none => rw [e] at h; cases h
          | some p =>
            obtain ⟨A', a⟩ := p
            rw [e] at h
            obtain ⟨o1, o2, o3⟩ := item_ok hT.2.1 hA e
            exact ih a A' o1 o3 h
    exact G n 0 A0 ok_A0 (by omega) hn
  refine h (le := fun i => nI (FT i)) ⟨by first | decide | exact vd (by decide), FT_0, fun i => ?_, fun i _ => rfl⟩ FT_prs
  by_cases c : i < 73
  · exact (FT_ch i c).2
  · rw [FT_0 i (by omega)]; exact Nat.zero_le _
theorem R_init {Post : Int32 → Int32 → Int32 → Int32 → Int32 → Int64 → Int64 → Int64 → Int32 → Int32 → (Nat → Int32) → (Nat → Int32) → (Nat → Int32) → (Nat → Int32) → (Nat → Int32) → (Nat → Int32) → (Nat → Int32) → (Nat → Int32) → (Nat → Int64) → (Nat → Int32) → (Nat → Int32) → (Nat → Int32) → Prop} (h : ∀ la, RLd A1 la → Post (0 : Int32) (0 : Int32) (0 : Int32) (0 : Int32) (0 : Int32) (0 : Int64) (0 : Int64) (0 : Int64) (0 : Int32) (0 : Int32) la (fun _ => 0) (fun _ => 0) (fun _ => 0) (fun _ => 0) (fun _ => 0) (fun _ => 0) (fun _ => 0) (fun _ => 0) (fun _ => 0) (fun _ => 0) (fun _ => 0)) : qv_X8_init Post := by
  refine R_plain (fun re hR => ?_)
  refine ⟨by first | decide | exact vd (by decide), by first | decide | exact vd (by decide), by first | decide | exact vd (by decide), by first | decide | exact vd (by decide), by first | decide | exact vd (by decide), by first | decide | exact vd (by decide), by first | decide | exact vd (by decide), by first | decide | exact vd (by decide), by first | decide | exact vd (by decide), by first | decide | exact vd (by decide), by first | decide | exact vd (by decide), by first | decide | exact vd (by decide), by first | decide | exact vd (by decide), by first | decide | exact vd (by decide), by first | decide | exact vd (by decide), by first | decide | exact vd (by decide), by first | decide | exact vd (by decide), by first | decide | exact vd (by decide), by first | decide | exact vd (by decide), by first | decide | exact vd (by decide), by first | decide | exact vd (by decide), by first | decide | exact vd (by decide), by first | decide | exact vd (by decide), by first | decide | exact vd (by decide), h _ ?_⟩
  have k := rl_un (k := 49) (v := 1) (rl_un (k := 39) (v := 1) (rl_un (k := 57) (v := 2) (rl_un (k := 52) (v := 2) (rl_un (k := 43) (v := 5) (rl_un (k := 38) (v := 5) (rl_un (k := 36) (v := 1) (rl_un (k := 35) (v := 3) (rl_un (k := 34) (v := 2) (rl_un (k := 33) (v := 1) (rl_un (k := 32) (v := 4) (rl_un (k := 31) (v := 0) (rl_un (k := 30) (v := 1) (rl_un (k := 29) (v := 2) (rl_un (k := 13) (v := 5) (rl_un (k := 12) (v := 0) (rl_un (k := 11) (v := 10) (rl_un (k := 10) (v := 1) (rl_un (k := 9) (v := 3) (rl_un (k := 8) (v := 30) (rl_un (k := 7) (v := 2) (rl_un (k := 6) (v := 1) (rl_un (k := 5) (v := 20) (rl_un (k := 0) (v := 3) hR)))))))))))))))))))))))
  intro j hj
  rw [A12 j hj]
  exact k j hj
theorem C_initL {z_keptWays : Int32} {z_reader_place : Int32} {z_laid_stretches : Int32} {z_laid_costOn : Int32} {z_laid_costBack : Int32} {z_laid_foundBy : Int32} {z_laid_friends : Int32} {z_draft_stretches : Int32} {z_draft_costOn : Int32} {z_draft_costBack : Int32} {z_draft_foundBy : Int32} {z_draft_friends : Int32} {z_way_walked : Int32} {z_way_counts : Int32} {z_way_undoable : Int32} {z_kept_kk0_walked : Int32} {z_kept_kk0_counts : Int32} {z_kept_kk0_undoable : Int32} {z_kept_kk1_walked : Int32} {z_kept_kk1_counts : Int32} {z_kept_kk1_undoable : Int32} {z_chances_away : Int64} {z_chances_all : Int64} {z_choice_which : Int32} {z_choice_above : Int64} {z_choice_below : Int64} {z_pairing_least : Int32} {z_pairing_found : Int32} {z_reader_numbers : Nat → Int32} {z_laid_minutes : Nat → Int32} {z_laid_lostBy : Nat → Int32} {z_laid_backBy : Nat → Int32} {z_laid_slips : Nat → Int32} {z_laid_takes : Nat → Int32} {z_draft_minutes : Nat → Int32} {z_draft_lostBy : Nat → Int32} {z_draft_backBy : Nat → Int32} {z_draft_slips : Nat → Int32} {z_draft_takes : Nat → Int32} {z_way_behind : Nat → Int32} {z_way_sorts : Nat → Int32} {z_way_tells : Nat → Int32} {z_kept_kk0_behind : Nat → Int32} {z_kept_kk0_sorts : Nat → Int32} {z_kept_kk0_tells : Nat → Int32} {z_kept_kk1_behind : Nat → Int32} {z_kept_kk1_sorts : Nat → Int32} {z_kept_kk1_tells : Nat → Int32} {z_chances_of : Nat → Int64} {z_pairing_with : Nat → Int32} {z_pairing_best : Nat → Int32} {z_laid_ties : Nat → Nat → Int32} {z_draft_ties : Nat → Nat → Int32} {Post : (Int32) → (Int32) → (Int32) → (Int32) → (Int32) → (Int32) → (Int32) → (Int32) → (Int32) → (Int32) → (Int32) → (Int32) → (Int32) → (Int32) → (Int32) → (Int32) → (Int32) → (Int32) → (Int32) → (Int32) → (Int32) → (Int32) → (Int64) → (Int64) → (Int32) → (Int64) → (Int64) → (Int32) → (Int32) → (Nat → Int32) → (Nat → Int32) → (Nat → Int32) → (Nat → Int32) → (Nat → Int32) → (Nat → Int32) → (Nat → Int32) → (Nat → Int32) → (Nat → Int32) → (Nat → Int32) → (Nat → Int32) → (Nat → Int32) → (Nat → Int32) → (Nat → Int32) → (Nat → Int32) → (Nat → Int32) → (Nat → Int32) → (Nat → Int32) → (Nat → Int32) → (Nat → Int32) → (Nat → Int32) → (Nat → Int64) → (Nat → Int32) → (Nat → Int32) → (Nat → Nat → Int32) → (Nat → Nat → Int32) → Prop} {E : Int32 → (Nat → Int32) → Prop} (hE : ∀ le, TX 73 FT le → E (nI 73) le) : ∀ m i le, i + m = 73 → (∀ j, j < i → le j = nI (FT j)) → qv_X7_init_L133 z_keptWays z_reader_place z_laid_stretches z_laid_costOn z_laid_costBack z_laid_foundBy z_laid_friends z_draft_stretches z_draft_costOn z_draft_costBack z_draft_foundBy z_draft_friends z_way_walked z_way_counts z_way_undoable z_kept_kk0_walked z_kept_kk0_counts z_kept_kk0_undoable z_kept_kk1_walked z_kept_kk1_counts z_kept_kk1_undoable z_chances_away z_chances_all z_choice_which z_choice_above z_choice_below z_pairing_least z_pairing_found z_reader_numbers z_laid_minutes z_laid_lostBy z_laid_backBy z_laid_slips z_laid_takes z_draft_minutes z_draft_lostBy z_draft_backBy z_draft_slips z_draft_takes z_way_behind z_way_sorts z_way_tells z_kept_kk0_behind z_kept_kk0_sorts z_kept_kk0_tells z_kept_kk1_behind z_kept_kk1_sorts z_kept_kk1_tells z_chances_of z_pairing_with z_pairing_best z_laid_ties z_draft_ties Post E (m + 1) (nI i) (nI i) le := by
  intro m
  induction m with
  | zero =>
    intro i le hi hl
    have : i = 73 := by omega
    subst this
    refine pk_le 73 73 (fun _ => hE le ⟨by first | decide | exact vd (by decide), FT_0, fun i => ?_, hl⟩) (fun q => absurd q (by omega))
    by_cases c : i < 73
    · exact (FT_ch i c).2
    · rw [FT_0 i (by omega)]; exact Nat.zero_le _
  | succ m ih =>
    intro i le hi hl
    refine pk_le 73 i (fun q => absurd q (by omega)) (fun _ => ⟨vp_in_nI (by omega) (by first | decide | exact vd (by decide)), ?_⟩)
    refine pk_le 200 i (fun q => absurd q (by omega)) (fun _ => ⟨vp_in_nI (by omega) (by first | decide | exact vd (by decide)), ?_⟩)
    rw [(FT_ch i (by omega)).1, nI_clamp (by omega), nI_1]
    refine ih (i + 1) _ (by omega) (fun j hj => ?_)
    by_cases c : j = i
    · subst c; exact pk_us
    · rw [pk_un c]; exact hl j (by omega)
theorem C_init {Post : Int32 → Int32 → Int32 → Int32 → Int32 → Int32 → Int32 → Int32 → Int32 → Int32 → Int32 → Int32 → Int32 → Int32 → Int32 → Int32 → Int32 → Int32 → Int32 → Int32 → Int32 → Int32 → Int64 → Int64 → Int32 → Int64 → Int64 → Int32 → Int32 → (Nat → Int32) → (Nat → Int32) → (Nat → Int32) → (Nat → Int32) → (Nat → Int32) → (Nat → Int32) → (Nat → Int32) → (Nat → Int32) → (Nat → Int32) → (Nat → Int32) → (Nat → Int32) → (Nat → Int32) → (Nat → Int32) → (Nat → Int32) → (Nat → Int32) → (Nat → Int32) → (Nat → Int32) → (Nat → Int32) → (Nat → Int32) → (Nat → Int32) → (Nat → Int32) → (Nat → Int64) → (Nat → Int32) → (Nat → Int32) → (Nat → Nat → Int32) → (Nat → Nat → Int32) → Prop} (h : ∀ le pl s1 s2 s3 s4 s5 nu m1 m2 m3 m4 m5 t, CL A1 s1 s2 s3 s4 s5 m1 m2 m3 m4 m5 t → Post (0 : Int32) (0 : Int32) pl s1 s2 s3 s4 s5 (0 : Int32) (0 : Int32) (0 : Int32) (0 : Int32) (0 : Int32) (0 : Int32) (0 : Int32) (0 : Int32) (0 : Int32) (0 : Int32) (0 : Int32) (0 : Int32) (0 : Int32) (0 : Int32) (0 : Int64) (0 : Int64) (0 : Int32) (0 : Int64) (0 : Int64) (0 : Int32) (0 : Int32) le nu m1 m2 m3 m4 m5 (fun _ => 0) (fun _ => 0) (fun _ => 0) (fun _ => 0) (fun _ => 0) (fun _ => 0) (fun _ => 0) (fun _ => 0) (fun _ => 0) (fun _ => 0) (fun _ => 0) (fun _ => 0) (fun _ => 0) (fun _ => 0) (fun _ => 0) (fun _ => 0) (fun _ => 0) t (fun _ _ => 0)) : qv_X7_init Post := by
  unfold qv_X7_init qv_X5_init qv_X4_init qv_X2_init qv_X6_init qv_X0_init qv_X1_init qv_X3_init
  refine ⟨74, C_initL (fun le hT => ?_) 73 0 _ (by omega) (fun j hj => absurd hj (by omega))⟩
  refine C_readInto hT (fun b e => ?_) (fun e hA pl s1 s2 s3 s4 s5 nu m1 m2 m3 m4 m5 t hC => h le pl s1 s2 s3 s4 s5 nu m1 m2 m3 m4 m5 t hC)
  rw [FT_prs] at e
  cases e
