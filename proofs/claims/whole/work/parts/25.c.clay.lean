/-! the class: a whole text; whether it can be laid -/
section RD
variable {n : Nat} {L : Nat → Nat} {le : Nat → Int32}
variable {st cO cB fB fd : Int32} {mi lo ba sl ta : Nat → Int32} {ti : Nat → Nat → Int32}
theorem C_clear {Post : Int32 → Int32 → Int32 → Int32 → Int32 → (Nat → Int32) → (Nat → Int32) → (Nat → Nat → Int32) → Prop} (h : ∀ s' t' x', (∀ k, k < 4 → s' k = nI 1 ∧ t' k = nI 2) → (∀ i j, i < 6 → j < 6 → x' i j = nI 0) → Post (0 : Int32) (60 : Int32) (10 : Int32) (8 : Int32) (4 : Int32) s' t' x') : qv_X2_clear st cO cB fB fd sl ta ti Post := by
  have L65 : ∀ (s' t' : Nat → Int32) (E : (Nat → Nat → Int32) → Prop) i, i < 6 → ∀ m j x, j + m = 6 → (∀ a b, a < i → b < 6 → x a b = nI 0) → (∀ b, b < j → x i b = nI 0) → (∀ x', (∀ a b, a < i + 1 → b < 6 → x' a b = nI 0) → E x') → qv_X2_clear_L65 (nI i) (0 : Int32) (60 : Int32) (10 : Int32) (8 : Int32) (4 : Int32) s' t' Post E (m + 1) (nI j) x := by
    intro s' t' E i hi m
    induction m with
    | zero =>
      intro j x hj h1 h2 hE
      have : j = 6 := by omega
      subst this
      refine pk_le 6 6 (fun _ => hE x (fun a b ha hb => ?_)) (fun q => absurd q (by omega))
      by_cases e : a = i
      · subst e; exact h2 b hb
      · exact h1 a b (by omega) hb
    | succ m ih =>
      intro j x hj h1 h2 hE
      refine pk_le 6 j (fun q => absurd q (by omega)) (fun _ => ⟨vp_in_nI hi (by first | decide | exact vd (by decide)), vp_in_nI (by omega) (by first | decide | exact vd (by decide)), ?_⟩)
      rw [nI_clamp (by omega), nI_clamp (by omega), nI_1]
      refine ih (j + 1) _ (by omega) (fun a b ha hb => ?_) (fun b hb => ?_) hE
      · unfold va_up; rw [if_neg (by omega)]; exact h1 a b ha hb
      · unfold va_up; rw [if_pos rfl]
        by_cases e : b = j
        · subst e; exact pk_us
        · rw [pk_un e]; exact h2 b (by omega)
  have L57 : ∀ (s' t' : Nat → Int32), (∀ k, k < 4 → s' k = nI 1 ∧ t' k = nI 2) → ∀ m i x, i + m = 6 → (∀ a b, a < i → b < 6 → x a b = nI 0) → qv_X2_clear_L57 (0 : Int32) (60 : Int32) (10 : Int32) (8 : Int32) (4 : Int32) s' t' Post (fun x => Post (0 : Int32) (60 : Int32) (10 : Int32) (8 : Int32) (4 : Int32) s' t' x) (m + 1) (nI i) x := by
    intro s' t' hst m
    induction m with
    | zero =>
      intro i x hi hx
      have : i = 6 := by omega
      subst this
      exact pk_le 6 6 (fun _ => h s' t' x hst hx) (fun q => absurd q (by omega))
    | succ m ih =>
      intro i x hi hx
      refine pk_le 6 i (fun q => absurd q (by omega)) (fun _ => ⟨7, ?_⟩)
      refine L65 s' t' _ i (by omega) 6 0 x (by omega) hx (fun b hb => absurd hb (by omega)) (fun x' hx' => ?_)
      rw [nI_1]
      exact ih (i + 1) x' (by omega) hx'
  have L7 : ∀ m k (s' t' : Nat → Int32), k + m = 4 → (∀ q, q < k → s' q = nI 1 ∧ t' q = nI 2) → qv_X2_clear_L7 (0 : Int32) cO cB fB fd ti Post (fun z_slips_4 z_takes_4 => ∃ n12, qv_X2_clear_L57 (0 : Int32) (60 : Int32) (10 : Int32) (8 : Int32) (4 : Int32) z_slips_4 z_takes_4 Post (fun z_ties_12 => Post (0 : Int32) (60 : Int32) (10 : Int32) (8 : Int32) (4 : Int32) z_slips_4 z_takes_4 z_ties_12) n12 (0 : Int32) ti) (m + 1) (nI k) s' t' := by
    intro m
    induction m with
    | zero =>
      intro k s' t' hk hst
      have : k = 4 := by omega
      subst this
      exact pk_le 4 4 (fun _ => ⟨7, L57 s' t' hst 6 0 ti (by omega) (fun a b ha _ => absurd ha (by omega))⟩) (fun q => absurd q (by omega))
    | succ m ih =>
      intro k s' t' hk hst
      refine pk_le 4 k (fun q => absurd q (by omega)) (fun _ => ⟨vp_in_nI (by omega) (by first | decide | exact vd (by decide)), vp_in_nI (by omega) (by first | decide | exact vd (by decide)), ?_⟩)
      rw [nI_clamp (by omega), nI_1]
      refine ih (k + 1) _ _ (by omega) (fun q hq => ?_)
      by_cases e : q = k
      · subst e; rw [pk_us, pk_us]; exact ⟨rfl, rfl⟩
      · rw [pk_un e, pk_un e]; exact hst q (by omega)
  exact ⟨5, L7 4 0 sl ta (by omega) (fun q hq => absurd hq (by omega))⟩
theorem cl_A0 {s' t' : Nat → Int32} {x' : Nat → Nat → Int32} (h1 : ∀ k, k < 4 → s' k = nI 1 ∧ t' k = nI 2) (h2 : ∀ i j, i < 6 → j < 6 → x' i j = nI 0) : CL A0 (0 : Int32) (60 : Int32) (10 : Int32) (8 : Int32) (4 : Int32) mi lo ba s' t' x' := by
  refine ⟨⟨rfl, rfl, rfl, rfl, rfl⟩, fun k k1 k2 => ?_, fun k hk => ?_, fun i j hi hj => ?_⟩
  · have : A0 0 = 0 := rfl
    omega
  · obtain ⟨e1, e2⟩ := h1 k hk
    rw [e1, e2]
    rcases (show k = 0 ∨ k = 1 ∨ k = 2 ∨ k = 3 by omega) with rfl | rfl | rfl | rfl <;> exact ⟨rfl, rfl⟩
  · rw [h2 i j hi hj]
    unfold A0
    rw [if_neg (by omega), if_neg (by omega), if_neg (by omega), if_neg (by omega), if_neg (by omega), if_neg (by omega)]
theorem C_readL (hT : TX n L le) {Post : Int32 → Int32 → Int32 → Int32 → Int32 → Int32 → Int32 → (Nat → Int32) → (Nat → Int32) → (Nat → Int32) → (Nat → Int32) → (Nat → Int32) → (Nat → Int32) → (Nat → Nat → Int32) → Prop} {E : Int32 → Int32 → Int32 → Int32 → Int32 → Int32 → (Nat → Int32) → (Nat → Int32) → (Nat → Int32) → (Nat → Int32) → (Nat → Int32) → (Nat → Int32) → (Nat → Nat → Int32) → Prop} {R : Option Nat × (Nat → Nat)}
    (fail : ∀ b, R.1 = some b → b < 200 → ∀ pl s1 s2 s3 s4 s5 nu m1 m2 m3 m4 m5 t, Post (nI b) pl s1 s2 s3 s4 s5 nu m1 m2 m3 m4 m5 t)
    (ok : R.1 = none → OKL R.2 → ∀ pl s1 s2 s3 s4 s5 nu m1 m2 m3 m4 m5 t, CL R.2 s1 s2 s3 s4 s5 m1 m2 m3 m4 m5 t → E pl s1 s2 s3 s4 s5 nu m1 m2 m3 m4 m5 t) :
    ∀ f x at_ A s1 s2 s3 s4 s5 nu m1 m2 m3 m4 m5 t, OKL A → CL A s1 s2 s3 s4 s5 m1 m2 m3 m4 m5 t → n - at_ ≤ f → x ≤ at_ → at_ ≤ n → prs L n f at_ A = R → qv_X4_readInto_L11 (nI n) le Post E (f + 1) (nI x) (nI at_) s1 s2 s3 s4 s5 nu m1 m2 m3 m4 m5 t := by
  have hn := hT.1
  intro f
  induction f with
  | zero =>
    intro x at_ A s1 s2 s3 s4 s5 nu m1 m2 m3 m4 m5 t hA hC hf hx hat hR
    have : at_ = n := by omega
    subst this
    rw [prs] at hR
    subst hR
    refine pk_le 200 x (fun _ => ok rfl hA _ _ _ _ _ _ _ _ _ _ _ _ _ hC) (fun _ => pk_le at_ at_ (fun _ => ok rfl hA _ _ _ _ _ _ _ _ _ _ _ _ _ hC) (fun q => absurd q (by omega)))
  | succ f ih =>
    intro x at_ A s1 s2 s3 s4 s5 nu m1 m2 m3 m4 m5 t hA hC hf hx hat hR
    by_cases c : n ≤ at_
    · rw [prs, if_pos c] at hR
      subst hR
      refine pk_le 200 x (fun _ => ok rfl hA _ _ _ _ _ _ _ _ _ _ _ _ _ hC) (fun _ => pk_le n at_ (fun _ => ok rfl hA _ _ _ _ _ _ _ _ _ _ _ _ _ hC) (fun q => absurd q (by omega)))
    · rw [prs, if_neg c] at hR
      refine pk_le 200 x (fun q => absurd q (by omega)) (fun _ => pk_le n at_ (fun q => absurd q (by omega)) (fun _ => ?_))
      refine C_readItem hT hA hC (by omega) (fun e pl nu => t0 ?_) (fun A' a y1 y2 y3 y4 y5 nu z1 z2 z3 z4 z5 t' e hC' => t1 ?_)
      · rw [e] at hR
        exact fail at_ (by rw [← hR]) (by omega) _ _ _ _ _ _ _ _ _ _ _ _ _
      · rw [e] at hR
        simp only at hR
        obtain ⟨o1, o2, o3⟩ := item_ok hT.2.1 hA e
        rw [nI_1]
        exact ih (x + 1) a A' _ _ _ _ _ _ _ _ _ _ _ _ o1 hC' (by omega) (by omega) o3 hR
theorem C_readInto (hT : TX n L le) {pl : Int32} {nu : Nat → Int32} {Post : Int32 → Int32 → Int32 → Int32 → Int32 → Int32 → Int32 → (Nat → Int32) → (Nat → Int32) → (Nat → Int32) → (Nat → Int32) → (Nat → Int32) → (Nat → Int32) → (Nat → Nat → Int32) → Prop}
    (fail : ∀ b, (prs L n n 0 A0).1 = some b → b < 200 → ∀ pl s1 s2 s3 s4 s5 nu m1 m2 m3 m4 m5 t, Post (nI b) pl s1 s2 s3 s4 s5 nu m1 m2 m3 m4 m5 t)
    (ok : (prs L n n 0 A0).1 = none → OKL (prs L n n 0 A0).2 → ∀ pl s1 s2 s3 s4 s5 nu m1 m2 m3 m4 m5 t, CL (prs L n n 0 A0).2 s1 s2 s3 s4 s5 m1 m2 m3 m4 m5 t → Post (-4 : Int32) pl s1 s2 s3 s4 s5 nu m1 m2 m3 m4 m5 t) : qv_X4_readInto pl st cO cB fB fd (nI n) nu mi lo ba sl ta le ti Post := by
  refine C_clear (fun s' t' x' h1 h2 => ⟨n + 1, ?_⟩)
  exact C_readL hT fail ok n 0 0 A0 _ _ _ _ _ _ _ _ _ _ _ _ ok_A0 (cl_A0 h1 h2) (by omega) (by omega) (by omega) rfl
/-- whether what is told can be laid -/
def lay_ok (A : Nat → Nat) : Prop := 1 ≤ A 0 ∧ ∀ i j, i < 6 → j < 6 → A 1 ≤ j → A (37 + 6 * i + j) = 0
theorem C_canBeLaid {A : Nat → Nat} (hA : OKL A) (hC : CL A st cO cB fB fd mi lo ba sl ta ti) {Post : Int32 → Prop} (f : lay_ok A → Post (nI 1)) (g : ¬ lay_ok A → Post (nI 0)) : qv_X2_canBeLaid st fd ti Post := by
  obtain ⟨⟨rfl, rfl, e2, e3, e4⟩, em, es, et⟩ := hC
  have hA0 := hA.1.1
  have hA1 := hA.1.2.2
  have b9 : ∀ i j, i < 6 → j < 6 → A (37 + 6 * i + j) ≤ 9 := fun i j hi hj => (hA.2.2.2.2 i j hi hj).1
  refine pk_le 1 (A 0) (fun c => ⟨7, ?_⟩) (fun c => g (fun q => by have := q.1; omega))
  have L23 : ∀ (E : Prop) i, i < 6 → ((∀ j, j < 6 → A 1 ≤ j → A (37 + 6 * i + j) = 0) → E) → ∀ m j, j + m = 6 → A 1 ≤ j → (∀ q, q < j → A 1 ≤ q → A (37 + 6 * i + q) = 0) → qv_X2_canBeLaid_L23 (nI i) (nI (A 0)) (nI (A 1)) ti Post E (m + 1) (nI j) := by
    intro E i hi hE m
    induction m with
    | zero =>
      intro j hj h1 hq
      have : j = 6 := by omega
      subst this
      exact pk_le 6 6 (fun _ => hE hq) (fun q => absurd q (by omega))
    | succ m ih =>
      intro j hj h1 hq
      refine pk_le 6 j (fun q => absurd q (by omega)) (fun _ => ⟨vp_in_nI hi (by first | decide | exact vd (by decide)), vp_in_nI (by omega) (by first | decide | exact vd (by decide)), ?_⟩)
      have := b9 i j hi (by omega)
      rw [nI_clamp (by omega), nI_clamp (by omega), et i j hi (by omega), nI_1]
      refine pk_eq (A (37 + 6 * i + j)) 0 (fun e => ih (j + 1) (by omega) (by omega) (fun q hq1 hq2 => ?_)) (fun e => g (fun z => e (z.2 i j hi (by omega) h1)))
      by_cases z : q = j
      · subst z; exact e
      · exact hq q (by omega) hq2
  have L12 : ∀ m i, i + m = 6 → (∀ a b, a < i → b < 6 → A 1 ≤ b → A (37 + 6 * a + b) = 0) → qv_X2_canBeLaid_L12 (nI (A 0)) (nI (A 1)) ti Post (Post (1 : Int32)) (m + 1) (nI i) := by
    intro m
    induction m with
    | zero =>
      intro i hi h1
      have : i = 6 := by omega
      subst this
      exact pk_le 6 6 (fun _ => f ⟨c, fun a b ha hb => h1 a b ha hb⟩) (fun q => absurd q (by omega))
    | succ m ih =>
      intro i hi h1
      refine pk_le 6 i (fun q => absurd q (by omega)) (fun _ => ⟨6 - A 1 + 1, ?_⟩)
      refine L23 _ i (by omega) (fun h2 => ?_) (6 - A 1) (A 1) (by omega) (by omega) (fun q q1 q2 => absurd q1 (by omega))
      rw [nI_1]
      refine ih (i + 1) (by omega) (fun a b ha hb hb2 => ?_)
      by_cases e : a = i
      · subst e; exact h2 b hb hb2
      · exact h1 a b (by omega) hb hb2
  exact L12 6 0 (by omega) (fun a b ha => absurd ha (by omega))
end RD
