/-! the reference: a whole text, fault, lay; the class's fault, lay -/
theorem R_plain {re : Nat → Int32} {Post : (Nat → Int32) → Prop} (h : ∀ re', RLd A0 re' → Post re') : qv_X8_plain re Post := by
  have L39 : ∀ m i z, i + m = 4 → (∀ j, j < 73 → (j < 29 ∨ 36 < j) → z j = nI (A0 j)) → (∀ q, q < i → z (29 + 2 * q) = nI 1 ∧ z (30 + 2 * q) = nI 2) → qv_X8_plain_L39 Post (fun z => Post z) (m + 1) (nI i) z := by
    intro m
    induction m with
    | zero =>
      intro i z hi h1 h2
      have : i = 4 := by omega
      subst this
      refine pk_le 4 4 (fun _ => h z (fun j hj => ?_)) (fun q => absurd q (by omega))
      by_cases c : j < 29 ∨ 36 < j
      · exact h1 j hj c
      · rcases (show j = 29 ∨ j = 30 ∨ j = 31 ∨ j = 32 ∨ j = 33 ∨ j = 34 ∨ j = 35 ∨ j = 36 by omega) with rfl | rfl | rfl | rfl | rfl | rfl | rfl | rfl
        · exact (h2 0 (by first | decide | exact vd (by decide))).1
        · exact (h2 0 (by first | decide | exact vd (by decide))).2
        · exact (h2 1 (by first | decide | exact vd (by decide))).1
        · exact (h2 1 (by first | decide | exact vd (by decide))).2
        · exact (h2 2 (by first | decide | exact vd (by decide))).1
        · exact (h2 2 (by first | decide | exact vd (by decide))).2
        · exact (h2 3 (by first | decide | exact vd (by decide))).1
        · exact (h2 3 (by first | decide | exact vd (by decide))).2
    | succ m ih =>
      intro i z hi h1 h2
      have ex : (29 : Int32) + (2 : Int32) * nI i = nI (29 + 2 * i) := by rw [li_29, li_2, pk_mul, nI_add]
      refine pk_le 4 i (fun q => absurd q (by omega)) (fun _ => ?_)
      rw [ex, nI_1, nI_clamp (by omega), nI_clamp (by omega), nI_1]
      refine ⟨vp_in_nI (by omega) (by first | decide | exact vd (by decide)), vp_in_nI (by omega) (by first | decide | exact vd (by decide)), ih (i + 1) _ (by omega) (fun j hj c => ?_) (fun q hq => ?_)⟩
      · rw [pk_un (by omega), pk_un (by omega)]; exact h1 j hj c
      · by_cases e : q = i
        · subst e
          rw [pk_un (by omega), pk_us, show 30 + 2 * q = 29 + 2 * q + 1 by omega, pk_us]
          exact ⟨rfl, rfl⟩
        · rw [pk_un (by omega), pk_un (by omega), pk_un (by omega), pk_un (by omega)]; exact h2 q (by omega)
  have L2 : ∀ m i z, i + m = 73 → (∀ j, j < i → z j = nI 0) → qv_X8_plain_L2 Post (fun z_p0_3 => vp_in (1 : Int32) 73 ∧ (vp_in (2 : Int32) 73 ∧ (vp_in (3 : Int32) 73 ∧ (vp_in (4 : Int32) 73 ∧ (∃ n11, qv_X8_plain_L39 Post (fun z_p0_11 => Post z_p0_11) n11 (0 : Int32) (upd (upd (upd (upd z_p0_3 (1 : Int32).toNatClampNeg (4 : Int32)) (2 : Int32).toNatClampNeg (60 : Int32)) (3 : Int32).toNatClampNeg (10 : Int32)) (4 : Int32).toNatClampNeg (8 : Int32))))))) (m + 1) (nI i) z := by
    intro m
    induction m with
    | zero =>
      intro i z hi h1
      have : i = 73 := by omega
      subst this
      refine pk_le 73 73 (fun _ => ⟨by first | decide | exact vd (by decide), by first | decide | exact vd (by decide), by first | decide | exact vd (by decide), by first | decide | exact vd (by decide), 5, L39 4 0 _ (by omega) (fun j hj c => ?_) (fun q hq => absurd hq (by omega))⟩) (fun q => absurd q (by omega))
      show upd (upd (upd (upd z 1 (4 : Int32)) 2 (60 : Int32)) 3 (10 : Int32)) 4 (8 : Int32) j = _
      unfold upd A0
      by_cases e4 : j = 4
      · subst e4; rfl
      by_cases e3 : j = 3
      · subst e3; rfl
      by_cases e2 : j = 2
      · subst e2; rfl
      by_cases e1 : j = 1
      · subst e1; rfl
      rw [if_neg e4, if_neg e3, if_neg e2, if_neg e1, if_neg e1, if_neg e2, if_neg e3, if_neg e4, if_neg (by omega), if_neg (by omega)]
      exact h1 j hj
    | succ m ih =>
      intro i z hi h1
      refine pk_le 73 i (fun q => absurd q (by omega)) (fun _ => ⟨vp_in_nI (by omega) (by first | decide | exact vd (by decide)), ?_⟩)
      rw [nI_clamp (by omega), nI_1]
      refine ih (i + 1) _ (by omega) (fun j hj => ?_)
      by_cases e : j = i
      · subst e; exact pk_us
      · rw [pk_un e]; exact h1 j (by omega)
  exact ⟨74, L2 73 0 re (by omega) (fun j hj => absurd hj (by omega))⟩
section RR
variable {n : Nat} {L : Nat → Nat} {ys : Nat → Int32}
theorem R_faultsL (hT : TX n L ys) {Post : Int32 → Int32 → (Nat → Int32) → (Nat → Int32) → Prop} {E : Int32 → (Nat → Int32) → (Nat → Int32) → Prop} {R : Option Nat × (Nat → Nat)}
    (fail : ∀ b, R.1 = some b → b < 200 → ∀ a re nu, Post (nI b) a re nu)
    (ok : R.1 = none → OKL R.2 → ∀ a re nu, RLd R.2 re → E a re nu) :
    ∀ f at_ A re nu, OKL A → RLd A re → n - at_ ≤ f → at_ ≤ n → prs L n f at_ A = R → qv_X8_faults_L12 (nI n) ys Post E (f + 1) (nI at_) re nu := by
  have hn := hT.1
  intro f
  induction f with
  | zero =>
    intro at_ A re nu hA hR hf hat hr
    have : at_ = n := by omega
    subst this
    rw [prs] at hr
    subst hr
    exact pk_le at_ at_ (fun _ => ok rfl hA _ _ _ hR) (fun q => absurd q (by omega))
  | succ f ih =>
    intro at_ A re nu hA hR hf hat hr
    by_cases c : n ≤ at_
    · rw [prs, if_pos c] at hr
      subst hr
      exact pk_le n at_ (fun _ => ok rfl hA _ _ _ hR) (fun q => absurd q (by omega))
    rw [prs, if_neg c] at hr
    have h126 := hT.2.2.1 at_
    refine pk_le n at_ (fun q => absurd q (by omega)) (fun _ => ⟨vp_in_nI (by omega) (by first | decide | exact vd (by decide)), ?_⟩)
    rw [nI_clamp (by omega), hT.2.2.2 at_ (by omega), nI_1]
    have bad : ∀ a re nu, item L A at_ = none → qv_X8_faults_J118 (nI 0) (nI at_) (nI n) a ys re nu Post (qv_X8_faults_L12 (nI n) ys Post E (f + 1)) E := fun a re nu e => by
      rw [e] at hr
      exact t0 (fail at_ (by rw [← hr]) (by omega) _ _ _)
    have good : ∀ A' a re nu, item L A at_ = some (A', a) → RLd A' re → qv_X8_faults_J118 (nI 1) (nI at_) (nI n) (nI a) ys re nu Post (qv_X8_faults_L12 (nI n) ys Post E (f + 1)) E := fun A' a re nu e hR' => by
      rw [e] at hr
      simp only at hr
      obtain ⟨o1, o2, o3⟩ := item_ok hT.2.1 hA e
      exact t1 (ih a A' re nu o1 hR' (by omega) o3 hr)
    refine pk_eq (L at_) 115 (fun c1 => R_readsStretch hT hA hR (by omega) (fun q a re nu => bad a re nu ?_) (fun v0 v1 v2 a re' nu' h8 q hR' => good _ a re' nu' ?_ hR')) (fun c1 => pk_eq (L at_) 117 (fun c2 => R_readsSort hT hR (by omega) (fun q a re nu => bad a re nu ?_) (fun v0 v1 v2 a re' nu' q hR' => good _ a re' nu' ?_ hR')) (fun c2 => pk_eq (L at_) 104 (fun c3 => R_readsCost hT hR (by omega) (fun q a re nu => bad a re nu ?_) (fun v0 v1 v2 a re' nu' q hR' => good _ a re' nu' ?_ hR')) (fun c3 => pk_eq (L at_) 107 (fun c4 => R_readsFriends hT hR (by omega) (fun q a re nu => bad a re nu ?_) (fun v0 a re' nu' q hR' => good _ a re' nu' ?_ hR')) (fun c4 => pk_eq (L at_) 116 (fun c5 => R_readsTie hT hR (by omega) (fun q a re nu => t0 (bad a re nu ?_)) (fun v0 v1 v2 a re' nu' q hne hR' => t1 (good _ a re' nu' ?_ hR'))) (fun c5 => bad _ _ _ ?_)))))
    · unfold item
      rw [if_pos c1]
      by_cases h8 : A 0 < 8
      · rw [q h8]
      · cases e : it3 L 1 60 0 10 0 10 (at_ + 1) with
        | none => rfl
        | some p => obtain ⟨v0, v1, v2, b⟩ := p; simp only; rw [if_neg h8]
    · unfold item; rw [if_pos c1, q]; simp only; rw [if_pos h8]
    · unfold item; rw [if_neg c1, if_pos c2, q]
    · unfold item; rw [if_neg c1, if_pos c2, q]
    · unfold item; rw [if_neg c1, if_neg c2, if_pos c3, q]
    · unfold item; rw [if_neg c1, if_neg c2, if_pos c3, q]
    · unfold item; rw [if_neg c1, if_neg c2, if_neg c3, if_pos c4, q]
    · unfold item; rw [if_neg c1, if_neg c2, if_neg c3, if_pos c4, q]
    · unfold item
      rw [if_neg c1, if_neg c2, if_neg c3, if_neg c4, if_pos c5]
      cases e : it3 L 0 5 0 5 0 9 (at_ + 1) with
      | none => rfl
      | some p => obtain ⟨v0, v1, v2, b⟩ := p; simp only; rw [if_pos (q v0 v1 v2 b e)]
    · unfold item; rw [if_neg c1, if_neg c2, if_neg c3, if_neg c4, if_pos c5, q]; simp only; rw [if_neg hne]
    · unfold item; rw [if_neg c1, if_neg c2, if_neg c3, if_neg c4, if_neg c5]
theorem R_faults (hT : TX n L ys) {a : Int32} {re nu : Nat → Int32} {Post : Int32 → Int32 → (Nat → Int32) → (Nat → Int32) → Prop} (fail : ∀ b, (prs L n n 0 A0).1 = some b → b < 200 → ∀ a re nu, Post (nI b) a re nu) (ok : (prs L n n 0 A0).1 = none → OKL (prs L n n 0 A0).2 → ∀ a re nu, RLd (prs L n n 0 A0).2 re → Post (-4 : Int32) a re nu) : qv_X8_faults (nI n) a ys re nu Post :=
  R_plain (fun re' hR => ⟨n + 1, R_faultsL hT fail ok n 0 A0 re' nu ok_A0 hR (by omega) (by omega) rfl⟩)
def a_fault (L : Nat → Nat) (n : Nat) : Int32 := jI (prs L n n 0 A0).1
theorem R_fault (hT : TX n L ys) {a : Int32} {re nu : Nat → Int32} {Post : Int32 → Int32 → (Nat → Int32) → (Nat → Int32) → Prop} (h : ∀ a re nu, Post (a_fault L n) a re nu) : qv_X8_fault (nI n) a ys re nu Post := by
  unfold a_fault at h
  exact R_faults hT (fun b e _ a re nu => by rw [e] at h; exact h _ _ _) (fun e _ a re nu _ => by rw [e] at h; exact h _ _ _)
theorem C_fault (hT : TX n L ys) {pl st cO cB fB fd : Int32} {nu mi lo ba sl ta : Nat → Int32} {ti : Nat → Nat → Int32} {Post : Int32 → Int32 → Int32 → Int32 → Int32 → Int32 → Int32 → (Nat → Int32) → (Nat → Int32) → (Nat → Int32) → (Nat → Int32) → (Nat → Int32) → (Nat → Int32) → (Nat → Nat → Int32) → Prop} (h : ∀ pl s1 s2 s3 s4 s5 nu m1 m2 m3 m4 m5 t, Post (a_fault L n) pl s1 s2 s3 s4 s5 nu m1 m2 m3 m4 m5 t) : qv_X7_fault (nI n) pl st cO cB fB fd ys nu mi lo ba sl ta ti Post := by
  unfold a_fault at h
  exact C_readInto hT (fun b e _ pl s1 s2 s3 s4 s5 nu m1 m2 m3 m4 m5 t => by rw [e] at h; exact h _ _ _ _ _ _ _ _ _ _ _ _ _) (fun e _ pl s1 s2 s3 s4 s5 nu m1 m2 m3 m4 m5 t _ => by rw [e] at h; exact h _ _ _ _ _ _ _ _ _ _ _ _ _)
/-! lay -/
def lg (A : Nat → Nat) (i j : Nat) : Prop := A (37 + 6 * i + j) = 0 ∨ (i < A 1 ∧ j < A 1)
theorem lay_lg {A : Nat → Nat} (hA : OKL A) : (∀ i j, i < 6 → j < 6 → A 1 ≤ j → A (37 + 6 * i + j) = 0) ↔ ∀ i j, i < 6 → j < 6 → lg A i j := by
  constructor
  · intro h i j hi hj
    by_cases c : j < A 1
    · by_cases c2 : i < A 1
      · exact Or.inr ⟨c2, c⟩
      · left
        rw [← (hA.2.2.2.2 i j hi hj).2]
        exact h j i hj hi (by omega)
    · exact Or.inl (h i j hi hj (by omega))
  · intro h i j hi hj hc
    rcases h i j hi hj with q | q
    · exact q
    · omega
theorem R_lay (hT : TX n L ys) {a w c u kp : Int32} {la re nu : Nat → Int32} {Post : Int32 → Int32 → Int32 → Int32 → Int32 → Int32 → (Nat → Int32) → (Nat → Int32) → (Nat → Int32) → Prop} (no : ¬ ((prs L n n 0 A0).1 = none ∧ lay_ok (prs L n n 0 A0).2) → ∀ a re nu, Post (-2 : Int32) a w c u kp la re nu) (yes : (prs L n n 0 A0).1 = none → lay_ok (prs L n n 0 A0).2 → OKL (prs L n n 0 A0).2 → ∀ a la' re nu, RLd (prs L n n 0 A0).2 la' → Post (nI ((prs L n n 0 A0).2 0)) a (0 : Int32) (0 : Int32) (0 : Int32) (0 : Int32) la' re nu) : qv_X8_lay (nI n) a w c u kp la ys re nu Post := by
  have Z34 : ∀ (a : Int32) (re nu : Nat → Int32) (x2 : Int32) (E : Int32 → Prop), E (nI 0) → ∀ m j, j + m = 6 → qv_X8_lay_L34 x2 (nI n) a w c u kp la ys re nu Post E (m + 1) (nI 0) (nI j) := by
    intro a re nu x2 E hE m
    induction m with
    | zero =>
      intro j hj
      exact pk_le 6 j (fun _ => hE) (fun q => absurd q (by omega))
    | succ m ih =>
      intro j hj
      refine pk_le 6 j (fun q => absurd q (by omega)) (fun _ => t0 ?_)
      rw [nI_1]
      exact ih (j + 1) (by omega)
  have Z26 : ∀ (a : Int32) (re nu : Nat → Int32) (E : Int32 → Prop), E (nI 0) → ∀ m i, i + m = 6 → qv_X8_lay_L26 (nI n) a w c u kp la ys re nu Post E (m + 1) (nI 0) (nI i) := by
    intro a re nu E hE m
    induction m with
    | zero =>
      intro i hi
      exact pk_le 6 i (fun _ => hE) (fun q => absurd q (by omega))
    | succ m ih =>
      intro i hi
      refine pk_le 6 i (fun q => absurd q (by omega)) (fun _ => ⟨7, Z34 a re nu _ _ ?_ 6 0 (by omega)⟩)
      rw [nI_1]
      exact ih (i + 1) (by omega)
  refine R_faults hT (fun b e hb a re nu => ?_) (fun e hA a re nu hR => br_t rfl ⟨by first | decide | exact vd (by decide), ?_⟩)
  · refine br_f (jI_ne (by omega)) ⟨7, Z26 a re nu _ (t0 (no (fun q => ?_) _ _ _)) 6 0 (by omega)⟩
    rw [e] at q
    cases q.1
  generalize (prs L n n 0 A0).2 = A at *
  have e0 : re (0 : Int32).toNatClampNeg = nI (A 0) := hR 0 (by first | decide | exact vd (by decide))
  have hA0 := hA.1.1
  have hA1 := hA.1.2.2
  rw [e0]
  refine pk_le (A 0) 0 (fun q0 => ⟨7, Z26 a re nu _ (t0 (no (fun q => ?_) _ _ _)) 6 0 (by omega)⟩) (fun q0 => ⟨7, ?_⟩)
  · have := q.2.1; omega
  have F34 : ∀ i, i < 6 → ∀ (E : Int32 → Prop) (Q : Prop), (∀ fl, ((fl = nI 1 ∧ Q ∧ ∀ b, b < 6 → lg A i b) ∨ (fl = nI 0 ∧ ¬ (Q ∧ ∀ b, b < 6 → lg A i b))) → E fl) → ∀ m j fl, j + m = 6 → ((fl = nI 1 ∧ Q ∧ ∀ b, b < j → lg A i b) ∨ (fl = nI 0 ∧ ¬ (Q ∧ ∀ b, b < 6 → lg A i b))) → qv_X8_lay_L34 (nI i) (nI n) a w c u kp la ys re nu Post E (m + 1) fl (nI j) := by
    intro i hi E Q hE m
    induction m with
    | zero =>
      intro j fl hj hf
      have : j = 6 := by omega
      subst this
      exact pk_le 6 6 (fun _ => hE fl hf) (fun q => absurd q (by omega))
    | succ m ih =>
      intro j fl hj hf
      refine pk_le 6 j (fun q => absurd q (by omega)) (fun _ => ?_)
      rw [nI_1]
      rcases hf with ⟨rfl, hq, hf⟩ | ⟨rfl, hf⟩
      · have ex : (37 : Int32) + (6 : Int32) * nI i + nI j = nI (37 + 6 * i + j) := by rw [li_37, li_6, pk_mul, nI_add, nI_add]
        have b9 := (hA.2.2.2.2 i j hi (by omega)).1
        have e1 : re (1 : Int32).toNatClampNeg = nI (A 1) := hR 1 (by first | decide | exact vd (by decide))
        have nxt : lg A i j → qv_X8_lay_L34 (nI i) (nI n) a w c u kp la ys re nu Post E (m + 1) (nI 1) (nI (j + 1)) := fun hg => ih (j + 1) (nI 1) (by omega) (Or.inl ⟨rfl, hq, fun b hb => by
          by_cases e : b = j
          · subst e; exact hg
          · exact hf b (by omega)⟩)
        have nx0 : ¬ lg A i j → qv_X8_lay_L34 (nI i) (nI n) a w c u kp la ys re nu Post E (m + 1) (nI 0) (nI (j + 1)) := fun hg => ih (j + 1) (nI 0) (by omega) (Or.inr ⟨rfl, fun z => hg (z.2 j (by omega))⟩)
        refine t1 ?_
        rw [ex, nI_clamp (by omega), hR _ (by omega), e1]
        refine ⟨vp_in_nI (by omega) (by first | decide | exact vd (by decide)), pk_eq (A (37 + 6 * i + j)) 0 (fun q => nxt (Or.inl q)) (fun q => ⟨by first | decide | exact vd (by decide), pk_le (A 1) i (fun q1 => nx0 (by unfold lg; omega)) (fun q1 => ⟨by first | decide | exact vd (by decide), pk_le (A 1) j (fun q2 => nx0 (by unfold lg; omega)) (fun q2 => nxt (Or.inr ⟨q1, q2⟩))⟩)⟩)⟩
      · exact t0 (ih (j + 1) (nI 0) (by omega) (Or.inr ⟨rfl, hf⟩))
  have F26 : ∀ (E : Int32 → Prop), (∀ fl, ((fl = nI 1 ∧ ∀ i j, i < 6 → j < 6 → lg A i j) ∨ (fl = nI 0 ∧ ¬ ∀ i j, i < 6 → j < 6 → lg A i j)) → E fl) → ∀ m i fl, i + m = 6 → ((fl = nI 1 ∧ ∀ x y, x < i → y < 6 → lg A x y) ∨ (fl = nI 0 ∧ ¬ ∀ i j, i < 6 → j < 6 → lg A i j)) → qv_X8_lay_L26 (nI n) a w c u kp la ys re nu Post E (m + 1) fl (nI i) := by
    intro E hE m
    induction m with
    | zero =>
      intro i fl hi hf
      have : i = 6 := by omega
      subst this
      exact pk_le 6 6 (fun _ => hE fl hf) (fun q => absurd q (by omega))
    | succ m ih =>
      intro i fl hi hf
      refine pk_le 6 i (fun q => absurd q (by omega)) (fun _ => ⟨7, ?_⟩)
      rw [nI_1]
      rcases hf with ⟨rfl, hf⟩ | ⟨rfl, hf⟩
      · refine F34 i (by omega) _ True (fun fl hfl => ih (i + 1) fl (by omega) ?_) 6 0 (nI 1) (by omega) (Or.inl ⟨rfl, trivial, fun b hb => absurd hb (by omega)⟩)
        rcases hfl with ⟨h1, _, h2⟩ | ⟨h1, h2⟩
        · refine Or.inl ⟨h1, fun x y hx hy => ?_⟩
          by_cases e : x = i
          · subst e; exact h2 y hy
          · exact hf x y (by omega) hy
        · exact Or.inr ⟨h1, fun z => h2 ⟨trivial, fun b hb => z i b (by omega) hb⟩⟩
      · exact Z34 a re nu _ _ (ih (i + 1) (nI 0) (by omega) (Or.inr ⟨rfl, hf⟩)) 6 0 (by omega)
  refine F26 _ (fun fl hfl => ?_) 6 0 (nI 1) (by omega) (Or.inl ⟨rfl, fun x y hx => absurd hx (by omega)⟩)
  rcases hfl with ⟨rfl, h1⟩ | ⟨rfl, h1⟩
  · have hok : lay_ok A := ⟨by omega, (lay_lg hA).mpr h1⟩
    refine t1 ⟨74, ?_⟩
    have L108 : ∀ m i l', i + m = 73 → (∀ j, j < i → l' j = nI (A j)) → qv_X8_lay_L108 (nI n) a w c u kp ys re nu Post (fun z_laid => vp_in (0 : Int32) 73 ∧ (Post (z_laid (0 : Int32).toNatClampNeg) a (0 : Int32) (0 : Int32) (0 : Int32) (0 : Int32) z_laid re nu)) (m + 1) (nI i) l' := by
      intro m
      induction m with
      | zero =>
        intro i l' hi hl
        have : i = 73 := by omega
        subst this
        refine pk_le 73 73 (fun _ => ⟨by first | decide | exact vd (by decide), ?_⟩) (fun q => absurd q (by omega))
        rw [show l' (0 : Int32).toNatClampNeg = nI (A 0) from hl 0 (by first | decide | exact vd (by decide))]
        exact yes e hok hA a l' re nu hl
      | succ m ih =>
        intro i l' hi hl
        have vi : vp_in (nI i) 73 := vp_in_nI (by omega) (by first | decide | exact vd (by decide))
        refine pk_le 73 i (fun q => absurd q (by omega)) (fun _ => ⟨vi, vi, ?_⟩)
        rw [nI_clamp (by omega), hR i (by omega), nI_1]
        refine ih (i + 1) _ (by omega) (fun j hj => ?_)
        by_cases z : j = i
        · subst z; exact pk_us
        · rw [pk_un z]; exact hl j (by omega)
    exact L108 73 0 la (by omega) (fun j hj => absurd hj (by omega))
  · exact t0 (no (fun q => h1 ((lay_lg hA).mp q.2.2)) _ _ _)
theorem C_lay (hT : TX n L ys) {kp pl st cO cB fB fd w c u : Int32} {nu mi lo ba sl ta : Nat → Int32} {ti : Nat → Nat → Int32} {ad al : Nat} {Post : Int32 → Int32 → Int32 → Int32 → Int32 → Int32 → Int32 → Int32 → Int32 → Int32 → Int32 → (Nat → Int32) → (Nat → Int32) → (Nat → Int32) → (Nat → Int32) → (Nat → Int32) → (Nat → Int32) → (Nat → Nat → Int32) → Nat → Nat → Prop} (no : ¬ ((prs L n n 0 A0).1 = none ∧ lay_ok (prs L n n 0 A0).2) → ∀ pl s1 s2 s3 s4 s5 nu m1 m2 m3 m4 m5 t, Post (-2 : Int32) kp pl s1 s2 s3 s4 s5 w c u nu m1 m2 m3 m4 m5 t ad al) (yes : (prs L n n 0 A0).1 = none → lay_ok (prs L n n 0 A0).2 → OKL (prs L n n 0 A0).2 → ∀ pl s1 s2 s3 s4 s5 nu m1 m2 m3 m4 m5 t, CL (prs L n n 0 A0).2 s1 s2 s3 s4 s5 m1 m2 m3 m4 m5 t → Post (nI ((prs L n n 0 A0).2 0)) (0 : Int32) pl s1 s2 s3 s4 s5 (0 : Int32) (0 : Int32) (0 : Int32) nu m1 m2 m3 m4 m5 t al ad) : qv_X7_lay kp (nI n) pl st cO cB fB fd w c u ys nu mi lo ba sl ta ti ad al Post := by
  refine C_readInto hT (fun b e hb pl s1 s2 s3 s4 s5 nu m1 m2 m3 m4 m5 t => ?_) (fun e hA pl s1 s2 s3 s4 s5 nu m1 m2 m3 m4 m5 t hC => ?_)
  · refine br_f (jI_ne (by omega)) (no (fun q => ?_) _ _ _ _ _ _ _ _ _ _ _ _ _)
    rw [e] at q
    cases q.1
  · refine br_t rfl (C_canBeLaid hA hC (fun hok => t1 ?_) (fun hno => t0 (no (fun q => hno q.2) _ _ _ _ _ _ _ _ _ _ _ _ _)))
    have := yes e hok hA pl s1 s2 s3 s4 s5 nu m1 m2 m3 m4 m5 t hC
    rw [← hC.1.1] at this
    exact this
end RR
