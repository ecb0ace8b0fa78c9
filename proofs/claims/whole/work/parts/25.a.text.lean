/-! a text, its items: what they say -/
/-- a number (one or two figures) and the sign behind it -/
def rdN (L : Nat → Nat) (sep at_ : Nat) : Option (Nat × Nat) := if 48 ≤ L at_ ∧ L at_ ≤ 57 then (if 48 ≤ L (at_ + 1) ∧ L (at_ + 1) ≤ 57 then (if L (at_ + 2) = sep then some (10 * (L at_ - 48) + (L (at_ + 1) - 48), at_ + 3) else none) else (if L (at_ + 1) = sep then some (L at_ - 48, at_ + 2) else none)) else none
def rdC (L : Nat → Nat) (sep lo hi at_ : Nat) : Option (Nat × Nat) := match rdN L sep at_ with
  | none => none
  | some (v, a) => if lo ≤ v ∧ v ≤ hi then some (v, a) else none
def it3 (L : Nat → Nat) (l0 h0 l1 h1 l2 h2 at_ : Nat) : Option (Nat × Nat × Nat × Nat) := match rdC L 44 l0 h0 at_ with
  | none => none
  | some (v0, a0) => match rdC L 44 l1 h1 a0 with
    | none => none
    | some (v1, a1) => match rdC L 59 l2 h2 a1 with
      | none => none
      | some (v2, a2) => some (v0, v1, v2, a2)
def rd3 (L : Nat → Nat) (at_ : Nat) : Option (Nat × Nat × Nat × Nat) := match rdN L 44 at_ with
  | none => none
  | some (v0, a0) => match rdN L 44 a0 with
    | none => none
    | some (v1, a1) => match rdN L 59 a1 with
      | none => none
      | some (v2, a2) => some (v0, v1, v2, a2)
theorem it3_s {L : Nat → Nat} {l0 h0 l1 h1 l2 h2 at_ v0 v1 v2 a : Nat} (h : rd3 L at_ = some (v0, v1, v2, a)) : it3 L l0 h0 l1 h1 l2 h2 at_ = if (l0 ≤ v0 ∧ v0 ≤ h0) ∧ (l1 ≤ v1 ∧ v1 ≤ h1) ∧ (l2 ≤ v2 ∧ v2 ≤ h2) then some (v0, v1, v2, a) else none := by
  unfold rd3 at h
  unfold it3 rdC
  cases e0 : rdN L 44 at_ with
  | none => rw [e0] at h; cases h
  | some p0 =>
    obtain ⟨w0, b0⟩ := p0
    rw [e0] at h
    simp only at h
    cases e1 : rdN L 44 b0 with
    | none => rw [e1] at h; cases h
    | some p1 =>
      obtain ⟨w1, b1⟩ := p1
      rw [e1] at h
      simp only at h
      cases e2 : rdN L 59 b1 with
      | none => rw [e2] at h; cases h
      | some p2 =>
        obtain ⟨w2, b2⟩ := p2
        rw [e2] at h
        simp only at h
        cases h
        by_cases c0 : l0 ≤ v0 ∧ v0 ≤ h0
        · by_cases c1 : l1 ≤ v1 ∧ v1 ≤ h1
          · by_cases c2 : l2 ≤ v2 ∧ v2 ≤ h2
            · simp only [c0, c1, c2, e1, e2, and_self, if_true]
            · simp only [c0, c1, c2, e1, e2, and_self, if_true, and_false, if_false]
          · simp only [c0, c1, e1, and_self, if_true, if_false, false_and, and_false]
        · simp only [c0, if_false, false_and]
theorem it3_n {L : Nat → Nat} {l0 h0 l1 h1 l2 h2 at_ : Nat} (h : rd3 L at_ = none) : it3 L l0 h0 l1 h1 l2 h2 at_ = none := by
  unfold rd3 at h
  unfold it3 rdC
  cases e0 : rdN L 44 at_ with
  | none => rfl
  | some p0 =>
    obtain ⟨w0, b0⟩ := p0
    rw [e0] at h
    simp only at h
    by_cases c0 : l0 ≤ w0 ∧ w0 ≤ h0
    · simp only [c0, and_self, if_true]
      cases e1 : rdN L 44 b0 with
      | none => rfl
      | some p1 =>
        obtain ⟨w1, b1⟩ := p1
        rw [e1] at h
        simp only at h
        by_cases c1 : l1 ≤ w1 ∧ w1 ≤ h1
        · simp only [c1, and_self, if_true]
          cases e2 : rdN L 59 b1 with
          | none => rfl
          | some p2 =>
            obtain ⟨w2, b2⟩ := p2
            rw [e2] at h
            simp only at h
            cases h
        · simp only [c1, if_false]
    · simp only [c0, if_false]
theorem rdN_at {L : Nat → Nat} {n sep at_ v a : Nat} (h0 : ∀ i, n ≤ i → L i = 0) (hs : sep ≠ 0) (h : rdN L sep at_ = some (v, a)) : at_ < a ∧ a ≤ n ∧ v ≤ 99 := by
  unfold rdN at h
  by_cases c0 : 48 ≤ L at_ ∧ L at_ ≤ 57
  · rw [if_pos c0] at h
    by_cases c1 : 48 ≤ L (at_ + 1) ∧ L (at_ + 1) ≤ 57
    · rw [if_pos c1] at h
      by_cases c2 : L (at_ + 2) = sep
      · rw [if_pos c2] at h
        cases h
        have : ¬ n ≤ at_ + 2 := fun z => hs (by rw [← c2, h0 _ z])
        omega
      · rw [if_neg c2] at h; cases h
    · rw [if_neg c1] at h
      by_cases c2 : L (at_ + 1) = sep
      · rw [if_pos c2] at h
        cases h
        have : ¬ n ≤ at_ + 1 := fun z => hs (by rw [← c2, h0 _ z])
        omega
      · rw [if_neg c2] at h; cases h
  · rw [if_neg c0] at h; cases h
theorem rdC_at {L : Nat → Nat} {n sep lo hi at_ v a : Nat} (h0 : ∀ i, n ≤ i → L i = 0) (hs : sep ≠ 0) (h : rdC L sep lo hi at_ = some (v, a)) : at_ < a ∧ a ≤ n ∧ lo ≤ v ∧ v ≤ hi := by
  unfold rdC at h
  cases e : rdN L sep at_ with
  | none => rw [e] at h; cases h
  | some p =>
    obtain ⟨w, b⟩ := p
    rw [e] at h
    simp only at h
    by_cases c : lo ≤ w ∧ w ≤ hi
    · rw [if_pos c] at h; cases h
      obtain ⟨h1, h2, h3⟩ := rdN_at h0 hs e
      exact ⟨h1, h2, c⟩
    · rw [if_neg c] at h; cases h
theorem it3_at {L : Nat → Nat} {n l0 h0 l1 h1 l2 h2 at_ v0 v1 v2 a : Nat} (hz : ∀ i, n ≤ i → L i = 0) (h : it3 L l0 h0 l1 h1 l2 h2 at_ = some (v0, v1, v2, a)) : at_ < a ∧ a ≤ n ∧ (l0 ≤ v0 ∧ v0 ≤ h0) ∧ (l1 ≤ v1 ∧ v1 ≤ h1) ∧ (l2 ≤ v2 ∧ v2 ≤ h2) := by
  unfold it3 at h
  cases e0 : rdC L 44 l0 h0 at_ with
  | none => rw [e0] at h; cases h
  | some p0 =>
    obtain ⟨w0, b0⟩ := p0
    rw [e0] at h
    simp only at h
    cases e1 : rdC L 44 l1 h1 b0 with
    | none => rw [e1] at h; cases h
    | some p1 =>
      obtain ⟨w1, b1⟩ := p1
      rw [e1] at h
      simp only at h
      cases e2 : rdC L 59 l2 h2 b1 with
      | none => rw [e2] at h; cases h
      | some p2 =>
        obtain ⟨w2, b2⟩ := p2
        rw [e2] at h
        simp only at h
        cases h
        have q0 := rdC_at hz (by first | decide | exact vd (by decide)) e0
        have q1 := rdC_at hz (by first | decide | exact vd (by decide)) e1
        have q2 := rdC_at hz (by first | decide | exact vd (by decide)) e2
        exact ⟨by omega, q2.2.1, q0.2.2, q1.2.2, q2.2.2⟩
/-! what an item does to what is told -/
def un (A : Nat → Nat) (k v : Nat) : Nat → Nat := fun j => if j = k then v else A j
def i_str (A : Nat → Nat) (v0 v1 v2 : Nat) : Nat → Nat := un (un (un (un A (5 + 3 * A 0) v0) (6 + 3 * A 0) v1) (7 + 3 * A 0) v2) 0 (A 0 + 1)
def i_srt (A : Nat → Nat) (v0 v1 v2 : Nat) : Nat → Nat := un (un A (29 + 2 * v0) v1) (30 + 2 * v0) v2
def i_cst (A : Nat → Nat) (v0 v1 v2 : Nat) : Nat → Nat := un (un (un A 2 v0) 3 v1) 4 v2
def i_tie (A : Nat → Nat) (v0 v1 v2 : Nat) : Nat → Nat := un (un A (37 + 6 * v0 + v1) v2) (37 + 6 * v1 + v0) v2
def item (L : Nat → Nat) (A : Nat → Nat) (at_ : Nat) : Option ((Nat → Nat) × Nat) :=
  if L at_ = 115 then (match it3 L 1 60 0 10 0 10 (at_ + 1) with
    | none => none
    | some (v0, v1, v2, a) => if A 0 < 8 then some (i_str A v0 v1 v2, a) else none)
  else if L at_ = 117 then (match it3 L 0 3 0 5 0 60 (at_ + 1) with
    | none => none
    | some (v0, v1, v2, a) => some (i_srt A v0 v1 v2, a))
  else if L at_ = 104 then (match it3 L 0 99 0 99 0 10 (at_ + 1) with
    | none => none
    | some (v0, v1, v2, a) => some (i_cst A v0 v1 v2, a))
  else if L at_ = 107 then (match rdC L 59 1 6 (at_ + 1) with
    | none => none
    | some (v0, a) => some (un A 1 v0, a))
  else if L at_ = 116 then (match it3 L 0 5 0 5 0 9 (at_ + 1) with
    | none => none
    | some (v0, v1, v2, a) => if v0 = v1 then none else some (i_tie A v0 v1 v2, a))
  else none
theorem ok_str {A : Nat → Nat} {v0 v1 v2 : Nat} (hA : OKL A) (h8 : A 0 < 8) (h0 : 1 ≤ v0 ∧ v0 ≤ 60) (h1 : v1 ≤ 10) (h2 : v2 ≤ 10) : OKL (i_str A v0 v1 v2) := by
  obtain ⟨a1, a2, a3, a4, a5⟩ := hA
  have e0 : i_str A v0 v1 v2 0 = A 0 + 1 := rfl
  have e : ∀ j, j ≠ 0 → (j < 5 + 3 * A 0 ∨ 7 + 3 * A 0 < j) → i_str A v0 v1 v2 j = A j := fun j hj hk => by
    unfold i_str un
    rw [if_neg hj, if_neg (by omega), if_neg (by omega), if_neg (by omega)]
  refine ⟨?_, ?_, ?_, ?_, ?_⟩
  · rw [e0, e 1 (by first | decide | exact vd (by decide)) (by omega)]; omega
  · rw [e 2 (by first | decide | exact vd (by decide)) (by omega), e 3 (by first | decide | exact vd (by decide)) (by omega), e 4 (by first | decide | exact vd (by decide)) (by omega)]; exact a2
  · intro k k1 k2
    rw [e0] at k2
    by_cases q : k = A 0 + 1
    · subst q
      unfold i_str un
      rw [if_neg (by omega), if_neg (by omega), if_neg (by omega), if_pos (by omega), if_neg (by omega), if_neg (by omega), if_pos (by omega), if_neg (by omega), if_pos (by omega)]
      omega
    · rw [e _ (by omega) (by omega), e _ (by omega) (by omega), e _ (by omega) (by omega)]
      exact a3 k k1 (by omega)
  · intro k hk
    rw [e _ (by omega) (by omega), e _ (by omega) (by omega)]
    exact a4 k hk
  · intro i j hi hj
    rw [e _ (by omega) (by omega), e _ (by omega) (by omega)]
    exact a5 i j hi hj
theorem ok_srt {A : Nat → Nat} {v0 v1 v2 : Nat} (hA : OKL A) (h0 : v0 < 4) (h1 : v1 ≤ 5) (h2 : v2 ≤ 60) : OKL (i_srt A v0 v1 v2) := by
  obtain ⟨a1, a2, a3, a4, a5⟩ := hA
  have e : ∀ j, j ≠ 29 + 2 * v0 → j ≠ 30 + 2 * v0 → i_srt A v0 v1 v2 j = A j := fun j hj hk => by
    unfold i_srt un
    rw [if_neg hk, if_neg hj]
  refine ⟨?_, ?_, ?_, ?_, ?_⟩
  · rw [e 0 (by omega) (by omega), e 1 (by omega) (by omega)]; exact a1
  · rw [e 2 (by omega) (by omega), e 3 (by omega) (by omega), e 4 (by omega) (by omega)]; exact a2
  · intro k k1 k2
    rw [e 0 (by omega) (by omega)] at k2
    rw [e _ (by omega) (by omega), e _ (by omega) (by omega), e _ (by omega) (by omega)]
    exact a3 k k1 k2
  · intro k hk
    by_cases q : k = v0
    · subst q
      unfold i_srt un
      rw [if_neg (by omega), if_pos rfl, if_pos rfl]
      exact ⟨h1, h2⟩
    · rw [e _ (by omega) (by omega), e _ (by omega) (by omega)]
      exact a4 k hk
  · intro i j hi hj
    rw [e _ (by omega) (by omega), e _ (by omega) (by omega)]
    exact a5 i j hi hj
theorem ok_cst {A : Nat → Nat} {v0 v1 v2 : Nat} (hA : OKL A) (h0 : v0 ≤ 99) (h1 : v1 ≤ 99) (h2 : v2 ≤ 10) : OKL (i_cst A v0 v1 v2) := by
  obtain ⟨a1, a2, a3, a4, a5⟩ := hA
  have e : ∀ j, j < 2 ∨ 4 < j → i_cst A v0 v1 v2 j = A j := fun j hj => by
    unfold i_cst un
    rw [if_neg (by omega), if_neg (by omega), if_neg (by omega)]
  refine ⟨?_, ⟨h0, h1, h2⟩, ?_, ?_, ?_⟩
  · rw [e 0 (by omega), e 1 (by omega)]; exact a1
  · intro k k1 k2
    rw [e 0 (by omega)] at k2
    rw [e _ (by omega), e _ (by omega), e _ (by omega)]
    exact a3 k k1 k2
  · intro k hk
    rw [e _ (by omega), e _ (by omega)]
    exact a4 k hk
  · intro i j hi hj
    rw [e _ (by omega), e _ (by omega)]
    exact a5 i j hi hj
theorem ok_fri {A : Nat → Nat} {v0 : Nat} (hA : OKL A) (h0 : 1 ≤ v0 ∧ v0 ≤ 6) : OKL (un A 1 v0) := by
  obtain ⟨a1, a2, a3, a4, a5⟩ := hA
  have e : ∀ j, j ≠ 1 → un A 1 v0 j = A j := fun j hj => by unfold un; rw [if_neg hj]
  refine ⟨?_, ?_, ?_, ?_, ?_⟩
  · rw [e 0 (by omega)]; exact ⟨a1.1, h0⟩
  · rw [e 2 (by omega), e 3 (by omega), e 4 (by omega)]; exact a2
  · intro k k1 k2
    rw [e 0 (by omega)] at k2
    rw [e _ (by omega), e _ (by omega), e _ (by omega)]
    exact a3 k k1 k2
  · intro k hk
    rw [e _ (by omega), e _ (by omega)]
    exact a4 k hk
  · intro i j hi hj
    rw [e _ (by omega), e _ (by omega)]
    exact a5 i j hi hj
theorem i_tie_at {A : Nat → Nat} {v0 v1 v2 : Nat} (h0 : v0 < 6) (h1 : v1 < 6) (i j : Nat) (hi : i < 6) (hj : j < 6) : i_tie A v0 v1 v2 (37 + 6 * i + j) = if (i = v0 ∧ j = v1) ∨ (i = v1 ∧ j = v0) then v2 else A (37 + 6 * i + j) := by
  unfold i_tie un
  by_cases c1 : i = v1 ∧ j = v0
  · rw [if_pos (by omega), if_pos (Or.inr c1)]
  · rw [if_neg (by omega)]
    by_cases c2 : i = v0 ∧ j = v1
    · rw [if_pos (by omega), if_pos (Or.inl c2)]
    · rw [if_neg (by omega), if_neg (by omega)]
theorem ok_tie {A : Nat → Nat} {v0 v1 v2 : Nat} (hA : OKL A) (h0 : v0 < 6) (h1 : v1 < 6) (h2 : v2 ≤ 9) : OKL (i_tie A v0 v1 v2) := by
  obtain ⟨a1, a2, a3, a4, a5⟩ := hA
  have e : ∀ j, j < 37 → i_tie A v0 v1 v2 j = A j := fun j hj => by
    unfold i_tie un
    rw [if_neg (by omega), if_neg (by omega)]
  refine ⟨?_, ?_, ?_, ?_, ?_⟩
  · rw [e 0 (by omega), e 1 (by omega)]; exact a1
  · rw [e 2 (by omega), e 3 (by omega), e 4 (by omega)]; exact a2
  · intro k k1 k2
    rw [e 0 (by omega)] at k2
    have := a1.1
    rw [e _ (by omega), e _ (by omega), e _ (by omega)]
    exact a3 k k1 k2
  · intro k hk
    rw [e _ (by omega), e _ (by omega)]
    exact a4 k hk
  · intro i j hi hj
    rw [i_tie_at h0 h1 i j hi hj, i_tie_at h0 h1 j i hj hi]
    obtain ⟨b1, b2⟩ := a5 i j hi hj
    by_cases c : (i = v0 ∧ j = v1) ∨ (i = v1 ∧ j = v0)
    · rw [if_pos c, if_pos (by omega)]; exact ⟨h2, rfl⟩
    · rw [if_neg c, if_neg (by omega)]; exact ⟨b1, b2⟩
theorem item_ok {L A A' : Nat → Nat} {n at_ a : Nat} (hz : ∀ i, n ≤ i → L i = 0) (hA : OKL A) (h : item L A at_ = some (A', a)) : OKL A' ∧ at_ < a ∧ a ≤ n := by
  unfold item at h
  by_cases c1 : L at_ = 115
  · rw [if_pos c1] at h
    cases e : it3 L 1 60 0 10 0 10 (at_ + 1) with
    | none => rw [e] at h; cases h
    | some p =>
      obtain ⟨v0, v1, v2, b⟩ := p
      rw [e] at h
      simp only at h
      obtain ⟨q1, q2, q3, q4, q5⟩ := it3_at hz e
      by_cases c : A 0 < 8
      · rw [if_pos c] at h; cases h
        exact ⟨ok_str hA c q3 q4.2 q5.2, by omega, q2⟩
      · rw [if_neg c] at h; cases h
  rw [if_neg c1] at h
  by_cases c2 : L at_ = 117
  · rw [if_pos c2] at h
    cases e : it3 L 0 3 0 5 0 60 (at_ + 1) with
    | none => rw [e] at h; cases h
    | some p =>
      obtain ⟨v0, v1, v2, b⟩ := p
      rw [e] at h
      simp only at h
      obtain ⟨q1, q2, q3, q4, q5⟩ := it3_at hz e
      cases h
      exact ⟨ok_srt hA (by omega) q4.2 q5.2, by omega, q2⟩
  rw [if_neg c2] at h
  by_cases c3 : L at_ = 104
  · rw [if_pos c3] at h
    cases e : it3 L 0 99 0 99 0 10 (at_ + 1) with
    | none => rw [e] at h; cases h
    | some p =>
      obtain ⟨v0, v1, v2, b⟩ := p
      rw [e] at h
      simp only at h
      obtain ⟨q1, q2, q3, q4, q5⟩ := it3_at hz e
      cases h
      exact ⟨ok_cst hA q3.2 q4.2 q5.2, by omega, q2⟩
  rw [if_neg c3] at h
  by_cases c4 : L at_ = 107
  · rw [if_pos c4] at h
    cases e : rdC L 59 1 6 (at_ + 1) with
    | none => rw [e] at h; cases h
    | some p =>
      obtain ⟨v0, b⟩ := p
      rw [e] at h
      simp only at h
      obtain ⟨q1, q2, q3⟩ := rdC_at hz (by first | decide | exact vd (by decide)) e
      cases h
      exact ⟨ok_fri hA q3, by omega, q2⟩
  rw [if_neg c4] at h
  by_cases c5 : L at_ = 116
  · rw [if_pos c5] at h
    cases e : it3 L 0 5 0 5 0 9 (at_ + 1) with
    | none => rw [e] at h; cases h
    | some p =>
      obtain ⟨v0, v1, v2, b⟩ := p
      rw [e] at h
      simp only at h
      obtain ⟨q1, q2, q3, q4, q5⟩ := it3_at hz e
      by_cases c : v0 = v1
      · rw [if_pos c] at h; cases h
      · rw [if_neg c] at h; cases h
        exact ⟨ok_tie hA (by omega) (by omega) q5.2, by omega, q2⟩
  · rw [if_neg c5] at h; cases h
/-- a text read from place at_ on: the first fault, what is told -/
def prs (L : Nat → Nat) (n : Nat) : Nat → Nat → (Nat → Nat) → Option Nat × (Nat → Nat)
  | 0, _, A => (none, A)
  | f + 1, at_, A => if n ≤ at_ then (none, A) else match item L A at_ with
    | none => (some at_, A)
    | some (A', a) => prs L n f a A'
/-- what an empty text tells -/
def A0 : Nat → Nat := fun k => if k = 1 then 4 else if k = 2 then 60 else if k = 3 then 10 else if k = 4 then 8 else if k = 29 ∨ k = 31 ∨ k = 33 ∨ k = 35 then 1 else if k = 30 ∨ k = 32 ∨ k = 34 ∨ k = 36 then 2 else 0
theorem ok_A0 : OKL A0 := by
  refine ⟨by first | decide | exact vd (by decide), by first | decide | exact vd (by decide), fun k h1 h2 => ?_, fun k hk => ?_, fun i j hi hj => ?_⟩
  · have : A0 0 = 0 := rfl
    omega
  · rcases (show k = 0 ∨ k = 1 ∨ k = 2 ∨ k = 3 by omega) with rfl | rfl | rfl | rfl <;> decide
  · have e : ∀ q, 37 ≤ q → A0 q = 0 := fun q hq => by
      unfold A0
      rw [if_neg (by omega), if_neg (by omega), if_neg (by omega), if_neg (by omega), if_neg (by omega), if_neg (by omega)]
    rw [e _ (by omega), e _ (by omega)]
    omega
