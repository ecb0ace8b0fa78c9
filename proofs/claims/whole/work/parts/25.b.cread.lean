/-! the class reads a text -/
def TX (n : Nat) (L : Nat → Nat) (le : Nat → Int32) : Prop := n ≤ 200 ∧ (∀ i, n ≤ i → L i = 0) ∧ (∀ i, L i ≤ 126) ∧ (∀ i, i < n → le i = nI (L i))
theorem C_at {n a : Nat} {L : Nat → Nat} {le : Nat → Int32} (hT : TX n L le) (ha : a < 2 ^ 31) {Post : Int32 → Prop} (h : Post (nI (L a))) : qv_X5_at (nI a) (nI n) le Post := by
  obtain ⟨h1, h2, h3, h4⟩ := hT
  refine pk_lt a 0 (fun q => absurd q (by omega)) (fun _ => pk_le n a (fun q => ?_) (fun q => pk_le 200 a (fun q2 => absurd q2 (by omega)) (fun q2 => ⟨vp_in_nI q2 (by first | decide | exact vd (by decide)), ?_⟩)))
  · rw [h2 a q] at h; exact h
  · rw [nI_clamp ha, h4 a q]
    exact ⟨(pk_charN (by have := h3 a; omega)).1, h⟩
theorem C_isFigure {c : Nat} (hc : c < 2 ^ 31) {Post : Int32 → Prop} (f : 48 ≤ c ∧ c ≤ 57 → Post (nI 1)) (g : ¬ (48 ≤ c ∧ c ≤ 57) → Post (nI 0)) : qv_X4_isFigure (nI c) Post :=
  pk_lt c 48 (fun q => g (by omega)) (fun q => pk_lt 57 c (fun q2 => g (by omega)) (fun q2 => f (by omega)))
section RD
variable {n : Nat} {L : Nat → Nat} {le : Nat → Int32}
variable {st cO cB fB fd : Int32} {mi lo ba sl ta : Nat → Int32} {ti : Nat → Nat → Int32}
theorem C_J62 (hT : TX n L le) {sep l h i at_ b : Nat} {x3 : Int32} {nu : Nat → Int32} (hs : sep < 127) (hi : i < 3) (hat : at_ < 1000) (hb : x3 * (3 : Int32) + nI i = nI b) (hb15 : b < 15) (hle : leaF b = nI l) (hmo : mosF b = nI h) (hl : l < 100) (hh : h < 100)
    {Post : Int32 → Int32 → Int32 → Int32 → Int32 → Int32 → Int32 → (Nat → Int32) → (Nat → Int32) → (Nat → Int32) → (Nat → Int32) → (Nat → Int32) → (Nat → Int32) → (Nat → Nat → Int32) → Prop} {K : Int32 → Int32 → (Nat → Int32) → Prop} {E : Int32 → (Nat → Int32) → Prop}
    (fail : rdC L sep l h at_ = none → ∀ pl nu, Post (0 : Int32) pl st cO cB fB fd nu mi lo ba sl ta ti)
    (ok : ∀ v a nu', rdC L sep l h at_ = some (v, a) → nu' i = nI v → (∀ q, q ≠ i → nu' q = nu q) → K (nI (i + 1)) (nI a) nu') : qv_X4_readItem_J62 (nI sep) x3 (nI i) (nI at_) st cO cB fB fd (nI n) nu mi lo ba sl ta le ti Post K E := by
  have h3 := hT.2.2.1
  have vi : vp_in (nI i) 3 := vp_in_nI hi (by first | decide | exact vd (by decide))
  have vb : vp_in (nI b) 15 := vp_in_nI hb15 (by first | decide | exact vd (by decide))
  have b0 := h3 at_
  have b1 := h3 (at_ + 1)
  unfold qv_X4_readItem_J62 qv_X4_readNumber
  refine C_at hT (by omega) (C_isFigure (by omega) (fun c0 => t1 ?_) (fun c0 => t0 (t0 (fail ?_ _ _))))
  · refine C_at hT (by omega) ⟨vi, ?_⟩
    rw [nI_1]
    have e1 : nI (L at_) - (48 : Int32) = nI (L at_ - 48) := pk_sub (b := 48) c0.1
    rw [e1]
    refine C_at hT (by omega) (C_isFigure (by omega) (fun c1 => t1 ⟨vi, ?_⟩) (fun c1 => t0 (t1 ?_)))
    · refine C_at hT (by omega) ⟨vi, t1 ?_⟩
      rw [nI_clamp (by omega), pk_us, pk_us, nI_1, hb, nI_clamp (by omega), li_10, pk_mul, nI_add, show nI ((L at_ - 48) * 10 + L (at_ + 1)) - (48 : Int32) = nI ((L at_ - 48) * 10 + L (at_ + 1) - 48) from pk_sub (b := 48) (by omega)]
      refine C_at hT (by omega) ?_
      have b2 := h3 (at_ + 1 + 1)
      refine pk_eq (L (at_ + 1 + 1)) sep (fun c2 => ⟨vi, vb, ?_⟩) (fun c2 => fail ?_ _ _)
      · rw [hle, hmo, nI_1, nI_1]
        have er : rdN L sep at_ = some ((L at_ - 48) * 10 + L (at_ + 1) - 48, at_ + 1 + 1 + 1) := by
          unfold rdN
          rw [if_pos c0, if_pos c1, if_pos c2]
          congr 2
          omega
        have ec : rdC L sep l h at_ = if l ≤ (L at_ - 48) * 10 + L (at_ + 1) - 48 ∧ (L at_ - 48) * 10 + L (at_ + 1) - 48 ≤ h then some ((L at_ - 48) * 10 + L (at_ + 1) - 48, at_ + 1 + 1 + 1) else none := by
          unfold rdC
          rw [er]
        refine pk_lt ((L at_ - 48) * 10 + L (at_ + 1) - 48) l (fun c3 => fail (by rw [ec, if_neg (by omega)]) _ _) (fun c3 => ⟨vi, vb, pk_le ((L at_ - 48) * 10 + L (at_ + 1) - 48) h (fun c4 => ?_) (fun c4 => fail (by rw [ec, if_neg (by omega)]) _ _)⟩)
        exact ok _ _ _ (by rw [ec, if_pos (by omega)]) pk_us (fun q hq => by rw [pk_un hq, pk_un hq])
      · unfold rdC rdN
        rw [if_pos c0, if_pos c1, if_neg c2]
    · rw [hb, nI_clamp (by omega), nI_clamp (by omega)]
      refine C_at hT (by omega) ?_
      refine pk_eq (L (at_ + 1)) sep (fun c2 => ⟨vi, vb, ?_⟩) (fun c2 => fail ?_ _ _)
      · rw [pk_us, hle, hmo, nI_1, nI_1]
        have er : rdN L sep at_ = some (L at_ - 48, at_ + 1 + 1) := by
          unfold rdN
          rw [if_pos c0, if_neg c1, if_pos c2]
        have ec : rdC L sep l h at_ = if l ≤ L at_ - 48 ∧ L at_ - 48 ≤ h then some (L at_ - 48, at_ + 1 + 1) else none := by
          unfold rdC
          rw [er]
        refine pk_lt (L at_ - 48) l (fun c3 => fail (by rw [ec, if_neg (by omega)]) _ _) (fun c3 => ⟨vi, vb, pk_le (L at_ - 48) h (fun c4 => ?_) (fun c4 => fail (by rw [ec, if_neg (by omega)]) _ _)⟩)
        exact ok _ _ _ (by rw [ec, if_pos (by omega)]) pk_us (fun q hq => by rw [pk_un hq])
      · unfold rdC rdN
        rw [if_pos c0, if_neg c1, if_neg c2]
  · unfold rdC rdN
    rw [if_neg c0]
theorem C_three (hT : TX n L le) {κ at_ l0 h0 l1 h1 l2 h2 : Nat} {nu : Nat → Int32} (hκ : κ < 5) (hn : numF κ = nI 3) (hat : at_ ≤ 201) (e0 : leaF (3 * κ) = nI l0 ∧ mosF (3 * κ) = nI h0) (e1 : leaF (3 * κ + 1) = nI l1 ∧ mosF (3 * κ + 1) = nI h1) (e2 : leaF (3 * κ + 2) = nI l2 ∧ mosF (3 * κ + 2) = nI h2) (hl : l0 < 100 ∧ h0 < 100 ∧ l1 < 100 ∧ h1 < 100 ∧ l2 < 100 ∧ h2 < 100)
    {Post : Int32 → Int32 → Int32 → Int32 → Int32 → Int32 → Int32 → (Nat → Int32) → (Nat → Int32) → (Nat → Int32) → (Nat → Int32) → (Nat → Int32) → (Nat → Int32) → (Nat → Nat → Int32) → Prop} {E : Int32 → (Nat → Int32) → Prop}
    (fail : it3 L l0 h0 l1 h1 l2 h2 at_ = none → ∀ pl nu, Post (0 : Int32) pl st cO cB fB fd nu mi lo ba sl ta ti)
    (ok : ∀ v0 v1 v2 a nu', it3 L l0 h0 l1 h1 l2 h2 at_ = some (v0, v1, v2, a) → nu' 0 = nI v0 → nu' 1 = nI v1 → nu' 2 = nI v2 → E (nI a) nu') : qv_X4_readItem_L33 (nI κ) st cO cB fB fd (nI n) mi lo ba sl ta le ti Post E 4 (nI 0) (nI at_) nu := by
  have hz := hT.2.1
  have hn2 := hT.1
  have vκ : vp_in (nI κ) 5 := vp_in_nI hκ (by first | decide | exact vd (by decide))
  have en : numF (nI κ).toNatClampNeg = nI 3 := by rw [nI_clamp (by omega)]; exact hn
  have eb : ∀ i, nI κ * (3 : Int32) + nI i = nI (3 * κ + i) := fun i => by rw [li_3, pk_mul, nI_add, Nat.mul_comm κ]
  refine ⟨vκ, ?_⟩
  rw [en]
  refine br_f (by first | decide | exact vd (by decide)) ⟨vκ, br_f (by first | decide | exact vd (by decide)) ?_⟩
  refine C_J62 hT (sep := 44) (b := 3 * κ) (by first | decide | exact vd (by decide)) (by first | decide | exact vd (by decide)) (by omega) (eb 0) (by omega) e0.1 e0.2 hl.1 hl.2.1 (fun c => fail (by unfold it3; rw [c])) (fun v0 a0 nu0 c0 n00 n01 => ⟨vκ, ?_⟩)
  have q0 := rdC_at hz (by first | decide | exact vd (by decide)) c0
  rw [en]
  refine br_f (by first | decide | exact vd (by decide)) ⟨vκ, br_f (by first | decide | exact vd (by decide)) ?_⟩
  refine C_J62 hT (sep := 44) (b := 3 * κ + 1) (by first | decide | exact vd (by decide)) (by first | decide | exact vd (by decide)) (by omega) (eb 1) (by omega) e1.1 e1.2 hl.2.2.1 hl.2.2.2.1 (fun c => fail (by unfold it3; rw [c0]; simp only; rw [c])) (fun v1 a1 nu1 c1 n10 n11 => ⟨vκ, ?_⟩)
  have q1 := rdC_at hz (by first | decide | exact vd (by decide)) c1
  rw [en]
  refine br_f (by first | decide | exact vd (by decide)) ⟨vκ, br_t (by first | decide | exact vd (by decide)) ?_⟩
  refine C_J62 hT (sep := 59) (b := 3 * κ + 2) (by first | decide | exact vd (by decide)) (by first | decide | exact vd (by decide)) (by omega) (eb 2) (by omega) e2.1 e2.2 hl.2.2.2.2.1 hl.2.2.2.2.2 (fun c => fail (by unfold it3; rw [c0]; simp only; rw [c1]; simp only; rw [c])) (fun v2 a2 nu2 c2 n20 n21 => ⟨vκ, ?_⟩)
  rw [en]
  refine br_t (by first | decide | exact vd (by decide)) (ok v0 v1 v2 a2 nu2 (by unfold it3; rw [c0]; simp only; rw [c1]; simp only; rw [c2]) ?_ ?_ n20)
  · rw [n21 0 (by first | decide | exact vd (by decide)), n11 0 (by first | decide | exact vd (by decide))]; exact n00
  · rw [n21 1 (by first | decide | exact vd (by decide))]; exact n10
variable {A : Nat → Nat}
theorem cl_str {v0 v1 v2 : Nat} (hA : OKL A) (h8 : A 0 < 8) (hC : CL A st cO cB fB fd mi lo ba sl ta ti) : CL (i_str A v0 v1 v2) (nI (A 0 + 1)) cO cB fB fd (upd mi (A 0 + 1) (nI v0)) (upd lo (A 0 + 1) (nI v1)) (upd ba (A 0 + 1) (nI v2)) sl ta ti := by
  obtain ⟨⟨e0, e1, e2, e3, e4⟩, em, es, et⟩ := hC
  have e : ∀ j, j ≠ 0 → (j < 5 + 3 * A 0 ∨ 7 + 3 * A 0 < j) → i_str A v0 v1 v2 j = A j := fun j hj hk => by
    unfold i_str un
    rw [if_neg hj, if_neg (by omega), if_neg (by omega), if_neg (by omega)]
  refine ⟨⟨rfl, ?_, ?_, ?_, ?_⟩, ?_, ?_, ?_⟩
  · rw [e 1 (by first | decide | exact vd (by decide)) (by omega)]; exact e1
  · rw [e 2 (by first | decide | exact vd (by decide)) (by omega)]; exact e2
  · rw [e 3 (by first | decide | exact vd (by decide)) (by omega)]; exact e3
  · rw [e 4 (by first | decide | exact vd (by decide)) (by omega)]; exact e4
  · intro k k1 k2
    have k3 : k ≤ A 0 + 1 := k2
    by_cases q : k = A 0 + 1
    · subst q
      rw [pk_us, pk_us, pk_us]
      unfold i_str un
      rw [if_neg (by omega), if_neg (by omega), if_neg (by omega), if_pos (by omega), if_neg (by omega), if_neg (by omega), if_pos (by omega), if_neg (by omega), if_pos (by omega)]
      exact ⟨rfl, rfl, rfl⟩
    · rw [pk_un q, pk_un q, pk_un q, e _ (by omega) (by omega), e _ (by omega) (by omega), e _ (by omega) (by omega)]
      exact em k k1 (by omega)
  · intro k hk
    rw [e _ (by omega) (by omega), e _ (by omega) (by omega)]
    exact es k hk
  · intro i j hi hj
    rw [e _ (by omega) (by omega)]
    exact et i j hi hj
theorem cl_srt {v0 v1 v2 : Nat} (hA : OKL A) (h0 : v0 < 4) (hC : CL A st cO cB fB fd mi lo ba sl ta ti) : CL (i_srt A v0 v1 v2) st cO cB fB fd mi lo ba (upd sl v0 (nI v1)) (upd ta v0 (nI v2)) ti := by
  have hA0 := hA.1.1
  obtain ⟨⟨e0, e1, e2, e3, e4⟩, em, es, et⟩ := hC
  have e : ∀ j, j ≠ 29 + 2 * v0 → j ≠ 30 + 2 * v0 → i_srt A v0 v1 v2 j = A j := fun j hj hk => by
    unfold i_srt un
    rw [if_neg hk, if_neg hj]
  refine ⟨⟨?_, ?_, ?_, ?_, ?_⟩, ?_, ?_, ?_⟩
  · rw [e 0 (by omega) (by omega)]; exact e0
  · rw [e 1 (by omega) (by omega)]; exact e1
  · rw [e 2 (by omega) (by omega)]; exact e2
  · rw [e 3 (by omega) (by omega)]; exact e3
  · rw [e 4 (by omega) (by omega)]; exact e4
  · intro k k1 k2
    rw [e 0 (by omega) (by omega)] at k2
    rw [e _ (by omega) (by omega), e _ (by omega) (by omega), e _ (by omega) (by omega)]
    exact em k k1 k2
  · intro k hk
    by_cases q : k = v0
    · subst q
      rw [pk_us, pk_us]
      unfold i_srt un
      rw [if_neg (by omega), if_pos rfl, if_pos rfl]
      exact ⟨rfl, rfl⟩
    · rw [pk_un q, pk_un q, e _ (by omega) (by omega), e _ (by omega) (by omega)]
      exact es k hk
  · intro i j hi hj
    rw [e _ (by omega) (by omega)]
    exact et i j hi hj
theorem cl_cst {v0 v1 v2 : Nat} (hA : OKL A) (hC : CL A st cO cB fB fd mi lo ba sl ta ti) : CL (i_cst A v0 v1 v2) st (nI v0) (nI v1) (nI v2) fd mi lo ba sl ta ti := by
  have hA0 := hA.1.1
  obtain ⟨⟨e0, e1, e2, e3, e4⟩, em, es, et⟩ := hC
  have e : ∀ j, j < 2 ∨ 4 < j → i_cst A v0 v1 v2 j = A j := fun j hj => by
    unfold i_cst un
    rw [if_neg (by omega), if_neg (by omega), if_neg (by omega)]
  refine ⟨⟨?_, ?_, rfl, rfl, rfl⟩, ?_, ?_, ?_⟩
  · rw [e 0 (by omega)]; exact e0
  · rw [e 1 (by omega)]; exact e1
  · intro k k1 k2
    rw [e 0 (by omega)] at k2
    rw [e _ (by omega), e _ (by omega), e _ (by omega)]
    exact em k k1 k2
  · intro k hk
    rw [e _ (by omega), e _ (by omega)]
    exact es k hk
  · intro i j hi hj
    rw [e _ (by omega)]
    exact et i j hi hj
theorem cl_fri {v0 : Nat} (hA : OKL A) (hC : CL A st cO cB fB fd mi lo ba sl ta ti) : CL (un A 1 v0) st cO cB fB (nI v0) mi lo ba sl ta ti := by
  obtain ⟨⟨e0, e1, e2, e3, e4⟩, em, es, et⟩ := hC
  have e : ∀ j, j ≠ 1 → un A 1 v0 j = A j := fun j hj => by unfold un; rw [if_neg hj]
  refine ⟨⟨?_, rfl, ?_, ?_, ?_⟩, ?_, ?_, ?_⟩
  · rw [e 0 (by omega)]; exact e0
  · rw [e 2 (by omega)]; exact e2
  · rw [e 3 (by omega)]; exact e3
  · rw [e 4 (by omega)]; exact e4
  · intro k k1 k2
    rw [e 0 (by omega)] at k2
    rw [e _ (by omega), e _ (by omega), e _ (by omega)]
    exact em k k1 k2
  · intro k hk
    rw [e _ (by omega), e _ (by omega)]
    exact es k hk
  · intro i j hi hj
    rw [e _ (by omega)]
    exact et i j hi hj
theorem cl_tie {v0 v1 v2 : Nat} (hA : OKL A) (h0 : v0 < 6) (h1 : v1 < 6) (hne : v0 ≠ v1) (hC : CL A st cO cB fB fd mi lo ba sl ta ti) : CL (i_tie A v0 v1 v2) st cO cB fB fd mi lo ba sl ta (va_up (va_up ti v0 (upd (ti v0) v1 (nI v2))) v1 (upd ((va_up ti v0 (upd (ti v0) v1 (nI v2))) v1) v0 (nI v2))) := by
  have hA0 := hA.1.1
  obtain ⟨⟨e0, e1, e2, e3, e4⟩, em, es, et⟩ := hC
  have e : ∀ j, j < 37 → i_tie A v0 v1 v2 j = A j := fun j hj => by
    unfold i_tie un
    rw [if_neg (by omega), if_neg (by omega)]
  refine ⟨⟨?_, ?_, ?_, ?_, ?_⟩, ?_, ?_, ?_⟩
  · rw [e 0 (by omega)]; exact e0
  · rw [e 1 (by omega)]; exact e1
  · rw [e 2 (by omega)]; exact e2
  · rw [e 3 (by omega)]; exact e3
  · rw [e 4 (by omega)]; exact e4
  · intro k k1 k2
    rw [e 0 (by omega)] at k2
    rw [e _ (by omega), e _ (by omega), e _ (by omega)]
    exact em k k1 k2
  · intro k hk
    rw [e _ (by omega), e _ (by omega)]
    exact es k hk
  · intro i j hi hj
    rw [i_tie_at h0 h1 i j hi hj]
    unfold va_up upd
    by_cases c1 : i = v1
    · subst c1
      rw [if_pos rfl]
      by_cases c2 : j = v0
      · rw [if_pos c2, if_pos (Or.inr ⟨rfl, c2⟩)]
      · rw [if_neg c2, if_neg (show ¬ i = v0 by omega), if_neg (by omega)]
        exact et i j hi hj
    · rw [if_neg c1]
      by_cases c3 : i = v0
      · subst c3
        rw [if_pos rfl]
        by_cases c4 : j = v1
        · rw [if_pos c4, if_pos (Or.inl ⟨rfl, c4⟩)]
        · rw [if_neg c4, if_neg (by omega)]
          exact et i j hi hj
      · rw [if_neg c3, if_neg (by omega)]
        exact et i j hi hj
theorem kIx_no {c : Nat} (hc : c ≤ 126) (h1 : c ≠ 115) (h2 : c ≠ 117) (h3 : c ≠ 104) (h4 : c ≠ 107) (h5 : c ≠ 116) : kIx (nI c) = -1 := by
  have e : ∀ k : Nat, k < 2 ^ 31 → c ≠ k → ¬ nI c = nI k := fun k hk hn q => hn ((nI_eq (by omega) hk).mp q)
  unfold kIx
  rw [if_neg (show ¬ nI c = (115 : Int32) from e 115 (by first | decide | exact vd (by decide)) h1), if_neg (show ¬ nI c = (117 : Int32) from e 117 (by first | decide | exact vd (by decide)) h2), if_neg (show ¬ nI c = (104 : Int32) from e 104 (by first | decide | exact vd (by decide)) h3), if_neg (show ¬ nI c = (107 : Int32) from e 107 (by first | decide | exact vd (by decide)) h4), if_neg (show ¬ nI c = (116 : Int32) from e 116 (by first | decide | exact vd (by decide)) h5)]
theorem C_readItem (hT : TX n L le) (hA : OKL A) (hC : CL A st cO cB fB fd mi lo ba sl ta ti) {at_ : Nat} (hat : at_ ≤ 200) {nu : Nat → Int32}
    {Post : Int32 → Int32 → Int32 → Int32 → Int32 → Int32 → Int32 → (Nat → Int32) → (Nat → Int32) → (Nat → Int32) → (Nat → Int32) → (Nat → Int32) → (Nat → Int32) → (Nat → Nat → Int32) → Prop}
    (fail : item L A at_ = none → ∀ pl nu, Post (0 : Int32) pl st cO cB fB fd nu mi lo ba sl ta ti)
    (ok : ∀ A' a s1 s2 s3 s4 s5 nu m1 m2 m3 m4 m5 t, item L A at_ = some (A', a) → CL A' s1 s2 s3 s4 s5 m1 m2 m3 m4 m5 t → Post (1 : Int32) (nI a) s1 s2 s3 s4 s5 nu m1 m2 m3 m4 m5 t) : qv_X4_readItem (nI at_) st cO cB fB fd (nI n) nu mi lo ba sl ta le ti Post := by
  have hz := hT.2.1
  have h126 := hT.2.2.1 at_
  have hA0 := hA.1.1
  refine C_at hT (by omega) ?_
  rw [nI_1]
  by_cases c1 : L at_ = 115
  · rw [c1]
    refine br_t (by first | decide | exact vd (by decide)) ⟨4, C_three hT (κ := 0) (l0 := 1) (h0 := 60) (l1 := 0) (h1 := 10) (l2 := 0) (h2 := 10) (by first | decide | exact vd (by decide)) rfl (by omega) ⟨rfl, rfl⟩ ⟨rfl, rfl⟩ ⟨rfl, rfl⟩ (by first | decide | exact vd (by decide)) (fun q => fail ?_) (fun v0 v1 v2 a nu' q n0 n1 n2 => ?_)⟩
    · unfold item; rw [if_pos c1, q]
    · obtain ⟨q1, q2, q3, q4, q5⟩ := it3_at hz q
      have e0 : st = nI (A 0) := hC.1.1
      refine ⟨fun _ => ?_, fun e => absurd e (by first | decide | exact vd (by decide)), fun e => absurd e (by first | decide | exact vd (by decide)), fun e => absurd e (by first | decide | exact vd (by decide)), fun e => absurd e (by first | decide | exact vd (by decide))⟩
      subst e0
      refine pk_lt (A 0) 8 (fun c => ?_) (fun c => ⟨rfl, rfl, fail (by unfold item; rw [if_pos c1, q]; simp only; rw [if_neg (by omega)]) _ _⟩)
      have vk : vp_in (nI (A 0 + 1)) 9 := vp_in_nI (by omega) (by first | decide | exact vd (by decide))
      rw [nI_1, nI_clamp (by omega)]
      refine ⟨by first | decide | exact vd (by decide), vk, by first | decide | exact vd (by decide), vk, by first | decide | exact vd (by decide), vk, rfl, rfl, ?_⟩
      rw [show nu' (0 : Int32).toNatClampNeg = nI v0 from n0, show nu' (1 : Int32).toNatClampNeg = nI v1 from n1, show nu' (2 : Int32).toNatClampNeg = nI v2 from n2]
      exact ok _ _ _ _ _ _ _ _ _ _ _ _ _ _ (by unfold item; rw [if_pos c1, q]; simp only; rw [if_pos c]) (cl_str hA c hC)
  by_cases c2 : L at_ = 117
  · rw [c2]
    refine br_t (by first | decide | exact vd (by decide)) ⟨4, C_three hT (κ := 1) (l0 := 0) (h0 := 3) (l1 := 0) (h1 := 5) (l2 := 0) (h2 := 60) (by first | decide | exact vd (by decide)) rfl (by omega) ⟨rfl, rfl⟩ ⟨rfl, rfl⟩ ⟨rfl, rfl⟩ (by first | decide | exact vd (by decide)) (fun q => fail ?_) (fun v0 v1 v2 a nu' q n0 n1 n2 => ?_)⟩
    · unfold item; rw [if_neg c1, if_pos c2, q]
    · obtain ⟨q1, q2, q3, q4, q5⟩ := it3_at hz q
      refine ⟨fun e => absurd e (by first | decide | exact vd (by decide)), fun _ => ?_, fun e => absurd e (by first | decide | exact vd (by decide)), fun e => absurd e (by first | decide | exact vd (by decide)), fun e => absurd e (by first | decide | exact vd (by decide))⟩
      rw [show nu' (0 : Int32).toNatClampNeg = nI v0 from n0, show nu' (1 : Int32).toNatClampNeg = nI v1 from n1, show nu' (2 : Int32).toNatClampNeg = nI v2 from n2, nI_clamp (by omega)]
      have vk : vp_in (nI v0) 4 := vp_in_nI (by omega) (by first | decide | exact vd (by decide))
      exact ⟨by first | decide | exact vd (by decide), by first | decide | exact vd (by decide), vk, by first | decide | exact vd (by decide), by first | decide | exact vd (by decide), vk, rfl, ok _ _ _ _ _ _ _ _ _ _ _ _ _ _ (by unfold item; rw [if_neg c1, if_pos c2, q]) (cl_srt hA (by omega) hC)⟩
  by_cases c3 : L at_ = 104
  · rw [c3]
    refine br_t (by first | decide | exact vd (by decide)) ⟨4, C_three hT (κ := 2) (l0 := 0) (h0 := 99) (l1 := 0) (h1 := 99) (l2 := 0) (h2 := 10) (by first | decide | exact vd (by decide)) rfl (by omega) ⟨rfl, rfl⟩ ⟨rfl, rfl⟩ ⟨rfl, rfl⟩ (by first | decide | exact vd (by decide)) (fun q => fail ?_) (fun v0 v1 v2 a nu' q n0 n1 n2 => ?_)⟩
    · unfold item; rw [if_neg c1, if_neg c2, if_pos c3, q]
    · refine ⟨fun e => absurd e (by first | decide | exact vd (by decide)), fun e => absurd e (by first | decide | exact vd (by decide)), fun _ => ?_, fun e => absurd e (by first | decide | exact vd (by decide)), fun e => absurd e (by first | decide | exact vd (by decide))⟩
      rw [show nu' (0 : Int32).toNatClampNeg = nI v0 from n0, show nu' (1 : Int32).toNatClampNeg = nI v1 from n1, show nu' (2 : Int32).toNatClampNeg = nI v2 from n2]
      exact ⟨by first | decide | exact vd (by decide), by first | decide | exact vd (by decide), by first | decide | exact vd (by decide), rfl, ok _ _ _ _ _ _ _ _ _ _ _ _ _ _ (by unfold item; rw [if_neg c1, if_neg c2, if_pos c3, q]) (cl_cst hA hC)⟩
  by_cases c4 : L at_ = 107
  · rw [c4]
    refine br_t (by first | decide | exact vd (by decide)) ⟨2, by first | decide | exact vd (by decide), br_f (by first | decide | exact vd (by decide)) ⟨by first | decide | exact vd (by decide), br_t (by first | decide | exact vd (by decide)) ?_⟩⟩
    refine C_J62 hT (sep := 59) (l := 1) (h := 6) (i := 0) (b := 9) (by first | decide | exact vd (by decide)) (by first | decide | exact vd (by decide)) (by omega) (by first | decide | exact vd (by decide)) (by first | decide | exact vd (by decide)) rfl rfl (by first | decide | exact vd (by decide)) (by first | decide | exact vd (by decide)) (fun q => fail ?_) (fun v0 a nu' q n0 n1 => ⟨by first | decide | exact vd (by decide), br_t (by first | decide | exact vd (by decide)) ?_⟩)
    · unfold item; rw [if_neg c1, if_neg c2, if_neg c3, if_pos c4, q]
    · refine ⟨fun e => absurd e (by first | decide | exact vd (by decide)), fun e => absurd e (by first | decide | exact vd (by decide)), fun e => absurd e (by first | decide | exact vd (by decide)), fun _ => ?_, fun e => absurd e (by first | decide | exact vd (by decide))⟩
      rw [show nu' (0 : Int32).toNatClampNeg = nI v0 from n0]
      exact ⟨by first | decide | exact vd (by decide), rfl, ok _ _ _ _ _ _ _ _ _ _ _ _ _ _ (by unfold item; rw [if_neg c1, if_neg c2, if_neg c3, if_pos c4, q]) (cl_fri hA hC)⟩
  by_cases c5 : L at_ = 116
  · rw [c5]
    refine br_t (by first | decide | exact vd (by decide)) ⟨4, C_three hT (κ := 4) (l0 := 0) (h0 := 5) (l1 := 0) (h1 := 5) (l2 := 0) (h2 := 9) (by first | decide | exact vd (by decide)) rfl (by omega) ⟨rfl, rfl⟩ ⟨rfl, rfl⟩ ⟨rfl, rfl⟩ (by first | decide | exact vd (by decide)) (fun q => fail ?_) (fun v0 v1 v2 a nu' q n0 n1 n2 => ?_)⟩
    · unfold item; rw [if_neg c1, if_neg c2, if_neg c3, if_neg c4, if_pos c5, q]
    · obtain ⟨q1, q2, q3, q4, q5⟩ := it3_at hz q
      refine ⟨fun e => absurd e (by first | decide | exact vd (by decide)), fun e => absurd e (by first | decide | exact vd (by decide)), fun e => absurd e (by first | decide | exact vd (by decide)), fun e => absurd e (by first | decide | exact vd (by decide)), fun _ => ?_⟩
      unfold qv_X4_enterTie
      rw [show nu' (0 : Int32).toNatClampNeg = nI v0 from n0, show nu' (1 : Int32).toNatClampNeg = nI v1 from n1, show nu' (2 : Int32).toNatClampNeg = nI v2 from n2, nI_clamp (by omega), nI_clamp (by omega)]
      refine ⟨by first | decide | exact vd (by decide), by first | decide | exact vd (by decide), pk_eq v0 v1 (fun c => ⟨rfl, rfl, fail (by unfold item; rw [if_neg c1, if_neg c2, if_neg c3, if_neg c4, if_pos c5, q]; simp only; rw [if_pos c]) _ _⟩) (fun c => ?_)⟩
      have vk : vp_in (nI v0) 6 := vp_in_nI (by omega) (by first | decide | exact vd (by decide))
      have vj : vp_in (nI v1) 6 := vp_in_nI (by omega) (by first | decide | exact vd (by decide))
      exact ⟨by first | decide | exact vd (by decide), vk, by first | decide | exact vd (by decide), by first | decide | exact vd (by decide), vj, by first | decide | exact vd (by decide), vj, by first | decide | exact vd (by decide), by first | decide | exact vd (by decide), vk, rfl, rfl, ok _ _ _ _ _ _ _ _ _ _ _ _ _ _ (by unfold item; rw [if_neg c1, if_neg c2, if_neg c3, if_neg c4, if_pos c5, q]; simp only; rw [if_neg c]) (cl_tie hA (by omega) (by omega) c hC)⟩
  · rw [kIx_no h126 c1 c2 c3 c4 c5]
    refine br_f (by first | decide | exact vd (by decide)) (fail ?_ _ _)
    unfold item
    rw [if_neg c1, if_neg c2, if_neg c3, if_neg c4, if_neg c5]
end RD
