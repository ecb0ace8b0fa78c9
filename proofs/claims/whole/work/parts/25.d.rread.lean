/-! the reference reads a text -/
section RR
variable {n : Nat} {L : Nat → Nat} {ys : Nat → Int32} {A : Nat → Nat} {re nu : Nat → Int32}
theorem R_isFigure (hT : TX n L ys) {k : Nat} (hk : k < 2 ^ 31) {Post : Int32 → Prop} (f : 48 ≤ L k ∧ L k ≤ 57 → Post (nI 1)) (g : ¬ (48 ≤ L k ∧ L k ≤ 57) → Post (nI 0)) : qv_X8_isFigure (nI k) (nI n) ys Post := by
  obtain ⟨h1, h2, h3, h4⟩ := hT
  refine pk_le n k (fun q => g (by rw [h2 k q]; omega)) (fun q => ⟨vp_in_nI (by omega) (by first | decide | exact vd (by decide)), ?_⟩)
  have b := h3 k
  rw [nI_clamp hk, h4 k q]
  have tI : (nI (L k)).toInt = L k := nI_toInt (by omega)
  exact R_inI 48 57 rfl rfl (fun q1 q2 => t1 (f (by omega))) (fun q1 => t0 (g (by omega)))
theorem R_L22s (hT : TX n L ys) {b m v fu : Nat} (hb : b < 1000) (hm : m ≤ 3) {x1 x3 : Int32} {Post : Int32 → Int32 → (Nat → Int32) → Prop} {E : Int32 → Int32 → Prop} (f0 : ¬ (48 ≤ L (b + m) ∧ L (b + m) ≤ 57) → E (nI v) (nI (b + m))) (f3 : m = 3 → E (nI v) (nI (b + m))) (f1 : (48 ≤ L (b + m) ∧ L (b + m) ≤ 57) → m < 3 → qv_X8_readsNumbers_L22 x1 x3 (nI b) (nI n) ys nu Post E fu (nI (10 * v + (L (b + m) - 48))) (nI (b + m + 1))) : qv_X8_readsNumbers_L22 x1 x3 (nI b) (nI n) ys nu Post E (fu + 1) (nI v) (nI (b + m)) := by
  refine R_isFigure hT (by omega) (fun c => t1 ?_) (fun c => t0 (f0 c))
  have hlt : b + m < n := Nat.not_le.mp fun z => by have := hT.2.1 _ z; omega
  rw [show nI (b + m) - nI b = nI m by rw [pk_sub (by omega)]; congr 1; omega]
  refine pk_le 3 m (fun q => f3 (by omega)) (fun q => ⟨vp_in_nI (by have := hT.1; omega) (by first | decide | exact vd (by decide)), ?_⟩)
  rw [nI_clamp (by omega), hT.2.2.2 _ hlt, li_10, pk_mul, nI_add, show nI (10 * v + L (b + m)) - (48 : Int32) = nI (10 * v + (L (b + m) - 48)) by rw [show nI (10 * v + L (b + m)) - (48 : Int32) = nI (10 * v + L (b + m) - 48) from pk_sub (b := 48) (by omega)]; congr 1; omega, nI_1]
  exact f1 c q
theorem R_L22 (hT : TX n L ys) {b : Nat} (hb : b < 1000) {x1 x3 : Int32} {Post : Int32 → Int32 → (Nat → Int32) → Prop} {E : Int32 → Int32 → Prop} (f0 : ¬ (48 ≤ L b ∧ L b ≤ 57) → E (nI 0) (nI b)) (f1 : (48 ≤ L b ∧ L b ≤ 57) → ¬ (48 ≤ L (b + 1) ∧ L (b + 1) ≤ 57) → E (nI (L b - 48)) (nI (b + 1))) (f2 : (48 ≤ L b ∧ L b ≤ 57) → (48 ≤ L (b + 1) ∧ L (b + 1) ≤ 57) → ¬ (48 ≤ L (b + 2) ∧ L (b + 2) ≤ 57) → E (nI (10 * (L b - 48) + (L (b + 1) - 48))) (nI (b + 2))) (f3 : (48 ≤ L b ∧ L b ≤ 57) → (48 ≤ L (b + 1) ∧ L (b + 1) ≤ 57) → (48 ≤ L (b + 2) ∧ L (b + 2) ≤ 57) → ∀ v, E v (nI (b + 3))) : ∃ fu, qv_X8_readsNumbers_L22 x1 x3 (nI b) (nI n) ys nu Post E fu (0 : Int32) (nI b) := by
  refine ⟨4, R_L22s hT (m := 0) (v := 0) hb (by omega) f0 (fun q => absurd q (by omega)) (fun c0 _ => ?_)⟩
  refine R_L22s hT (m := 1) (v := 10 * 0 + (L b - 48)) hb (by omega) (fun c1 => ?_) (fun q => absurd q (by omega)) (fun c1 _ => ?_)
  · have := f1 c0 c1
    rw [show 10 * 0 + (L b - 48) = L b - 48 by omega]; exact this
  refine R_L22s hT (m := 2) (v := 10 * (10 * 0 + (L b - 48)) + (L (b + 1) - 48)) hb (by omega) (fun c2 => ?_) (fun q => absurd q (by omega)) (fun c2 _ => ?_)
  · have := f2 c0 c1 c2
    rw [show 10 * (10 * 0 + (L b - 48)) + (L (b + 1) - 48) = 10 * (L b - 48) + (L (b + 1) - 48) by omega]; exact this
  exact R_L22s hT (m := 3) hb (by omega) (fun _ => f3 c0 c1 c2 _) (fun _ => f3 c0 c1 c2 _) (fun _ q => absurd q (by omega))
theorem R_num (hT : TX n L ys) {N i at_ sep fu : Nat} (hN : N ≤ 3) (hi : i < N) (hat : at_ < 900) (hs : sep = if i + 1 = N then 59 else 44) {Post E : Int32 → Int32 → (Nat → Int32) → Prop}
    (fail : rdN L sep at_ = none → ∀ a' nu', qv_X8_readsNumbers_L4 (nI N) (nI n) ys Post E fu (nI 0) (nI (i + 1)) a' nu')
    (ok : ∀ v a nu', rdN L sep at_ = some (v, a) → nu' i = nI v → (∀ q, q ≠ i → nu' q = nu q) → qv_X8_readsNumbers_L4 (nI N) (nI n) ys Post E fu (nI 1) (nI (i + 1)) (nI a) nu') : qv_X8_readsNumbers_L4 (nI N) (nI n) ys Post E (fu + 1) (nI 1) (nI i) (nI at_) nu := by
  have hn := hT.1
  have vi : vp_in (nI i) 3 := vp_in_nI (by omega) (by first | decide | exact vd (by decide))
  have hs0 : sep ≠ 0 := by rw [hs]; split <;> decide
  have ein : ∀ m : Nat, m ≤ 3 → (nI (at_ + m) - nI at_) = nI m := fun m hm => by rw [pk_sub (by omega)]; congr 1; omega
  refine pk_le N i (fun q => absurd q (by omega)) (fun _ => t1 ?_)
  rw [nI_clamp (by omega)]
  have J : ∀ k m v, v = v → qv_X8_readsNumbers_L4 (nI N) (nI n) ys Post E fu k (nI (i + 1)) (nI (at_ + m + 1)) (upd nu i v) → qv_X8_readsNumbers_J145 k (nI N) (nI i) (nI n) (nI (at_ + m)) ys (upd nu i v) Post (qv_X8_readsNumbers_L4 (nI N) (nI n) ys Post E fu) E := fun k m v _ h => by
    unfold qv_X8_readsNumbers_J145
    rw [nI_1, nI_1]
    exact h
  refine R_L22 hT (by omega) (fun c0 => ⟨vi, ?_⟩) (fun c0 c1 => ⟨vi, ?_⟩) (fun c0 c1 c2 => ⟨vi, ?_⟩) (fun c0 c1 c2 v => ⟨vi, ?_⟩)
  · have := ein 0 (by omega)
    rw [Nat.add_zero] at this
    rw [this, nI_clamp (by omega)]
    refine R_inI 1 2 rfl rfl (fun q1 q2 => absurd q1 (by first | decide | exact vd (by decide))) (fun _ => t0 (J (0 : Int32) 0 _ rfl (fail ?_ _ _)))
    unfold rdN; rw [if_neg c0]
  · rw [ein 1 (by omega), nI_clamp (by omega)]
    refine R_inI 1 2 rfl rfl (fun q1 q2 => t1 (pk_le n (at_ + 1) (fun c2 => J (0 : Int32) 1 _ rfl (fail ?_ _ _)) (fun c2 => ⟨vp_in_nI (by omega) (by first | decide | exact vd (by decide)), ?_⟩))) (fun q => absurd q (by first | decide | exact vd (by decide)))
    · unfold rdN; rw [if_pos c0, if_neg c1, if_neg (by rw [hT.2.1 _ c2]; exact fun z => hs0 z.symm)]
    · rw [hT.2.2.2 _ c2]
      have b1 := hT.2.2.1 (at_ + 1)
      have go : (L (at_ + 1) = sep → qv_X8_readsNumbers_J145 (1 : Int32) (nI N) (nI i) (nI n) (nI (at_ + 1)) ys (upd nu i (nI (L at_ - 48))) Post (qv_X8_readsNumbers_L4 (nI N) (nI n) ys Post E fu) E) ∧ (L (at_ + 1) ≠ sep → qv_X8_readsNumbers_J145 (0 : Int32) (nI N) (nI i) (nI n) (nI (at_ + 1)) ys (upd nu i (nI (L at_ - 48))) Post (qv_X8_readsNumbers_L4 (nI N) (nI n) ys Post E fu) E) := by
        refine ⟨fun c3 => J (1 : Int32) 1 _ rfl (ok _ _ _ ?_ pk_us (fun q hq => pk_un hq)), fun c3 => J (0 : Int32) 1 _ rfl (fail ?_ _ _)⟩
        · unfold rdN; rw [if_pos c0, if_neg c1, if_pos c3]
        · unfold rdN; rw [if_pos c0, if_neg c1, if_neg c3]
      rw [show nI N - (1 : Int32) = nI (N - 1) from pk_sub (b := 1) (by omega)]
      refine pk_eq i (N - 1) (fun e => ?_) (fun e => ?_)
      · rw [if_pos (by omega)] at hs
        subst hs
        exact pk_eq (L (at_ + 1)) 59 (fun c3 => go.1 c3) (fun c3 => go.2 c3)
      · rw [if_neg (by omega)] at hs
        subst hs
        exact pk_eq (L (at_ + 1)) 44 (fun c3 => go.1 c3) (fun c3 => go.2 c3)
  · rw [ein 2 (by omega), nI_clamp (by omega)]
    refine R_inI 1 2 rfl rfl (fun q1 q2 => t1 (pk_le n (at_ + 2) (fun c3 => J (0 : Int32) 2 _ rfl (fail ?_ _ _)) (fun c3 => ⟨vp_in_nI (by omega) (by first | decide | exact vd (by decide)), ?_⟩))) (fun q => absurd q (by first | decide | exact vd (by decide)))
    · unfold rdN; rw [if_pos c0, if_pos c1, if_neg (by rw [hT.2.1 _ c3]; exact fun z => hs0 z.symm)]
    · rw [hT.2.2.2 _ c3]
      have b2 := hT.2.2.1 (at_ + 2)
      have go : (L (at_ + 2) = sep → qv_X8_readsNumbers_J145 (1 : Int32) (nI N) (nI i) (nI n) (nI (at_ + 2)) ys (upd nu i (nI (10 * (L at_ - 48) + (L (at_ + 1) - 48)))) Post (qv_X8_readsNumbers_L4 (nI N) (nI n) ys Post E fu) E) ∧ (L (at_ + 2) ≠ sep → qv_X8_readsNumbers_J145 (0 : Int32) (nI N) (nI i) (nI n) (nI (at_ + 2)) ys (upd nu i (nI (10 * (L at_ - 48) + (L (at_ + 1) - 48)))) Post (qv_X8_readsNumbers_L4 (nI N) (nI n) ys Post E fu) E) := by
        refine ⟨fun c4 => J (1 : Int32) 2 _ rfl (ok _ _ _ ?_ pk_us (fun q hq => pk_un hq)), fun c4 => J (0 : Int32) 2 _ rfl (fail ?_ _ _)⟩
        · unfold rdN; rw [if_pos c0, if_pos c1, if_pos c4]
        · unfold rdN; rw [if_pos c0, if_pos c1, if_neg c4]
      rw [show nI N - (1 : Int32) = nI (N - 1) from pk_sub (b := 1) (by omega)]
      refine pk_eq i (N - 1) (fun e => ?_) (fun e => ?_)
      · rw [if_pos (by omega)] at hs
        subst hs
        exact pk_eq (L (at_ + 2)) 59 (fun c4 => go.1 c4) (fun c4 => go.2 c4)
      · rw [if_neg (by omega)] at hs
        subst hs
        exact pk_eq (L (at_ + 2)) 44 (fun c4 => go.1 c4) (fun c4 => go.2 c4)
  · rw [ein 3 (by omega), nI_clamp (by omega)]
    refine R_inI 1 2 rfl rfl (fun q1 q2 => absurd q2 (by first | decide | exact vd (by decide))) (fun _ => t0 (J (0 : Int32) 3 _ rfl (fail ?_ _ _)))
    unfold rdN
    rw [if_pos c0, if_pos c1, if_neg]
    intro z
    have : sep = 59 ∨ sep = 44 := by rw [hs]; split <;> omega
    have e : L (at_ + 2) = sep := z
    omega
theorem R_L4x {N j fu : Nat} {a : Int32} (hN : N ≤ 3) (hj : j ≤ 3) {Post E : Int32 → Int32 → (Nat → Int32) → Prop} (h : E (nI 0) a nu) : qv_X8_readsNumbers_L4 (nI N) (nI n) ys Post E (fu + 1) (nI 0) (nI j) a nu :=
  pk_le N j (fun _ => h) (fun _ => t0 h)
theorem R_rd3 (hT : TX n L ys) {at_ : Nat} (hat : at_ ≤ 201) {Post : Int32 → Int32 → (Nat → Int32) → Prop} (fail : rd3 L at_ = none → ∀ a nu, Post (nI 0) a nu) (ok : ∀ v0 v1 v2 a nu', rd3 L at_ = some (v0, v1, v2, a) → v0 ≤ 99 → v1 ≤ 99 → v2 ≤ 99 → a ≤ n → nu' 0 = nI v0 → nu' 1 = nI v1 → nu' 2 = nI v2 → Post (nI 1) (nI a) nu') : qv_X8_readsNumbers (3 : Int32) (nI n) (nI at_) ys nu Post := by
  have hz := hT.2.1
  have hn := hT.1
  refine ⟨4, R_num hT (N := 3) (i := 0) (sep := 44) (by first | decide | exact vd (by decide)) (by first | decide | exact vd (by decide)) (by omega) rfl (fun c a' nu' => R_L4x (by first | decide | exact vd (by decide)) (by first | decide | exact vd (by decide)) ⟨rfl, fail (by unfold rd3; rw [c]) _ _⟩) (fun v0 a0 nu0 c0 n00 n01 => ?_)⟩
  have q0 := rdN_at hz (by first | decide | exact vd (by decide)) c0
  refine R_num hT (N := 3) (i := 1) (sep := 44) (by first | decide | exact vd (by decide)) (by first | decide | exact vd (by decide)) (by omega) rfl (fun c a' nu' => R_L4x (by first | decide | exact vd (by decide)) (by first | decide | exact vd (by decide)) ⟨rfl, fail (by unfold rd3; rw [c0]; simp only; rw [c]) _ _⟩) (fun v1 a1 nu1 c1 n10 n11 => ?_)
  have q1 := rdN_at hz (by first | decide | exact vd (by decide)) c1
  refine R_num hT (N := 3) (i := 2) (sep := 59) (by first | decide | exact vd (by decide)) (by first | decide | exact vd (by decide)) (by omega) rfl (fun c a' nu' => R_L4x (by first | decide | exact vd (by decide)) (by first | decide | exact vd (by decide)) ⟨rfl, fail (by unfold rd3; rw [c0]; simp only; rw [c1]; simp only; rw [c]) _ _⟩) (fun v2 a2 nu2 c2 n20 n21 => ?_)
  have q2 := rdN_at hz (by first | decide | exact vd (by decide)) c2
  refine pk_le 3 3 (fun _ => ⟨rfl, ok v0 v1 v2 a2 nu2 (by unfold rd3; rw [c0]; simp only; rw [c1]; simp only; rw [c2]) q0.2.2 q1.2.2 q2.2.2 q2.2.1 ?_ ?_ n20⟩) (fun q => absurd q (by omega))
  · rw [n21 0 (by first | decide | exact vd (by decide)), n11 0 (by first | decide | exact vd (by decide))]; exact n00
  · rw [n21 1 (by first | decide | exact vd (by decide))]; exact n10
theorem rl_un {k v : Nat} (h : RLd A re) : RLd (un A k v) (upd re k (nI v)) := by
  intro j hj
  unfold un
  by_cases e : j = k
  · subst e; rw [pk_us, if_pos rfl]
  · rw [pk_un e, if_neg e]; exact h j hj
theorem R_readsStretch (hT : TX n L ys) (hA : OKL A) (hR : RLd A re) {at_ : Nat} (hat : at_ ≤ 201) {Post : Int32 → Int32 → (Nat → Int32) → (Nat → Int32) → Prop} (fail : (A 0 < 8 → it3 L 1 60 0 10 0 10 at_ = none) → ∀ a re nu, Post (nI 0) a re nu) (ok : ∀ v0 v1 v2 a re' nu', A 0 < 8 → it3 L 1 60 0 10 0 10 at_ = some (v0, v1, v2, a) → RLd (i_str A v0 v1 v2) re' → Post (nI 1) (nI a) re' nu') : qv_X8_readsStretch (nI n) (nI at_) ys re nu Post := by
  have e0 : re (0 : Int32).toNatClampNeg = nI (A 0) := hR 0 (by first | decide | exact vd (by decide))
  have hA0 := hA.1.1
  have bad : ∀ {a re nu} {E : (Nat → Int32) → Prop}, (∀ re', E re') → ∃ n8, qv_X8_readsStretch_L66 (0 : Int32) (nI n) a ys nu Post E n8 (0 : Int32) re := fun {a re nu E} h => ⟨1, br_f (by first | decide | exact vd (by decide)) (br_t rfl (h _))⟩
  refine ⟨by first | decide | exact vd (by decide), ?_⟩
  rw [e0]
  refine pk_le 8 (A 0) (fun c => bad (fun re' => ⟨by first | decide | exact vd (by decide), by first | decide | exact vd (by decide), fail (fun z => absurd z (by omega)) _ _ _⟩)) (fun c => R_rd3 hT hat (fun q a nu => t0 (bad (fun re' => ⟨by first | decide | exact vd (by decide), by first | decide | exact vd (by decide), fail (fun _ => it3_n q) _ _ _⟩))) (fun v0 v1 v2 a nu' q l0 l1 l2 la n0 n1 n2 => t1 ⟨by first | decide | exact vd (by decide), ?_⟩))
  have ei := it3_s (l0 := 1) (h0 := 60) (l1 := 0) (h1 := 10) (l2 := 0) (h2 := 10) q
  rw [show nu' (0 : Int32).toNatClampNeg = nI v0 from n0, show nu' (1 : Int32).toNatClampNeg = nI v1 from n1, show nu' (2 : Int32).toNatClampNeg = nI v2 from n2]
  have t0v : (nI v0).toInt = v0 := nI_toInt (by omega)
  refine R_inI 1 60 rfl rfl (fun q1 q2 => t1 ⟨by first | decide | exact vd (by decide), pk_le 11 v1 (fun c1 => bad (fun re' => ⟨by first | decide | exact vd (by decide), by first | decide | exact vd (by decide), fail (fun _ => by rw [ei, if_neg (by omega)]) _ _ _⟩)) (fun c1 => ⟨by first | decide | exact vd (by decide), pk_le 11 v2 (fun c2 => bad (fun re' => ⟨by first | decide | exact vd (by decide), by first | decide | exact vd (by decide), fail (fun _ => by rw [ei, if_neg (by omega)]) _ _ _⟩)) (fun c2 => ⟨4, ?_⟩)⟩)⟩) (fun q1 => t0 (bad (fun re' => ⟨by first | decide | exact vd (by decide), by first | decide | exact vd (by decide), fail (fun _ => by rw [ei, if_neg (by omega)]) _ _ _⟩)))
  rw [if_pos (by omega)] at ei
  have ex : ∀ k : Nat, (5 : Int32) + (3 : Int32) * nI (A 0) + nI k = nI (5 + 3 * A 0 + k) := fun k => by rw [show (5 : Int32) = nI 5 from rfl, li_3, pk_mul, nI_add, nI_add]
  have step : ∀ (k v fu : Nat) (r : Nat → Int32) (E : (Nat → Int32) → Prop), k < 3 → nu' k = nI v → r 0 = nI (A 0) → qv_X8_readsStretch_L66 (1 : Int32) (nI n) (nI a) ys nu' Post E fu (nI (k + 1)) (upd r (5 + 3 * A 0 + k) (nI v)) → qv_X8_readsStretch_L66 (1 : Int32) (nI n) (nI a) ys nu' Post E (fu + 1) (nI k) r := fun k v fu r E hk hv hr h => by
    refine pk_le 3 k (fun z => absurd z (by omega)) (fun _ => br_f (by first | decide | exact vd (by decide)) ⟨by first | decide | exact vd (by decide), vp_in_nI hk (by first | decide | exact vd (by decide)), ?_⟩)
    rw [show r (0 : Int32).toNatClampNeg = nI (A 0) from hr, ex, nI_clamp (by omega), nI_clamp (by omega), hv, nI_1]
    exact ⟨vp_in_nI (by omega) (by first | decide | exact vd (by decide)), h⟩
  refine step 0 v0 3 re _ (by first | decide | exact vd (by decide)) n0 e0 (step 1 v1 2 _ _ (by first | decide | exact vd (by decide)) n1 ?_ (step 2 v2 1 _ _ (by first | decide | exact vd (by decide)) n2 ?_ (pk_le 3 3 (fun _ => ⟨by first | decide | exact vd (by decide), by first | decide | exact vd (by decide), ?_⟩) (fun z => absurd z (by omega)))))
  · rw [pk_un (by omega)]; exact e0
  · rw [pk_un (by omega), pk_un (by omega)]; exact e0
  · have e00 : upd (upd (upd re (5 + 3 * A 0 + 0) (nI v0)) (5 + 3 * A 0 + 1) (nI v1)) (5 + 3 * A 0 + 2) (nI v2) (0 : Int32).toNatClampNeg = nI (A 0) := by
      show upd _ _ _ 0 = _
      rw [pk_un (by omega), pk_un (by omega), pk_un (by omega)]; exact e0
    rw [e00, nI_1]
    exact ok v0 v1 v2 a _ _ c ei (by
      have := rl_un (k := 0) (v := A 0 + 1) (rl_un (k := 7 + 3 * A 0) (v := v2) (rl_un (k := 6 + 3 * A 0) (v := v1) (rl_un (k := 5 + 3 * A 0) (v := v0) hR)))
      rw [show 5 + 3 * A 0 + 0 = 5 + 3 * A 0 by omega, show 5 + 3 * A 0 + 1 = 6 + 3 * A 0 by omega, show 5 + 3 * A 0 + 2 = 7 + 3 * A 0 by omega]
      exact this)
theorem R_readsSort (hT : TX n L ys) (hR : RLd A re) {at_ : Nat} (hat : at_ ≤ 201) {Post : Int32 → Int32 → (Nat → Int32) → (Nat → Int32) → Prop} (fail : it3 L 0 3 0 5 0 60 at_ = none → ∀ a re nu, Post (nI 0) a re nu) (ok : ∀ v0 v1 v2 a re' nu', it3 L 0 3 0 5 0 60 at_ = some (v0, v1, v2, a) → RLd (i_srt A v0 v1 v2) re' → Post (nI 1) (nI a) re' nu') : qv_X8_readsSort (nI n) (nI at_) ys re nu Post := by
  have bad : ∀ {a re nu}, it3 L 0 3 0 5 0 60 at_ = none → qv_X8_readsSort_J45 (0 : Int32) (nI n) a ys re nu Post := fun {a re nu} h => br_t rfl ⟨rfl, fail h _ _ _⟩
  refine R_rd3 hT hat (fun q a nu => t0 (bad (it3_n q))) (fun v0 v1 v2 a nu' q l0 l1 l2 la n0 n1 n2 => t1 ⟨by first | decide | exact vd (by decide), ?_⟩)
  have ei := it3_s (l0 := 0) (h0 := 3) (l1 := 0) (h1 := 5) (l2 := 0) (h2 := 60) q
  unfold qv_X8_readsSort_J45
  rw [show nu' (0 : Int32).toNatClampNeg = nI v0 from n0, show nu' (1 : Int32).toNatClampNeg = nI v1 from n1, show nu' (2 : Int32).toNatClampNeg = nI v2 from n2]
  have b0 : it3 L 0 3 0 5 0 60 at_ = none → ((0 : Int32) = (0 : Int32) → narrow .boolean (.int (0 : Int32)) = .int (0 : Int32) ∧ Post (0 : Int32) (nI a) re nu') := fun h _ => ⟨rfl, fail h _ _ _⟩
  refine pk_le 4 v0 (fun c0 => ⟨b0 (by rw [ei, if_neg (by omega)]), fun z => absurd rfl z⟩) (fun c0 => ⟨by first | decide | exact vd (by decide), pk_le 6 v1 (fun c1 => ⟨b0 (by rw [ei, if_neg (by omega)]), fun z => absurd rfl z⟩) (fun c1 => ⟨by first | decide | exact vd (by decide), pk_le 61 v2 (fun c2 => ⟨b0 (by rw [ei, if_neg (by omega)]), fun z => absurd rfl z⟩) (fun c2 => br_f (by first | decide | exact vd (by decide)) ?_)⟩)⟩)
  rw [if_pos (by omega)] at ei
  have ex : (29 : Int32) + (2 : Int32) * nI v0 = nI (29 + 2 * v0) := by rw [li_29, li_2, pk_mul, nI_add]
  rw [ex, nI_1, nI_clamp (by omega), nI_clamp (by omega)]
  refine ⟨by first | decide | exact vd (by decide), by first | decide | exact vd (by decide), vp_in_nI (by omega) (by first | decide | exact vd (by decide)), by first | decide | exact vd (by decide), by first | decide | exact vd (by decide), vp_in_nI (by omega) (by first | decide | exact vd (by decide)), rfl, ok v0 v1 v2 a _ _ ei ?_⟩
  have := rl_un (k := 30 + 2 * v0) (v := v2) (rl_un (k := 29 + 2 * v0) (v := v1) hR)
  rw [show 29 + 2 * v0 + 1 = 30 + 2 * v0 by omega]
  exact this
theorem R_readsCost (hT : TX n L ys) (hR : RLd A re) {at_ : Nat} (hat : at_ ≤ 201) {Post : Int32 → Int32 → (Nat → Int32) → (Nat → Int32) → Prop} (fail : it3 L 0 99 0 99 0 10 at_ = none → ∀ a re nu, Post (nI 0) a re nu) (ok : ∀ v0 v1 v2 a re' nu', it3 L 0 99 0 99 0 10 at_ = some (v0, v1, v2, a) → RLd (i_cst A v0 v1 v2) re' → Post (nI 1) (nI a) re' nu') : qv_X8_readsCost (nI n) (nI at_) ys re nu Post := by
  have bad : ∀ {a re nu} {E : (Nat → Int32) → Prop}, (∀ re', E re') → ∃ n8, qv_X8_readsCost_L27 (0 : Int32) (nI n) a ys nu Post E n8 (0 : Int32) re := fun {a re nu E} h => ⟨1, br_f (by first | decide | exact vd (by decide)) (br_t rfl (h _))⟩
  refine R_rd3 hT hat (fun q a nu => t0 (bad (fun re' => fail (it3_n q) _ _ _))) (fun v0 v1 v2 a nu' q l0 l1 l2 la n0 n1 n2 => t1 ⟨by first | decide | exact vd (by decide), ?_⟩)
  have ei := it3_s (l0 := 0) (h0 := 99) (l1 := 0) (h1 := 99) (l2 := 0) (h2 := 10) q
  rw [show nu' (2 : Int32).toNatClampNeg = nI v2 from n2]
  refine pk_le 11 v2 (fun c2 => bad (fun re' => fail (by rw [ei, if_neg (by omega)]) _ _ _)) (fun c2 => ⟨4, ?_⟩)
  rw [if_pos (by omega)] at ei
  have step : ∀ (k v fu : Nat) (r : Nat → Int32) (E : (Nat → Int32) → Prop), k < 3 → nu' k = nI v → qv_X8_readsCost_L27 (1 : Int32) (nI n) (nI a) ys nu' Post E fu (nI (k + 1)) (upd r (2 + k) (nI v)) → qv_X8_readsCost_L27 (1 : Int32) (nI n) (nI a) ys nu' Post E (fu + 1) (nI k) r := fun k v fu r E hk hv h => by
    refine pk_le 3 k (fun z => absurd z (by omega)) (fun _ => br_f (by first | decide | exact vd (by decide)) ⟨vp_in_nI hk (by first | decide | exact vd (by decide)), ?_⟩)
    rw [li_2, nI_add, nI_clamp (by omega), nI_clamp (by omega), hv, nI_1]
    exact ⟨vp_in_nI (by omega) (by first | decide | exact vd (by decide)), h⟩
  refine step 0 v0 3 re _ (by first | decide | exact vd (by decide)) n0 (step 1 v1 2 _ _ (by first | decide | exact vd (by decide)) n1 (step 2 v2 1 _ _ (by first | decide | exact vd (by decide)) n2 (pk_le 3 3 (fun _ => ?_) (fun z => absurd z (by omega)))))
  exact ok v0 v1 v2 a _ _ ei (rl_un (k := 4) (v := v2) (rl_un (k := 3) (v := v1) (rl_un (k := 2) (v := v0) hR)))
theorem R_readsFriends (hT : TX n L ys) (hR : RLd A re) {at_ : Nat} (hat : at_ ≤ 201) {Post : Int32 → Int32 → (Nat → Int32) → (Nat → Int32) → Prop} (fail : rdC L 59 1 6 at_ = none → ∀ a re nu, Post (nI 0) a re nu) (ok : ∀ v0 a re' nu', rdC L 59 1 6 at_ = some (v0, a) → RLd (un A 1 v0) re' → Post (nI 1) (nI a) re' nu') : qv_X8_readsFriends (nI n) (nI at_) ys re nu Post := by
  have bad : ∀ {a re nu}, rdC L 59 1 6 at_ = none → qv_X8_readsFriends_J30 (0 : Int32) (nI n) a ys re nu Post := fun {a re nu} h => br_t rfl ⟨by first | decide | exact vd (by decide), by first | decide | exact vd (by decide), rfl, fail h _ _ _⟩
  have hz := hT.2.1
  refine ⟨2, R_num hT (N := 1) (i := 0) (sep := 59) (by first | decide | exact vd (by decide)) (by first | decide | exact vd (by decide)) (by omega) rfl (fun c a' nu' => R_L4x (by first | decide | exact vd (by decide)) (by first | decide | exact vd (by decide)) ⟨rfl, t0 (bad (by unfold rdC; rw [c]))⟩) (fun v0 a0 nu0 c0 n00 n01 => ?_)⟩
  have q0 := rdN_at hz (by first | decide | exact vd (by decide)) c0
  have ei : rdC L 59 1 6 at_ = if 1 ≤ v0 ∧ v0 ≤ 6 then some (v0, a0) else none := by unfold rdC; rw [c0]
  refine pk_le 1 1 (fun _ => ⟨rfl, t1 ⟨by first | decide | exact vd (by decide), ?_⟩⟩) (fun z => absurd z (by omega))
  rw [show nu0 (0 : Int32).toNatClampNeg = nI v0 from n00]
  have t0v : (nI v0).toInt = v0 := nI_toInt (by omega)
  refine R_inI 1 6 rfl rfl (fun q1 q2 => t1 (br_f (by first | decide | exact vd (by decide)) ?_)) (fun q1 => t0 (bad (by rw [ei, if_neg (by omega)])))
  rw [show nu0 (0 : Int32).toNatClampNeg = nI v0 from n00]
  exact ⟨by first | decide | exact vd (by decide), by first | decide | exact vd (by decide), rfl, ok v0 a0 _ _ (by rw [ei, if_pos (by omega)]) (rl_un (k := 1) (v := v0) hR)⟩
theorem R_readsTie (hT : TX n L ys) (hR : RLd A re) {at_ : Nat} (hat : at_ ≤ 201) {Post : Int32 → Int32 → (Nat → Int32) → (Nat → Int32) → Prop} (fail : (∀ v0 v1 v2 a, it3 L 0 5 0 5 0 9 at_ = some (v0, v1, v2, a) → v0 = v1) → ∀ a re nu, Post (nI 0) a re nu) (ok : ∀ v0 v1 v2 a re' nu', it3 L 0 5 0 5 0 9 at_ = some (v0, v1, v2, a) → v0 ≠ v1 → RLd (i_tie A v0 v1 v2) re' → Post (nI 1) (nI a) re' nu') : qv_X8_readsTie (nI n) (nI at_) ys re nu Post := by
  have bad : ∀ {a re nu}, (∀ v0 v1 v2 a, it3 L 0 5 0 5 0 9 at_ = some (v0, v1, v2, a) → v0 = v1) → qv_X8_readsTie_J61 (0 : Int32) (nI n) a ys re nu Post := fun {a re nu} h => br_t rfl ⟨rfl, fail h _ _ _⟩
  refine R_rd3 hT hat (fun q a nu => t0 (bad (fun w0 w1 w2 b h => by rw [it3_n q] at h; cases h))) (fun v0 v1 v2 a nu' q l0 l1 l2 la n0 n1 n2 => t1 ⟨by first | decide | exact vd (by decide), ?_⟩)
  have ei := it3_s (l0 := 0) (h0 := 5) (l1 := 0) (h1 := 5) (l2 := 0) (h2 := 9) q
  have no : ¬ ((0 ≤ v0 ∧ v0 ≤ 5) ∧ (0 ≤ v1 ∧ v1 ≤ 5) ∧ (0 ≤ v2 ∧ v2 ≤ 9)) → ∀ w0 w1 w2 b, it3 L 0 5 0 5 0 9 at_ = some (w0, w1, w2, b) → w0 = w1 := fun c w0 w1 w2 b h => by rw [ei, if_neg c] at h; cases h
  rw [show nu' (0 : Int32).toNatClampNeg = nI v0 from n0, show nu' (1 : Int32).toNatClampNeg = nI v1 from n1, show nu' (2 : Int32).toNatClampNeg = nI v2 from n2]
  refine pk_le 6 v0 (fun c0 => bad (no (by omega))) (fun c0 => ⟨by first | decide | exact vd (by decide), pk_le 6 v1 (fun c1 => bad (no (by omega))) (fun c1 => ⟨by first | decide | exact vd (by decide), by first | decide | exact vd (by decide), pk_eq v0 v1 (fun c => bad (fun w0 w1 w2 b h => ?_)) (fun c => ⟨by first | decide | exact vd (by decide), pk_le 10 v2 (fun c2 => bad (no (by omega))) (fun c2 => br_f (by first | decide | exact vd (by decide)) ?_)⟩)⟩)⟩)
  · rw [ei] at h
    by_cases z : (0 ≤ v0 ∧ v0 ≤ 5) ∧ (0 ≤ v1 ∧ v1 ≤ 5) ∧ (0 ≤ v2 ∧ v2 ≤ 9)
    · rw [if_pos z] at h; cases h; exact c
    · rw [if_neg z] at h; cases h
  · rw [if_pos (by omega)] at ei
    rw [show nu' (0 : Int32).toNatClampNeg = nI v0 from n0, show nu' (1 : Int32).toNatClampNeg = nI v1 from n1, show nu' (2 : Int32).toNatClampNeg = nI v2 from n2]
    unfold qv_X8_ties
    have ex : ∀ i j : Nat, (37 : Int32) + (6 : Int32) * nI i + nI j = nI (37 + 6 * i + j) := fun i j => by rw [li_37, li_6, pk_mul, nI_add, nI_add]
    rw [ex, ex, nI_clamp (by omega), nI_clamp (by omega)]
    exact ⟨by first | decide | exact vd (by decide), by first | decide | exact vd (by decide), by first | decide | exact vd (by decide), vp_in_nI (by omega) (by first | decide | exact vd (by decide)), vp_in_nI (by omega) (by first | decide | exact vd (by decide)), rfl, ok v0 v1 v2 a _ _ ei c (rl_un (k := 37 + 6 * v1 + v0) (v := v2) (rl_un (k := 37 + 6 * v0 + v1) (v := v2) hR))⟩
end RR
