/-! what holds between the class and the reference -/
theorem eqK {α : Type} {r : α} {X : Prop} (h : X) : (r = r → X) ∧ (¬ r = r → False) := ⟨fun _ => h, fun q => q rfl⟩
theorem eqJ {α : Type} {r r' : α} {X : Prop} (e : r = r') (h : X) : (r = r' → X) ∧ (¬ r = r' → False) := ⟨fun _ => h, fun q => q e⟩
def IT (n : Nat) (T : Nat → Nat) (xl : Int32) (xs : Nat → Int32) (yl : Int32) (ys : Nat → Int32) : Prop := xl = nI n ∧ yl = nI n ∧ TX n T xs ∧ TX n T ys
def ILd (A : Nat → Nat) (st cO cB fB fd : Int32) (mi lo ba sl ta : Nat → Int32) (ti : Nat → Nat → Int32) (la : Nat → Int32) : Prop := OKL A ∧ CL A st cO cB fB fd mi lo ba sl ta ti ∧ RLd A la
def IWy (S w c u : Nat) (B Q D : Nat → Nat) (xw xc xu : Int32) (xb xs xt : Nat → Int32) (yw yc yu : Int32) (yb ys yt un : Nat → Int32) : Prop := (xw = nI w ∧ xc = nI c ∧ xu = nI u) ∧ (yw = nI w ∧ yc = nI c ∧ yu = nI u) ∧ u ≤ 8 ∧ VW S w c B Q D ∧ WA c B Q D xb xs xt ∧ WA c B Q D yb ys yt ∧ UA B un u w c
def KK (S i : Nat) (kw kc : Int32) (kb ks kt ke : Nat → Int32) : Prop := ∃ (w c : Nat) (B Q D : Nat → Nat) (rb rs rt : Nat → Int32), VW S w c B Q D ∧ kw = nI w ∧ kc = nI c ∧ WA c B Q D kb ks kt ∧ KE ke i (nI w) (nI c) rb rs rt ∧ WA c B Q D rb rs rt
def IKp (S kp : Nat) (xk k0w k0c k1w k1c : Int32) (k0b k0s k0t k1b k1s k1t : Nat → Int32) (yk : Int32) (ke : Nat → Int32) : Prop := kp ≤ 2 ∧ xk = nI kp ∧ yk = nI kp ∧ (0 < kp → KK S 0 k0w k0c k0b k0s k0t ke) ∧ (1 < kp → KK S 1 k1w k1c k1b k1s k1t ke)
def Inv (xl : Int32) (xs : Nat → Int32) (yl : Int32) (ys : Nat → Int32) (st cO cB fB fd : Int32) (mi lo ba sl ta : Nat → Int32) (ti : Nat → Nat → Int32) (la : Nat → Int32) (xw xc xu : Int32) (xb xo xt : Nat → Int32) (yw yc yu : Int32) (yb yo yt un : Nat → Int32) (xk k0w k0c k1w k1c : Int32) (k0b k0s k0t k1b k1s k1t : Nat → Int32) (yk : Int32) (ke : Nat → Int32) : Prop :=
  ∃ (n : Nat) (T A : Nat → Nat) (w c u kp : Nat) (B Q D : Nat → Nat), IT n T xl xs yl ys ∧ ILd A st cO cB fB fd mi lo ba sl ta ti la ∧ IWy (A 0) w c u B Q D xw xc xu xb xo xt yw yc yu yb yo yt un ∧ IKp (A 0) kp xk k0w k0c k1w k1c k0b k0s k0t k1b k1s k1t yk ke
theorem tx_write {n : Nat} {T : Nat → Nat} {ys : Nat → Int32} {x : Int32} (hT : TX n T ys) (hx : ok_w x) (hn : n < 200) : TX (n + 1) (un T n x.toInt.toNat) (upd ys n x) := by
  obtain ⟨h1, h2, h3, h4⟩ := hT
  obtain ⟨q1, q2⟩ := hx
  obtain ⟨k, hk, rfl, ek⟩ := nI_of3 (x := x) (n := 127) (by first | decide | exact vd (by decide)) (by omega) (by omega)
  rw [ek, Int.toNat_natCast]
  refine ⟨by omega, fun i hi => ?_, fun i => ?_, fun i hi => ?_⟩
  · unfold un; rw [if_neg (by omega)]; exact h2 i (by omega)
  · unfold un
    split
    · omega
    · exact h3 i
  · unfold un
    by_cases e : i = n
    · subst e; rw [pk_us, if_pos rfl]
    · rw [pk_un e, if_neg e]; exact h4 i (by omega)
theorem tx_0 (ys : Nat → Int32) : TX 0 (fun _ => 0) ys := ⟨Nat.zero_le _, fun _ _ => rfl, fun _ => Nat.zero_le _, fun i hi => absurd hi (by omega)⟩
theorem vw_walk {S w c : Nat} {B Q D : Nat → Nat} (h : VW S w c B Q D) (hw : w < S) : VW S (w + 1) c B Q D := ⟨by omega, h.2.1, fun i hi => by have := h.2.2.1 i hi; omega, h.2.2.2⟩
theorem vw_0 (S : Nat) (B Q D : Nat → Nat) : VW S 0 0 B Q D := ⟨Nat.zero_le _, Nat.zero_le _, fun i hi => absurd hi (by omega), fun i j _ hj => absurd hj (by omega)⟩
theorem wa_0 (B Q D : Nat → Nat) (b s t : Nat → Int32) : WA 0 B Q D b s t := fun i hi => absurd hi (by omega)
theorem u1_le (u : Nat) : u1 u ≤ 8 := by unfold u1; split <;> omega
theorem vw_count {S w c q d : Nat} {B Q D : Nat → Nat} (h : VW S w c B Q D) (hc : c < 6) (hq : q < 4) (hd : d ≤ 3) : VW S w (c + 1) (un B c w) (un Q c q) (un D c d) := by
  obtain ⟨h1, h2, h3, h4⟩ := h
  refine ⟨h1, by omega, fun i hi => ?_, fun i j hij hj => ?_⟩
  · unfold un
    by_cases e : i = c
    · rw [if_pos e, if_pos e, if_pos e]; omega
    · rw [if_neg e, if_neg e, if_neg e]; exact h3 i (by omega)
  · unfold un
    by_cases e : j = c
    · rw [if_pos e]
      by_cases e2 : i = c
      · rw [if_pos e2]; exact Nat.le_refl _
      · rw [if_neg e2]; exact (h3 i (by omega)).1
    · rw [if_neg e, if_neg (by omega)]; exact h4 i j hij (by omega)
theorem wa_count {w c q d : Nat} {B Q D : Nat → Nat} {b s t : Nat → Int32} (h : WA c B Q D b s t) : WA (c + 1) (un B c w) (un Q c q) (un D c d) (upd b c (nI w)) (upd s c (nI q)) (upd t c (tl d)) := by
  intro i hi
  unfold un
  by_cases e : i = c
  · subst e; rw [pk_us, pk_us, pk_us, if_pos rfl, if_pos rfl, if_pos rfl]; exact ⟨rfl, rfl, rfl⟩
  · rw [pk_un e, pk_un e, pk_un e, if_neg e, if_neg e, if_neg e]; exact h i (by omega)
theorem vw_back1 {S w c : Nat} {B Q D : Nat → Nat} (h : VW S w c B Q D) (h0 : 0 < w) (hn : ¬ (0 < c ∧ B (c - 1) = w)) : VW S (w - 1) c B Q D := by
  obtain ⟨h1, h2, h3, h4⟩ := h
  refine ⟨by omega, h2, fun i hi => ?_, h4⟩
  have a := h3 i hi
  have b := h4 i (c - 1) (by omega) (by omega)
  have d := (h3 (c - 1) (by omega)).1
  have e : B (c - 1) ≠ w := fun z => hn ⟨by omega, z⟩
  omega
theorem wa_le {c c' : Nat} {B Q D : Nat → Nat} {b s t : Nat → Int32} (h : WA c B Q D b s t) (hc : c' ≤ c) : WA c' B Q D b s t := fun i hi => h i (by omega)
theorem vw_le {S w c c' : Nat} {B Q D : Nat → Nat} (h : VW S w c B Q D) (hc : c' ≤ c) : VW S w c' B Q D := ⟨h.1, by have := h.2.1; omega, fun i hi => h.2.2.1 i (by omega), fun i j h1 h2 => h.2.2.2 i j h1 (by omega)⟩
theorem wa_cp {c : Nat} {B Q D : Nat → Nat} {b s t b' s' t' : Nat → Int32} (hc : c ≤ 6) (h : WA c B Q D b s t) (he : ∀ j, j < 6 → b' j = b j ∧ s' j = s j ∧ t' j = t j) : WA c B Q D b' s' t' := fun i hi => by
  obtain ⟨e1, e2, e3⟩ := he i (by omega)
  rw [e1, e2, e3]
  exact h i hi
theorem kk_old {S : Nat} {kw kc : Int32} {kb ks kt ke ke' : Nat → Int32} (h : KK S 0 kw kc kb ks kt ke) (he : ∀ q, q < 20 → ke' q = ke q) : KK S 0 kw kc kb ks kt ke' := by
  obtain ⟨w, c, B, Q, D, rb, rs, rt, h1, h2, h3, h4, ⟨k1, k2, k3⟩, h6⟩ := h
  refine ⟨w, c, B, Q, D, rb, rs, rt, h1, h2, h3, h4, ⟨?_, ?_, fun j hj => ?_⟩, h6⟩
  · rw [he _ (by omega)]; exact k1
  · rw [he _ (by omega)]; exact k2
  · obtain ⟨j1, j2, j3⟩ := k3 j hj
    rw [he _ (by omega), he _ (by omega), he _ (by omega)]
    exact ⟨j1, j2, j3⟩
