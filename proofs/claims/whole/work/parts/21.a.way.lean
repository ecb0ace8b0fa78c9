/-! what was walked and told: walk, count, undo, keep, back -/
theorem told_congr {c : Nat} {be so te be' so' te' : Nat → Int32} (h : ∀ i, i < c → be i = be' i ∧ so i = so' i ∧ te i = te' i) (x1 x2 : Int32) : a_told c be so te x1 x2 = a_told c be' so' te' x1 x2 := by
  unfold a_told
  by_cases q : 0 ≤ x1.toInt ∧ x1.toInt < c ∧ 0 ≤ x2.toInt ∧ x2.toInt ≤ 2
  · obtain ⟨h1, h2, h3⟩ := h x1.toInt.toNat (by omega)
    rw [if_pos q, if_pos q, h1, h2, h3]
  · rw [if_neg q, if_neg q]
/-- what a count tells, and 2 -/
def tl (d : Nat) : Int32 := nI d - 2
/-- a way: w stretches, c counts, behind which stretch, of which sort, what they told and 2 -/
def VW (S w c : Nat) (B Q D : Nat → Nat) : Prop := w ≤ S ∧ c ≤ 6 ∧ (∀ i, i < c → B i ≤ w ∧ Q i < 4 ∧ D i ≤ 3) ∧ (∀ i j, i ≤ j → j < c → B i ≤ B j)
def WA (c : Nat) (B Q D : Nat → Nat) (be so te : Nat → Int32) : Prop := ∀ i, i < c → be i = nI (B i) ∧ so i = nI (Q i) ∧ te i = tl (D i)
/-- the acts that can be undone, the latest one last -/
def UA (B : Nat → Nat) (un : Nat → Int32) : Nat → Nat → Nat → Prop
  | 0, _, _ => True
  | u + 1, w, c => (un u = nI 1 ∧ 0 < w ∧ ¬ (0 < c ∧ B (c - 1) = w) ∧ UA B un u (w - 1) c) ∨ (un u = nI 2 ∧ 0 < c ∧ B (c - 1) = w ∧ UA B un u w (c - 1))
theorem UA_congr {B B' : Nat → Nat} {un un' : Nat → Int32} : ∀ u w c, (∀ i, i < c → B' i = B i) → (∀ k, k < u → un' k = un k) → UA B un u w c → UA B' un' u w c := by
  intro u
  induction u with
  | zero => intro w c _ _ _; trivial
  | succ u ih =>
    intro w c hB hu h
    rcases h with ⟨h1, h2, h3, h4⟩ | ⟨h1, h2, h3, h4⟩
    · refine Or.inl ⟨by rw [hu u (by omega)]; exact h1, h2, fun q => h3 ⟨q.1, ?_⟩, ih (w - 1) c hB (fun k hk => hu k (by omega)) h4⟩
      rw [← hB (c - 1) (by omega)]; exact q.2
    · refine Or.inr ⟨by rw [hu u (by omega)]; exact h1, h2, by rw [hB (c - 1) (by omega)]; exact h3, ih w (c - 1) (fun i hi => hB i (by omega)) (fun k hk => hu k (by omega)) h4⟩
theorem UA_drop {B : Nat → Nat} {un un' : Nat → Int32} : ∀ u w c, (∀ k, k < u → un' k = un (k + 1)) → UA B un (u + 1) w c → UA B un' u w c := by
  intro u
  induction u with
  | zero => intro w c _ _; trivial
  | succ u ih =>
    intro w c hu h
    rcases h with ⟨h1, h2, h3, h4⟩ | ⟨h1, h2, h3, h4⟩
    · exact Or.inl ⟨by rw [hu u (by omega)]; exact h1, h2, h3, ih (w - 1) c (fun k hk => hu k (by omega)) h4⟩
    · exact Or.inr ⟨by rw [hu u (by omega)]; exact h1, h2, h3, ih w (c - 1) (fun k hk => hu k (by omega)) h4⟩
/-- an act more, the oldest of eight forgotten -/
def PU (un un' : Nat → Int32) (u a : Nat) : Prop := (u < 8 ∧ (∀ k, k < u → un' k = un k) ∧ un' u = nI a) ∨ (u = 8 ∧ (∀ k, k < 7 → un' k = un (k + 1)) ∧ un' 7 = nI a)
def u1 (u : Nat) : Nat := if u < 8 then u + 1 else 8
theorem UA_walk {B : Nat → Nat} {un un' : Nat → Int32} {u w c : Nat} (hB : ∀ i, i < c → B i ≤ w) (h : UA B un u w c) (hp : PU un un' u 1) : UA B un' (u1 u) (w + 1) c := by
  rcases hp with ⟨h8, hk, ha⟩ | ⟨rfl, hk, ha⟩
  · rw [u1, if_pos h8]
    exact Or.inl ⟨ha, by omega, fun q => by have := hB (c - 1) (by omega); omega, UA_congr u w c (fun _ _ => rfl) hk h⟩
  · exact Or.inl ⟨ha, by omega, fun q => by have := hB (c - 1) (by omega); omega, UA_drop 7 w c hk h⟩
theorem UA_count {B B' : Nat → Nat} {un un' : Nat → Int32} {u w c : Nat} (hB : ∀ i, i < c → B' i = B i) (hc : B' c = w) (h : UA B un u w c) (hp : PU un un' u 2) : UA B' un' (u1 u) w (c + 1) := by
  rcases hp with ⟨h8, hk, ha⟩ | ⟨rfl, hk, ha⟩
  · rw [u1, if_pos h8]
    exact Or.inr ⟨ha, by omega, hc, UA_congr u w c hB hk h⟩
  · exact Or.inr ⟨ha, by omega, hc, UA_congr 7 w c hB (fun _ _ => rfl) (UA_drop 7 w c hk h)⟩
theorem R_notesL (x1 z : Int32) (un : Nat → Int32) (Post : Int32 → (Nat → Int32) → Prop) (E : (Nat → Int32) → Prop) (hE : ∀ s', (∀ k, k < 7 → s' k = un (k + 1)) → E s') : ∀ m i s, i + m = 8 → 1 ≤ i → (∀ k, k + 1 < i → s k = un (k + 1)) → (∀ k, i ≤ k + 1 → s k = un k) → qv_X8_notes_L11 x1 z Post E (m + 1) (nI i) s := by
  intro m
  induction m with
  | zero =>
    intro i s hi h1 hs _
    have : i = 8 := by omega
    subst this
    exact pk_le 8 8 (fun _ => hE s (fun k hk => hs k (by omega))) (fun h => absurd h (by omega))
  | succ m ih =>
    intro i s hi h1 hs ho
    refine pk_le 8 i (fun h => absurd h (by omega)) (fun _ => ⟨vp_in_nI (by omega) (by first | decide | exact vd (by decide)), ?_⟩)
    rw [show nI i - (1 : Int32) = nI (i - 1) from pk_sub (b := 1) h1, nI_clamp (by omega), nI_clamp (by omega), nI_1]
    refine ⟨vp_in_nI (by omega) (by first | decide | exact vd (by decide)), ih (i + 1) _ (by omega) (by omega) (fun k hk => ?_) (fun k hk => ?_)⟩
    · unfold upd
      by_cases e : k = i - 1
      · rw [if_pos e, ho i (by omega), e]; congr 1; omega
      · rw [if_neg e]; exact hs k (by omega)
    · unfold upd
      rw [if_neg (by omega)]; exact ho k (by omega)
theorem R_notes {a u : Nat} {un : Nat → Int32} {Post : Int32 → (Nat → Int32) → Prop} (hu : u ≤ 8) (h : ∀ un', PU un un' u a → Post (nI (u1 u)) un') : qv_X8_notes (nI a) (nI u) un Post := by
  refine pk_eq u 8 (fun e => ⟨8, R_notesL _ _ un _ _ (fun s' hs => ⟨by first | decide | exact vd (by decide), ?_⟩) 7 1 un (by omega) (by omega) (fun k hk => absurd hk (by omega)) (fun k hk => rfl)⟩) (fun e => ⟨vp_in_nI (by omega) (by first | decide | exact vd (by decide)), ?_⟩)
  · rw [nI_1, nI_clamp (by omega)]
    have := h (upd un u (nI a)) (Or.inl ⟨by omega, fun k hk => pk_un (by omega), pk_us⟩)
    rw [u1, if_pos (by omega)] at this
    exact this
  · subst e
    rw [show (7 : Int32) + (1 : Int32) = nI (u1 8) by first | decide | exact vd (by decide)]
    refine h _ (Or.inr ⟨rfl, fun k hk => ?_, ?_⟩)
    · rw [pk_un (by show k ≠ 7; omega)]; exact hs k hk
    · exact pk_us
theorem u1_e {u : Nat} (hu : u ≤ 8) : (if (8 : Int32) < (nI u + (1 : Int32)) then (8 : Int32) else (nI u + (1 : Int32))) = nI (u1 u) := by
  rw [nI_1]
  by_cases e : u = 8
  · subst e; decide
  · rw [if_neg (by exact nI_nlt (a := 8) (b := u + 1) (by omega) (by first | decide | exact vd (by decide))), u1, if_pos (by omega)]
theorem C_walk {S w u : Nat} (hS : S ≤ 8) (hw : w ≤ S) (hu : u ≤ 8) {Post : Int32 → Int32 → Int32 → Prop} (f : w < S → Post (nI (w + 1)) (nI (w + 1)) (nI (u1 u))) (g : w = S → Post (-2) (nI w) (nI u)) : qv_X7_walk (nI S) (nI w) (nI u) Post := by
  refine pk_lt w S (fun h => ?_) (fun h => g (by omega))
  unfold qv_X6_addStretch
  rw [u1_e hu, nI_1]
  exact f h
theorem R_walk {S w u : Nat} {la un : Nat → Int32} (h0 : la ((0 : Int32).toNatClampNeg) = nI S) (hS : S ≤ 8) (hw : w ≤ S) (hu : u ≤ 8) {Post : Int32 → Int32 → Int32 → (Nat → Int32) → Prop} (f : w < S → ∀ un', PU un un' u 1 → Post (nI (w + 1)) (nI (w + 1)) (nI (u1 u)) un') (g : w = S → Post (-2) (nI w) (nI u) un) : qv_X8_walk (nI w) (nI u) la un Post := by
  refine ⟨by first | decide | exact vd (by decide), ?_⟩
  rw [h0]
  refine pk_eq w S (fun h => g h) (fun h => R_notes (a := 1) hu (fun un' hp => ?_))
  rw [nI_1]
  exact f (by omega) un' hp
def ok_c (x1 x2 : Int32) : Prop := 0 ≤ x1.toInt ∧ x1.toInt ≤ 3 ∧ -2 ≤ x2.toInt ∧ x2.toInt ≤ 1
theorem C_count {x1 x2 : Int32} {w c u : Nat} {be so te : Nat → Int32} (hc : c ≤ 6) (hu : u ≤ 8) {Post : Int32 → Int32 → Int32 → (Nat → Int32) → (Nat → Int32) → (Nat → Int32) → Prop} (f : ok_c x1 x2 → c < 6 → Post (nI (c + 1)) (nI (c + 1)) (nI (u1 u)) (upd be c (nI w)) (upd so c x1) (upd te c x2)) (g : ok_c x1 x2 → c = 6 → Post (-3) (nI c) (nI u) be so te) (b : ¬ ok_c x1 x2 → Post (-1) (nI c) (nI u) be so te) : qv_X7_count x1 x2 (nI w) (nI c) (nI u) be so te Post := by
  refine C_isSort (fun q1 q2 => t1 (bl x2.toInt (-2) rfl rfl (fun q => b (by unfold ok_c; omega)) (fun q3 => b_le x2.toInt 1 rfl rfl (fun q4 => ?_) (fun q => b (by unfold ok_c; omega))))) (fun q => t0 (b (by unfold ok_c; omega)))
  refine pk_lt c 6 (fun h => ⟨vp_in_nI h (by first | decide | exact vd (by decide)), vp_in_nI h (by first | decide | exact vd (by decide)), vp_in_nI h (by first | decide | exact vd (by decide)), ?_⟩) (fun h => g ⟨q1, q2, q3, q4⟩ (by omega))
  rw [u1_e hu, nI_1, nI_clamp (by omega)]
  exact f ⟨q1, q2, q3, q4⟩ h
theorem R_count {x1 x2 : Int32} {w c u : Nat} {be so te un : Nat → Int32} (hc : c ≤ 6) (hu : u ≤ 8) {Post : Int32 → Int32 → Int32 → (Nat → Int32) → (Nat → Int32) → (Nat → Int32) → (Nat → Int32) → Prop} (f : ok_c x1 x2 → c < 6 → ∀ un', PU un un' u 2 → Post (nI (c + 1)) (nI (c + 1)) (nI (u1 u)) (upd be c (nI w)) (upd so c x1) (upd te c x2) un') (g : ok_c x1 x2 → c = 6 → Post (-3) (nI c) (nI u) be so te un) (b : ¬ ok_c x1 x2 → Post (-1) (nI c) (nI u) be so te un) : qv_X8_count x1 x2 (nI w) (nI c) (nI u) be so te un Post := by
  refine R_inI 0 3 rfl rfl (fun q1 q2 => t1 (R_inI (-2) 1 rfl rfl (fun q3 q4 => t1 ?_) (fun q => t0 (b (by unfold ok_c; omega))))) (fun q => t0 (b (by unfold ok_c; omega)))
  refine pk_eq c 6 (fun h => g ⟨q1, q2, q3, q4⟩ h) (fun h => ⟨vp_in_nI (by omega) (by first | decide | exact vd (by decide)), vp_in_nI (by omega) (by first | decide | exact vd (by decide)), vp_in_nI (by omega) (by first | decide | exact vd (by decide)), R_notes (a := 2) hu (fun un' hp => ?_)⟩)
  rw [nI_1, nI_clamp (by omega)]
  exact f ⟨q1, q2, q3, q4⟩ (by omega) un' hp
theorem ok_c_tl {x1 x2 : Int32} (h : ok_c x1 x2) : ∃ q d : Nat, q < 4 ∧ d ≤ 3 ∧ x1 = nI q ∧ x2 = tl d := by
  obtain ⟨h1, h2, h3, h4⟩ := h
  obtain ⟨q, hq, e, _⟩ := nI_of3 (x := x1) (n := 4) (by first | decide | exact vd (by decide)) (by omega) (by omega)
  rcases (show x2.toInt = -2 ∨ x2.toInt = -1 ∨ x2.toInt = 0 ∨ x2.toInt = 1 by omega) with h | h | h | h
  · exact ⟨q, 0, hq, by first | decide | exact vd (by decide), e, i32_eq.mpr (h.trans (by first | decide | exact vd (by decide)))⟩
  · exact ⟨q, 1, hq, by first | decide | exact vd (by decide), e, i32_eq.mpr (h.trans (by first | decide | exact vd (by decide)))⟩
  · exact ⟨q, 2, hq, by first | decide | exact vd (by decide), e, i32_eq.mpr (h.trans (by first | decide | exact vd (by decide)))⟩
  · exact ⟨q, 3, hq, by first | decide | exact vd (by decide), e, i32_eq.mpr (h.trans (by first | decide | exact vd (by decide)))⟩
/-! undo -/
theorem C_undo {B Q D : Nat → Nat} {S w c u : Nat} {be so te : Nat → Int32} (hS : S ≤ 8) (hV : VW S w c B Q D) (hW : WA c B Q D be so te) {un : Nat → Int32} (hu : u ≤ 8) (hU : UA B un u w c) {Post : Int32 → Int32 → Int32 → Int32 → Prop} (z : u = 0 → Post (-2) (nI w) (nI c) (nI u)) (f : ∀ v, u = v + 1 → un v = nI 1 → 0 < w → ¬ (0 < c ∧ B (c - 1) = w) → UA B un v (w - 1) c → Post (nI v) (nI (w - 1)) (nI c) (nI v)) (g : ∀ v, u = v + 1 → un v = nI 2 → 0 < c → B (c - 1) = w → UA B un v w (c - 1) → Post (nI v) (nI w) (nI (c - 1)) (nI v)) : qv_X7_undo (nI w) (nI c) (nI u) be Post := by
  obtain ⟨v1, v2, v3, v4⟩ := hV
  refine pk_lt 0 u (fun h => ?_) (fun h => z (by omega))
  obtain ⟨v, rfl⟩ : ∃ v, u = v + 1 := ⟨u - 1, by omega⟩
  have ev : nI (v + 1) - (1 : Int32) = nI v := nI_pred v
  rcases hU with ⟨h1, h2, h3, h4⟩ | ⟨h1, h2, h3, h4⟩
  · have j38 : qv_X6_takeBack_J38 (nI w) (nI c) (nI (v + 1)) be (fun a b d => Post d a b d) := by
      refine pk_le w 0 (fun q => absurd q (by omega)) (fun q => ?_)
      unfold qv_X6_takeBack_J55
      rw [ev, show nI w - (1 : Int32) = nI (w - 1) from pk_sub (b := 1) h2]
      exact f v rfl h1 h2 h3 h4
    refine pk_le c 0 (fun q => j38) (fun q => ?_)
    rw [show nI c - (1 : Int32) = nI (c - 1) from pk_sub (b := 1) (by omega), nI_clamp (by omega), (hW (c - 1) (by omega)).1]
    exact ⟨vp_in_nI (by omega) (by first | decide | exact vd (by decide)), pk_eq (B (c - 1)) w (fun e => absurd ⟨q, e⟩ h3) (fun _ => j38) rfl rfl (by have := (v3 (c - 1) (by omega)).1; omega)⟩
  · refine pk_le c 0 (fun q => absurd q (by omega)) (fun q => ?_)
    rw [show nI c - (1 : Int32) = nI (c - 1) from pk_sub (b := 1) (by omega), nI_clamp (by omega), (hW (c - 1) (by omega)).1]
    refine ⟨vp_in_nI (by omega) (by first | decide | exact vd (by decide)), pk_eq (B (c - 1)) w (fun e => ?_) (fun e => absurd h3 e) rfl rfl (by have := (v3 (c - 1) (by omega)).1; omega)⟩
    unfold qv_X6_takeBack_J55
    rw [ev]
    exact g v rfl h1 h2 h3 h4
theorem R_undo {B : Nat → Nat} {w c u : Nat} {un : Nat → Int32} (hu : u ≤ 8) (hU : UA B un u w c) {Post : Int32 → Int32 → Int32 → Int32 → Prop} (z : u = 0 → Post (-2) (nI w) (nI c) (nI u)) (f : ∀ v, u = v + 1 → un v = nI 1 → 0 < w → ¬ (0 < c ∧ B (c - 1) = w) → UA B un v (w - 1) c → Post (nI v) (nI (w - 1)) (nI c) (nI v)) (g : ∀ v, u = v + 1 → un v = nI 2 → 0 < c → B (c - 1) = w → UA B un v w (c - 1) → Post (nI v) (nI w) (nI (c - 1)) (nI v)) : qv_X8_undo (nI w) (nI c) (nI u) un Post := by
  refine pk_eq u 0 (fun h => z h) (fun h => ?_)
  obtain ⟨v, rfl⟩ : ∃ v, u = v + 1 := ⟨u - 1, by omega⟩
  have ev : nI (v + 1) - (1 : Int32) = nI v := nI_pred v
  rw [ev, nI_clamp (by omega)]
  refine ⟨vp_in_nI (by omega) (by first | decide | exact vd (by decide)), ?_⟩
  have hv : vp_in (nI v) 8 := vp_in_nI (by omega) (by first | decide | exact vd (by decide))
  unfold qv_X8_undo_J43
  rw [nI_clamp (by omega)]
  have s0 : ∀ n : Nat, nI n - (0 : Int32) = nI n := fun n => pk_sub (b := 0) (by omega)
  rcases hU with ⟨h1, h2, h3, h4⟩ | ⟨h1, h2, h3, h4⟩
  · rw [h1]
    refine br_t rfl ⟨hv, br_f (by first | decide | exact vd (by decide)) ?_⟩
    rw [s0, show nI w - (1 : Int32) = nI (w - 1) from pk_sub (b := 1) h2]
    exact f v rfl h1 h2 h3 h4
  · rw [h1]
    refine br_f (by first | decide | exact vd (by decide)) ⟨hv, br_t rfl ?_⟩
    rw [s0, show nI c - (1 : Int32) = nI (c - 1) from pk_sub (b := 1) h2]
    exact g v rfl h1 h2 h3 h4
/-! keep, back -/
theorem C_become {a1 a2 a3 pw pc pu : Int32} {b s t pb ps pt : Nat → Int32} {Post : Int32 → Int32 → Int32 → (Nat → Int32) → (Nat → Int32) → (Nat → Int32) → Prop} (h : ∀ b' s' t', (∀ j, j < 6 → b' j = pb j ∧ s' j = ps j ∧ t' j = pt j) → Post pw pc pu b' s' t') : qv_X6_become a1 a2 a3 pw pc pu b s t pb ps pt Post := by
  have L : ∀ m i b s t, i + m = 6 → (∀ j, j < i → b j = pb j ∧ s j = ps j ∧ t j = pt j) → qv_X6_become_L26 pw pc pu pw pc pu pb ps pt Post (fun x y z => Post pw pc pu x y z) (m + 1) (nI i) b s t := by
    intro m
    induction m with
    | zero =>
      intro i b s t hi hh
      have : i = 6 := by omega
      subst this
      exact pk_le 6 6 (fun _ => h b s t hh) (fun h => absurd h (by omega))
    | succ m ih =>
      intro i b s t hi hh
      have v : vp_in (nI i) 6 := vp_in_nI (by omega) (by first | decide | exact vd (by decide))
      refine pk_le 6 i (fun h => absurd h (by omega)) (fun _ => ⟨v, v, v, v, v, v, ?_⟩)
      rw [nI_clamp (by omega), nI_1]
      refine ih (i + 1) _ _ _ (by omega) (fun j hj => ?_)
      by_cases e : j = i
      · subst e; rw [pk_us, pk_us, pk_us]; exact ⟨rfl, rfl, rfl⟩
      · rw [pk_un e, pk_un e, pk_un e]; exact hh j (by omega)
  exact ⟨7, L 6 0 b s t (by omega) (fun j hj => absurd hj (by omega))⟩
def KE (ke : Nat → Int32) (i : Nat) (w c : Int32) (b s t : Nat → Int32) : Prop := ke (20 * i) = w ∧ ke (20 * i + 1) = c ∧ ∀ j, j < 6 → ke (20 * i + 2 + j) = b j ∧ ke (20 * i + 8 + j) = s j ∧ ke (20 * i + 14 + j) = t j
theorem R_keep {kp : Nat} {w c : Int32} {b s t ke : Nat → Int32} (hk : kp ≤ 2) {Post : Int32 → Int32 → (Nat → Int32) → Prop} (g : kp = 2 → Post (-3) (nI kp) ke) (f : kp < 2 → ∀ ke', KE ke' kp w c b s t → (∀ q, q < 20 * kp → ke' q = ke q) → Post (nI (kp + 1)) (nI (kp + 1)) ke') : qv_X8_keep w c (nI kp) b s t ke Post := by
  refine pk_eq kp 2 g (fun h => ?_)
  have e20 : (20 : Int32) * nI kp = nI (20 * kp) := by rw [li_20, pk_mul]
  rw [e20, nI_1, nI_1, nI_clamp (by omega), nI_clamp (by omega)]
  refine ⟨vp_in_nI (by omega) (by first | decide | exact vd (by decide)), vp_in_nI (by omega) (by first | decide | exact vd (by decide)), ?_⟩
  have L : ∀ m i k, i + m = 6 → k (20 * kp) = w → k (20 * kp + 1) = c → (∀ j, j < i → k (20 * kp + 2 + j) = b j ∧ k (20 * kp + 8 + j) = s j ∧ k (20 * kp + 14 + j) = t j) → (∀ q, q < 20 * kp → k q = ke q) → qv_X8_keep_L43 (nI (20 * kp)) w c (nI kp) b s t Post (fun k' => Post (nI (kp + 1)) (nI (kp + 1)) k') (m + 1) (nI i) k := by
    intro m
    induction m with
    | zero =>
      intro i k hi h1 h2 h3 h4
      have : i = 6 := by omega
      subst this
      exact pk_le 6 6 (fun _ => f (by omega) k ⟨h1, h2, h3⟩ h4) (fun h => absurd h (by omega))
    | succ m ih =>
      intro i k hi h1 h2 h3 h4
      have v : vp_in (nI i) 6 := vp_in_nI (by omega) (by first | decide | exact vd (by decide))
      have a2 : nI (20 * kp) + (2 : Int32) + nI i = nI (20 * kp + 2 + i) := by rw [li_2, nI_add, nI_add]
      have a8 : nI (20 * kp) + (8 : Int32) + nI i = nI (20 * kp + 8 + i) := by rw [li_8, nI_add, nI_add]
      have a14 : nI (20 * kp) + (14 : Int32) + nI i = nI (20 * kp + 14 + i) := by rw [show (14 : Int32) = nI 14 from rfl, nI_add, nI_add]
      refine pk_le 6 i (fun h => absurd h (by omega)) (fun _ => ?_)
      rw [a2, a8, a14, nI_1, nI_clamp (by omega), nI_clamp (by omega), nI_clamp (by omega), nI_clamp (by omega)]
      refine ⟨v, vp_in_nI (by omega) (by first | decide | exact vd (by decide)), v, vp_in_nI (by omega) (by first | decide | exact vd (by decide)), v, vp_in_nI (by omega) (by first | decide | exact vd (by decide)), ?_⟩
      refine ih (i + 1) _ (by omega) ?_ ?_ (fun j hj => ?_) (fun q hq => ?_)
      · rw [pk_un (by omega), pk_un (by omega), pk_un (by omega)]; exact h1
      · rw [pk_un (by omega), pk_un (by omega), pk_un (by omega)]; exact h2
      · refine ⟨?_, ?_, ?_⟩
        · rw [pk_un (by omega), pk_un (by omega)]
          by_cases e : j = i
          · subst e; exact pk_us
          · rw [pk_un (by omega)]; exact (h3 j (by omega)).1
        · rw [pk_un (by omega)]
          by_cases e : j = i
          · subst e; exact pk_us
          · rw [pk_un (by omega), pk_un (by omega)]; exact (h3 j (by omega)).2.1
        · by_cases e : j = i
          · subst e; exact pk_us
          · rw [pk_un (by omega), pk_un (by omega), pk_un (by omega)]; exact (h3 j (by omega)).2.2
      · rw [pk_un (by omega), pk_un (by omega), pk_un (by omega)]; exact h4 q hq
  refine ⟨7, L 6 0 _ (by omega) ?_ ?_ (fun j hj => absurd hj (by omega)) (fun q hq => ?_)⟩
  · rw [pk_un (by omega)]; exact pk_us
  · exact pk_us
  · rw [pk_un (by omega), pk_un (by omega)]
theorem R_back {kp : Nat} {w c u w' c' : Int32} {b s t b' s' t' ke : Nat → Int32} (hk : kp ≤ 2) {Post : Int32 → Int32 → Int32 → Int32 → Int32 → (Nat → Int32) → (Nat → Int32) → (Nat → Int32) → Prop} (g : kp = 0 → Post (-2) w c u (nI kp) b s t) (hke : 0 < kp → KE ke (kp - 1) w' c' b' s' t') (f : 0 < kp → ∀ x y z, (∀ j, j < 6 → x j = b' j ∧ y j = s' j ∧ z j = t' j) → Post (nI (kp - 1)) w' c' (0 : Int32) (nI (kp - 1)) x y z) : qv_X8_back w c u (nI kp) b s t ke Post := by
  refine pk_eq kp 0 g (fun h => ?_)
  obtain ⟨k1, k2, k3⟩ := hke (by omega)
  have e1 : nI kp - (1 : Int32) = nI (kp - 1) := pk_sub (b := 1) (by omega)
  have e20 : (20 : Int32) * nI (kp - 1) = nI (20 * (kp - 1)) := by rw [li_20, pk_mul]
  rw [e1, e20, nI_1, nI_clamp (by omega), nI_clamp (by omega), k1, k2]
  refine ⟨vp_in_nI (by omega) (by first | decide | exact vd (by decide)), vp_in_nI (by omega) (by first | decide | exact vd (by decide)), ?_⟩
  have L : ∀ m i x y z, i + m = 6 → (∀ j, j < i → x j = b' j ∧ y j = s' j ∧ z j = t' j) → qv_X8_back_L52 (nI (20 * (kp - 1))) w' c' u (nI (kp - 1)) ke Post (fun x y z => Post (nI (kp - 1)) w' c' (0 : Int32) (nI (kp - 1)) x y z) (m + 1) (nI i) x y z := by
    intro m
    induction m with
    | zero =>
      intro i x y z hi hh
      have : i = 6 := by omega
      subst this
      exact pk_le 6 6 (fun _ => f (by omega) x y z hh) (fun h => absurd h (by omega))
    | succ m ih =>
      intro i x y z hi hh
      have v : vp_in (nI i) 6 := vp_in_nI (by omega) (by first | decide | exact vd (by decide))
      have a2 : nI (20 * (kp - 1)) + (2 : Int32) + nI i = nI (20 * (kp - 1) + 2 + i) := by rw [li_2, nI_add, nI_add]
      have a8 : nI (20 * (kp - 1)) + (8 : Int32) + nI i = nI (20 * (kp - 1) + 8 + i) := by rw [li_8, nI_add, nI_add]
      have a14 : nI (20 * (kp - 1)) + (14 : Int32) + nI i = nI (20 * (kp - 1) + 14 + i) := by rw [show (14 : Int32) = nI 14 from rfl, nI_add, nI_add]
      refine pk_le 6 i (fun h => absurd h (by omega)) (fun _ => ?_)
      obtain ⟨j1, j2, j3⟩ := k3 i (by omega)
      rw [a2, a8, a14, nI_1, nI_clamp (by omega), nI_clamp (by omega), nI_clamp (by omega), nI_clamp (by omega), j1, j2, j3]
      refine ⟨vp_in_nI (by omega) (by first | decide | exact vd (by decide)), v, vp_in_nI (by omega) (by first | decide | exact vd (by decide)), v, vp_in_nI (by omega) (by first | decide | exact vd (by decide)), v, ?_⟩
      refine ih (i + 1) _ _ _ (by omega) (fun j hj => ?_)
      by_cases e : j = i
      · subst e; rw [pk_us, pk_us, pk_us]; exact ⟨rfl, rfl, rfl⟩
      · rw [pk_un e, pk_un e, pk_un e]; exact hh j (by omega)
  exact ⟨7, L 6 0 b s t (by omega) (fun j hj => absurd hj (by omega))⟩
