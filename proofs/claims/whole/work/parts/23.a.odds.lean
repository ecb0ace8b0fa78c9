/-! chances of states: the class's whole numbers, the reference's, lessened -/
def tot (P : Nat → Nat) : Nat := sm P 0 9
theorem tot_e (P : Nat → Nat) : tot P = P 0 + sm P 1 8 := rfl
/-- by how many of ten a count of sort q tells d (and 2), r: 0 all are there, 1 one is missing -/
def bt (A : Nat → Nat) (q d r : Nat) : Nat := if q = 0 then (if d + r = 2 then 10 - 2 * A 29 else if d + r = 1 ∨ d + r = 3 then A 29 else 0) else if q = 1 ∨ r = 0 then (if d + r = 2 then 10 else 0) else (if d = 1 then 10 - A (29 + 2 * q) else if d = 2 then A (29 + 2 * q) else 0)
def rt (r : Nat) : Int32 := if r = 0 then 0 else -1
theorem bt_le {A : Nat → Nat} (hA : OKL A) {q d r : Nat} (hq : q < 4) : bt A q d r ≤ 10 := by
  have h0 := (hA.2.2.2.1 0 (by first | decide | exact vd (by decide))).1
  have h1 := (hA.2.2.2.1 q hq).1
  have h0' : A 29 ≤ 5 := h0
  unfold bt
  repeat' split
  all_goals omega
theorem sl_e {s : Nat} (h : s ≤ 5) : (10 : Int32) - (2 : Int32) * nI s = nI (10 - 2 * s) ∧ (10 : Int32) - nI s = nI (10 - s) := by
  rcases (show s = 0 ∨ s = 1 ∨ s = 2 ∨ s = 3 ∨ s = 4 ∨ s = 5 by omega) with rfl | rfl | rfl | rfl | rfl | rfl <;> decide
theorem C_byTen {A : Nat → Nat} (hA : OKL A) {q d r : Nat} (hq : q < 4) (hd : d ≤ 3) (hr : r ≤ 1) {Post : Int32 → Prop} (h : Post (nI (bt A q d r))) : qv_X7_byTen (nI q) (nI (A (29 + 2 * q))) (rt r) (tl d) Post := by
  obtain ⟨e1, e2⟩ := sl_e (hA.2.2.2.1 q hq).1
  have e3 : (10 : Int32) - (0 : Int32) = nI 10 := by first | decide | exact vd (by decide)
  unfold qv_X7_byTen qv_X7_byTen_J51
  rw [e1, e2, e3]
  rcases (show q = 0 ∨ q = 1 ∨ q = 2 ∨ q = 3 by omega) with rfl | rfl | rfl | rfl <;> rcases (show d = 0 ∨ d = 1 ∨ d = 2 ∨ d = 3 by omega) with rfl | rfl | rfl | rfl <;> rcases (show r = 0 ∨ r = 1 by omega) with rfl | rfl
  all_goals (repeat (first | refine br_t (by first | decide | exact vd (by decide)) ?_ | refine br_f (by first | decide | exact vd (by decide)) ?_))
  all_goals exact h
theorem R_tellsBy {A : Nat → Nat} {la : Nat → Int32} (hA : OKL A) (hR : RLd A la) {q d r : Nat} (hq : q < 4) (hd : d ≤ 3) (hr : r ≤ 1) {Post : Int32 → Prop} (h : Post (nI (bt A q d r))) : qv_X8_tellsBy (nI q) (tl d) (rt r) la Post := by
  obtain ⟨e1, e2⟩ := sl_e (hA.2.2.2.1 q hq).1
  have ei : (29 : Int32) + (2 : Int32) * nI q = nI (29 + 2 * q) := by rw [li_29, li_2, pk_mul, nI_add]
  unfold qv_X8_tellsBy qv_X8_tellsBy_J62
  rw [ei, nI_clamp (by omega), hR _ (by omega), e1, e2]
  refine ⟨vp_in_nI (by omega) (by first | decide | exact vd (by decide)), ?_⟩
  rcases (show q = 0 ∨ q = 1 ∨ q = 2 ∨ q = 3 by omega) with rfl | rfl | rfl | rfl <;> rcases (show d = 0 ∨ d = 1 ∨ d = 2 ∨ d = 3 by omega) with rfl | rfl | rfl | rfl <;> rcases (show r = 0 ∨ r = 1 by omega) with rfl | rfl
  all_goals (repeat (first | refine br_t (by first | decide | exact vd (by decide)) ?_ | refine br_f (by first | decide | exact vd (by decide)) ?_))
  all_goals exact h
/-- a stretch is walked, a count is told -/
def wlk (A : Nat → Nat) (k : Nat) (P : Nat → Nat) : Nat → Nat := fun s => if s = 0 then P 0 * (10 - A (3 + 3 * k)) + sm P 1 8 * A (4 + 3 * k) else P s * (10 - A (4 + 3 * k)) + (if s = k then P 0 * A (3 + 3 * k) else 0)
def wgh (A : Nat → Nat) (q d : Nat) (P : Nat → Nat) : Nat → Nat := fun s => P s * bt A q d (if s = 0 then 0 else 1)
theorem sm_congr {f g : Nat → Nat} : ∀ n a, (∀ i, a ≤ i → i < a + n → f i = g i) → sm f a n = sm g a n := by
  intro n
  induction n with
  | zero => intro a h; rfl
  | succ n ih => intro a h; rw [sm, sm, h a (by omega) (by omega), ih (a + 1) (fun i h1 h2 => h i (by omega) (by omega))]
theorem sm_addf (f g : Nat → Nat) : ∀ n a, sm (fun i => f i + g i) a n = sm f a n + sm g a n := by
  intro n
  induction n with
  | zero => intro a; rfl
  | succ n ih => intro a; rw [sm, sm, sm, ih (a + 1)]; omega
theorem sm_mulr (f : Nat → Nat) (m : Nat) : ∀ n a, sm (fun i => f i * m) a n = sm f a n * m := by
  intro n
  induction n with
  | zero => intro a; simp [sm]
  | succ n ih => intro a; rw [sm, sm, ih (a + 1), Nat.add_mul]
theorem sm_one (k x : Nat) : ∀ n a, sm (fun i => if i = k then x else 0) a n = if a ≤ k ∧ k < a + n then x else 0 := by
  intro n
  induction n with
  | zero => intro a; rw [sm, if_neg (by omega)]
  | succ n ih =>
    intro a
    rw [sm, ih (a + 1)]
    by_cases e : a = k
    · subst e; rw [if_pos rfl, if_neg (by omega), if_pos (by omega), Nat.add_zero]
    · rw [if_neg e, Nat.zero_add]
      by_cases q : a + 1 ≤ k ∧ k < a + 1 + n
      · rw [if_pos q, if_pos (by omega)]
      · rw [if_neg q, if_neg (by omega)]
theorem wlk_away {A P : Nat → Nat} {k : Nat} (hk : 1 ≤ k ∧ k ≤ 8) : sm (wlk A k P) 1 8 = sm P 1 8 * (10 - A (4 + 3 * k)) + P 0 * A (3 + 3 * k) := by
  rw [sm_congr (g := fun s => P s * (10 - A (4 + 3 * k)) + (if s = k then P 0 * A (3 + 3 * k) else 0)) 8 1 (fun i h1 h2 => by rw [wlk, if_neg (by omega)]), sm_addf, sm_mulr, sm_one, if_pos (by omega)]
theorem wlk_tot {A P : Nat → Nat} (hA : OKL A) {k : Nat} (hk : 1 ≤ k ∧ k ≤ 8) (hk2 : k ≤ A 0) : tot (wlk A k P) = 10 * tot P := by
  obtain ⟨_, _, h1, h2⟩ := hA.2.2.1 k hk.1 hk2
  rw [tot_e, tot_e, wlk_away hk]
  have e : wlk A k P 0 = P 0 * (10 - A (3 + 3 * k)) + sm P 1 8 * A (4 + 3 * k) := rfl
  rw [e]
  have a1 : P 0 * (10 - A (3 + 3 * k)) + P 0 * A (3 + 3 * k) = P 0 * 10 := by rw [← Nat.mul_add]; congr 1; omega
  have a2 : sm P 1 8 * A (4 + 3 * k) + sm P 1 8 * (10 - A (4 + 3 * k)) = sm P 1 8 * 10 := by rw [← Nat.mul_add]; congr 1; omega
  omega
theorem wgh_tot {A P : Nat → Nat} (hA : OKL A) {q d : Nat} (hq : q < 4) : tot (wgh A q d P) ≤ 10 * tot P := by
  rw [tot_e, tot_e]
  have e1 : sm (wgh A q d P) 1 8 = sm P 1 8 * bt A q d 1 := by
    rw [← sm_mulr]
    exact sm_congr 8 1 (fun i h1 h2 => by rw [wgh, if_neg (by omega)])
  have e0 : wgh A q d P 0 = P 0 * bt A q d 0 := rfl
  rw [e1, e0]
  have a1 := Nat.mul_le_mul_left (P 0) (bt_le hA (d := d) (r := 0) hq)
  have a2 := Nat.mul_le_mul_left (sm P 1 8) (bt_le hA (d := d) (r := 1) hq)
  omega
theorem tot_ge (P : Nat → Nat) {s : Nat} (hs : s < 9) : P s ≤ tot P := sm_ge P 9 0 s (by omega) (by omega)
theorem wlk_mul {A P P' : Nat → Nat} {G k : Nat} (h : ∀ s, s < 9 → P s = G * P' s) : ∀ s, s < 9 → wlk A k P s = G * wlk A k P' s := by
  intro s hs
  have e : sm P 1 8 = G * sm P' 1 8 := sm_mul P P' G 8 1 (fun i h1 h2 => h i (by omega))
  unfold wlk
  split
  · rw [h 0 (by first | decide | exact vd (by decide)), e, Nat.mul_add, Nat.mul_assoc, Nat.mul_assoc]
  · rw [h s hs, h 0 (by first | decide | exact vd (by decide)), Nat.mul_add, Nat.mul_assoc]
    split
    · rw [Nat.mul_assoc]
    · simp
theorem wgh_mul {A P P' : Nat → Nat} {G q d : Nat} (h : ∀ s, s < 9 → P s = G * P' s) : ∀ s, s < 9 → wgh A q d P s = G * wgh A q d P' s := by
  intro s hs
  unfold wgh
  rw [h s hs, Nat.mul_assoc]
theorem tot_mul {P P' : Nat → Nat} {G : Nat} (h : ∀ s, s < 9 → P s = G * P' s) : tot P = G * tot P' := sm_mul P P' G 9 0 (fun i h1 h2 => h i (by omega))
/-! the run: stretches and counts in their order -/
def runF (A : Nat → Nat) (w m : Nat) (B Q D : Nat → Nat) : Nat → Nat → Nat → (Nat → Nat) → Option Nat → (Nat → Nat) × Option Nat
  | 0, _, _, P, j => (P, j)
  | f + 1, k, c, P, j => if c < m ∧ B c ≤ k then runF A w m B Q D f k (c + 1) (wgh A (Q c) (D c) P) (if j = none ∧ tot (wgh A (Q c) (D c) P) = 0 then some c else j) else runF A w m B Q D f (k + 1) c (wlk A (k + 1) P) j
def jI : Option Nat → Int32
  | none => -4
  | some c => nI c
def P0 : Nat → Nat := fun s => if s = 0 then 1 else 0
def CO (o : Nat → Int64) (P : Nat → Nat) : Prop := ∀ s, s < 9 → o s = lN (P s)
/-- the class's chances behind k stretches -/
def CS (k : Nat) (P : Nat → Nat) (aw al : Int64) (o : Nat → Int64) : Prop := aw = lN (sm P 1 8) ∧ al = lN (tot P) ∧ CO o P ∧ (∀ s, k < s → s < 9 → P s = 0)
theorem C_addUp {o : Nat → Int64} {P : Nat → Nat} (h : CO o P) {aw al : Int64} {Post : Int64 → Int64 → Prop} (k : Post (lN (sm P 1 8)) (lN (tot P))) : qv_X0_addUp aw al o Post := by
  have L : ∀ n i s, i + n = 9 → 1 ≤ i → s + sm P i n = sm P 1 8 → qv_X0_addUp_L7 al o Post (fun z => vp_in (0 : Int32) 9 ∧ (Post z (o (0 : Int32).toNatClampNeg + z))) (n + 1) (nI i) (lN s) := by
    intro n
    induction n with
    | zero =>
      intro i s hi h1 hs
      refine pk_lt 8 i (fun _ => ⟨by first | decide | exact vd (by decide), ?_⟩) (fun q => absurd q (by omega))
      have e : o (0 : Int32).toNatClampNeg = lN (P 0) := h 0 (by first | decide | exact vd (by decide))
      rw [sm, Nat.add_zero] at hs
      rw [e, hs, lN_add]
      exact k
    | succ n ih =>
      intro i s hi h1 hs
      refine pk_lt 8 i (fun q => absurd q (by omega)) (fun _ => ⟨vp_in_nI (by omega) (by first | decide | exact vd (by decide)), ?_⟩)
      rw [nI_clamp (by omega), h i (by omega), lN_add, nI_1]
      refine ih (i + 1) (s + P i) (by omega) (by omega) ?_
      rw [sm] at hs
      omega
  exact ⟨9, L 8 1 0 (by omega) (by omega) (by omega)⟩
theorem C_begin {aw al : Int64} {o : Nat → Int64} {Post : Int64 → Int64 → (Nat → Int64) → Prop} (h : ∀ o', CS 0 P0 (lN (sm P0 1 8)) (lN (tot P0)) o' → Post (lN (sm P0 1 8)) (lN (tot P0)) o') : qv_X0_begin aw al o Post := by
  have L : ∀ n i o, i + n = 9 → (∀ s, s < i → o s = lN 0) → qv_X0_begin_L2 aw al Post (fun z_of_3 => vp_in (0 : Int32) 9 ∧ (qv_X0_addUp aw al (vp_updL z_of_3 (0 : Int32).toNatClampNeg (1 : Int64)) (fun z_away_5 z_all_5 => Post z_away_5 z_all_5 (vp_updL z_of_3 (0 : Int32).toNatClampNeg (1 : Int64))))) (n + 1) (nI i) o := by
    intro n
    induction n with
    | zero =>
      intro i o hi ho
      refine pk_lt 8 i (fun _ => ⟨by first | decide | exact vd (by decide), ?_⟩) (fun q => absurd q (by omega))
      have hc : CO (vp_updL o (0 : Int32).toNatClampNeg (1 : Int64)) P0 := by
        intro s hs
        by_cases e : s = 0
        · subst e; rfl
        · rw [show (0 : Int32).toNatClampNeg = 0 from rfl, pk_uLn e, ho s (by omega), P0, if_neg e]
      refine C_addUp hc (h _ ⟨rfl, rfl, hc, fun s h1 h2 => by rw [P0, if_neg (by omega)]⟩)
    | succ n ih =>
      intro i o hi ho
      refine pk_lt 8 i (fun q => absurd q (by omega)) (fun _ => ⟨vp_in_nI (by omega) (by first | decide | exact vd (by decide)), ?_⟩)
      rw [nI_clamp (by omega), nI_1]
      refine ih (i + 1) _ (by omega) (fun s hs => ?_)
      by_cases e : s = i
      · subst e; exact pk_uLs
      · rw [pk_uLn e]; exact ho s (by omega)
  exact ⟨10, L 9 0 o (by omega) (fun s hs => absurd hs (by omega))⟩
def wlkN (A : Nat → Nat) : Nat → Nat → (Nat → Nat) → Nat → Nat
  | 0, _, P => P
  | n + 1, k, P => wlkN A n (k + 1) (wlk A (k + 1) P)
theorem r10 {r : Nat} (h : r ≤ 10) : ((10 : Int32) - nI r).toInt64 = lN (10 - r) ∧ (nI r).toInt64 = lN r := by
  rw [show (10 : Int32) - nI r = nI (10 - r) from pk_sub (a := 10) h]
  exact ⟨nI_l (by omega), nI_l (by omega)⟩
section OD
variable {A : Nat → Nat} {st cO cB fB fd : Int32} {mi lo ba sl ta : Nat → Int32} {ti : Nat → Nat → Int32} {la : Nat → Int32}
theorem C_goToL (hA : OKL A) (hlo : ∀ k, 1 ≤ k → k ≤ A 0 → lo k = nI (A (3 + 3 * k)) ∧ ba k = nI (A (4 + 3 * k))) {t : Nat} (ht : t ≤ A 0) (Post E : Int64 → Int64 → (Nat → Int64) → Prop) : ∀ n k P aw al o, k + n = t → CS k P aw al o → (∀ aw' al' o', CS t (wlkN A n k P) aw' al' o' → E aw' al' o') → qv_X0_goTo_L5 (nI t) lo ba Post E (n + 1) (nI (k + 1)) aw al o := by
  have hA0 := hA.1.1
  intro n
  induction n with
  | zero =>
    intro k P aw al o hk hc hE
    have : k = t := by omega
    subst this
    exact pk_lt k (k + 1) (fun _ => hE _ _ _ hc) (fun q => absurd q (by omega))
  | succ n ih =>
    intro k P aw al o hk hc hE
    obtain ⟨rfl, rfl, hco, hz⟩ := hc
    obtain ⟨l1, l2⟩ := hlo (k + 1) (by omega) (by omega)
    obtain ⟨_, _, b1, b2⟩ := hA.2.2.1 (k + 1) (by omega) (by omega)
    have vk : vp_in (nI (k + 1)) 9 := vp_in_nI (by omega) (by first | decide | exact vd (by decide))
    refine pk_lt t (k + 1) (fun q => absurd q (by omega)) (fun _ => ⟨by first | decide | exact vd (by decide), vk, vk, ?_⟩)
    have o0 : o (0 : Int32).toNatClampNeg = lN (P 0) := hco 0 (by first | decide | exact vd (by decide))
    rw [nI_clamp (by omega), l1, l2, o0, (r10 b1).1, (r10 b1).2, (r10 b2).2, lN_mul, lN_mul, lN_add]
    have L : ∀ n' i (o' : Nat → Int64), i + n' = k + 1 → 1 ≤ i → (∀ s, s < 9 → o' s = lN (if 1 ≤ s ∧ s < i then P s * (10 - A (4 + 3 * (k + 1))) else P s)) → ∀ E' : (Nat → Int64) → Prop, (∀ o'', (∀ s, s < 9 → o'' s = lN (if 1 ≤ s ∧ s < k + 1 then P s * (10 - A (4 + 3 * (k + 1))) else P s)) → E' o'') → qv_X0_goTo_L48 (nI t) (nI (k + 1)) (lN (P 0 * (10 - A (3 + 3 * (k + 1))) + sm P 1 8 * A (4 + 3 * (k + 1)))) (lN (sm P 1 8)) (lN (tot P)) lo ba Post E' (n' + 1) (nI i) o' := by
      intro n'
      induction n' with
      | zero =>
        intro i o' hi h1 ho E' hE'
        have : i = k + 1 := by omega
        subst this
        exact pk_le (k + 1) (k + 1) (fun _ => hE' o' ho) (fun q => absurd q (by omega))
      | succ n' ih' =>
        intro i o' hi h1 ho E' hE'
        have vi : vp_in (nI i) 9 := vp_in_nI (by omega) (by first | decide | exact vd (by decide))
        refine pk_le (k + 1) i (fun q => absurd q (by omega)) (fun _ => ⟨vi, vk, vi, ?_⟩)
        rw [nI_clamp (by omega), nI_clamp (by omega), ho i (by omega), if_neg (by omega), l2, (r10 b2).1, lN_mul, nI_1]
        refine ih' (i + 1) _ (by omega) (by omega) (fun s hs => ?_) E' hE'
        by_cases e : s = i
        · subst e; rw [pk_uLs, if_pos (by omega)]
        · rw [pk_uLn e, ho s hs]
          by_cases q : 1 ≤ s ∧ s < i
          · rw [if_pos q, if_pos (by omega)]
          · rw [if_neg q, if_neg (by omega)]
    refine ⟨k + 1, L k 1 o (by omega) (by omega) (fun s hs => by rw [if_neg (by omega)]; exact hco s hs) _ (fun o2 ho2 => ⟨by first | decide | exact vd (by decide), vk, vk, by first | decide | exact vd (by decide), ?_⟩)⟩
    have e2 : o2 (0 : Int32).toNatClampNeg = lN (P 0) := by have := ho2 0 (by first | decide | exact vd (by decide)); rw [if_neg (by omega)] at this; exact this
    rw [e2, lN_mul]
    have hc2 : CO (vp_updL (vp_updL o2 (k + 1) (lN (P 0 * A (3 + 3 * (k + 1))))) (0 : Int32).toNatClampNeg (lN (P 0 * (10 - A (3 + 3 * (k + 1))) + sm P 1 8 * A (4 + 3 * (k + 1))))) (wlk A (k + 1) P) := by
      intro s hs
      show vp_updL _ 0 _ s = _
      by_cases e : s = 0
      · subst e; exact pk_uLs
      · rw [pk_uLn e, wlk, if_neg e]
        by_cases e3 : s = k + 1
        · subst e3; rw [pk_uLs, if_pos rfl, hz (k + 1) (by omega) hs, Nat.zero_mul, Nat.zero_add]
        · rw [pk_uLn e3, ho2 s hs, if_neg e3]
          by_cases q : 1 ≤ s ∧ s < k + 1
          · rw [if_pos q]; rfl
          · rw [if_neg q, hz s (by omega) hs, Nat.zero_mul]
    refine C_addUp hc2 ?_
    rw [nI_1]
    refine ih (k + 1) (wlk A (k + 1) P) _ _ _ (by omega) ⟨rfl, rfl, hc2, fun s h1 h2 => ?_⟩ hE
    rw [wlk, if_neg (by omega), if_neg (by omega), hz s (by omega) h2, Nat.zero_mul]
theorem C_goTo (hA : OKL A) (hlo : ∀ k, 1 ≤ k → k ≤ A 0 → lo k = nI (A (3 + 3 * k)) ∧ ba k = nI (A (4 + 3 * k))) {k t : Nat} (hkt : k ≤ t) (ht : t ≤ A 0) {P : Nat → Nat} {aw al : Int64} {o : Nat → Int64} (hc : CS k P aw al o) {Post : Int64 → Int64 → (Nat → Int64) → Prop} (h : ∀ aw' al' o', CS t (wlkN A (t - k) k P) aw' al' o' → Post aw' al' o') : qv_X0_goTo (nI k) (nI t) aw al o lo ba Post := by
  refine ⟨t - k + 1, ?_⟩
  rw [nI_1]
  exact C_goToL hA hlo ht _ _ (t - k) k P aw al o (by omega) hc h
theorem C_weigh (hA : OKL A) (hsl : ∀ k, k < 4 → sl k = nI (A (29 + 2 * k))) {k q d : Nat} (hq : q < 4) (hd : d ≤ 3) {P : Nat → Nat} {aw al : Int64} {o : Nat → Int64} (hc : CS k P aw al o) {Post : Int64 → Int64 → (Nat → Int64) → Prop} (h : ∀ aw' al' o', CS k (wgh A q d P) aw' al' o' → Post aw' al' o') : qv_X0_weigh (nI q) (tl d) aw al o sl Post := by
  obtain ⟨rfl, rfl, hco, hz⟩ := hc
  have vq : vp_in (nI q) 4 := vp_in_nI hq (by first | decide | exact vd (by decide))
  have tb : ∀ r, (nI (bt A q d r)).toInt64 = lN (bt A q d r) := fun r => nI_l (by have := bt_le hA (d := d) (r := r) hq; omega)
  refine ⟨by first | decide | exact vd (by decide), vq, ?_⟩
  rw [nI_clamp (by omega), hsl q hq]
  refine C_byTen hA hq hd (r := 0) (by first | decide | exact vd (by decide)) ⟨by first | decide | exact vd (by decide), ?_⟩
  have L : ∀ n i (o' : Nat → Int64), i + n = 9 → 1 ≤ i → (∀ s, s < 9 → o' s = lN (if s < i then wgh A q d P s else P s)) → qv_X0_weigh_L25 (nI q) (tl d) (lN (sm P 1 8)) (lN (tot P)) sl Post (fun z_of_10 => qv_X0_addUp (lN (sm P 1 8)) (lN (tot P)) z_of_10 (fun z_away_11 z_all_11 => Post z_away_11 z_all_11 z_of_10)) (n + 1) (nI i) o' := by
    intro n
    induction n with
    | zero =>
      intro i o' hi h1 ho
      refine pk_lt 8 i (fun _ => ?_) (fun q => absurd q (by omega))
      have hc2 : CO o' (wgh A q d P) := fun s hs => by rw [ho s hs, if_pos (by omega)]
      exact C_addUp hc2 (h _ _ _ ⟨rfl, rfl, hc2, fun s h1 h2 => by rw [wgh, hz s h1 h2, Nat.zero_mul]⟩)
    | succ n ih =>
      intro i o' hi h1 ho
      have vi : vp_in (nI i) 9 := vp_in_nI (by omega) (by first | decide | exact vd (by decide))
      refine pk_lt 8 i (fun q => absurd q (by omega)) (fun _ => ⟨vi, vq, ?_⟩)
      rw [nI_clamp (by omega), nI_clamp (by omega), hsl q hq]
      refine C_byTen hA hq hd (r := 1) (by first | decide | exact vd (by decide)) ⟨vi, ?_⟩
      rw [ho i (by omega), if_neg (by omega), tb, lN_mul, nI_1]
      refine ih (i + 1) _ (by omega) (by omega) (fun s hs => ?_)
      by_cases e : s = i
      · subst e; rw [pk_uLs, if_pos (by omega), wgh, if_neg (by omega)]
      · rw [pk_uLn e, ho s hs]
        by_cases q : s < i
        · rw [if_pos q, if_pos (by omega)]
        · rw [if_neg q, if_neg (by omega)]
  have o0 : o (0 : Int32).toNatClampNeg = lN (P 0) := hco 0 (by first | decide | exact vd (by decide))
  rw [o0, tb, lN_mul]
  refine ⟨9, L 8 1 _ (by omega) (by omega) (fun s hs => ?_)⟩
  show vp_updL o 0 _ s = _
  by_cases e : s = 0
  · subst e; rw [pk_uLs, if_pos (by first | decide | exact vd (by decide))]; rfl
  · rw [pk_uLn e, if_neg (by omega)]; exact hco s hs
theorem runF_walk {w m : Nat} {B Q D : Nat → Nat} : ∀ n k c f P j, (c < m → k + n ≤ B c) → runF A w m B Q D (n + f) k c P j = runF A w m B Q D f (k + n) c (wlkN A n k P) j := by
  intro n
  induction n with
  | zero => intro k c f P j h; rw [Nat.zero_add]; rfl
  | succ n ih =>
    intro k c f P j h
    rw [show n + 1 + f = n + f + 1 by omega, runF, if_neg (by omega), ih (k + 1) c f _ j (by omega), wlkN, show k + 1 + n = k + (n + 1) by omega]
theorem wlkN_tot (hA : OKL A) : ∀ n k P, k + n ≤ A 0 → tot (wlkN A n k P) = 10 ^ n * tot P := by
  have hA0 := hA.1.1
  intro n
  induction n with
  | zero => intro k P h; rw [wlkN, Nat.pow_zero, Nat.one_mul]
  | succ n ih => intro k P h; rw [wlkN, ih (k + 1) _ (by omega), wlk_tot hA (by omega) (by omega), Nat.pow_succ, Nat.mul_assoc]
end OD
