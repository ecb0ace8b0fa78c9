/-! the class follows a way, the reference goes it: one run -/
section OD
variable {A : Nat → Nat} {st cO cB fB fd : Int32} {mi lo ba sl ta : Nat → Int32} {ti : Nat → Nat → Int32} {la : Nat → Int32}
theorem p14 {k c : Nat} (hk : k ≤ 8) (hc : c ≤ 6) : 10 ^ (k + c) ≤ 100000000000000 := Nat.le_trans (Nat.pow_le_pow_right (by first | decide | exact vd (by decide)) (show k + c ≤ 14 by omega)) (by first | decide | exact vd (by decide))
theorem jI_ne {c : Nat} (hc : c < 2 ^ 31) : ¬ nI c = (-4 : Int32) := fun q => by
  have := congrArg Int32.toInt q
  rw [nI_toInt hc] at this
  have e : (-4 : Int32).toInt = -4 := rfl
  omega
/-- what is known behind k stretches and c counts -/
def jok (c : Nat) (j : Option Nat) : Prop := ∀ q, j = some q → q < c
theorem jI_c {c : Nat} {j : Option Nat} (hj : jok c j) (hc : c ≤ 6) {X Y : Prop} (f : j = none → X) (g : j ≠ none → Y) : (jI j = (-4 : Int32) → X) ∧ (¬ jI j = (-4 : Int32) → Y) := by
  cases j with
  | none => exact ⟨fun _ => f rfl, fun h => absurd rfl h⟩
  | some q => exact ⟨fun h => absurd h (jI_ne (by have := hj q rfl; omega)), fun _ => g (by simp)⟩
theorem C_followL (hA : OKL A) (hlo : ∀ k, 1 ≤ k → k ≤ A 0 → lo k = nI (A (3 + 3 * k)) ∧ ba k = nI (A (4 + 3 * k))) (hsl : ∀ k, k < 4 → sl k = nI (A (29 + 2 * k))) {w m : Nat} {B Q D : Nat → Nat} (hV : VW (A 0) w m B Q D) {be so te : Nat → Int32} (hW : WA m B Q D be so te) (zw : Int32) (Post : Int32 → Int64 → Int64 → (Nat → Int64) → Prop) (E : Int32 → Int32 → Int64 → Int64 → (Nat → Int64) → Prop) (R : (Nat → Nat) × Option Nat)
    (hE : ∀ k P j aw al o, k ≤ w → CS k P aw al o → tot P ≤ 10 ^ (k + m) → jok m j → runF A w m B Q D (w - k) k m P j = R → E (jI j) (nI k) aw al o) : ∀ n k c P j aw al o, c + n = m → k ≤ w → (c < m → k ≤ B c) → CS k P aw al o → tot P ≤ 10 ^ (k + c) → jok c j → runF A w m B Q D (w - k + (m - c)) k c P j = R → qv_X0_follow_L14 (nI m) zw lo ba sl be so te Post E (n + 1) (jI j) (nI k) (nI c) aw al o := by
  obtain ⟨v1, v2, v3, v4⟩ := hV
  have hA0 := hA.1.1
  intro n
  induction n with
  | zero =>
    intro k c P j aw al o hc hk hb hs ht hj hR
    have : c = m := by omega
    subst this
    rw [Nat.sub_self, Nat.add_zero] at hR
    exact pk_le c c (fun _ => hE k P j aw al o hk hs ht hj hR) (fun q => absurd q (by omega))
  | succ n ih =>
    intro k c P j aw al o hc hk hb hs ht hj hR
    have vc : vp_in (nI c) 6 := vp_in_nI (by omega) (by first | decide | exact vd (by decide))
    obtain ⟨a1, a2, a3⟩ := hW c (by omega)
    obtain ⟨b1, b2, b3⟩ := v3 c (by omega)
    have hbc := hb (by omega)
    refine pk_le m c (fun q => absurd q (by omega)) (fun _ => ⟨vc, ?_⟩)
    rw [nI_clamp (by omega), a1, a2, a3]
    refine C_goTo hA hlo hbc (by omega) hs (fun aw' al' o' hs' => ⟨vc, vc, vc, C_weigh hA hsl b2 b3 hs' (fun aw2 al2 o2 hs2 => ?_)⟩)
    have ht1 : tot (wlkN A (B c - k) k P) ≤ 10 ^ (B c + c) := by
      rw [wlkN_tot hA _ _ _ (by omega), show B c + c = (B c - k) + (k + c) by omega, Nat.pow_add]
      exact Nat.mul_le_mul_left _ ht
    have ht2 : tot (wgh A (Q c) (D c) (wlkN A (B c - k) k P)) ≤ 10 ^ (B c + (c + 1)) := by
      refine Nat.le_trans (wgh_tot hA b2) ?_
      rw [show B c + (c + 1) = B c + c + 1 by omega, Nat.pow_succ, Nat.mul_comm]
      exact Nat.mul_le_mul_right _ ht1
    have hp := p14 (k := B c) (c := c + 1) (by omega) (by omega)
    rw [show w - k + (m - c) = (B c - k) + (w - B c + (m - (c + 1)) + 1) by omega, runF_walk _ _ _ _ _ _ (fun _ => by omega), show k + (B c - k) = B c by omega, runF, if_pos (by omega)] at hR
    obtain ⟨e1, e2, e3, e4⟩ := hs2
    have hl : al2 = (0 : Int64) ↔ tot (wgh A (Q c) (D c) (wlkN A (B c - k) k P)) = 0 := by
      rw [e2]
      exact pk_lEQ (b := 0) (by omega) (by first | decide | exact vd (by decide))
    rw [nI_1]
    have hb' : c + 1 < m → B c ≤ B (c + 1) := fun q => v4 c (c + 1) (by omega) q
    have go : ∀ j', jI j' = jI (if j = none ∧ tot (wgh A (Q c) (D c) (wlkN A (B c - k) k P)) = 0 then some c else j) → j' = (if j = none ∧ tot (wgh A (Q c) (D c) (wlkN A (B c - k) k P)) = 0 then some c else j) → qv_X0_follow_L14 (nI m) zw lo ba sl be so te Post E (n + 1) (jI j') (nI (B c)) (nI (c + 1)) aw2 al2 o2 := fun j' _ ej => by
      refine ih (B c) (c + 1) _ j' aw2 al2 o2 (by omega) b1 hb' ⟨e1, e2, e3, e4⟩ ht2 ?_ (by rw [ej]; exact hR)
      intro q hq
      rw [ej] at hq
      by_cases z : j = none ∧ tot (wgh A (Q c) (D c) (wlkN A (B c - k) k P)) = 0
      · rw [if_pos z] at hq; cases hq; omega
      · rw [if_neg z] at hq; have := hj q hq; omega
    refine jI_c hj (by omega) (fun q => ⟨fun z => ?_, fun z => ?_⟩) (fun q => ?_)
    · have := go (some c) (by rw [if_pos ⟨q, hl.mp z⟩]) (by rw [if_pos ⟨q, hl.mp z⟩]); exact this
    · exact go j (by rw [if_neg (fun y => z (hl.mpr y.2))]) (by rw [if_neg (fun y => z (hl.mpr y.2))])
    · exact go j (by rw [if_neg (fun y => q y.1)]) (by rw [if_neg (fun y => q y.1)])
/-- the end of a way's run -/
def RU (A : Nat → Nat) (w m : Nat) (B Q D : Nat → Nat) : (Nat → Nat) × Option Nat := runF A w m B Q D (w + m) 0 0 P0 none
theorem C_follow (hA : OKL A) (hC : CL A st cO cB fB fd mi lo ba sl ta ti) {w m : Nat} {B Q D : Nat → Nat} (hV : VW (A 0) w m B Q D) {be so te : Nat → Int32} (hW : WA m B Q D be so te) {aw al : Int64} {o : Nat → Int64} {Post : Int32 → Int64 → Int64 → (Nat → Int64) → Prop} (h : ∀ o', CO o' (RU A w m B Q D).1 → tot (RU A w m B Q D).1 ≤ 10 ^ (w + m) → Post (jI (RU A w m B Q D).2) (lN (sm (RU A w m B Q D).1 1 8)) (lN (tot (RU A w m B Q D).1)) o') : qv_X0_follow (nI m) aw al (nI w) o lo ba sl be so te Post := by
  have hlo : ∀ k, 1 ≤ k → k ≤ A 0 → lo k = nI (A (3 + 3 * k)) ∧ ba k = nI (A (4 + 3 * k)) := fun k h1 h2 => (hC.2.1 k h1 h2).2
  have hsl : ∀ k, k < 4 → sl k = nI (A (29 + 2 * k)) := fun k hk => (hC.2.2.1 k hk).1
  have hw := hV.1
  have hA0 := hA.1.1
  refine C_begin (fun o' hs => ⟨m + 1, ?_⟩)
  refine C_followL hA hlo hsl hV hW _ _ _ (RU A w m B Q D) (fun k P j aw al o hk hs ht hj hR => ?_) m 0 0 P0 none _ _ o' (by omega) (by omega) (fun _ => by omega) hs (by first | decide | exact vd (by decide)) (fun q hq => by cases hq) (by rw [RU, Nat.sub_zero, Nat.sub_zero])
  refine C_goTo hA hlo hk hw hs (fun aw' al' o' hs' => ?_)
  obtain ⟨rfl, rfl, e3, e4⟩ := hs'
  rw [show w - k = w - k + 0 by omega, runF_walk _ _ _ _ _ _ (fun q => absurd q (by omega)), runF] at hR
  have hb : tot (wlkN A (w - k) k P) ≤ 10 ^ (w + m) := by
    rw [wlkN_tot hA _ _ _ (by omega), show w + m = (w - k) + (k + m) by omega, Nat.pow_add]
    exact Nat.mul_le_mul_left _ ht
  have r1 : (RU A w m B Q D).1 = wlkN A (w - k) k P := by rw [← hR]
  have r2 : (RU A w m B Q D).2 = j := by rw [← hR]
  rw [r1, r2] at h
  exact h o' e3 hb
/-! the reference -/
def gA (P : Nat → Nat) : Nat → Nat
  | 0 => 0
  | n + 1 => Nat.gcd (gA P n) (P n)
theorem gA_le {P : Nat → Nat} {M : Nat} : ∀ n, (∀ s, s < n → P s ≤ M) → gA P n ≤ M := by
  intro n
  induction n with
  | zero => intro _; exact Nat.zero_le _
  | succ n ih =>
    intro h
    have h1 := ih (fun s hs => h s (by omega))
    have h2 := h n (by omega)
    rw [gA]
    by_cases e : gA P n = 0
    · rw [e, Nat.gcd_zero_left]; exact h2
    · exact Nat.le_trans (Nat.gcd_le_left _ (Nat.pos_of_ne_zero e)) h1
theorem gA_dvd {P : Nat → Nat} : ∀ n s, s < n → gA P n ∣ P s := by
  intro n
  induction n with
  | zero => intro s h; omega
  | succ n ih =>
    intro s h
    rw [gA]
    by_cases e : s = n
    · subst e; exact Nat.gcd_dvd_right _ _
    · exact Nat.dvd_trans (Nat.gcd_dvd_left _ _) (ih s (by omega))
theorem R_lessens {P : Nat → Nat} {al : Int64} {o : Nat → Int64} (ho : CO o P) (hb : ∀ s, s < 9 → P s < 2 ^ 63) {Post : Int64 → (Nat → Int64) → Prop} (h : ∀ g P' o', 0 < g → (∀ s, s < 9 → P s = g * P' s) → CO o' P' → Post (lN (tot P')) o') : qv_X8_lessens al o Post := by
  have hg : ∀ n, n ≤ 9 → gA P n < 2 ^ 63 := fun n hn => by
    have := gA_le (P := P) (M := 2 ^ 63 - 1) n (fun s hs => by have := hb s (by omega); omega)
    omega
  have hg9 := hg 9 (by omega)
  have L2 : ∀ n i s o', i + n = 9 → s + sm (fun q => P q / gA P 9) i n = tot (fun q => P q / gA P 9) → (∀ q, q < 9 → o' q = lN (if q < i then P q / gA P 9 else P q)) → qv_X8_lessens_L34 (lN (gA P 9)) Post (fun a b => Post a b) (n + 1) (nI i) (lN s) o' := by
    intro n
    induction n with
    | zero =>
      intro i s o' hi hs ho'
      rw [sm, Nat.add_zero] at hs
      refine pk_le 9 i (fun _ => ?_) (fun q => absurd q (by omega))
      rw [hs]
      refine h (if gA P 9 = 0 then 1 else gA P 9) (fun q => P q / gA P 9) o' (by split <;> omega) (fun q hq => ?_) (fun q hq => by rw [ho' q hq, if_pos (by omega)])
      have hd := gA_dvd (P := P) 9 q hq
      split
      · next e => rw [e] at hd; rw [Nat.zero_dvd.mp hd]; simp
      · exact (Nat.mul_div_cancel' hd).symm
    | succ n ih =>
      intro i s o' hi hs ho'
      have vi : vp_in (nI i) 9 := vp_in_nI (by omega) (by first | decide | exact vd (by decide))
      have go : ∀ v, v = lN (P i / gA P 9) → qv_X8_lessens_J63 (nI i) v (lN (gA P 9)) (nI i) (lN s) o' Post (qv_X8_lessens_L34 (lN (gA P 9)) Post (fun a b => Post a b) (n + 1)) (fun a b => Post a b) := fun v ev => by
        subst ev
        refine ⟨vi, vi, ?_⟩
        rw [nI_clamp (by omega), pk_uLs, lN_add, nI_1]
        refine ih (i + 1) _ _ (by omega) ?_ (fun q hq => ?_)
        · rw [sm] at hs; omega
        · by_cases e : q = i
          · subst e; rw [pk_uLs, if_pos (by omega)]
          · rw [pk_uLn e, ho' q hq]
            by_cases z : q < i
            · rw [if_pos z, if_pos (by omega)]
            · rw [if_neg z, if_neg (by omega)]
      refine pk_le 9 i (fun q => absurd q (by omega)) (fun _ => ⟨fun z => go _ ?_, fun z => ⟨vi, z, go _ ?_⟩⟩)
      · have : gA P 9 = 0 := (pk_lEQ (b := 0) hg9 (by first | decide | exact vd (by decide))).mp z
        rw [this, Nat.div_zero]; rfl
      · have hp : 0 < gA P 9 := Nat.pos_of_ne_zero (fun q => z (by rw [q]; rfl))
        rw [nI_clamp (by omega), ho' i (by omega), if_neg (by omega), pk_lDiv (hb i (by omega)) hp hg9]
  have L1 : ∀ n i, i + n = 9 → qv_X8_lessens_L4 al o Post (fun x1_4 => ∃ n11, qv_X8_lessens_L34 x1_4 Post (fun z_all_11 z_parts_11 => Post z_all_11 z_parts_11) n11 (0 : Int32) (0 : Int64) o) (n + 1) (lN (gA P i)) (nI i) := by
    intro n
    induction n with
    | zero =>
      intro i hi
      have : i = 9 := by omega
      subst this
      exact pk_le 9 9 (fun _ => ⟨10, L2 9 0 0 o (by omega) (by rw [Nat.zero_add]; rfl) (fun q hq => by rw [if_neg (by omega)]; exact ho q hq)⟩) (fun q => absurd q (by omega))
    | succ n ih =>
      intro i hi
      refine pk_le 9 i (fun q => absurd q (by omega)) (fun _ => ⟨vp_in_nI (by omega) (by first | decide | exact vd (by decide)), ?_⟩)
      rw [nI_clamp (by omega), ho i (by omega), nI_1]
      exact R_cd _ _ (P i) (gA P i) (hg i (by omega)) (hb i (by omega)) (ih (i + 1) (by omega))
  exact ⟨10, L1 9 0 (by omega)⟩
theorem R_walks (hA : OKL A) (hR : RLd A la) {k : Nat} (hk : 1 ≤ k ∧ k ≤ A 0) {P : Nat → Nat} {al : Int64} {o : Nat → Int64} (ho : CO o P) (hb : 10 * tot P < 2 ^ 63) {Post : Int64 → (Nat → Int64) → Prop} (h : ∀ g P' o', 0 < g → (∀ s, s < 9 → wlk A k P s = g * P' s) → CO o' P' → Post (lN (tot P')) o') : qv_X8_walks (nI k) al la o Post := by
  have hA0 := hA.1.1
  obtain ⟨_, _, b1, b2⟩ := hA.2.2.1 k hk.1 hk.2
  have i3 : (3 : Int32) + (3 : Int32) * nI k = nI (3 + 3 * k) := by rw [li_3, pk_mul, nI_add]
  have i4 : (4 : Int32) + (3 : Int32) * nI k = nI (4 + 3 * k) := by rw [li_3, li_4, pk_mul, nI_add]
  have o0 : o (0 : Int32).toNatClampNeg = lN (P 0) := ho 0 (by first | decide | exact vd (by decide))
  have vk : vp_in (nI k) 9 := vp_in_nI (by omega) (by first | decide | exact vd (by decide))
  unfold qv_X8_walks
  rw [i3, i4, nI_clamp (by omega), nI_clamp (by omega), nI_clamp (by omega), hR _ (by omega), hR _ (by omega), o0, (r10 b1).1, (r10 b1).2, lN_mul, lN_mul]
  refine ⟨vp_in_nI (by omega) (by first | decide | exact vd (by decide)), vp_in_nI (by omega) (by first | decide | exact vd (by decide)), by first | decide | exact vd (by decide), by first | decide | exact vd (by decide), ?_⟩
  have L : ∀ n i t (o' : Nat → Int64), i + n = 9 → 1 ≤ i → t + sm P i n * A (4 + 3 * k) = P 0 * (10 - A (3 + 3 * k)) + sm P 1 8 * A (4 + 3 * k) → (∀ s, s < 9 → o' s = lN (if 1 ≤ s ∧ s < i then P s * (10 - A (4 + 3 * k)) else P s)) → ∀ E : Int64 → (Nat → Int64) → Prop, (∀ o'', (∀ s, s < 9 → o'' s = lN (if 1 ≤ s ∧ s < 9 then P s * (10 - A (4 + 3 * k)) else P s)) → E (lN (P 0 * (10 - A (3 + 3 * k)) + sm P 1 8 * A (4 + 3 * k))) o'') → qv_X8_walks_L50 (nI k) (nI (A (4 + 3 * k))) (lN (P 0 * A (3 + 3 * k))) al la Post E (n + 1) (lN t) (nI i) o' := by
    intro n
    induction n with
    | zero =>
      intro i t o' hi h1 ht ho' E hE
      have : i = 9 := by omega
      subst this
      rw [sm, Nat.zero_mul, Nat.add_zero] at ht
      refine pk_le 9 9 (fun _ => ?_) (fun q => absurd q (by omega))
      rw [ht]
      exact hE o' ho'
    | succ n ih =>
      intro i t o' hi h1 ht ho' E hE
      have vi : vp_in (nI i) 9 := vp_in_nI (by omega) (by first | decide | exact vd (by decide))
      refine pk_le 9 i (fun q => absurd q (by omega)) (fun _ => ⟨vi, vi, vi, ?_⟩)
      rw [nI_clamp (by omega), ho' i (by omega), if_neg (by omega), (r10 b2).1, (r10 b2).2, lN_mul, lN_mul, lN_add, nI_1]
      refine ih (i + 1) _ _ (by omega) (by omega) ?_ (fun s hs => ?_) E hE
      · rw [sm, Nat.add_mul] at ht; omega
      · by_cases e : s = i
        · subst e; rw [pk_uLs, if_pos (by omega)]
        · rw [pk_uLn e, ho' s hs]
          by_cases q : 1 ≤ s ∧ s < i
          · rw [if_pos q, if_pos (by omega)]
          · rw [if_neg q, if_neg (by omega)]
  refine ⟨9, L 8 1 _ o (by omega) (by omega) rfl (fun s hs => by rw [if_neg (by omega)]; exact ho s hs) _ (fun o2 ho2 => ⟨by first | decide | exact vd (by decide), vk, vk, ?_⟩)⟩
  rw [show (0 : Int32).toNatClampNeg = 0 from rfl, pk_uLn (show k ≠ 0 by omega), ho2 k (by omega), if_pos (by omega), lN_add]
  have hc : CO (vp_updL (vp_updL o2 0 (lN (P 0 * (10 - A (3 + 3 * k)) + sm P 1 8 * A (4 + 3 * k)))) k (lN (P k * (10 - A (4 + 3 * k)) + P 0 * A (3 + 3 * k)))) (wlk A k P) := by
    intro s hs
    by_cases e : s = k
    · subst e; rw [pk_uLs, wlk, if_neg (by omega), if_pos rfl]
    · rw [pk_uLn e]
      by_cases z : s = 0
      · subst z; rw [pk_uLs]; rfl
      · rw [pk_uLn z, ho2 s hs, if_pos (by omega), wlk, if_neg z, if_neg e, Nat.add_zero]
  refine R_lessens hc (fun s hs => ?_) h
  have t1 := tot_ge (wlk A k P) hs
  rw [wlk_tot hA (by omega) hk.2] at t1
  omega
theorem R_counted (hA : OKL A) (hR : RLd A la) {c q d : Nat} {so te : Nat → Int32} (hc : c < 6) (hq : q < 4) (hd : d ≤ 3) (es : so c = nI q) (et : te c = tl d) {P : Nat → Nat} {al : Int64} {o : Nat → Int64} (ho : CO o P) (hb : 10 * tot P < 2 ^ 63) {Post : Int64 → (Nat → Int64) → Prop} (h : ∀ g P' o', 0 < g → (∀ s, s < 9 → wgh A q d P s = g * P' s) → CO o' P' → Post (lN (tot P')) o') : qv_X8_counted (nI c) al la so te o Post := by
  have vc : vp_in (nI c) 6 := vp_in_nI hc (by first | decide | exact vd (by decide))
  have tb : ∀ r, (nI (bt A q d r)).toInt64 = lN (bt A q d r) := fun r => nI_l (by have := bt_le hA (d := d) (r := r) hq; omega)
  have L : ∀ n i (o' : Nat → Int64), i + n = 9 → (∀ s, s < 9 → o' s = lN (if s < i then wgh A q d P s else P s)) → qv_X8_counted_L2 (nI c) al la so te Post (fun z_parts_8 => qv_X8_lessens al z_parts_8 (fun z_all_9 z_parts_9 => Post z_all_9 z_parts_9)) (n + 1) (nI i) o' := by
    intro n
    induction n with
    | zero =>
      intro i o' hi ho'
      refine pk_le 9 i (fun _ => ?_) (fun q => absurd q (by omega))
      refine R_lessens (P := wgh A q d P) (fun s hs => by rw [ho' s hs, if_pos (by omega)]) (fun s hs => ?_) h
      have t1 := tot_ge (wgh A q d P) hs
      have t2 := wgh_tot (P := P) hA (d := d) hq
      omega
    | succ n ih =>
      intro i o' hi ho'
      have vi : vp_in (nI i) 9 := vp_in_nI (by omega) (by first | decide | exact vd (by decide))
      refine pk_le 9 i (fun q => absurd q (by omega)) (fun _ => ⟨vi, vc, vc, ?_⟩)
      rw [nI_clamp (by omega), nI_clamp (by omega), es, et, ho' i (by omega), if_neg (by omega)]
      have go : ∀ r, r = (if i = 0 then 0 else 1) → qv_X8_counted_J37 (nI i) (lN (P i)) (nI q) (tl d) (rt r) (nI c) (nI i) al la so te o' Post (qv_X8_counted_L2 (nI c) al la so te Post (fun z_parts_8 => qv_X8_lessens al z_parts_8 (fun z_all_9 z_parts_9 => Post z_all_9 z_parts_9)) (n + 1)) (fun z_parts_8 => qv_X8_lessens al z_parts_8 (fun z_all_9 z_parts_9 => Post z_all_9 z_parts_9)) := fun r er => by
        refine R_tellsBy hA hR hq hd (by rw [er]; split <;> omega) ⟨vi, ?_⟩
        rw [tb, lN_mul, nI_clamp (by omega), nI_1]
        refine ih (i + 1) _ (by omega) (fun s hs => ?_)
        by_cases e : s = i
        · subst e; rw [pk_uLs, if_pos (by omega), wgh, er]
        · rw [pk_uLn e, ho' s hs]
          by_cases z : s < i
          · rw [if_pos z, if_pos (by omega)]
          · rw [if_neg z, if_neg (by omega)]
      refine pk_eq i 0 (fun e => go 0 (by rw [if_pos e])) (fun e => go 1 (by rw [if_neg e]))
  exact ⟨10, L 9 0 o (by omega) (fun s hs => by rw [if_neg (by omega)]; exact ho s hs)⟩
/-- the reference's chances: the class's by one whole number less -/
def RS (P : Nat → Nat) (al : Int64) (o : Nat → Int64) : Prop := ∃ G P', 0 < G ∧ (∀ s, s < 9 → P s = G * P' s) ∧ CO o P' ∧ al = lN (tot P')
theorem RS_le {P P' : Nat → Nat} {G : Nat} (hG : 0 < G) (h : ∀ s, s < 9 → P s = G * P' s) : tot P' ≤ tot P := by
  rw [tot_mul h]
  exact Nat.le_mul_of_pos_left _ hG
theorem RS_zero {P : Nat → Nat} {al : Int64} {o : Nat → Int64} (h : RS P al o) (hb : tot P < 2 ^ 63) : al = (0 : Int64) ↔ tot P = 0 := by
  obtain ⟨G, P', hG, hP, _, rfl⟩ := h
  have h1 := RS_le hG hP
  rw [ll_0, pk_lEQ (b := 0) (by omega) (by first | decide | exact vd (by decide)), tot_mul hP, Nat.mul_eq_zero]
  omega
theorem R_goesL59 (hA : OKL A) (hR : RLd A la) {w m : Nat} {B Q D : Nat → Nat} (hV : VW (A 0) w m B Q D) {be so te : Nat → Int32} (hW : WA m B Q D be so te) (Post : Int32 → Int64 → (Nat → Int64) → Prop) (E : Int32 → Int64 → (Nat → Int64) → Prop) (R : (Nat → Nat) × Option Nat) {k : Nat} (hk : k ≤ w) (hE : ∀ p P j al o, p ≤ m → (∀ c, c < p → B c ≤ k) → (p < m → k < B p) → RS P al o → tot P ≤ 10 ^ (k + p) → jok p j → runF A w m B Q D (w - k + (m - p)) k p P j = R → E (jI j) al o) : ∀ n i p P j al o, i + n = m → p ≤ m → (∀ c, c < p → B c ≤ k) → (∀ c, i ≤ c → c < p → B c < k) → (p < m → k ≤ B p) → (p < i → p < m → k < B p) → RS P al o → tot P ≤ 10 ^ (k + p) → jok p j → runF A w m B Q D (w - k + (m - p)) k p P j = R → qv_X8_goes_L59 (nI m) (nI k) (nI w) la be so te Post E (n + 1) (jI j) (nI i) al o := by
  obtain ⟨v1, v2, v3, v4⟩ := hV
  have hA0 := hA.1.1
  intro n
  induction n with
  | zero =>
    intro i p P j al o hi hp h1 h2 h3 h4 hs ht hj hr
    refine pk_le m i (fun _ => hE p P j al o hp h1 (fun q => ?_) hs ht hj hr) (fun q => absurd q (by omega))
    exact h4 (by omega) q
  | succ n ih =>
    intro i p P j al o hi hp h1 h2 h3 h4 hs ht hj hr
    obtain ⟨a1, a2, a3⟩ := hW i (by omega)
    obtain ⟨b1, b2, b3⟩ := v3 i (by omega)
    refine pk_le m i (fun q => absurd q (by omega)) (fun _ => ⟨vp_in_nI (by omega) (by first | decide | exact vd (by decide)), ?_⟩)
    rw [nI_clamp (by omega), a1, nI_1]
    refine pk_eq (B i) k (fun e => ?_) (fun e => ?_)
    · have hip : i = p := by
        rcases Nat.lt_trichotomy i p with q | q | q
        · have := h2 i (by omega) q; omega
        · exact q
        · have := h4 q (by omega); have := v4 p i (by omega) (by omega); omega
      subst hip
      obtain ⟨G, P', hG, hP, ho, rfl⟩ := hs
      have hp' := p14 (k := k) (c := i) (by omega) (by omega)
      have hle := RS_le hG hP
      refine R_counted hA hR (by omega) b2 b3 a2 a3 ho (by omega) (fun g P2 o2 hg hP2 ho2 => ?_)
      have hs2 : RS (wgh A (Q i) (D i) P) (lN (tot P2)) o2 := ⟨G * g, P2, Nat.mul_pos hG hg, fun s hs => by rw [wgh_mul hP s hs, hP2 s hs, Nat.mul_assoc], ho2, rfl⟩
      have ht2 : tot (wgh A (Q i) (D i) P) ≤ 10 ^ (k + (i + 1)) := by
        refine Nat.le_trans (wgh_tot hA b2) ?_
        rw [show k + (i + 1) = k + i + 1 by omega, Nat.pow_succ, Nat.mul_comm]
        exact Nat.mul_le_mul_right _ ht
      have hp2 := p14 (k := k) (c := i + 1) (by omega) (by omega)
      have hz := RS_zero hs2 (by omega)
      rw [show w - k + (m - i) = w - k + (m - (i + 1)) + 1 by omega, runF, if_pos (by omega)] at hr
      have go : ∀ j', j' = (if j = none ∧ tot (wgh A (Q i) (D i) P) = 0 then some i else j) → qv_X8_goes_L59 (nI m) (nI k) (nI w) la be so te Post E (n + 1) (jI j') (nI (i + 1)) (lN (tot P2)) o2 := fun j' ej => by
        refine ih (i + 1) (i + 1) _ j' _ _ (by omega) (by omega) (fun c hc => ?_) (fun c c1 c2 => absurd c1 (by omega)) (fun q => ?_) (fun q => absurd q (by omega)) hs2 ht2 ?_ (by rw [ej]; exact hr)
        · by_cases z : c = i
          · subst z; omega
          · exact h1 c (by omega)
        · have := v4 i (i + 1) (by omega) q; omega
        · intro q hq
          rw [ej] at hq
          by_cases z : j = none ∧ tot (wgh A (Q i) (D i) P) = 0
          · rw [if_pos z] at hq; cases hq; omega
          · rw [if_neg z] at hq; have := hj q hq; omega
      refine jI_c hj (by omega) (fun q => ⟨fun z => ?_, fun z => ?_⟩) (fun q => ?_)
      · exact go (some i) (by rw [if_pos ⟨q, hz.mp z⟩])
      · exact go j (by rw [if_neg (fun y => z (hz.mpr y.2))])
      · exact go j (by rw [if_neg (fun y => q y.1)])
    · refine ih (i + 1) p P j al o (by omega) hp h1 (fun c c1 c2 => h2 c (by omega) c2) h3 (fun q q2 => ?_) hs ht hj hr
      by_cases z : p = i
      · subst z; have := h3 q2; omega
      · exact h4 (by omega) q2
theorem R_goesL39 (hA : OKL A) (hR : RLd A la) {w m : Nat} {B Q D : Nat → Nat} (hV : VW (A 0) w m B Q D) {be so te : Nat → Int32} (hW : WA m B Q D be so te) (Post : Int32 → Int64 → (Nat → Int64) → Prop) (E : Int32 → Int64 → (Nat → Int64) → Prop) (R : (Nat → Nat) × Option Nat) (hE : ∀ al o, RS R.1 al o → tot R.1 ≤ 10 ^ (w + m) → E (jI R.2) al o) : ∀ n k p P j al o, k + 1 + n = w + 1 → p ≤ m → (∀ c, c < p → B c ≤ k) → (p < m → k < B p) → RS P al o → tot P ≤ 10 ^ (k + p) → jok p j → runF A w m B Q D (w - k + (m - p)) k p P j = R → qv_X8_goes_L39 (nI m) (nI w) la be so te Post E (n + 1) (jI j) (nI (k + 1)) al o := by
  have hV' := hV
  obtain ⟨v1, v2, v3, v4⟩ := hV'
  have hA0 := hA.1.1
  intro n
  induction n with
  | zero =>
    intro k p P j al o hk hp h1 h2 hs ht hj hr
    have hkw : k = w := by omega
    subst hkw
    have hpm : p = m := by
      by_cases q : p < m
      · have := h2 q; have := (v3 p q).1; omega
      · omega
    subst hpm
    rw [show k - k + (p - p) = 0 by omega, runF] at hr
    subst hr
    exact pk_lt k (k + 1) (fun _ => hE al o hs ht) (fun q => absurd q (by omega))
  | succ n ih =>
    intro k p P j al o hk hp h1 h2 hs ht hj hr
    refine pk_lt w (k + 1) (fun q => absurd q (by omega)) (fun _ => pk_le (k + 1) 0 (fun q => absurd q (by omega)) (fun _ => ?_))
    obtain ⟨G, P', hG, hP, ho, rfl⟩ := hs
    have hp' := p14 (k := k) (c := p) (by omega) (by omega)
    have hle := RS_le hG hP
    refine R_walks hA hR (k := k + 1) (by omega) ho (by omega) (fun g P2 o2 hg hP2 ho2 => ⟨m + 1, ?_⟩)
    have hs2 : RS (wlk A (k + 1) P) (lN (tot P2)) o2 := ⟨G * g, P2, Nat.mul_pos hG hg, fun s hs => by rw [wlk_mul hP s hs, hP2 s hs, Nat.mul_assoc], ho2, rfl⟩
    have ht2 : tot (wlk A (k + 1) P) ≤ 10 ^ (k + 1 + p) := by
      rw [wlk_tot hA (by omega) (by omega), show k + 1 + p = k + p + 1 by omega, Nat.pow_succ, Nat.mul_comm]
      exact Nat.mul_le_mul_right _ ht
    rw [show w - k + (m - p) = w - (k + 1) + (m - p) + 1 by omega, runF, if_neg (fun q => by have := h2 q.1; omega)] at hr
    refine R_goesL59 hA hR hV hW _ _ R (k := k + 1) (by omega) (fun p' P3 j' al' o' c1 c2 c3 c4 c5 c6 c7 => ?_) m 0 p _ j _ o2 (by omega) hp (fun c hc => by have := h1 c hc; omega) (fun c _ c2 => by have := h1 c c2; omega) (fun q => h2 q) (fun q => absurd q (by omega)) hs2 ht2 hj hr
    rw [nI_1]
    exact ih (k + 1) p' P3 j' al' o' (by omega) c1 c2 c3 c4 c5 c6 c7
theorem R_goes (hA : OKL A) (hR : RLd A la) {w m : Nat} {B Q D : Nat → Nat} (hV : VW (A 0) w m B Q D) {be so te : Nat → Int32} (hW : WA m B Q D be so te) {al : Int64} {o : Nat → Int64} {Post : Int32 → Int64 → (Nat → Int64) → Prop} (h : ∀ al o, RS (RU A w m B Q D).1 al o → tot (RU A w m B Q D).1 ≤ 10 ^ (w + m) → Post (jI (RU A w m B Q D).2) al o) : qv_X8_goes (nI m) (nI w) al la be so te o Post := by
  have L : ∀ n i o, i + n = 9 → (∀ s, s < i → o s = lN (P0 s)) → qv_X8_goes_L5 (nI m) (-4 : Int32) (nI w) al la be so te Post (fun z_parts_5 => ∃ n17, qv_X8_goes_L39 (nI m) (nI w) la be so te Post (fun x2_17 z_all_17 z_parts_17 => Post x2_17 z_all_17 z_parts_17) n17 (-4 : Int32) (0 : Int32) (1 : Int64) z_parts_5) (n + 1) (nI i) o := by
    intro n
    induction n with
    | zero =>
      intro i o hi ho
      refine pk_le 9 i (fun _ => ⟨w + 2, ?_⟩) (fun q => absurd q (by omega))
      have hs : RS P0 (lN 1) o := ⟨1, P0, by first | decide | exact vd (by decide), fun s _ => (Nat.one_mul _).symm, fun s hs => ho s (by omega), by first | decide | exact vd (by decide)⟩
      refine pk_lt w 0 (fun q => absurd q (by omega)) (fun _ => pk_le 0 0 (fun _ => ⟨m + 1, ?_⟩) (fun q => absurd q (by omega))) rfl rfl (by have := hV.1; have := hA.1.1; omega)
      refine R_goesL59 hA hR hV hW _ _ (RU A w m B Q D) (k := 0) (by omega) (fun p P j al' o' c1 c2 c3 c4 c5 c6 c7 => ?_) m 0 0 P0 none _ o (by omega) (by omega) (fun c hc => absurd hc (by omega)) (fun c _ hc => absurd hc (by omega)) (fun _ => by omega) (fun q => absurd q (by omega)) hs (by first | decide | exact vd (by decide)) (fun q hq => by cases hq) (by rw [RU, Nat.sub_zero, Nat.sub_zero])
      exact R_goesL39 hA hR hV hW _ _ (RU A w m B Q D) h w 0 p P j al' o' (by omega) c1 c2 c3 c4 c5 c6 c7
    | succ n ih =>
      intro i o hi ho
      have vi : vp_in (nI i) 9 := vp_in_nI (by omega) (by first | decide | exact vd (by decide))
      refine pk_le 9 i (fun q => absurd q (by omega)) (fun _ => ?_)
      rw [nI_clamp (by omega), nI_1]
      refine pk_eq i 0 (fun e => ⟨vi, ih (i + 1) _ (by omega) (fun s hs => ?_)⟩) (fun e => ⟨vi, ih (i + 1) _ (by omega) (fun s hs => ?_)⟩)
      · have : s = i := by omega
        subst this; rw [pk_uLs, P0, if_pos e]; rfl
      · by_cases z : s = i
        · subst z; rw [pk_uLs, P0, if_neg e]; rfl
        · rw [pk_uLn z]; exact ho s (by omega)
  exact ⟨10, L 9 0 o (by omega) (fun s hs => absurd hs (by omega))⟩
end OD
