/-! plan -/
def pc (x : Nat) : Nat := x % 2 + x / 2 % 2 + x / 4 % 2 + x / 8 % 2 + x / 16 % 2 + x / 32 % 2 + x / 64 % 2 + x / 128 % 2
theorem pc_le (x : Nat) : pc x ≤ 8 := by unfold pc; omega
def bc1 (x : Int32) : Int32 := x - (((x).toUInt32 >>> (((1 : Int32)).toUInt32 &&& Int32.toUInt32 31)).toInt32 &&& (1431655765 : Int32))
def bc3 (y : Int32) : Int32 := (y &&& (858993459 : Int32)) + (((y).toUInt32 >>> (((2 : Int32)).toUInt32 &&& Int32.toUInt32 31)).toInt32 &&& (858993459 : Int32))
def bc5 (y : Int32) : Int32 := (y + ((y).toUInt32 >>> (((4 : Int32)).toUInt32 &&& Int32.toUInt32 31)).toInt32) &&& (252645135 : Int32)
def bc7 (y : Int32) : Int32 := y + ((y).toUInt32 >>> (((8 : Int32)).toUInt32 &&& Int32.toUInt32 31)).toInt32
def bc9 (y : Int32) : Int32 := y + ((y).toUInt32 >>> (((16 : Int32)).toUInt32 &&& Int32.toUInt32 31)).toInt32
theorem bc_all : ∀ x, x < 256 → bc9 (bc7 (bc5 (bc3 (bc1 (nI x))))) &&& (63 : Int32) = nI (pc x) := by decide +kernel
theorem C_bitCount {x : Nat} (hx : x < 256) {Post : Int32 → Prop} (h : Post (nI (pc x))) : qv_J6_bitCount_0f7a4 (nI x) Post := by
  intro y1 e1 y3 e3 y5 e5 y7 e7 y9 e9
  have : y9 &&& (63 : Int32) = nI (pc x) := by
    rw [← bc_all x hx, e9, e7, e5, e3, e1]
    rfl
  rw [this]
  exact h
def bitsR : Nat → Int32 → Int32 → Option Int32
  | 0, _, _ => none
  | n + 1, a, x => if x = 0 then some a else bitsR n (a + 1) (x &&& (x - 1))
theorem bits_all : ∀ x, x < 256 → bitsR 9 0 (nI x) = some (nI (pc x)) := by decide +kernel
theorem R_bitsL (Post E : Int32 → Prop) {r : Int32} (h : E r) : ∀ n a x, bitsR n a x = some r → qv_X8_bits_L4 Post E n a x := by
  intro n
  induction n with
  | zero => intro a x e; cases e
  | succ n ih =>
    intro a x e
    rw [bitsR] at e
    refine ⟨fun q => ?_, fun q => ?_⟩
    · rw [if_pos q] at e; cases e; exact h
    · rw [if_neg q] at e; exact ih _ _ e
theorem R_bits {x : Nat} (hx : x < 256) {Post : Int32 → Prop} (h : Post (nI (pc x))) : qv_X8_bits (nI x) Post := ⟨9, R_bitsL _ _ h 9 0 (nI x) (bits_all x hx)⟩
/-- the sum of minutes by a set: away, all, the sum so far; n stretches from k on -/
def pAw (A : Nat → Nat) (k aw al : Nat) : Nat := aw * (10 - A (4 + 3 * k)) + (al - aw) * A (3 + 3 * k)
def plS (A : Nat → Nat) (s : Int32) : Nat → Nat → Nat → Nat → Nat → Nat
  | 0, _, _, _, su => su
  | n + 1, k, aw, al, su => plS A s n (k + 1) (if nho s k = true then pAw A k aw al else 0) (10 * al) (10 * su + A (2 + 3 * k) * pAw A k aw al)
theorem pAw_le {A : Nat → Nat} (hA : OKL A) {k aw al : Nat} (hk : 1 ≤ k ∧ k ≤ A 0) (h : aw ≤ al) : pAw A k aw al ≤ 10 * al := by
  obtain ⟨_, _, b1, b2⟩ := hA.2.2.1 k hk.1 hk.2
  have m1 := Nat.mul_le_mul_left aw (show 10 - A (4 + 3 * k) ≤ 10 by omega)
  have m2 := Nat.mul_le_mul_left (al - aw) b1
  unfold pAw
  omega
theorem plS_mul {A : Nat → Nat} {s : Int32} {G : Nat} : ∀ n k aw al su, plS A s n k (G * aw) (G * al) (G * su) = G * plS A s n k aw al su := by
  intro n
  induction n with
  | zero => intro k aw al su; rfl
  | succ n ih =>
    intro k aw al su
    have e : pAw A k (G * aw) (G * al) = G * pAw A k aw al := by
      unfold pAw
      rw [← Nat.mul_sub, Nat.mul_assoc, Nat.mul_assoc, ← Nat.mul_add]
    rw [plS, plS, e, ← ih, Nat.mul_add, Nat.mul_left_comm 10 G, Nat.mul_left_comm 10 G, Nat.mul_left_comm (A (2 + 3 * k)) G]
    congr 1
    split
    · rfl
    · exact (Nat.mul_zero G).symm
theorem plS_le {A : Nat → Nat} (hA : OKL A) {s : Int32} : ∀ n k aw al su, aw ≤ al → 1 ≤ k → k + n = A 0 + 1 → su ≤ 60 * k * al → plS A s n k aw al su ≤ 60 * (k + n) * (10 ^ n * al) := by
  intro n
  induction n with
  | zero => intro k aw al su h1 h2 h3 h4; rw [plS, Nat.pow_zero, Nat.one_mul]; exact h4
  | succ n ih =>
    intro k aw al su h1 h2 h3 h4
    have p1 := pAw_le hA (k := k) ⟨h2, by omega⟩ h1
    have m1 := Nat.mul_le_mul (hA.2.2.1 k h2 (by omega)).2.1 p1
    rw [plS]
    have := ih (k + 1) (if nho s k = true then pAw A k aw al else 0) (10 * al) (10 * su + A (2 + 3 * k) * pAw A k aw al) (by split <;> omega) (by omega) (by omega) (by
      rw [Nat.mul_add, Nat.add_mul, Nat.mul_left_comm (60 * k) 10 al]; omega)
    rw [Nat.pow_succ, Nat.mul_assoc (10 ^ n), show k + (n + 1) = k + 1 + n by omega]
    exact this
section OD
variable {A : Nat → Nat} {st cO cB fB fd : Int32} {mi lo ba sl ta : Nat → Int32} {ti : Nat → Nat → Int32} {la : Nat → Int32}
theorem C_sumL (hA : OKL A) (hC : CL A st cO cB fB fd mi lo ba sl ta ti) (s : Int32) (za zl : Int64) (Post E : Int64 → Prop) : ∀ n k aw al su, k + n = A 0 + 1 → 1 ≤ k → aw ≤ al → E (lN (plS A s n k aw al su)) → qv_X1_sumOfMinutes_L20 s st za zl mi lo ba Post E (n + 1) (lN aw) (lN al) (lN su) (nI k) := by
  obtain ⟨⟨rfl, e1, e2, e3, e4⟩, em, es, et⟩ := hC
  have hA0 := hA.1.1
  intro n
  induction n with
  | zero =>
    intro k aw al su hk h1 hle hE
    exact pk_lt (A 0) k (fun _ => hE) (fun q => absurd q (by omega))
  | succ n ih =>
    intro k aw al su hk h1 hle hE
    obtain ⟨m1, m2, m3⟩ := em k h1 (by omega)
    obtain ⟨b0, b1, b2, b3⟩ := hA.2.2.1 k h1 (by omega)
    have vk : vp_in (nI k) 9 := vp_in_nI (by omega) (by first | decide | exact vd (by decide))
    have hp := pAw_le hA (k := k) ⟨h1, by omega⟩ hle
    refine pk_lt (A 0) k (fun q => absurd q (by omega)) (fun _ => ⟨vk, vk, vk, ?_⟩)
    rw [nI_clamp (by omega), m1, m2, m3, (r10 b3).1, (r10 b2).2, nI_l (by omega), lN_sub hle, lN_mul, lN_mul, lN_add, lN_mul, ll_10, lN_mul, lN_mul, lN_add, nI_1, show aw * (10 - A (4 + 3 * k)) + (al - aw) * A (3 + 3 * k) = pAw A k aw al from rfl, Nat.mul_comm al, Nat.mul_comm su]
    rw [plS] at hE
    refine C_holds (fun q => t0 (ih (k + 1) _ _ _ (by omega) (by omega) (by omega) ?_)) (fun q => t1 (ih (k + 1) 0 _ _ (by omega) (by omega) (by omega) ?_))
    · rw [if_pos q] at hE; exact hE
    · rw [if_neg q] at hE; exact hE
theorem C_sum (hA : OKL A) (hC : CL A st cO cB fB fd mi lo ba sl ta ti) {s : Int32} {w aw al : Nat} (hw : w ≤ A 0) (hle : aw ≤ al) {Post : Int64 → Prop} (h : Post (lN (plS A s (A 0 - w) (w + 1) aw al 0))) : qv_X1_sumOfMinutes (nI w) s st (lN aw) (lN al) mi lo ba Post := by
  refine ⟨A 0 - w + 1, ?_⟩
  rw [nI_1]
  exact C_sumL hA hC s _ _ _ _ (A 0 - w) (w + 1) aw al 0 (by omega) (by omega) hle h
theorem R_plansL (hA : OKL A) (hR : RLd A la) (s : Int32) (zw : Int32) (zl : Int64) (o : Nat → Int64) (Post E : Int64 → Int64 → Prop) : ∀ n k aw al su, k + n = A 0 + 1 → 1 ≤ k → aw ≤ al → E (lN (plS A s n k aw al su)) (lN (10 ^ n * al)) → qv_X8_plans_L41 s zw zl la o Post E (n + 1) (lN (al - aw)) (lN aw) (nI k) (lN su) (lN al) := by
  have hA0 := hA.1.1
  have e0 : la ((0 : Int32).toNatClampNeg) = nI (A 0) := hR 0 (by first | decide | exact vd (by decide))
  intro n
  induction n with
  | zero =>
    intro k aw al su hk h1 hle hE
    refine ⟨by first | decide | exact vd (by decide), ?_⟩
    rw [e0]
    rw [Nat.pow_zero, Nat.one_mul] at hE
    exact pk_lt (A 0) k (fun _ => hE) (fun q => absurd q (by omega))
  | succ n ih =>
    intro k aw al su hk h1 hle hE
    obtain ⟨b0, b1, b2, b3⟩ := hA.2.2.1 k h1 (by omega)
    have i3 : (3 : Int32) + (3 : Int32) * nI k = nI (3 + 3 * k) := by rw [li_3, pk_mul, nI_add]
    have i4 : (4 : Int32) + (3 : Int32) * nI k = nI (4 + 3 * k) := by rw [li_3, li_4, pk_mul, nI_add]
    have i2 : (2 : Int32) + (3 : Int32) * nI k = nI (2 + 3 * k) := by rw [li_3, li_2, pk_mul, nI_add]
    have hp := pAw_le hA (k := k) ⟨h1, by omega⟩ hle
    refine ⟨by first | decide | exact vd (by decide), ?_⟩
    rw [e0]
    refine pk_lt (A 0) k (fun q => absurd q (by omega)) (fun _ => ?_)
    unfold qv_X8_m
    dsimp only
    rw [i2, i3, i4, nI_clamp (by omega), nI_clamp (by omega), nI_clamp (by omega), hR _ (by omega), hR _ (by omega), hR _ (by omega)]
    refine ⟨vp_in_nI (by omega) (by first | decide | exact vd (by decide)), vp_in_nI (by omega) (by first | decide | exact vd (by decide)), vp_in_nI (by omega) (by first | decide | exact vd (by decide)), ?_⟩
    have eg : (al - aw) * A (3 + 3 * k) + aw * (10 - A (4 + 3 * k)) = pAw A k aw al := Nat.add_comm _ _
    have et : (al - aw) * (10 - A (3 + 3 * k)) + aw * A (4 + 3 * k) = 10 * al - pAw A k aw al := by
      have a1 : (al - aw) * (10 - A (3 + 3 * k)) + (al - aw) * A (3 + 3 * k) = (al - aw) * 10 := by rw [← Nat.mul_add]; congr 1; omega
      have a2 : aw * A (4 + 3 * k) + aw * (10 - A (4 + 3 * k)) = aw * 10 := by rw [← Nat.mul_add]; congr 1; omega
      unfold pAw
      omega
    rw [(r10 b2).1, (r10 b2).2, (r10 b3).1, (r10 b3).2, nI_l (by omega), lN_mul, lN_mul, lN_mul, lN_mul, lN_add, lN_add, eg, et, lN_add, ll_10, lN_mul, lN_mul, lN_mul, lN_add, nI_1, show 10 * al - pAw A k aw al + pAw A k aw al = 10 * al by omega, Nat.mul_comm al]
    rw [plS] at hE
    have ep : 10 ^ (n + 1) * al = 10 ^ n * (10 * al) := by rw [Nat.pow_succ, Nat.mul_assoc]
    rw [ep] at hE
    refine nho_d (fun q => ?_) (fun q => ?_)
    · rw [if_neg q] at hE
      exact ih (k + 1) 0 _ _ (by omega) (by omega) (by omega) hE
    · rw [if_pos q] at hE
      exact ih (k + 1) _ _ _ (by omega) (by omega) hp hE
theorem R_plans (hA : OKL A) (hR : RLd A la) {s : Int32} {w : Nat} {P : Nat → Nat} {o : Nat → Int64} (ho : CO o P) (hw : w ≤ A 0) {za zb : Int64} {Post : Int64 → Int64 → Prop} (h : Post (lN (plS A s (A 0 - w) (w + 1) (sm P 1 8) (tot P) 0)) (lN (10 ^ (A 0 - w) * tot P))) : qv_X8_plans s (nI w) (lN (tot P)) za zb la o Post := by
  have o0 : o (0 : Int32).toNatClampNeg = lN (P 0) := ho 0 (by first | decide | exact vd (by decide))
  have hp2 := tot_e P
  refine ⟨by first | decide | exact vd (by decide), by first | decide | exact vd (by decide), A 0 - w + 1, ?_⟩
  have k := R_plansL hA hR s (nI w) (lN (tot P)) o Post (fun a b => Post a b) (A 0 - w) (w + 1) (sm P 1 8) (tot P) 0 (by omega) (by omega) (by omega) h
  rw [o0, nI_1, lN_sub (by omega), show tot P - P 0 = sm P 1 8 by omega]
  rw [show tot P - sm P 1 8 = P 0 by omega] at k
  exact k
/-! which sets are tried, and the best of them -/
def stP (A : Nat → Nat) (t aw al w : Nat) (q : Nat × Nat) (x : Nat) : Nat × Nat := if pc x * A 32 ≤ t ∧ plS A (nI x) (A 0 - w) (w + 1) aw al 0 < q.2 then (x, plS A (nI x) (A 0 - w) (w + 1) aw al 0) else q
def may_ok (m x : Nat) : Bool := decide ((nI x &&& (nI m ^^^ (-1 : Int32))) = (0 : Int32))
theorem sets_all : ∀ S, S < 9 → ∀ w, w < 9 → w ≤ S → (List.range' 1 (2 ^ S - 2 ^ w)).filter (may_ok (2 ^ S - 2 ^ w)) = (List.range' 1 (2 ^ (S - w) - 1)).map (fun j => j * 2 ^ w) := by decide +kernel
def plF (A : Nat → Nat) (t aw al w : Nat) : Nat × Nat := ((List.range' 1 (2 ^ (A 0 - w) - 1)).map (fun j => j * 2 ^ w)).foldl (stP A t aw al w) (0, plS A (nI 0) (A 0 - w) (w + 1) aw al 0)
theorem stP_mul {A : Nat → Nat} {t aw al w G : Nat} (hG : 0 < G) (q : Nat × Nat) (x : Nat) : stP A t (G * aw) (G * al) w (q.1, G * q.2) x = ((stP A t aw al w q x).1, G * (stP A t aw al w q x).2) := by
  have e := plS_mul (A := A) (s := nI x) (G := G) (A 0 - w) (w + 1) aw al 0
  rw [Nat.mul_zero] at e
  unfold stP
  rw [e]
  by_cases c : pc x * A 32 ≤ t ∧ plS A (nI x) (A 0 - w) (w + 1) aw al 0 < q.2
  · rw [if_pos c, if_pos ⟨c.1, (Nat.mul_lt_mul_left hG).mpr c.2⟩]
  · rw [if_neg c, if_neg (fun z => c ⟨z.1, (Nat.mul_lt_mul_left hG).mp z.2⟩)]
theorem plF_mul {A : Nat → Nat} {t aw al w G : Nat} (hG : 0 < G) : plF A t (G * aw) (G * al) w = ((plF A t aw al w).1, G * (plF A t aw al w).2) := by
  have e := plS_mul (A := A) (s := nI 0) (G := G) (A 0 - w) (w + 1) aw al 0
  rw [Nat.mul_zero] at e
  unfold plF
  rw [e]
  have L : ∀ (l : List Nat) (q : Nat × Nat), l.foldl (stP A t (G * aw) (G * al) w) (q.1, G * q.2) = ((l.foldl (stP A t aw al w) q).1, G * (l.foldl (stP A t aw al w) q).2) := by
    intro l
    induction l with
    | nil => intro q; rfl
    | cons x l ih => intro q; rw [List.foldl_cons, List.foldl_cons, stP_mul hG, ih]
  exact L _ (0, plS A (nI 0) (A 0 - w) (w + 1) aw al 0)
theorem foldl_inv {α β : Type} (f : β → α → β) (I : β → Prop) : ∀ (l : List α) (q : β), I q → (∀ q x, x ∈ l → I q → I (f q x)) → I (l.foldl f q) := by
  intro l
  induction l with
  | nil => intro q h _; exact h
  | cons x l ih => intro q h hs; exact ih _ (hs q x (List.mem_cons_self) h) (fun q y hy => hs q y (List.mem_cons_of_mem _ hy))
theorem pl_le (hA : OKL A) {s : Int32} {w aw al : Nat} (hw : w ≤ A 0) (hle : aw ≤ al) (hb : 10 ^ (A 0 - w) * al ≤ 100000000000000) : plS A s (A 0 - w) (w + 1) aw al 0 ≤ 54000000000000000 := by
  have hA0 := hA.1.1
  have h := plS_le hA (s := s) (A 0 - w) (w + 1) aw al 0 hle (by omega) (by omega) (Nat.zero_le _)
  have h2 := Nat.mul_le_mul (show 60 * (w + 1 + (A 0 - w)) ≤ 540 by omega) hb
  omega
theorem pow_m {n : Nat} (h : n ≤ 8) : 1 ≤ 2 ^ n ∧ 2 ^ n ≤ 256 := by
  rcases (show n = 0 ∨ n = 1 ∨ n = 2 ∨ n = 3 ∨ n = 4 ∨ n = 5 ∨ n = 6 ∨ n = 7 ∨ n = 8 by omega) with rfl | rfl | rfl | rfl | rfl | rfl | rfl | rfl | rfl <;> decide
theorem C_whereL (hA : OKL A) (hC : CL A st cO cB fB fd mi lo ba sl ta ti) {t w aw al : Nat} (ht : t ≤ 99) (hw : w ≤ A 0) (hle : aw ≤ al) (hb : 10 ^ (A 0 - w) * al ≤ 100000000000000) (zb : Int64) (Post : Int32 → Int64 → Int64 → Prop) (E : Int32 → Int64 → Prop) (F : Nat × Nat) (hE : E (nI F.1) (lN F.2)) : ∀ n j q, 1 ≤ j → j + n = 2 ^ (A 0 - w) → q.2 ≤ 54000000000000000 → ((List.range' j n).map (fun j => j * 2 ^ w)).foldl (stP A t aw al w) q = F → qv_X1_whereToCount_L46 (nI w) (nI t) (nI (2 ^ w)) zb st (lN aw) (lN al) mi lo ba ta Post E (n + 1) (nI (j * 2 ^ w)) (nI q.1) (lN q.2) := by
  have hA0 := hA.1.1
  have hC' := hC
  obtain ⟨⟨rfl, e1, e2, e3, e4⟩, em, es, et⟩ := hC'
  have hpw : 2 ^ (A 0 - w) * 2 ^ w = 2 ^ A 0 := by rw [← Nat.pow_add]; congr 1; omega
  obtain ⟨es0, s1, s2⟩ := shl_1 (A 0) hA0
  have p1 := pow_m (n := w) (by omega)
  intro n
  induction n with
  | zero =>
    intro j q hj hn hq hF
    rw [Nat.add_zero] at hn
    subst hn
    refine ⟨fun _ => ?_, fun z => absurd ?_ z⟩
    · rw [← hF] at hE; exact hE
    · rw [es0, hpw]; exact (nI_leI (by omega) (by omega)).mpr (Nat.le_refl _)
  | succ n ih =>
    intro j q hj hn hq hF
    have hx : j * 2 ^ w < 2 ^ A 0 := by rw [← hpw]; exact Nat.mul_lt_mul_of_pos_right (by omega) (by omega)
    have hpc := pc_le (j * 2 ^ w)
    have h32 : A 32 ≤ 60 := (hA.2.2.2.1 1 (by first | decide | exact vd (by decide))).2
    have m1 := Nat.mul_le_mul hpc h32
    rw [List.range'_succ, List.map_cons, List.foldl_cons] at hF
    refine ⟨fun z => absurd z (by rw [es0]; exact nI_ge hx (by omega)), fun _ => C_bitCount (by omega) ⟨by first | decide | exact vd (by decide), ?_⟩⟩
    have e32 : ta ((1 : Int32).toNatClampNeg) = nI (A 32) := (es 1 (by first | decide | exact vd (by decide))).2
    rw [e32, pk_mul, nI_add, show j * 2 ^ w + 2 ^ w = (j + 1) * 2 ^ w by rw [Nat.add_mul, Nat.one_mul]]
    have hv := pl_le hA (s := nI (j * 2 ^ w)) hw hle hb
    refine pk_lt t (pc (j * 2 ^ w) * A 32) (fun c => ?_) (fun c => C_sum hA hC hw hle ?_)
    · rw [show stP A t aw al w q (j * 2 ^ w) = q from if_neg (by omega)] at hF
      exact ih (j + 1) q (by omega) (by omega) hq hF
    · have e := pk_lLE (a := q.2) (b := plS A (nI (j * 2 ^ w)) (A 0 - w) (w + 1) aw al 0) (by omega) (by omega)
      refine ⟨fun z => ?_, fun z => ?_⟩
      · rw [show stP A t aw al w q (j * 2 ^ w) = q from if_neg (by have := e.mp z; omega)] at hF
        exact ih (j + 1) q (by omega) (by omega) hq hF
      · rw [show stP A t aw al w q (j * 2 ^ w) = (j * 2 ^ w, plS A (nI (j * 2 ^ w)) (A 0 - w) (w + 1) aw al 0) from if_pos ⟨c, Nat.not_le.mp fun y => z (e.mpr y)⟩] at hF
        exact ih (j + 1) (j * 2 ^ w, plS A (nI (j * 2 ^ w)) (A 0 - w) (w + 1) aw al 0) (by omega) (by omega) hv hF
def a_plan (A P : Nat → Nat) (w : Nat) (x1 x2 : Int32) : Int64 := if 0 ≤ x1.toInt ∧ x1.toInt ≤ 99 ∧ 0 ≤ x2.toInt ∧ x2.toInt ≤ 2 then (if tot P = 0 then -4 else if x2.toInt = 0 then lN (plF A x1.toInt.toNat (sm P 1 8) (tot P) w).1 else lN (fr (plF A x1.toInt.toNat (sm P 1 8) (tot P) w).2 (10 ^ (A 0 - w) * tot P) (x2.toInt.toNat - 1))) else -1
theorem a_plan_mul {A P P' : Nat → Nat} {G w : Nat} (hG : 0 < G) (h : ∀ s, s < 9 → P s = G * P' s) (x1 x2 : Int32) : a_plan A P w x1 x2 = a_plan A P' w x1 x2 := by
  unfold a_plan
  by_cases q : 0 ≤ x1.toInt ∧ x1.toInt ≤ 99 ∧ 0 ≤ x2.toInt ∧ x2.toInt ≤ 2
  · rw [if_pos q, if_pos q]
    by_cases z : tot P' = 0
    · rw [if_pos z, if_pos ((tot_mul0 hG h).mpr z)]
    · rw [if_neg z, if_neg (fun y => z ((tot_mul0 hG h).mp y)), tot_mul h, away_mul h, plF_mul hG, Nat.mul_left_comm (10 ^ (A 0 - w)) G, fr_mul _ _ _ _ hG]
  · rw [if_neg q, if_neg q]
theorem plF_le (hA : OKL A) {t w aw al : Nat} (hw : w ≤ A 0) (hle : aw ≤ al) (hb : 10 ^ (A 0 - w) * al ≤ 100000000000000) : (plF A t aw al w).2 ≤ 54000000000000000 ∧ (plF A t aw al w).1 < 256 := by
  have hA0 := hA.1.1
  have p2 := pow_m (n := A 0) (by omega)
  have p1 := pow_m (n := w) (by omega)
  have hpw : 2 ^ (A 0 - w) * 2 ^ w = 2 ^ A 0 := by rw [← Nat.pow_add]; congr 1; omega
  have pp := pow_m (n := A 0 - w) (by omega)
  refine foldl_inv (stP A t aw al w) (fun q : Nat × Nat => q.2 ≤ 54000000000000000 ∧ q.1 < 256) _ (0, plS A (nI 0) (A 0 - w) (w + 1) aw al 0) ⟨pl_le hA hw hle hb, Nat.zero_lt_succ 255⟩ (fun q x hx hq => ?_)
  unfold stP
  split
  · refine ⟨pl_le hA hw hle hb, ?_⟩
    obtain ⟨j, hj, rfl⟩ := List.mem_map.mp hx
    have hj2 := (List.mem_range'_1.mp hj).2
    show j * 2 ^ w < 256
    have : j * 2 ^ w < 2 ^ (A 0 - w) * 2 ^ w := Nat.mul_lt_mul_of_pos_right (by omega) (by omega)
    omega
  · exact hq
theorem p10 {A : Nat → Nat} (hA : OKL A) {w m T : Nat} (hw : w ≤ A 0) (hm : m ≤ 6) (h : T ≤ 10 ^ (w + m)) : 10 ^ (A 0 - w) * T ≤ 100000000000000 := by
  refine Nat.le_trans (Nat.mul_le_mul_left _ h) ?_
  rw [← Nat.pow_add, show A 0 - w + (w + m) = A 0 + m by omega]
  exact p14 hA.1.1 hm
theorem C_plan (hA : OKL A) (hC : CL A st cO cB fB fd mi lo ba sl ta ti) {w m : Nat} {B Q D : Nat → Nat} (hV : VW (A 0) w m B Q D) {be so te : Nat → Int32} (hW : WA m B Q D be so te) {aw al : Int64} {o : Nat → Int64} {a : Int32} {b c : Int64} {x1 x2 : Int32} {Post : Int64 → Int64 → Int64 → Int32 → Int64 → Int64 → (Nat → Int64) → Prop} (h : ∀ aw al a b c o, Post (a_plan A (RU A w m B Q D).1 w x1 x2) aw al a b c o) : qv_X7_plan x1 x2 st (nI w) (nI m) aw al a b c mi lo ba sl ta be so te o Post := by
  have hA0 := hA.1.1
  have hw := hV.1
  have bad : ¬ (0 ≤ x1.toInt ∧ x1.toInt ≤ 99 ∧ 0 ≤ x2.toInt ∧ x2.toInt ≤ 2) → ∀ aw al a b c o, Post (-1) aw al a b c o := fun q => by rw [a_plan, if_neg q] at h; exact h
  refine bl x1.toInt 0 rfl rfl (fun q => bad (by omega) _ _ _ _ _ _) (fun q => bl 99 x1.toInt rfl rfl (fun q2 => bad (by omega) _ _ _ _ _ _) (fun q2 => C_isOfChoice (fun p hp ep tp => t1 ?_) (fun q => t0 (bad (by omega) _ _ _ _ _ _))))
  obtain ⟨t, ht, rfl, et⟩ := nI_of3 (x := x1) (n := 100) (by first | decide | exact vd (by decide)) (by omega) (by omega)
  rw [a_plan, if_pos (by omega), tp, et, Int.toNat_natCast, Int.toNat_natCast] at h
  subst ep
  refine C_follow hA hC hV hW (fun o' ho hb => ?_)
  have hb2 := p10 hA hw hV.2.1 hb
  have hb := b14 (by omega) hV.2.1 hb
  generalize (RU A w m B Q D).1 = P at *
  have hp2 := tot_e P
  have hle : sm P 1 8 ≤ tot P := by omega
  have hF := plF_le hA (t := t) hw hle hb2
  have e0 : st = nI (A 0) := hC.1.1
  obtain ⟨ew, w1, w2⟩ := shl_1 w (by omega)
  have pp := pow_m (n := A 0 - w) (by omega)
  refine C_sum hA hC hw hle ?_
  rw [e0, pk_sub hw]
  have h10 : 10 ^ (A 0 - w) ≤ 100000000 := Nat.le_trans (Nat.pow_le_pow_right (by first | decide | exact vd (by decide)) (show A 0 - w ≤ 8 by omega)) (by first | decide | exact vd (by decide))
  refine C_power (b := 10) (by omega) ⟨2 ^ (A 0 - w) - 1 + 1, ?_⟩
  rw [ew, nI_l (by omega), lN_mul, Nat.mul_comm (tot P), ← e0]
  have k := C_whereL hA hC (t := t) (by omega) hw hle hb2 (lN (10 ^ (A 0 - w) * tot P)) (fun a b c => qv_X1_answer (nI p) a b c (fun r7 => Post r7 (lN (sm P 1 8)) (lN (tot P)) a b c o')) (fun a b => qv_X1_answer (nI p) a b (lN (10 ^ (A 0 - w) * tot P)) (fun r7 => Post r7 (lN (sm P 1 8)) (lN (tot P)) a b (lN (10 ^ (A 0 - w) * tot P)) o')) (plF A t (sm P 1 8) (tot P) w) ?_ (2 ^ (A 0 - w) - 1) 1 (0, plS A (nI 0) (A 0 - w) (w + 1) (sm P 1 8) (tot P) 0) (by omega) (by omega) (pl_le hA hw hle hb2) rfl
  · rw [Nat.one_mul] at k; exact k
  · have h0 : 10 ^ (A 0 - w) * tot P = 0 ↔ tot P = 0 := by
      rw [Nat.mul_eq_zero]
      have : 0 < 10 ^ (A 0 - w) := Nat.pow_pos (by first | decide | exact vd (by decide))
      omega
    refine C_answer (by omega) (by omega) hp (fun z => ?_) (fun z z2 => ?_) (fun z z2 => ?_)
    · rw [if_pos (h0.mp z)] at h; exact h _ _ _ _ _ _
    · rw [if_neg (fun y => by have := h0.mpr y; omega), if_pos (by omega)] at h; rw [nI_l (by omega)]; exact h _ _ _ _ _ _
    · rw [if_neg (fun y => by have := h0.mpr y; omega), if_neg (by omega)] at h; exact h _ _ _ _ _ _
theorem R_planL (hA : OKL A) (hR : RLd A la) {t p w m : Nat} {P : Nat → Nat} {be so te : Nat → Int32} {o : Nat → Int64} (ho : CO o P) (ht : t ≤ 99) (hw : w ≤ A 0) (hb : 10 ^ (A 0 - w) * tot P ≤ 100000000000000) (Post : Int64 → Int64 → Int64 → Int64 → (Nat → Int64) → Prop) (E : Int32 → Int64 → Int64 → Int64 → Prop) (F : Nat × Nat) (hE : ∀ z, E (nI F.1) (lN F.2) z (lN (10 ^ (A 0 - w) * tot P))) : ∀ n x q z, 1 ≤ x → x + n = 2 ^ A 0 - 2 ^ w + 1 → q.2 ≤ 54000000000000000 → ((List.range' x n).filter (may_ok (2 ^ A 0 - 2 ^ w))).foldl (stP A t (sm P 1 8) (tot P) w) q = F → qv_X8_plan_L83 (nI t) (nI p) (nI (2 ^ A 0 - 2 ^ w)) (nI w) (nI m) (lN (tot P)) la be so te o Post E (n + 1) (nI q.1) (lN q.2) (nI x) z (lN (10 ^ (A 0 - w) * tot P)) := by
  have hA0 := hA.1.1
  have p2 := pow_m (n := A 0) (by omega)
  have p1 := pow_m (n := w) (by omega)
  have hle : sm P 1 8 ≤ tot P := by have := tot_e P; omega
  intro n
  induction n with
  | zero =>
    intro x q z hx hn hq hF
    refine pk_lt (2 ^ A 0 - 2 ^ w) x (fun _ => ?_) (fun c => absurd c (by omega))
    rw [← hF] at hE
    exact hE z
  | succ n ih =>
    intro x q z hx hn hq hF
    rw [List.range'_succ] at hF
    refine pk_lt (2 ^ A 0 - 2 ^ w) x (fun c => absurd c (by omega)) (fun _ => ⟨fun c => ?_, fun c => ?_⟩)
    · have hok : may_ok (2 ^ A 0 - 2 ^ w) x = true := by unfold may_ok; exact decide_eq_true c
      rw [List.filter_cons_of_pos hok, List.foldl_cons] at hF
      refine R_bits (by omega) ⟨by first | decide | exact vd (by decide), ?_⟩
      have l32 : la ((32 : Int32).toNatClampNeg) = nI (A 32) := hR 32 (by first | decide | exact vd (by decide))
      have hpc := pc_le x
      have h32 : A 32 ≤ 60 := (hA.2.2.2.1 1 (by first | decide | exact vd (by decide))).2
      have m1 := Nat.mul_le_mul hpc h32
      have hv := pl_le hA (s := nI x) hw hle hb
      unfold qv_X8_plan_J138
      rw [l32, pk_mul, nI_1]
      refine pk_lt t (pc x * A 32) (fun c => ?_) (fun c => R_plans hA hR ho hw ?_)
      · rw [show stP A t (sm P 1 8) (tot P) w q x = q from if_neg (by omega)] at hF
        exact ih (x + 1) q z (by omega) (by omega) hq hF
      · have e := pk_lLE (a := q.2) (b := plS A (nI x) (A 0 - w) (w + 1) (sm P 1 8) (tot P) 0) (by omega) (by omega)
        refine ⟨fun z => br_t z ?_, fun z => br_f z ?_⟩
        · rw [show stP A t (sm P 1 8) (tot P) w q x = q from if_neg (by have := e.mp z; omega)] at hF
          exact ih (x + 1) q _ (by omega) (by omega) hq hF
        · rw [show stP A t (sm P 1 8) (tot P) w q x = (x, plS A (nI x) (A 0 - w) (w + 1) (sm P 1 8) (tot P) 0) from if_pos ⟨c, Nat.not_le.mp fun y => z (e.mpr y)⟩] at hF
          exact ih (x + 1) (x, plS A (nI x) (A 0 - w) (w + 1) (sm P 1 8) (tot P) 0) _ (by omega) (by omega) hv hF
    · have hok : ¬ may_ok (2 ^ A 0 - 2 ^ w) x = true := by unfold may_ok; rw [decide_eq_true_iff]; exact c
      rw [List.filter_cons_of_neg hok] at hF
      rw [nI_1]
      exact ih (x + 1) q z (by omega) (by omega) hq hF
theorem R_plan (hA : OKL A) (hR : RLd A la) {w m : Nat} {B Q D : Nat → Nat} (hV : VW (A 0) w m B Q D) {be so te : Nat → Int32} (hW : WA m B Q D be so te) {al za zb : Int64} {o : Nat → Int64} {x1 x2 : Int32} {Post : Int64 → Int64 → Int64 → Int64 → (Nat → Int64) → Prop} (h : ∀ al za zb o, Post (a_plan A (RU A w m B Q D).1 w x1 x2) al za zb o) : qv_X8_plan x1 x2 (nI w) (nI m) al za zb la be so te o Post := by
  have hA0 := hA.1.1
  have hw := hV.1
  have bad : ¬ (0 ≤ x1.toInt ∧ x1.toInt ≤ 99 ∧ 0 ≤ x2.toInt ∧ x2.toInt ≤ 2) → ∀ al za zb o, Post (-1) al za zb o := fun q => by rw [a_plan, if_neg q] at h; exact h
  refine R_inI 0 99 rfl rfl (fun q q2 => t1 (R_isOfChoice (fun p hp ep tp => t1 ?_) (fun q => t0 (bad (by omega) _ _ _ _)))) (fun q => t0 (bad (by omega) _ _ _ _))
  obtain ⟨t, ht, rfl, et⟩ := nI_of3 (x := x1) (n := 100) (by first | decide | exact vd (by decide)) (by omega) (by omega)
  refine R_goes hA hR hV hW (fun al o hs hb => ?_)
  have hb2 := p10 hA hw hV.2.1 hb
  have hb := b14 (by omega) hV.2.1 hb
  obtain ⟨G, P, hG, hP, ho, rfl⟩ := hs
  have hlt := RS_le hG hP
  rw [a_plan_mul hG hP, a_plan, if_pos (by omega), tp, et, Int.toNat_natCast, Int.toNat_natCast] at h
  subst ep
  have hb3 : 10 ^ (A 0 - w) * tot P ≤ 100000000000000 := Nat.le_trans (Nat.mul_le_mul_left _ hlt) hb2
  have hp2 := tot_e P
  have hle : sm P 1 8 ≤ tot P := by omega
  have hF := plF_le hA (t := t) hw hle hb3
  have e0 : la ((0 : Int32).toNatClampNeg) = nI (A 0) := hR 0 (by first | decide | exact vd (by decide))
  obtain ⟨ew, w1, w2⟩ := shl_1 w (by omega)
  obtain ⟨es, s1, s2⟩ := shl_1 (A 0) hA0
  have hpp : 2 ^ w ≤ 2 ^ A 0 := Nat.pow_le_pow_right (by first | decide | exact vd (by decide)) hw
  have h10 : 0 < 10 ^ (A 0 - w) := Nat.pow_pos (by first | decide | exact vd (by decide))
  refine tot_c (by omega) (fun z => ?_) (fun z => ⟨by first | decide | exact vd (by decide), ?_⟩)
  · rw [if_pos z] at h; exact h _ _ _ _
  rw [if_neg (by omega)] at h
  refine R_plans hA hR (s := nI 0) ho hw ⟨2 ^ A 0 - 2 ^ w + 1, ?_⟩
  rw [e0, es, ew, pk_sub hpp]
  have hz : 0 < 10 ^ (A 0 - w) * tot P := Nat.mul_pos h10 z
  refine R_planL hA hR (p := p) (m := m) ho (by omega) hw hb3 _ _ (plF A t (sm P 1 8) (tot P) w) (fun y => pk_eq p 0 (fun z2 => ?_) (fun z2 => ?_)) (2 ^ A 0 - 2 ^ w) 1 (0, plS A (nI 0) (A 0 - w) (w + 1) (sm P 1 8) (tot P) 0) _ (by omega) (by omega) (pl_le hA hw hle hb3) ?_
  · rw [if_pos (by omega)] at h; rw [nI_l (by omega)]; exact h _ _ _ _
  · rw [if_neg (by omega)] at h
    rw [show nI p - (1 : Int32) = nI (p - 1) from pk_sub (b := 1) (by omega)]
    exact R_part hz (by omega) (by omega) (by omega) (h _ _ _ _)
  · rw [sets_all (A 0) (by omega) w (by omega) hw]
    rfl
end OD
