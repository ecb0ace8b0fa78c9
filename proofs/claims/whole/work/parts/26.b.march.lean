/-! march: the class's seek, the reference's rows -/
def a_march (A : Nat → Nat) (x : Int32) : Int32 := if x = -1 ∨ (0 ≤ x.toInt ∧ x.toInt < A 1) then (match mbest (fun i j => A (37 + 6 * i + j)) (A 1) with
  | none => 0
  | some (s, w) => if x = -1 then nI s else cd (w.getD x.toInt.toNat 7)) else -1
section MA
variable {A : Nat → Nat} {st cO cB fB fd : Int32} {mi lo ba sl ta : Nat → Int32} {ti : Nat → Nat → Int32} {la : Nat → Int32}
theorem C_seek (hA : OKL A) (hC : CL A st cO cB fB fd mi lo ba sl ta ti) {l f : Int32} {wi b : Nat → Int32} {Post : Int32 → Int32 → (Nat → Int32) → (Nat → Int32) → Prop} (h : ∀ l' f' wi' b', RC (mbest (fun i j => A (37 + 6 * i + j)) (A 1)) l' f' b' → Post l' f' wi' b') : qv_X3_seek l f fd wi b ti Post := by
  obtain ⟨⟨e0, rfl, e2, e3, e4⟩, em, es, et⟩ := hC
  have hA1 := hA.1.2.1
  have hA2 := hA.1.2.2
  have ht : ∀ i j, i < 6 → j < 6 → ti i j = nI (A (37 + 6 * i + j)) ∧ A (37 + 6 * i + j) ≤ 9 := fun i j hi hj => ⟨et i j hi hj, (hA.2.2.2.2 i j hi hj).1⟩
  have go : ∀ wi' b', (∀ k, k < 6 → wi' k = (-9 : Int32)) → qv_X3_place 8 (0 : Int32) (nI (A 1 % 2)) (0 : Int32) (0 : Int32) (0 : Int32) (nI (A 1)) wi' b' ti (fun a b c d => Post a b c d) := fun wi' b' hw => by
    refine C_place hA2 ht 8 0 (A 1 % 2) [7, 7, 7, 7, 7, 7] [] none (0 : Int32) (0 : Int32) wi' b' _ (by omega) (by omega) (by omega) rfl ?_ (fun k hk => ?_) (by show 0 + 9 * 8 ≤ 900; omega) rfl (fun l' f' wi2 b2 hS _ => ?_)
    · intro k
      match k with
      | 0 => decide
      | 1 => decide
      | 2 => decide
      | 3 => decide
      | 4 => decide
      | 5 => decide
      | k + 6 => exact Nat.le_refl 7
    · rw [hw k hk]
      rcases (show k = 0 ∨ k = 1 ∨ k = 2 ∨ k = 3 ∨ k = 4 ∨ k = 5 by omega) with rfl | rfl | rfl | rfl | rfl | rfl <;> rfl
    · rw [(ps_tr (A 1) hA1 hA2).1] at hS
      exact h _ _ _ _ hS
  have L : ∀ m i wi' b', i + m = 6 → (∀ k, k < i → wi' k = (-9 : Int32)) → qv_X3_seek_L2 l f (nI (A 1)) ti Post (fun z_with_4 z_best_4 => ((nI (A 1) - nI (A 1) / (2 : Int32) * (2 : Int32)) = (0 : Int32) → qv_X3_place 8 (0 : Int32) (0 : Int32) (0 : Int32) (0 : Int32) (0 : Int32) (nI (A 1)) z_with_4 z_best_4 ti (fun z_least_6 z_found_6 z_with_6 z_best_6 => Post z_least_6 z_found_6 z_with_6 z_best_6)) ∧ (¬ (nI (A 1) - nI (A 1) / (2 : Int32) * (2 : Int32)) = (0 : Int32) → qv_X3_place 8 (0 : Int32) (1 : Int32) (0 : Int32) (0 : Int32) (0 : Int32) (nI (A 1)) z_with_4 z_best_4 ti (fun z_least_7 z_found_7 z_with_7 z_best_7 => Post z_least_7 z_found_7 z_with_7 z_best_7))) (m + 1) (nI i) wi' b' := by
    intro m
    induction m with
    | zero =>
      intro i wi' b' hi hw
      have : i = 6 := by omega
      subst this
      refine pk_le 6 6 (fun _ => ?_) (fun q => absurd q (by omega))
      have er : nI (A 1) - nI (A 1) / (2 : Int32) * (2 : Int32) = nI (A 1 % 2) := pk_rem (d := 2) (by omega) (by first | decide | exact vd (by decide)) (by first | decide | exact vd (by decide))
      rw [er]
      have g := go wi' b' hw
      refine pk_eq (A 1 % 2) 0 (fun q => ?_) (fun q => ?_)
      · rw [q] at g; exact g
      · rw [show A 1 % 2 = 1 by omega] at g; exact g
    | succ m ih =>
      intro i wi' b' hi hw
      have v : vp_in (nI i) 6 := vp_in_nI (by omega) (by first | decide | exact vd (by decide))
      refine pk_le 6 i (fun q => absurd q (by omega)) (fun _ => ⟨v, v, ?_⟩)
      rw [nI_clamp (by omega), nI_1]
      refine ih (i + 1) _ _ (by omega) (fun k hk => ?_)
      by_cases z : k = i
      · subst z; exact pk_us
      · rw [pk_un z]; exact hw k (by omega)
  exact ⟨7, L 6 0 wi b (by omega) (fun k hk => absurd hk (by omega))⟩
theorem C_march (hA : OKL A) (hC : CL A st cO cB fB fd mi lo ba sl ta ti) {l f : Int32} {wi b : Nat → Int32} {x : Int32} {Post : Int32 → Int32 → Int32 → (Nat → Int32) → (Nat → Int32) → Prop} (h : ∀ l f wi b, Post (a_march A x) l f wi b) : qv_X7_march x fd l f wi b ti Post := by
  have hA1 := hA.1.2.1
  have hA2 := hA.1.2.2
  obtain ⟨s, w, hb⟩ := mbest_some (fun i j => A (37 + 6 * i + j)) hA1 hA2
  refine ⟨fun q => ?_, fun q => C_isFriend hA hC.1.2.1 (fun k hk e ek => t1 ?_) (fun q2 => t0 ?_)⟩
  · refine C_seek hA hC (fun l' f' wi' b' hS => ?_)
    rw [hb] at hS
    rw [a_march, if_pos (Or.inl q), hb] at h
    simp only [q, if_true] at h
    refine br_t q ?_
    rw [hS.2.1]
    exact h _ _ _ _
  · refine C_seek hA hC (fun l' f' wi' b' hS => ?_)
    rw [hb] at hS
    rw [a_march, if_pos (Or.inr (by omega)), hb] at h
    simp only [q, if_false] at h
    refine br_f q ⟨?_, ?_⟩
    · rw [e]; exact vp_in_nI (by omega) (by first | decide | exact vd (by decide))
    · rw [ek] at h
      rw [e, nI_clamp (by omega), hS.2.2.2 k (by omega)]
      exact h _ _ _ _
  · rw [a_march, if_neg (by intro z; rcases z with z | z; exact q z; omega)] at h
    exact h _ _ _ _
/-! rows -/
def bi (m i : Nat) : Nat := m / 2 ^ i % 2
theorem b_shr : ∀ m, m < 64 → ∀ i, i < 6 → ((nI m >>> (nI i &&& 31)) &&& (1 : Int32)) = nI (bi m i) := by decide +kernel
theorem b_or1 : ∀ m, m < 64 → ∀ i, i < 6 → nI m ||| ((1 : Int32) <<< (nI i &&& 31)) = nI (m ||| 2 ^ i) ∧ m ||| 2 ^ i < 64 := by decide +kernel
theorem b_or2 : ∀ m, m < 64 → ∀ i, i < 6 → ∀ j, j < 6 → nI m ||| (((1 : Int32) <<< (nI i &&& 31)) ||| ((1 : Int32) <<< (nI j &&& 31))) = nI (m ||| 2 ^ i ||| 2 ^ j) := by decide +kernel
theorem b_ori : ∀ m, m < 64 → ∀ i, i < 6 → ∀ k, k < 6 → bi (m ||| 2 ^ i) k = if k = i then 1 else bi m k := by decide +kernel
theorem bi_le (m i : Nat) : bi m i ≤ 1 := by unfold bi; omega
/-- a row read from friend i = N - m on -/
def rowS (N : Nat) : Nat → Nat → Nat → Nat → Nat → List Nat → List (Nat × Nat) → Option (Nat × List Nat × List (Nat × Nat))
  | 0, _, _, al, _, w, acc => some (al, w, acc)
  | m + 1, i, met, al, left, w, acc => if bi met i = 1 then (if left / 6 ^ m = 0 then rowS N m (i + 1) met al (left % 6 ^ m) w acc else none) else if left / 6 ^ m = 0 then rowS N m (i + 1) (met ||| 2 ^ i) (al + 1) (left % 6 ^ m) (w.set i 6) acc else if i + left / 6 ^ m < N ∧ bi met (i + left / 6 ^ m) = 0 then rowS N m (i + 1) (met ||| 2 ^ i ||| 2 ^ (i + left / 6 ^ m)) al (left % 6 ^ m) ((w.set i (i + left / 6 ^ m)).set (i + left / 6 ^ m) i) ((i, i + left / 6 ^ m) :: acc) else none
def stR (t : Nat → Nat → Nat) (N : Nat) (q : Option (Nat × List Nat × List (Nat × Nat))) (S : Option (Nat × List Nat)) : Option (Nat × List Nat) := match q with
  | none => S
  | some (al, w, acc) => if al = N % 2 then seF t S (w, acc) else S
def foR {σ : Type} (g : Nat → σ → σ) : Nat → σ → σ
  | 0, S => S
  | n + 1, S => g n (foR g n S)
theorem foR_add {σ : Type} (g : Nat → σ → σ) (a : Nat) (S : σ) : ∀ b, foR g (a + b) S = foR (fun k => g (a + k)) b (foR g a S) := by
  intro b
  induction b with
  | zero => rfl
  | succ b ih => rw [← Nat.add_assoc, foR, foR, ih]
theorem foR_congr {σ : Type} (g g' : Nat → σ → σ) (S : σ) : ∀ n, (∀ k, k < n → ∀ S, g k S = g' k S) → foR g n S = foR g' n S := by
  intro n
  induction n with
  | zero => intro _; rfl
  | succ n ih => intro h; rw [foR, foR, ih (fun k hk => h k (by omega)), h n (by omega)]
theorem foR_id {σ : Type} (S : σ) : ∀ n, foR (fun _ S => S) n S = S := by
  intro n
  induction n with
  | zero => rfl
  | succ n ih => rw [foR]; exact ih
theorem foR_mul {σ : Type} (g : Nat → σ → σ) (p : Nat) : ∀ n S, foR g (n * p) S = foR (fun q S => foR (fun k => g (q * p + k)) p S) n S := by
  intro n
  induction n with
  | zero => intro S; rw [Nat.zero_mul]; rfl
  | succ n ih => intro S; rw [Nat.succ_mul, foR_add, ih, foR]
theorem blk (t : Nat → Nat → Nat) (N : Nat) : ∀ m i met al w acc S, i + m = N → foR (fun left S => stR t N (rowS N m i met al left w acc) S) (6 ^ m) S = (tr N m i met al w acc).foldl (seF t) S := by
  intro m
  induction m with
  | zero =>
    intro i met al w acc S h
    show stR t N (some (al, w, acc)) S = _
    rw [tr]
    show (if al = N % 2 then seF t S (w, acc) else S) = _
    split <;> rfl
  | succ m ih =>
    intro i met al w acc S h
    have hp : 0 < 6 ^ m := Nat.pow_pos (by first | decide | exact vd (by decide))
    rw [Nat.pow_succ, Nat.mul_comm (6 ^ m) 6, foR_mul]
    have ed : ∀ q k, k < 6 ^ m → (q * 6 ^ m + k) / 6 ^ m = q ∧ (q * 6 ^ m + k) % 6 ^ m = k := fun q k hk => by
      constructor
      · rw [Nat.mul_comm, Nat.mul_add_div hp, Nat.div_eq_of_lt hk, Nat.add_zero]
      · rw [Nat.mul_comm, Nat.mul_add_mod, Nat.mod_eq_of_lt hk]
    have eb : ∀ q S, foR (fun k S => stR t N (rowS N (m + 1) i met al (q * 6 ^ m + k) w acc) S) (6 ^ m) S = (if bi met i = 1 then (if q = 0 then tr N m (i + 1) met al w acc else []) else if q = 0 then tr N m (i + 1) (met ||| 2 ^ i) (al + 1) (w.set i 6) acc else if i + q < N ∧ bi met (i + q) = 0 then tr N m (i + 1) (met ||| 2 ^ i ||| 2 ^ (i + q)) al ((w.set i (i + q)).set (i + q) i) ((i, i + q) :: acc) else []).foldl (seF t) S := by
      intro q S
      by_cases c1 : bi met i = 1
      · rw [if_pos c1]
        by_cases c2 : q = 0
        · rw [if_pos c2, ← ih (i + 1) met al w acc S (by omega)]
          refine foR_congr _ _ S _ (fun k hk S => ?_)
          rw [rowS, if_pos c1, (ed q k hk).1, (ed q k hk).2, if_pos c2]
        · rw [if_neg c2]
          show _ = S
          rw [foR_congr _ (fun _ S => S) S _ (fun k hk S => ?_), foR_id]
          rw [rowS, if_pos c1, (ed q k hk).1, if_neg c2]
          rfl
      · rw [if_neg c1]
        by_cases c2 : q = 0
        · rw [if_pos c2, ← ih (i + 1) _ _ _ _ S (by omega)]
          refine foR_congr _ _ S _ (fun k hk S => ?_)
          rw [rowS, if_neg c1, (ed q k hk).1, (ed q k hk).2, if_pos c2]
        · rw [if_neg c2]
          by_cases c3 : i + q < N ∧ bi met (i + q) = 0
          · rw [if_pos c3, ← ih (i + 1) _ _ _ _ S (by omega)]
            refine foR_congr _ _ S _ (fun k hk S => ?_)
            rw [rowS, if_neg c1, (ed q k hk).1, (ed q k hk).2, if_neg c2, if_pos c3]
          · rw [if_neg c3]
            show _ = S
            rw [foR_congr _ (fun _ S => S) S _ (fun k hk S => ?_), foR_id]
            rw [rowS, if_neg c1, (ed q k hk).1, if_neg c2, if_neg c3]
            rfl
    have e6 : ∀ (f : Nat → List (List Nat × List (Nat × Nat))) S, foR (fun q S => (f q).foldl (seF t) S) 6 S = (f 0 ++ (List.range' 1 5).flatMap f).foldl (seF t) S := by
      intro f S
      show (f 5).foldl (seF t) ((f 4).foldl (seF t) ((f 3).foldl (seF t) ((f 2).foldl (seF t) ((f 1).foldl (seF t) ((f 0).foldl (seF t) S))))) = _
      simp only [show List.range' 1 5 = [1, 2, 3, 4, 5] from rfl, List.flatMap_cons, List.flatMap_nil, List.append_nil, List.foldl_append]
    rw [foR_congr _ _ S 6 (fun q _ S => eb q S), e6]
    rw [tr]
    congr 1
    by_cases c1 : bi met i = 1
    · rw [if_pos c1, if_pos rfl, if_pos (show met / 2 ^ i % 2 = 1 from c1)]
      simp only [show List.range' 1 5 = [1, 2, 3, 4, 5] from rfl, List.flatMap_cons, List.flatMap_nil, List.append_nil]
      simp only [c1, if_true]
      simp
    · rw [if_neg c1, if_pos rfl, if_neg (show ¬ met / 2 ^ i % 2 = 1 from c1)]
      congr 1
      simp only [show List.range' 1 5 = [1, 2, 3, 4, 5] from rfl, List.flatMap_cons, List.flatMap_nil, List.append_nil]
      simp only [c1, if_false]
      rfl
end MA
