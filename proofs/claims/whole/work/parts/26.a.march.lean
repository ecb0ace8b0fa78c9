/-! march: pairs as data. A way to pair is a row of six (0 to 5: with whom, 6: alone, 7: not told) and its pairs -/
def cd (k : Nat) : Int32 := if k = 6 then -4 else if k = 7 then -9 else nI k
theorem gd_set : ∀ (l : List Nat) (i v k d : Nat), i < l.length → (l.set i v).getD k d = if k = i then v else l.getD k d := by
  intro l
  induction l with
  | nil => intro i v k d h; exact absurd h (Nat.not_lt_zero _)
  | cons x l ih =>
    intro i v k d h
    cases i with
    | zero =>
      cases k with
      | zero => rfl
      | succ k => rfl
    | succ i =>
      cases k with
      | zero => rfl
      | succ k =>
        show (l.set i v).getD k d = _
        rw [ih i v k d (Nat.lt_of_succ_lt_succ h)]
        by_cases e : k = i
        · rw [if_pos e, if_pos (by omega)]
        · rw [if_neg e, if_neg (by omega)]; rfl
def tsm (t : Nat → Nat → Nat) : List (Nat × Nat) → Nat
  | [] => 0
  | p :: l => tsm t l + t p.1 p.2
def seF (t : Nat → Nat → Nat) (S : Option (Nat × List Nat)) (m : List Nat × List (Nat × Nat)) : Option (Nat × List Nat) := match S with
  | none => some (tsm t m.2, m.1)
  | some (l, b) => if tsm t m.2 < l then some (tsm t m.2, m.1) else some (l, b)
/-- the class's order -/
def ps (N : Nat) : Nat → Nat → Nat → List Nat → List (Nat × Nat) → List (List Nat × List (Nat × Nat))
  | 0, _, _, _, _ => []
  | d + 1, i, one, w, acc => if N ≤ i then [(w, acc)] else if w.getD i 7 = 7 then (if one = 0 then [] else ps N d (i + 1) 0 (w.set i 6) acc) ++ (List.range' (i + 1) (N - (i + 1))).flatMap (fun j => if w.getD j 7 = 7 then ps N d (i + 1) one ((w.set i j).set j i) ((i, j) :: acc) else []) else ps N d (i + 1) one w acc
/-- the reference's order: m friends still, from i = N - m on -/
def tr (N : Nat) : Nat → Nat → Nat → Nat → List Nat → List (Nat × Nat) → List (List Nat × List (Nat × Nat))
  | 0, _, _, al, w, acc => if al = N % 2 then [(w, acc)] else []
  | m + 1, i, met, al, w, acc => if met / 2 ^ i % 2 = 1 then tr N m (i + 1) met al w acc else tr N m (i + 1) (met ||| 2 ^ i) (al + 1) (w.set i 6) acc ++ (List.range' 1 5).flatMap (fun g => if i + g < N ∧ met / 2 ^ (i + g) % 2 = 0 then tr N m (i + 1) (met ||| 2 ^ i ||| 2 ^ (i + g)) al ((w.set i (i + g)).set (i + g) i) ((i, i + g) :: acc) else [])
theorem ps_tr : ∀ N, 1 ≤ N → N ≤ 6 → ps N 8 0 (N % 2) [7, 7, 7, 7, 7, 7] [] = tr N N 0 0 0 [7, 7, 7, 7, 7, 7] [] ∧ tr N N 0 0 0 [7, 7, 7, 7, 7, 7] [] ≠ [] := by
  intro N h1 h6
  rcases (show N = 1 ∨ N = 2 ∨ N = 3 ∨ N = 4 ∨ N = 5 ∨ N = 6 by omega) with rfl | rfl | rfl | rfl | rfl | rfl <;> decide +kernel
/-- what the class holds of the best -/
def RC (S : Option (Nat × List Nat)) (l f : Int32) (b : Nat → Int32) : Prop := match S with
  | none => f = nI 0
  | some (s, w) => f = nI 1 ∧ l = nI s ∧ s ≤ 1000 ∧ ∀ k, k < 6 → b k = cd (w.getD k 7)
theorem C_settle {t : Nat → Nat → Nat} {S : Option (Nat × List Nat)} {l f : Int32} {b wi : Nat → Int32} {w : List Nat} {acc : List (Nat × Nat)} (hs : tsm t acc ≤ 1000) (hw : ∀ k, k < 6 → wi k = cd (w.getD k 7)) (hS : RC S l f b) {Post : Int32 → Int32 → (Nat → Int32) → Prop} (h : ∀ l' f' b', RC (seF t S (w, acc)) l' f' b' → Post l' f' b') : qv_X3_settle (nI (tsm t acc)) l f wi b Post := by
  have J : ∀ l f, seF t S (w, acc) = some (tsm t acc, w) → qv_X3_settle_J16 (nI (tsm t acc)) l f wi b Post := fun l f e => by
    have L : ∀ m i b', i + m = 6 → (∀ k, k < i → b' k = cd (w.getD k 7)) → qv_X3_settle_L28 (nI (tsm t acc)) (1 : Int32) wi Post (fun z => Post (nI (tsm t acc)) (1 : Int32) z) (m + 1) (nI i) b' := by
      intro m
      induction m with
      | zero =>
        intro i b' hi hb
        have : i = 6 := by omega
        subst this
        exact pk_le 6 6 (fun _ => h _ _ _ (by rw [e]; exact ⟨rfl, rfl, hs, hb⟩)) (fun q => absurd q (by omega))
      | succ m ih =>
        intro i b' hi hb
        have v : vp_in (nI i) 6 := vp_in_nI (by omega) (by first | decide | exact vd (by decide))
        refine pk_le 6 i (fun q => absurd q (by omega)) (fun _ => ⟨v, v, ?_⟩)
        rw [nI_clamp (by omega), hw i (by omega), nI_1]
        refine ih (i + 1) _ (by omega) (fun k hk => ?_)
        by_cases z : k = i
        · subst z; exact pk_us
        · rw [pk_un z]; exact hb k (by omega)
    exact ⟨7, L 6 0 b (by omega) (fun k hk => absurd hk (by omega))⟩
  cases S with
  | none =>
    have hf : f = nI 0 := hS
    subst hf
    exact t0 (J _ _ rfl)
  | some p =>
    obtain ⟨s, b0⟩ := p
    obtain ⟨rfl, rfl, h1, h2⟩ := hS
    refine t1 (pk_lt (tsm t acc) s (fun q => J _ _ ?_) (fun q => h _ _ _ ?_))
    · show (if tsm t acc < s then some (tsm t acc, w) else some (s, b0)) = _
      rw [if_pos q]
    · show RC (if tsm t acc < s then some (tsm t acc, w) else some (s, b0)) _ _ _
      rw [if_neg (by omega)]
      exact ⟨rfl, rfl, h1, h2⟩
theorem cd_9 {k : Nat} (hk : k ≤ 7) : cd k = (-9 : Int32) ↔ k = 7 := by
  rcases (show k = 0 ∨ k = 1 ∨ k = 2 ∨ k = 3 ∨ k = 4 ∨ k = 5 ∨ k = 6 ∨ k = 7 by omega) with rfl | rfl | rfl | rfl | rfl | rfl | rfl | rfl <;> decide
section MA
variable {N : Nat} {ti : Nat → Nat → Int32} {t : Nat → Nat → Nat}
theorem C_place (hN : N ≤ 6) (ht : ∀ i j, i < 6 → j < 6 → ti i j = nI (t i j) ∧ t i j ≤ 9) : ∀ (d i one : Nat) (w : List Nat) (acc : List (Nat × Nat)) (S : Option (Nat × List Nat)) (l f : Int32) (wi b : Nat → Int32) (Post : Int32 → Int32 → (Nat → Int32) → (Nat → Int32) → Prop), N < i + d → i ≤ N → one ≤ 1 → w.length = 6 → (∀ k, w.getD k 7 ≤ 7) → (∀ k, k < 6 → wi k = cd (w.getD k 7)) → tsm t acc + 9 * d ≤ 900 → RC S l f b → (∀ l' f' wi' b', RC ((ps N d i one w acc).foldl (seF t) S) l' f' b' → (∀ k, k < 6 → wi' k = cd (w.getD k 7)) → Post l' f' wi' b') → qv_X3_place d (nI i) (nI one) (nI (tsm t acc)) l f (nI N) wi b ti Post := by
  intro d
  induction d with
  | zero => intro i one w acc S l f wi b Post h1 h2; omega
  | succ d ih =>
    intro i one w acc S l f wi b Post h1 h2 ho hl h7 hw hs hS h
    rw [ps] at h
    by_cases c : N ≤ i
    · rw [if_pos c] at h
      exact pk_le N i (fun _ => C_settle (by omega) hw hS (fun l' f' b' hS' => h _ _ _ _ hS' hw)) (fun q => absurd q (by omega))
    rw [if_neg c] at h
    have vi : vp_in (nI i) 6 := vp_in_nI (by omega) (by first | decide | exact vd (by decide))
    refine pk_le N i (fun q => absurd q (by omega)) (fun _ => pk_lt i 6 (fun _ => ⟨vi, ?_⟩) (fun q => absurd q (by omega)))
    rw [nI_clamp (by omega), hw i (by omega), nI_1]
    by_cases c7 : w.getD i 7 = 7
    · rw [if_pos c7] at h
      refine br_t ((cd_9 (h7 i)).mpr c7) ?_
      have L72 : ∀ n j S l f wi b, j + n = N → i < j → (∀ k, k < 6 → k ≠ i → wi k = cd (w.getD k 7)) → RC S l f b → (∀ l' f' wi' b', RC (((List.range' j n).flatMap (fun j => if w.getD j 7 = 7 then ps N d (i + 1) one ((w.set i j).set j i) ((i, j) :: acc) else [])).foldl (seF t) S) l' f' b' → (∀ k, k < 6 → k ≠ i → wi' k = cd (w.getD k 7)) → vp_in (nI i) 6 ∧ (Post l' f' (upd wi' i (-9 : Int32)) b')) → qv_X3_place_L72 (qv_X3_place d) (nI i) (nI one) (nI (tsm t acc)) (nI N) ti Post (fun l' f' wi' b' => vp_in (nI i) 6 ∧ (Post l' f' (upd wi' i (-9 : Int32)) b')) (n + 1) (nI j) l f wi b := by
        intro n
        induction n with
        | zero =>
          intro j S l f wi b hj hij hw' hS' hk
          have : j = N := by omega
          subst this
          exact pk_le j j (fun _ => hk _ _ _ _ hS' hw') (fun q => absurd q (by omega))
        | succ n ihn =>
          intro j S l f wi b hj hij hw' hS' hk
          rw [List.range'_succ, List.flatMap_cons, List.foldl_append] at hk
          have vj : vp_in (nI j) 6 := vp_in_nI (by omega) (by first | decide | exact vd (by decide))
          refine pk_le N j (fun q => absurd q (by omega)) (fun _ => ⟨vj, ?_⟩)
          rw [nI_clamp (by omega), nI_clamp (by omega), hw' j (by omega) (by omega), nI_1, nI_1, (ht i j (by omega) (by omega)).1, nI_add]
          have t9 := (ht i j (by omega) (by omega)).2
          by_cases cj : w.getD j 7 = 7
          · rw [if_pos cj] at hk
            refine br_t ((cd_9 (h7 j)).mpr cj) ⟨vi, vj, vi, vj, ?_⟩
            have l1 : i < w.length := by omega
            have l2 : j < (w.set i j).length := by rw [List.length_set]; omega
            refine ih (i + 1) one ((w.set i j).set j i) ((i, j) :: acc) S l f _ b _ (by omega) (by omega) ho (by rw [List.length_set, List.length_set]; exact hl) (fun k => ?_) (fun k hk6 => ?_) (by rw [tsm]; show tsm t acc + t i j + 9 * d ≤ 900; omega) hS' (fun l2' f2 wi2 b2 hS2 hw2 => ⟨vj, ihn (j + 1) _ l2' f2 _ b2 (by omega) (by omega) (fun k hk6 hki => ?_) hS2 hk⟩)
            · rw [gd_set _ _ _ _ _ l2, gd_set _ _ _ _ _ l1]
              split
              · omega
              · split
                · omega
                · exact h7 k
            · rw [gd_set _ _ _ _ _ l2, gd_set _ _ _ _ _ l1]
              unfold upd
              by_cases e1 : k = j
              · rw [if_pos e1, if_pos e1]; unfold cd; rw [if_neg (by omega), if_neg (by omega)]
              · rw [if_neg e1, if_neg e1]
                by_cases e2 : k = i
                · rw [if_pos e2, if_pos e2]; unfold cd; rw [if_neg (by omega), if_neg (by omega)]
                · rw [if_neg e2, if_neg e2]; exact hw' k hk6 e2
            · by_cases e1 : k = j
              · subst e1; rw [pk_us, cj]; rfl
              · rw [pk_un e1]
                have := hw2 k hk6
                rw [gd_set _ _ _ _ _ l2, gd_set _ _ _ _ _ l1, if_neg e1, if_neg hki] at this
                exact this
          · rw [if_neg cj] at hk
            refine br_f (fun q => cj ((cd_9 (h7 j)).mp q)) ?_
            exact ihn (j + 1) S l f wi b (by omega) (by omega) hw' hS' hk
      have fin : ∀ S l f wi b, (∀ k, k < 6 → k ≠ i → wi k = cd (w.getD k 7)) → RC S l f b → (∀ l' f' wi' b', RC (((List.range' (i + 1) (N - (i + 1))).flatMap (fun j => if w.getD j 7 = 7 then ps N d (i + 1) one ((w.set i j).set j i) ((i, j) :: acc) else [])).foldl (seF t) S) l' f' b' → (∀ k, k < 6 → wi' k = cd (w.getD k 7)) → Post l' f' wi' b') → qv_X3_place_L72 (qv_X3_place d) (nI i) (nI one) (nI (tsm t acc)) (nI N) ti Post (fun l' f' wi' b' => vp_in (nI i) 6 ∧ (Post l' f' (upd wi' i (-9 : Int32)) b')) (N - (i + 1) + 1) (nI (i + 1)) l f wi b := fun S l f wi b hw' hS' hk => by
        refine L72 (N - (i + 1)) (i + 1) S l f wi b (by omega) (by omega) hw' hS' (fun l' f' wi' b' hS2 hw2 => ⟨vi, hk _ _ _ _ hS2 (fun k hk6 => ?_)⟩)
        by_cases e : k = i
        · subst e; rw [pk_us, c7]; rfl
        · rw [pk_un e]; exact hw2 k hk6 e
      refine pk_eq one 0 (fun q => ⟨N - (i + 1) + 1, ?_⟩) (fun q => ⟨vi, ?_⟩)
      · rw [if_pos q, List.nil_append] at h
        exact fin S l f wi b (fun k hk6 _ => hw k hk6) hS h
      · rw [if_neg q, List.foldl_append] at h
        have l1 : i < w.length := by omega
        refine ih (i + 1) 0 (w.set i 6) acc S l f _ b _ (by omega) (by omega) (by omega) (by rw [List.length_set]; exact hl) (fun k => ?_) (fun k hk6 => ?_) (by omega) hS (fun l2 f2 wi2 b2 hS2 hw2 => ⟨N - (i + 1) + 1, fin _ l2 f2 wi2 b2 (fun k hk6 hki => ?_) hS2 h⟩)
        · rw [gd_set _ _ _ _ _ l1]
          split
          · omega
          · exact h7 k
        · rw [gd_set _ _ _ _ _ l1]
          by_cases e : k = i
          · subst e; rw [pk_us, if_pos rfl]; rfl
          · rw [pk_un e, if_neg e]; exact hw k hk6
        · have := hw2 k hk6
          rw [gd_set _ _ _ _ _ l1, if_neg hki] at this
          exact this
    · rw [if_neg c7] at h
      refine br_f (fun q => c7 ((cd_9 (h7 i)).mp q)) ?_
      exact ih (i + 1) one w acc S l f wi b _ (by omega) (by omega) ho hl h7 hw (by omega) hS h
/-- the best of all -/
def mbest (t : Nat → Nat → Nat) (N : Nat) : Option (Nat × List Nat) := (tr N N 0 0 0 [7, 7, 7, 7, 7, 7] []).foldl (seF t) none
theorem seF_some (t : Nat → Nat → Nat) : ∀ (l : List (List Nat × List (Nat × Nat))) (S : Option (Nat × List Nat)), S ≠ none → l.foldl (seF t) S ≠ none := by
  intro l
  induction l with
  | nil => intro S h; exact h
  | cons m l ih =>
    intro S h
    refine ih _ ?_
    cases S with
    | none => exact absurd rfl h
    | some p =>
      obtain ⟨a, b⟩ := p
      show (if tsm t m.2 < a then some (tsm t m.2, m.1) else some (a, b)) ≠ none
      split <;> simp
theorem mbest_some (t : Nat → Nat → Nat) {N : Nat} (h1 : 1 ≤ N) (h6 : N ≤ 6) : ∃ s w, mbest t N = some (s, w) := by
  have h := (ps_tr N h1 h6).2
  unfold mbest
  cases e : tr N N 0 0 0 [7, 7, 7, 7, 7, 7] [] with
  | nil => exact absurd e h
  | cons m l =>
    have := seF_some t l (seF t none m) (by simp [seF])
    cases q : (m :: l).foldl (seF t) none with
    | none => exact absurd q this
    | some p => exact ⟨p.1, p.2, rfl⟩
end MA
