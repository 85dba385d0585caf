/-! COUNTS: sums over phones and over legs -/
theorem sumI_zero {f : Nat → Int32} {n : Nat} (h : ∀ i, i < n → f i = 0) : sumI f n = 0 := by
  induction n with
  | zero => rfl
  | succ n ih => rw [sumI, ih (fun i hi => h i (by omega)), h n (by omega), Int32.add_zero]
theorem sumI_add {f g : Nat → Int32} {n : Nat} : sumI (fun i => f i + g i) n = sumI f n + sumI g n := by
  induction n with
  | zero => rfl
  | succ n ih => rw [sumI, sumI, sumI, ih]; grind
theorem sumI_swap {f : Nat → Nat → Int32} {m n : Nat} : sumI (fun p => sumI (fun k => f p k) n) m = sumI (fun k => sumI (fun p => f p k) m) n := by
  induction m with
  | zero => exact (sumI_zero (fun i _ => rfl)).symm
  | succ m ih =>
    rw [sumI, ih, ← sumI_add]
    rfl
theorem sumI_one {f : Nat → Int32} {i0 n : Nat} (h : i0 < n) (hz : ∀ i, i < n → i ≠ i0 → f i = 0) : sumI f n = f i0 := by
  induction n with
  | zero => omega
  | succ n ih =>
    rw [sumI]
    by_cases e : i0 = n
    · subst e
      rw [sumI_zero (fun i hi => hz i (by omega) (by omega)), Int32.zero_add]
    · rw [ih (by omega) (fun i hi hn => hz i (by omega) hn), hz n (by omega) (fun q => e q.symm), Int32.add_zero]
theorem nI_cnt {P : Nat → Bool} {n : Nat} : nI (cntN P n) = sumI (fun i => if P i then 1 else 0) n := by
  induction n with
  | zero => exact nI_0
  | succ n ih =>
    rw [sumI, ← ih, cntN]
    cases P n
    · rw [if_neg (by decide), if_neg (by decide), Nat.add_zero, Int32.add_zero]
    · rw [if_pos rfl, if_pos rfl, nI_succ]
/-- who is in a call -/
def R6 (N : Cnt) (ρ : Rho) : Prop := (∀ p, p < 10 → ρ 9 p = -1 ∨ (vp_in (ρ 9 p) (N 4) ∧ ρ 26 (ρ 9 p).toNatClampNeg = 0 ∧ ρ 23 (ρ 9 p).toNatClampNeg = nI p)) ∧ ∀ k, k < N 4 → ρ 26 k = 0 → ρ 9 (ρ 23 k).toNatClampNeg = nI k
theorem R6.sum {N : Cnt} {ρ : Rho} (h : R6 N ρ) (hn : N 4 ≤ 80) (h23 : ∀ k, k < N 4 → vp_in (ρ 23 k) 10) (g : Nat → Int32) : sumI (fun p => if ρ 9 p = -1 then 0 else g (ρ 9 p).toNatClampNeg) 10 = sumI (fun k => if ρ 26 k = 0 then g k else 0) (N 4) := by
  have e1 : sumI (fun p => if ρ 9 p = -1 then 0 else g (ρ 9 p).toNatClampNeg) 10 = sumI (fun p => sumI (fun k => if ρ 9 p = nI k then g k else 0) (N 4)) 10 := by
    refine sumI_congr fun p hp => ?_
    rcases h.1 p hp with q | ⟨q, -, -⟩
    · rw [if_pos q]
      exact (sumI_zero (fun k hk => if_neg (fun z => pn_m1 (k := k) (by omega) (by rw [← z, q])))).symm
    · obtain ⟨k, hk, hk2, e⟩ := pn_of q
      rw [e, if_neg (pn_m1 (by omega)), nI_clamp hk2]
      rw [sumI_one (i0 := k) hk (fun i hi hne => if_neg (fun z => hne ((nI_eq (by omega) (by omega)).mp z.symm))), if_pos rfl]
  rw [e1, sumI_swap]
  refine sumI_congr fun k hk => ?_
  by_cases hs : ρ 26 k = 0
  · rw [if_pos hs]
    obtain ⟨p, hp, hp2, e⟩ := pn_of (h23 k hk)
    have e2 := h.2 k hk hs
    rw [e, nI_clamp hp2] at e2
    rw [sumI_one (i0 := p) hp (fun i hi hne => if_neg (fun z => ?_)), if_pos e2]
    rcases h.1 i hi with q | ⟨-, -, q⟩
    · exact pn_m1 (k := k) (by omega) (by rw [← z, q])
    · rw [z, nI_clamp (by omega), e] at q
      exact hne ((nI_eq (by omega) (by omega)).mp q.symm)
  · rw [if_neg hs]
    refine sumI_zero fun p hp => if_neg (fun z => ?_)
    rcases h.1 p hp with q | ⟨-, q, -⟩
    · exact pn_m1 (k := k) (by omega) (by rw [← z, q])
    · rw [z, nI_clamp (by omega)] at q
      exact hs q
/-- the legs in a cell -/
def lgF (V : Rho) (c : Int32) (p : Nat) : Bool := decide (¬ V 104 p = -1) && decide (V 101 p = c)
section CT
variable {V : Rho} {L : Lst} {N : Cnt} {ρ : Rho}
theorem pc_legsIn_loop {c : Int32} (n : Nat) : ∀ p : Nat, 10 ≤ p + n → p ≤ 10 → fc_legsIn_14 (n + 1) V L N c (nI (cntN (lgF V c) p)) 10 (nI p) = some (nI (cntN (lgF V c) 10)) := by
  induction n with
  | zero =>
    intro p h1 h2
    obtain rfl : p = 10 := by omega
    rw [fc_legsIn_14, if_pos (show (10 : Int32) ≤ nI 10 by decide)]
  | succ n ih =>
    intro p h1 h2
    by_cases hp : p = 10
    · subst hp
      rw [fc_legsIn_14, if_pos (show (10 : Int32) ≤ nI 10 by decide)]
    · have ih1 := ih (p + 1) (by omega) (by omega)
      rw [cntN] at ih1
      rw [fc_legsIn_14, if_neg (show ¬ (10 : Int32) ≤ nI p from nI_ge (b := 10) (by omega) (by omega)), if_neg (nI_in (by omega) (by omega)), nI_clamp (by omega), fc_legsIn_47]
      simp only [po_b]
      rw [nI_1]
      by_cases h3 : V 104 p = -1
      · rw [if_pos h3]
        rw [if_neg (by unfold lgF; simp [h3]), Nat.add_zero] at ih1
        exact ih1
      · rw [if_neg h3]
        by_cases h4 : V 101 p = c
        · rw [if_pos h4, fc_legsIn_47]
          simp only [po_b]
          rw [if_pos (by unfold lgF; simp [h3, h4])] at ih1
          rw [nI_1, nI_1]
          exact ih1
        · rw [if_neg h4]
          rw [if_neg (by unfold lgF; simp [h4]), Nat.add_zero] at ih1
          exact ih1
theorem pc_legsIn {c : Int32} : fc_legsIn V L N c = some (nI (cntN (lgF V c) 10)) := pc_legsIn_loop 2999 0 (by omega) (by omega)
def lgR (ρ : Rho) (c : Int32) (p : Nat) : Bool := decide (¬ ρ 9 p = -1) && decide (ρ 6 p = c)
theorem pr_legsIn_loop {c : Int32} (n : Nat) : ∀ p : Nat, 10 ≤ p + n → p ≤ 10 → fr_legsIn_4 (n + 1) ρ c (nI (cntN (lgR ρ c) p)) (nI p) = some (nI (cntN (lgR ρ c) 10)) := by
  induction n with
  | zero =>
    intro p h1 h2
    obtain rfl : p = 10 := by omega
    rw [fr_legsIn_4, if_pos (show (10 : Int32) ≤ nI 10 by decide)]
  | succ n ih =>
    intro p h1 h2
    by_cases hp : p = 10
    · subst hp
      rw [fr_legsIn_4, if_pos (show (10 : Int32) ≤ nI 10 by decide)]
    · have ih1 := ih (p + 1) (by omega) (by omega)
      rw [cntN] at ih1
      rw [fr_legsIn_4, if_neg (show ¬ (10 : Int32) ≤ nI p from nI_ge (b := 10) (by omega) (by omega)), if_neg (nI_in (by omega) (by omega)), if_neg (nI_in (by omega) (by omega)), nI_clamp (by omega), fr_legsIn_35, fr_legsIn_36, fr_legsIn_36]
      simp only [po_b]
      rw [nI_1, nI_1, Int32.add_zero]
      by_cases h3 : ρ 9 p = -1
      · rw [if_pos h3]
        rw [if_neg (by unfold lgR; simp [h3]), Nat.add_zero] at ih1
        exact ih1
      · rw [if_neg h3]
        by_cases h4 : ρ 6 p = c
        · rw [if_pos h4]
          rw [if_pos (by unfold lgR; simp [h3, h4])] at ih1
          exact ih1
        · rw [if_neg h4]
          rw [if_neg (by unfold lgR; simp [h4]), Nat.add_zero] at ih1
          exact ih1
theorem pr_legsIn {c : Int32} : fr_legsIn ρ c = some (nI (cntN (lgR ρ c) 10)) := pr_legsIn_loop 2999 0 (by omega) (by omega)
/-- the parties of a call -/
def ptR (ρ : Rho) (c : Int32) (p : Nat) : Bool := decide (¬ ρ 9 p = -1) && decide (ρ 24 (ρ 9 p).toNatClampNeg = c)
theorem pr_parties_loop {c : Int32} (h80 : ∀ p, p < 10 → ρ 9 p = -1 ∨ vp_in (ρ 9 p) 80) (n : Nat) : ∀ p : Nat, 10 ≤ p + n → p ≤ 10 → fr_partiesOf_4 (n + 1) ρ c (nI (cntN (ptR ρ c) p)) (nI p) = some (nI (cntN (ptR ρ c) 10)) := by
  induction n with
  | zero =>
    intro p h1 h2
    obtain rfl : p = 10 := by omega
    rw [fr_partiesOf_4, if_pos (show (10 : Int32) ≤ nI 10 by decide)]
  | succ n ih =>
    intro p h1 h2
    by_cases hp : p = 10
    · subst hp
      rw [fr_partiesOf_4, if_pos (show (10 : Int32) ≤ nI 10 by decide)]
    · have ih1 := ih (p + 1) (by omega) (by omega)
      rw [cntN] at ih1
      rw [fr_partiesOf_4, if_neg (show ¬ (10 : Int32) ≤ nI p from nI_ge (b := 10) (by omega) (by omega)), if_neg (nI_in (by omega) (by omega)), if_neg (nI_in (by omega) (by omega)), nI_clamp (by omega), fr_partiesOf_40, fr_partiesOf_41, fr_partiesOf_41]
      simp only [po_b]
      rw [nI_1, nI_1, Int32.add_zero]
      by_cases h3 : ρ 9 p = -1
      · rw [if_pos h3]
        rw [if_neg (by unfold ptR; simp [h3]), Nat.add_zero] at ih1
        exact ih1
      · rw [if_neg h3, if_neg ((h80 p (by omega)).resolve_left h3)]
        by_cases h4 : ρ 24 (ρ 9 p).toNatClampNeg = c
        · rw [if_pos h4]
          rw [if_pos (by unfold ptR; simp [h3, h4])] at ih1
          exact ih1
        · rw [if_neg h4]
          rw [if_neg (by unfold ptR; simp [h4]), Nat.add_zero] at ih1
          exact ih1
theorem pr_parties {c : Int32} (h80 : ∀ p, p < 10 → ρ 9 p = -1 ∨ vp_in (ρ 9 p) 80) : fr_partiesOf ρ c = some (nI (cntN (ptR ρ c) 10)) := pr_parties_loop h80 2999 0 (by omega) (by omega)
theorem drop_getD {l : List Int32} {j : Nat} (hj : j < l.length) : l.drop j = l.getD j 0 :: l.drop (j + 1) := by
  rw [List.drop_eq_getElem_cons hj, List.getD_eq_getElem?_getD, List.getElem?_eq_getElem hj]
  rfl
/-- those of a list that go on -/
def lvs (V : Rho) (l : List Int32) : List Int32 := l.filter (fun x => decide (V 87 x.toNatClampNeg = 0))
theorem lvs_cons {V : Rho} {x : Int32} {r : List Int32} : lvs V (x :: r) = if V 87 x.toNatClampNeg = 0 then x :: lvs V r else lvs V r := by
  unfold lvs
  rw [List.filter_cons]
  by_cases h : V 87 x.toNatClampNeg = 0
  · rw [if_pos h, if_pos (decide_eq_true h)]
  · rw [if_neg h, if_neg (fun z => h (of_decide_eq_true z))]
theorem pc_count_loop {v0 : Int32} (hl : (L 17 v0.toNatClampNeg).length ≤ 1000) (n : Nat) : ∀ j m : Nat, (L 17 v0.toNatClampNeg).length ≤ j + n → j ≤ (L 17 v0.toNatClampNeg).length → fc_Call_countParties_4 (n + 1) V L N v0 (nI m) (nI j) = some (nI (m + (lvs V ((L 17 v0.toNatClampNeg).drop j)).length)) := by
  induction n with
  | zero =>
    intro j m h1 h2
    obtain rfl : j = (L 17 v0.toNatClampNeg).length := by omega
    rw [fc_Call_countParties_4]
    simp only [po_b]
    rw [if_pos (nI_le (Nat.le_refl _) (by omega)), List.drop_length]
    rfl
  | succ n ih =>
    intro j m h1 h2
    by_cases hj : j = (L 17 v0.toNatClampNeg).length
    · subst hj
      rw [fc_Call_countParties_4]
      simp only [po_b]
      rw [if_pos (nI_le (Nat.le_refl _) (by omega)), List.drop_length]
      rfl
    · have hj : j < (L 17 v0.toNatClampNeg).length := by omega
      rw [fc_Call_countParties_4]
      simp only [po_b]
      rw [if_neg (nI_ge hj (by omega)), if_neg (nI_in hj (by omega)), nI_clamp (show j < 2 ^ 31 by omega), drop_getD hj, fc_Call_countParties_35, fc_Call_countParties_35]
      simp only [po_b]
      rw [nI_1, nI_1, ih _ _ (by omega) (by omega), ih _ _ (by omega) (by omega), lvs_cons]
      by_cases h3 : V 87 ((L 17 v0.toNatClampNeg).getD j 0).toNatClampNeg = 0
      · rw [if_pos h3, if_pos h3, List.length_cons, show m + 1 + (lvs V ((L 17 v0.toNatClampNeg).drop (j + 1))).length = m + ((lvs V ((L 17 v0.toNatClampNeg).drop (j + 1))).length + 1) by omega]
      · rw [if_neg h3, if_neg h3]
theorem pc_count {v0 : Int32} (hl : (L 17 v0.toNatClampNeg).length ≤ 1000) : fc_Call_countParties V L N v0 = some (nI (lvs V (L 17 v0.toNatClampNeg)).length) := by
  have := pc_count_loop (V := V) (N := N) hl 2999 0 0 (by omega) (by omega)
  rw [Nat.zero_add, List.drop_zero, nI_0] at this
  exact this
/-- the only one of a list, if it has but one -/
def onl : List Int32 → Int32
  | [x] => x
  | _ => -1
theorem pc_only_loop {v0 : Int32} (hl : (L 17 v0.toNatClampNeg).length ≤ 1000) (hm : ∀ x ∈ L 17 v0.toNatClampNeg, ¬ x = -1) (n : Nat) : ∀ j : Nat, (L 17 v0.toNatClampNeg).length ≤ j + n → j ≤ (L 17 v0.toNatClampNeg).length → fc_Call_findOnlyParty_4 (n + 1) V L N v0 (-1) (nI j) = some (onl (lvs V ((L 17 v0.toNatClampNeg).drop j))) ∧ ∀ x : Int32, ¬ x = -1 → fc_Call_findOnlyParty_4 (n + 1) V L N v0 x (nI j) = some (onl (x :: lvs V ((L 17 v0.toNatClampNeg).drop j))) := by
  have hend : ∀ (n : Nat) (x : Int32), fc_Call_findOnlyParty_4 (n + 1) V L N v0 x (nI (L 17 v0.toNatClampNeg).length) = some x := by
    intro n x
    rw [fc_Call_findOnlyParty_4]
    simp only [po_b]
    rw [if_pos (nI_le (Nat.le_refl _) (by omega))]
  induction n with
  | zero =>
    intro j h1 h2
    obtain rfl : j = (L 17 v0.toNatClampNeg).length := by omega
    rw [List.drop_length]
    exact ⟨hend _ _, fun x _ => hend _ _⟩
  | succ n ih =>
    intro j h1 h2
    by_cases hj : j = (L 17 v0.toNatClampNeg).length
    · subst hj
      rw [List.drop_length]
      exact ⟨hend _ _, fun x _ => hend _ _⟩
    · have hj : j < (L 17 v0.toNatClampNeg).length := by omega
      have i1 := ih (j + 1) (by omega) (by omega)
      have hmem : ¬ (L 17 v0.toNatClampNeg).getD j 0 = -1 := hm _ (by
        rw [List.getD_eq_getElem?_getD, List.getElem?_eq_getElem hj]
        exact List.getElem_mem hj)
      have hun : ∀ x : Int32, fc_Call_findOnlyParty_4 (n + 1 + 1) V L N v0 x (nI j) = if V 87 ((L 17 v0.toNatClampNeg).getD j 0).toNatClampNeg = 0 then (if x = -1 then fc_Call_findOnlyParty_4 (n + 1) V L N v0 ((L 17 v0.toNatClampNeg).getD j 0) (nI (j + 1)) else some (-1)) else fc_Call_findOnlyParty_4 (n + 1) V L N v0 x (nI (j + 1)) := by
        intro x
        rw [fc_Call_findOnlyParty_4]
        simp only [po_b]
        rw [if_neg (nI_ge hj (by omega)), if_neg (nI_in hj (by omega)), nI_clamp (show j < 2 ^ 31 by omega), fc_Call_findOnlyParty_42, fc_Call_findOnlyParty_42]
        simp only [po_b]
        rw [nI_1]
      rw [hun, drop_getD hj, lvs_cons]
      by_cases h3 : V 87 ((L 17 v0.toNatClampNeg).getD j 0).toNatClampNeg = 0
      · rw [if_pos h3, if_pos rfl, if_pos h3]
        refine ⟨i1.2 _ hmem, fun x hx => ?_⟩
        rw [hun, if_pos h3, if_neg hx]
        rfl
      · rw [if_neg h3, if_neg h3]
        refine ⟨i1.1, fun x hx => ?_⟩
        rw [hun, if_neg h3]
        exact i1.2 x hx
theorem pc_only {v0 : Int32} (hl : (L 17 v0.toNatClampNeg).length ≤ 1000) (hm : ∀ x ∈ L 17 v0.toNatClampNeg, ¬ x = -1) : fc_Call_findOnlyParty V L N v0 = some (onl (lvs V (L 17 v0.toNatClampNeg))) := by
  have := (pc_only_loop (V := V) (N := N) hl hm 2999 0 (by omega) (by omega)).1
  rw [List.drop_zero, nI_0] at this
  exact this
end CT
