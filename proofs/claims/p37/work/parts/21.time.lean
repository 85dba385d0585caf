/-! TIME AND RATES: sums over seconds, the cost of a stay by a history of rates, and a leg rated by its events -/
def clp (a b x : Nat) : Nat := if x ≤ a then a else if x ≤ b then x else b
def sumI (f : Nat → Int32) : Nat → Int32
  | 0 => 0
  | n + 1 => sumI f n + f n
theorem sumI_const {f : Nat → Int32} {r : Int32} {a d : Nat} (h : ∀ t, a ≤ t → t < a + d → f t = r) : sumI f (a + d) = sumI f a + nI d * r := by
  induction d with
  | zero => rw [Nat.add_zero, nI_0, Int32.zero_mul, Int32.add_zero]
  | succ d ih => rw [← Nat.add_assoc, sumI, ih (fun t h1 h2 => h t h1 (by omega)), h (a + d) (by omega) (by omega), nI_succ, Int32.add_mul, Int32.one_mul, Int32.add_assoc]
theorem sumI_congr {f g : Nat → Int32} {n : Nat} (h : ∀ t, t < n → f t = g t) : sumI f n = sumI g n := by
  induction n with
  | zero => rfl
  | succ n ih => rw [sumI, sumI, ih (fun t ht => h t (by omega)), h n (by omega)]
theorem sumI_diff {f g : Nat → Int32} {a d : Nat} (h : ∀ t, a ≤ t → t < a + d → f t = g t) : sumI f (a + d) - sumI f a = sumI g (a + d) - sumI g a := by
  induction d with
  | zero => rw [Nat.add_zero, Int32.sub_self, Int32.sub_self]
  | succ d ih =>
    have e1 := ih (fun t h1 h2 => h t h1 (by omega))
    have e2 := h (a + d) (by omega) (by omega)
    rw [← Nat.add_assoc, sumI, sumI, e2]
    grind
theorem nI_max {a b : Nat} (ha : a < 2 ^ 31) (hb : b < 2 ^ 31) : (if nI a < nI b then nI b else nI a) = nI (max a b) := by
  by_cases h : a < b
  · rw [if_pos ((nI_ltI ha hb).mpr h), Nat.max_eq_right (by omega)]
  · rw [if_neg (fun z => h ((nI_ltI ha hb).mp z)), Nat.max_eq_left (by omega)]
theorem nI_min {a b : Nat} (ha : a < 2 ^ 31) (hb : b < 2 ^ 31) : (if nI a < nI b then nI a else nI b) = nI (min a b) := by
  by_cases h : a < b
  · rw [if_pos ((nI_ltI ha hb).mpr h), Nat.min_eq_left (by omega)]
  · rw [if_neg (fun z => h ((nI_ltI ha hb).mp z)), Nat.min_eq_right (by omega)]
theorem nI_gap {a b : Nat} (ha : a < 2 ^ 30) (hb : b < 2 ^ 30) : (if 0 < nI a - nI b then nI a - nI b else 0) = nI (a - b) := by
  by_cases h : b < a
  · rw [pk_sub (by omega), if_pos (by rw [← nI_0, nI_ltI (by omega) (by omega)]; omega)]
  · have e : (nI a - nI b).toInt = (a : Int) - b := pk_sub_toInt ha hb
    rw [if_neg (by rw [Int32.lt_iff_toInt_lt, e, Int32.toInt_zero]; omega), show a - b = 0 by omega, nI_0]
section TM
variable {V : Rho} {L : Lst} {N : Cnt}
theorem pt_loop {v0 : Int32} {f : Nat → Int32} {s : Nat → Nat} {a b len : Nat} (hlen : (L 16 v0.toNatClampNeg).length = len) (hl : len ≤ 1000) (hs : ∀ j, j < len → V 140 ((L 16 v0.toNatClampNeg).getD j 0).toNatClampNeg = nI (s j) ∧ s j ≤ 50000) (hm : ∀ j, j + 1 < len → s j ≤ s (j + 1)) (hf : ∀ j, j < len → ∀ t, s j ≤ t → (j + 1 < len → t < s (j + 1)) → f t = V 141 ((L 16 v0.toNatClampNeg).getD j 0).toNatClampNeg) (hab : a ≤ b) (hb : b ≤ 50001) (n : Nat) : ∀ j : Nat, len ≤ j + n → j ≤ len → fc_RateHistory_costOf_5 (n + 1) V L N v0 (nI a) (nI b) (sumI f (clp a b (if j < len then s j else 50001)) - sumI f a) (nI j) = some (sumI f b - sumI f a) := by
  have hend : fc_RateHistory_costOf_5 (n + 1) V L N v0 (nI a) (nI b) (sumI f (clp a b (if len < len then s len else 50001)) - sumI f a) (nI len) = some (sumI f b - sumI f a) := by
    have e : clp a b 50001 = b := by unfold clp; (repeat' split) <;> omega
    rw [fc_RateHistory_costOf_5]
    simp only [po_b]
    rw [hlen, if_pos (nI_le (Nat.le_refl _) (by omega)), if_neg (Nat.lt_irrefl _), e]
  induction n with
  | zero =>
    intro j h1 h2
    obtain rfl : j = len := by omega
    exact hend
  | succ n ih =>
    intro j h1 h2
    by_cases hj : j = len
    · subst hj; exact hend
    · have hj : j < len := by omega
      have ih1 := ih (by
        have e : clp a b 50001 = b := by unfold clp; (repeat' split) <;> omega
        rw [fc_RateHistory_costOf_5]
        simp only [po_b]
        rw [hlen, if_pos (nI_le (Nat.le_refl _) (by omega)), if_neg (Nat.lt_irrefl _), e]) (j + 1) (by omega) (by omega)
      obtain ⟨hs1, hs2⟩ := hs j hj
      have key : ∀ T : Nat, s j ≤ T → (if j + 1 < len then s (j + 1) else 50001) = T → fc_RateHistory_costOf_81 (fc_RateHistory_costOf_5 (n + 1)) V L N v0 (nI a) (nI b) (sumI f (clp a b (s j)) - sumI f a) (nI j) ((L 16 v0.toNatClampNeg).getD j 0) (nI (max a (s j))) (nI (min T b)) = some (sumI f b - sumI f a) := by
        intro T hT hTe
        rw [fc_RateHistory_costOf_81]
        simp only [po_b]
        rw [nI_gap (by omega) (by omega), nI_1]
        rw [hTe] at ih1
        have e : sumI f (clp a b (s j)) - sumI f a + nI (min T b - max a (s j)) * V 141 ((L 16 v0.toNatClampNeg).getD j 0).toNatClampNeg = sumI f (clp a b T) - sumI f a := by
          by_cases hc : max a (s j) < min T b
          · have c1 : clp a b (s j) = max a (s j) := by unfold clp; (repeat' split) <;> omega
            have c2 : clp a b T = max a (s j) + (min T b - max a (s j)) := by unfold clp; (repeat' split) <;> omega
            rw [c1, c2, sumI_const (r := V 141 ((L 16 v0.toNatClampNeg).getD j 0).toNatClampNeg) (fun t t1 t2 => hf j hj t (by omega) (fun q => by rw [if_pos q] at hTe; omega))]
            grind
          · have c1 : clp a b T = clp a b (s j) := by unfold clp; (repeat' split) <;> omega
            rw [c1, show min T b - max a (s j) = 0 by omega, nI_0, Int32.zero_mul, Int32.add_zero]
        rw [e]
        exact ih1
      rw [fc_RateHistory_costOf_5, if_pos hj]
      simp only [po_b]
      rw [hlen, if_neg (nI_ge hj (by omega)), nI_clamp (show j < 2 ^ 31 by omega), if_neg (by rw [not_or]; exact ⟨nI_pos (by omega), by omega⟩), hs1, nI_max (by omega) (by omega), nI_1]
      by_cases hj1 : j + 1 < len
      · rw [if_neg (nI_ge hj1 (by omega)), nI_clamp (show j + 1 < 2 ^ 31 by omega), if_neg (by rw [not_or]; exact ⟨nI_pos (by omega), by omega⟩), (hs (j + 1) hj1).1, nI_min (by have := (hs (j + 1) hj1).2; omega) (by omega)]
        exact key _ (hm j hj1) (if_pos hj1)
      · rw [if_pos (nI_le (by omega) (by omega))]
        have := key 50001 (by omega) (if_neg hj1)
        rw [show min 50001 b = b by omega] at this
        exact this
/-- a history of rates, as a function of the second -/
def Hs (V : Rho) (l : List Int32) (f : Nat → Int32) : Prop := 0 < l.length ∧ l.length ≤ 1000 ∧ ∃ s : Nat → Nat, s 0 = 0 ∧ (∀ j, j < l.length → V 140 (l.getD j 0).toNatClampNeg = nI (s j) ∧ s j ≤ 50000) ∧ (∀ j, j + 1 < l.length → s j ≤ s (j + 1)) ∧ ∀ j, j < l.length → ∀ t, s j ≤ t → (j + 1 < l.length → t < s (j + 1)) → f t = V 141 (l.getD j 0).toNatClampNeg
theorem pt_costOf {v0 : Int32} {f : Nat → Int32} {a b : Nat} (h : Hs V (L 16 v0.toNatClampNeg) f) (hab : a ≤ b) (hb : b ≤ 50001) : fc_RateHistory_costOf V L N v0 (nI a) (nI b) = some (sumI f b - sumI f a) := by
  obtain ⟨h0, hl, s, h1, h2, h3, h4⟩ := h
  have := pt_loop (N := N) (len := (L 16 v0.toNatClampNeg).length) rfl hl h2 h3 h4 hab hb 2999 0 (by omega) (by omega)
  rw [if_pos h0, h1, show clp a b 0 = a from if_pos (Nat.zero_le _), Int32.sub_self, nI_0] at this
  exact this
def pkh (t : Nat) : Bool := decide (8 ≤ t / 100 % 24) && decide (t / 100 % 24 ≤ 19)
theorem pt_hour {h : Nat} (hh : h < 2 ^ 31) : (nI h / 100 - nI h / 100 / 24 * 24) = nI (h / 100 % 24) := by
  rw [show (100 : Int32) = nI 100 by decide, show (24 : Int32) = nI 24 by decide, pk_div hh (by decide) (by decide), pk_rem (by omega) (by decide) (by decide)]
theorem pt_peak {h : Nat} (hh : h < 2 ^ 31) : fc_isPeakAt V L N (nI h) = some (if pkh h then 1 else 0) := by
  unfold fc_isPeakAt pkh
  simp only [po_b]
  have hb : h / 100 % 24 < 24 := Nat.mod_lt _ (by decide)
  rw [pt_hour hh, show (8 : Int32) = nI 8 by decide, show (19 : Int32) = nI 19 by decide]
  by_cases h1 : h / 100 % 24 < 8
  · rw [if_pos (nI_lt h1 (by decide)), if_neg (by simp; omega)]
  · rw [if_neg (nI_nlt (by omega) (by omega))]
    by_cases h2 : 19 < h / 100 % 24
    · rw [if_pos (nI_lt h2 (by omega)), if_neg (by simp; omega)]
    · rw [if_neg (nI_nlt (by omega) (by omega)), if_pos (by simp; omega)]
def hix (z t : Nat) : Nat := 2 * z + if pkh t then 0 else 1
theorem pt_hist {z h : Nat} : fc_Zone_historyFor V L N (nI z) (if pkh h then 1 else 0) = some (nI (hix z h)) := by
  unfold fc_Zone_historyFor hix
  cases pkh h
  · rw [if_pos (by decide), nI_add, nI_1, if_neg (by decide), show z + z = 2 * z by omega]
  · rw [if_neg (by decide), nI_add, if_pos rfl, show z + z = 2 * z by omega, Nat.add_zero]
/-- the rate of a zone, second by second -/
def gz (F : Nat → Nat → Int32) (z t : Nat) : Int32 := F (hix z t) t
theorem pkh_hour {h t : Nat} (hh : h % 100 = 0) (h1 : h ≤ t) (h2 : t < h + 100) : pkh t = pkh h := by
  unfold pkh
  rw [show t / 100 = h / 100 by omega]
theorem pt_stay {F : Nat → Nat → Int32} {z a b : Nat} (hz : z < 3) (hF : ∀ h, h < 6 → Hs V (L 16 h) (F h)) (hab : a ≤ b) (hb : b ≤ 50001) (n : Nat) : ∀ h : Nat, h % 100 = 0 → a < h + 100 → b ≤ h + 100 * n → h ≤ 50200 → fc_costOfStay_10 (n + 1) V L N (nI z) (nI a) (nI b) (sumI (gz F z) (clp a b h) - sumI (gz F z) a) (nI h) = some (sumI (gz F z) b - sumI (gz F z) a) := by
  induction n with
  | zero =>
    intro h h0 h1 h2 h3
    rw [fc_costOfStay_10, if_pos (nI_le (by omega) (by omega)), show clp a b h = b by unfold clp; (repeat' split) <;> omega]
  | succ n ih =>
    intro h h0 h1 h2 h3
    by_cases hc : b ≤ h
    · rw [fc_costOfStay_10, if_pos (nI_le hc (by omega)), show clp a b h = b by unfold clp; (repeat' split) <;> omega]
    · have hc : h < b := by omega
      have hx : hix z h < 6 := by unfold hix; split <;> omega
      rw [fc_costOfStay_10, if_neg (nI_ge hc (by omega))]
      simp only [po_b]
      rw [pt_peak (by omega)]
      simp only [po_b]
      rw [pt_hist]
      simp only [po_b]
      rw [nI_max (by omega) (by omega), show nI h + 100 = nI (h + 100) from nI_add h 100, nI_min (by omega) (by omega), pt_costOf (f := F (hix z h)) (by rw [nI_clamp (by omega)]; exact hF _ hx) (by omega) (by omega)]
      simp only [po_b]
      have e1 : clp a b h = max a h := by unfold clp; (repeat' split) <;> omega
      have e2 : clp a b (h + 100) = min (h + 100) b := by unfold clp; (repeat' split) <;> omega
      have e3 : sumI (F (hix z h)) (max a h + (min (h + 100) b - max a h)) - sumI (F (hix z h)) (max a h) = sumI (gz F z) (max a h + (min (h + 100) b - max a h)) - sumI (gz F z) (max a h) := sumI_diff (fun t t1 t2 => by
        unfold gz hix
        rw [pkh_hour (t := t) h0 (by omega) (by omega)])
      rw [show max a h + (min (h + 100) b - max a h) = min (h + 100) b by omega] at e3
      have e4 := ih (h + 100) (by omega) (by omega) (by omega) (by omega)
      rw [e2] at e4
      rw [e1, e3, show sumI (gz F z) (max a h) - sumI (gz F z) a + (sumI (gz F z) (min (h + 100) b) - sumI (gz F z) (max a h)) = sumI (gz F z) (min (h + 100) b) - sumI (gz F z) a by grind]
      exact e4
theorem pt_costOfStay {F : Nat → Nat → Int32} {z a b : Nat} (hz : z < 3) (hF : ∀ h, h < 6 → Hs V (L 16 h) (F h)) (hab : a ≤ b) (hb : b ≤ 50001) : fc_costOfStay V L N (nI z) (nI a) (nI b) = some (sumI (gz F z) b - sumI (gz F z) a) := by
  unfold fc_costOfStay
  simp only [po_b]
  have e : nI a - (nI a - nI a / 100 * 100) = nI (a - a % 100) := by
    rw [show (100 : Int32) = nI 100 by decide, pk_rem (by omega) (by decide) (by decide), pk_sub (Nat.mod_le _ _)]
  rw [e]
  have hm : a % 100 < 100 := Nat.mod_lt _ (by decide)
  have hm2 : a % 100 ≤ a := Nat.mod_le _ _
  have := pt_stay (N := N) hz hF hab hb 2999 (a - a % 100) (by omega) (by omega) (by omega) (by omega)
  rw [show clp a b (a - a % 100) = a by unfold clp; exact if_pos (by omega), Int32.sub_self] at this
  exact this
/-- a leg rated by its events -/
def nxt (V : Rho) (U : Nat) : List Int32 → Nat
  | [] => U
  | x :: _ => (V 61 x.toNatClampNeg).toNatClampNeg
def evs (V : Rho) (F : Nat → Nat → Int32) (U : Nat) : List Int32 → Int32
  | [] => 0
  | e :: r => (if V 60 e.toNatClampNeg = 2 then (0 : Int32) else sumI (gz F (V 41 (V 62 e.toNatClampNeg).toNatClampNeg).toNatClampNeg) (nxt V U r) - sumI (gz F (V 41 (V 62 e.toNatClampNeg).toNatClampNeg).toNatClampNeg) (V 61 e.toNatClampNeg).toNatClampNeg) + evs V F U r
theorem nxt_nil {V : Rho} {U : Nat} : nxt V U [] = U := rfl
theorem nxt_cons {V : Rho} {U : Nat} {x : Int32} {r : List Int32} : nxt V U (x :: r) = (V 61 x.toNatClampNeg).toNatClampNeg := rfl
/-- what events must be, that a leg can be rated by them -/
def evok (V : Rho) (U : Nat) : List Int32 → Prop
  | [] => True
  | e :: r => (vp_in (V 41 (V 62 e.toNatClampNeg).toNatClampNeg) 3 ∧ vp_in (V 61 e.toNatClampNeg) (U + 1) ∧ (V 61 e.toNatClampNeg).toNatClampNeg ≤ nxt V U r) ∧ evok V U r
theorem pt_events {F : Nat → Nat → Int32} {k U : Nat} (hk : k < 2 ^ 31) (hF : ∀ h, h < 6 → Hs V (L 16 h) (F h)) (hU : U ≤ 50001) (hnow : V 228 0 = nI U) (hl : (L 18 k).length ≤ 1000) (n : Nat) : ∀ (j : Nat) (acc : Int32), (L 18 k).length ≤ j + n → j ≤ (L 18 k).length → evok V U ((L 18 k).drop j) → fc_ratedByEvents_14 (n + 1) V L N (nI k) acc (nI j) = some (.inl (acc + evs V F U ((L 18 k).drop j))) := by
  have hend : ∀ (n : Nat) (acc : Int32), fc_ratedByEvents_14 (n + 1) V L N (nI k) acc (nI (L 18 k).length) = some (.inl (acc + evs V F U ((L 18 k).drop (L 18 k).length))) := by
    intro n acc
    rw [fc_ratedByEvents_14]
    simp only [po_b]
    rw [nI_clamp hk, if_pos (nI_le (Nat.le_refl _) (by omega)), List.drop_length, evs, Int32.add_zero]
  induction n with
  | zero =>
    intro j acc h1 h2 _
    obtain rfl : j = (L 18 k).length := by omega
    exact hend _ _
  | succ n ih =>
    intro j acc h1 h2 hok
    by_cases hj : j = (L 18 k).length
    · subst hj; exact hend _ _
    · have hj : j < (L 18 k).length := by omega
      have hd : (L 18 k).drop j = (L 18 k).getD j 0 :: (L 18 k).drop (j + 1) := by
        rw [List.drop_eq_getElem_cons hj, List.getD_eq_getElem?_getD, List.getElem?_eq_getElem hj]
        rfl
      rw [hd] at hok ⊢
      obtain ⟨⟨o1, o2, o3⟩, hok⟩ := hok
      rw [fc_ratedByEvents_14]
      simp only [po_b]
      rw [nI_clamp hk, if_neg (nI_ge hj (by omega)), nI_clamp (show j < 2 ^ 31 by omega), if_neg (by rw [not_or]; exact ⟨nI_pos (by omega), by omega⟩), nI_1, evs]
      by_cases hq : V 60 ((L 18 k).getD j 0).toNatClampNeg = 2
      · rw [if_pos hq, if_pos hq, fc_ratedByEvents_98]
        simp only [po_b]
        rw [nI_1, ih (j + 1) acc (by omega) (by omega) hok, Int32.zero_add]
      · rw [if_neg hq, if_neg hq]
        have hz := pn_eq o1
        have hs := pn_eq o2
        have ho1 := vp_lt o1
        have ho2 := vp_lt o2
        have key : ∀ u : Nat, u ≤ 50001 → nxt V U ((L 18 k).drop (j + 1)) = u → fc_ratedByEvents_75 (fc_ratedByEvents_14 (n + 1)) V L N (nI k) acc (nI j) ((L 18 k).getD j 0) (nI u) = some (.inl (acc + (sumI (gz F (V 41 (V 62 ((L 18 k).getD j 0).toNatClampNeg).toNatClampNeg).toNatClampNeg) u - sumI (gz F (V 41 (V 62 ((L 18 k).getD j 0).toNatClampNeg).toNatClampNeg).toNatClampNeg) (V 61 ((L 18 k).getD j 0).toNatClampNeg).toNatClampNeg + evs V F U ((L 18 k).drop (j + 1))))) := by
          intro u hu hue
          rw [hue] at o3
          rw [fc_ratedByEvents_75, hz, hs, nI_clamp (by omega), nI_clamp (by omega), pt_costOfStay (F := F) ho1 hF o3 hu]
          simp only [po_b]
          rw [fc_ratedByEvents_98]
          simp only [po_b]
          rw [nI_1, ih (j + 1) _ (by omega) (by omega) hok, Int32.add_assoc]
        by_cases hj1 : j + 1 < (L 18 k).length
        · have hd1 : (L 18 k).drop (j + 1) = (L 18 k).getD (j + 1) 0 :: (L 18 k).drop (j + 1 + 1) := by
            rw [List.drop_eq_getElem_cons hj1, List.getD_eq_getElem?_getD, List.getElem?_eq_getElem hj1]
            rfl
          have o4 : vp_in (V 61 ((L 18 k).getD (j + 1) 0).toNatClampNeg) (U + 1) := by
            rw [hd1] at hok
            exact hok.1.2.1
          have hs4 := pn_eq o4
          have ho4 := vp_lt o4
          rw [if_neg (nI_ge hj1 (by omega)), nI_clamp (show j + 1 < 2 ^ 31 by omega), if_neg (by rw [not_or]; exact ⟨nI_pos (by omega), by omega⟩), hs4]
          rw [hd1] at key ⊢
          exact key _ (by omega) rfl
        · have hd1 : (L 18 k).drop (j + 1) = [] := List.drop_eq_nil_of_le (by omega)
          rw [if_pos (nI_le (by omega) (by omega)), hnow]
          rw [hd1] at key ⊢
          exact key U hU rfl
end TM

theorem evs_app {V : Rho} {F : Nat → Nat → Int32} {U : Nat} {x : Int32} {es : List Int32} : evs V F U (es ++ [x]) = evs V F (V 61 x.toNatClampNeg).toNatClampNeg es + (if V 60 x.toNatClampNeg = 2 then 0 else sumI (gz F (V 41 (V 62 x.toNatClampNeg).toNatClampNeg).toNatClampNeg) U - sumI (gz F (V 41 (V 62 x.toNatClampNeg).toNatClampNeg).toNatClampNeg) (V 61 x.toNatClampNeg).toNatClampNeg) := by
  induction es with
  | nil => rw [List.nil_append, evs, evs, evs, Int32.add_zero, Int32.zero_add, nxt_nil]
  | cons e r ih =>
    rw [List.cons_append, evs, ih, evs]
    cases r with
    | nil => rw [List.nil_append, Int32.add_assoc, nxt_nil, nxt_cons]
    | cons y r => rw [List.cons_append, Int32.add_assoc, nxt_cons, nxt_cons]
theorem evs_grow {V : Rho} {F : Nat → Nat → Int32} {U : Nat} {x : Int32} {es : List Int32} (h : ¬ V 60 x.toNatClampNeg = 2) : evs V F (U + 1) (es ++ [x]) = evs V F U (es ++ [x]) + gz F (V 41 (V 62 x.toNatClampNeg).toNatClampNeg).toNatClampNeg U := by
  rw [evs_app, evs_app, if_neg h, if_neg h, sumI]
  grind
theorem evok_mono {V : Rho} {U U' : Nat} {es : List Int32} (hU : U ≤ U') (h : evok V U es) : evok V U' es := by
  induction es with
  | nil => trivial
  | cons e r ih =>
    obtain ⟨⟨a, b, c⟩, d⟩ := h
    refine ⟨⟨a, vp_mono b (by omega), ?_⟩, ih d⟩
    cases r with
    | nil => exact Nat.le_trans c hU
    | cons y r => exact c
theorem evok_app {V : Rho} {U U' : Nat} {x : Int32} {es : List Int32} (h : evok V U' es) (hx : V 61 x.toNatClampNeg = nI U') (hU : U' ≤ U) (hb : U ≤ 50001) (hz : vp_in (V 41 (V 62 x.toNatClampNeg).toNatClampNeg) 3) : evok V U (es ++ [x]) := by
  induction es with
  | nil => exact ⟨⟨hz, by rw [hx]; exact vp_in_nI (by omega) (by omega), by rw [hx, nI_clamp (by omega)]; exact hU⟩, trivial⟩
  | cons e r ih =>
    obtain ⟨⟨a, b, c⟩, d⟩ := h
    refine ⟨⟨a, vp_mono b (by omega), ?_⟩, ih d⟩
    cases r with
    | nil => show _ ≤ (V 61 x.toNatClampNeg).toNatClampNeg; rw [hx, nI_clamp (by omega)]; exact c
    | cons y r => exact c
theorem evs_F {V : Rho} {F F' : Nat → Nat → Int32} {U : Nat} {es : List Int32} (hF : ∀ z t, t < U → gz F' z t = gz F z t) (h : evok V U es) : evs V F' U es = evs V F U es := by
  induction es with
  | nil => rfl
  | cons e r ih =>
    obtain ⟨⟨a, b, c⟩, d⟩ := h
    have e1 : ∀ z n, n ≤ U → sumI (gz F' z) n = sumI (gz F z) n := fun z n hn => sumI_congr (fun t ht => hF z t (by omega))
    have hb := vp_lt b
    rw [evs, evs, ih d, e1 _ _ (show (V 61 e.toNatClampNeg).toNatClampNeg ≤ U by omega)]
    cases r with
    | nil =>
      rw [nxt_nil, e1 _ _ (Nat.le_refl U)]
    | cons y r =>
      have hy := vp_lt d.1.2.1
      rw [nxt_cons, e1 _ _ (show (V 61 y.toNatClampNeg).toNatClampNeg ≤ U by omega)]
theorem evs_V {V V' : Rho} {F : Nat → Nat → Int32} {U : Nat} {es : List Int32} (h41 : ∀ c, V' 41 c = V 41 c) (h : ∀ x ∈ es, V' 60 x.toNatClampNeg = V 60 x.toNatClampNeg ∧ V' 61 x.toNatClampNeg = V 61 x.toNatClampNeg ∧ V' 62 x.toNatClampNeg = V 62 x.toNatClampNeg) : evs V' F U es = evs V F U es := by
  induction es with
  | nil => rfl
  | cons e r ih =>
    obtain ⟨a, b, c⟩ := h e List.mem_cons_self
    rw [evs, evs, ih (fun x hx => h x (List.mem_cons_of_mem _ hx)), a, b, c, h41]
    cases r with
    | nil => rfl
    | cons y r =>
      rw [nxt_cons, nxt_cons, (h y (List.mem_cons_of_mem _ List.mem_cons_self)).2.1]
theorem evok_V {V V' : Rho} {U : Nat} {es : List Int32} (h41 : ∀ c, V' 41 c = V 41 c) (h : ∀ x ∈ es, V' 60 x.toNatClampNeg = V 60 x.toNatClampNeg ∧ V' 61 x.toNatClampNeg = V 61 x.toNatClampNeg ∧ V' 62 x.toNatClampNeg = V 62 x.toNatClampNeg) (hok : evok V U es) : evok V' U es := by
  induction es with
  | nil => trivial
  | cons e r ih =>
    obtain ⟨a, b, c⟩ := h e List.mem_cons_self
    obtain ⟨q1, q2⟩ := hok
    refine ⟨?_, ih (fun x hx => h x (List.mem_cons_of_mem _ hx)) q2⟩
    rw [b, c, h41]
    cases r with
    | nil => exact q1
    | cons y r =>
      rw [nxt_cons] at q1 ⊢
      rw [(h y (List.mem_cons_of_mem _ List.mem_cons_self)).2.1]
      exact q1
