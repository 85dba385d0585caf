/-! READING: the rate of now, the bundle in the order of use -/
theorem i3n2 : ((1 : Int32) = 0) = False := by decide
def rnow (ρ : Rho) (nw p : Nat) : Int32 := ρ 5 ((if pkh nw then 3 else 0) + (ρ 2 (ρ 6 p).toNatClampNeg).toNatClampNeg)
section RD
variable {V : Rho} {L : Lst} {N : Cnt} {ρ : Rho} {t nw i : Nat}
theorem rx_isIn {a b c : Int32} : fr_isIn ρ a b c = some (if a < b then 0 else if c < a then 0 else 1) := by
  unfold fr_isIn
  split
  · rfl
  · split <;> rfl
theorem rx_rate {p : Nat} (hp : p < 10) (h0 : ρ 0 0 = nI nw) (hnw : nw ≤ 50000) (h6 : vp_in (ρ 6 p) 8) (h2 : vp_in (ρ 2 (ρ 6 p).toNatClampNeg) 3) : fr_rateNow ρ (nI p) = some (rnow ρ nw p) := by
  have e31 : ∀ s : Nat, s ≤ 3 → fr_rateNow_31 ρ (nI p) (nI s) = some (ρ 5 (s + (ρ 2 (ρ 6 p).toNatClampNeg).toNatClampNeg)) := by
    intro s hs
    have hz := vp_lt h2
    unfold fr_rateNow_31
    rw [nI_clamp (show p < 2 ^ 31 by omega), if_neg (ng hp (by omega)), if_neg h6, show nI s + ρ 2 (ρ 6 p).toNatClampNeg = nI (s + (ρ 2 (ρ 6 p).toNatClampNeg).toNatClampNeg) by rw [← nI_add, ← pn_eq h2], if_neg (nI_in (by omega) (by omega)), nI_clamp (by omega)]
  unfold fr_rateNow rnow
  rw [rx_isIn, h0, pt_hour (by omega)]
  simp only [po_b]
  have hb : nw / 100 % 24 < 24 := Nat.mod_lt _ (by decide)
  by_cases h1 : nw / 100 % 24 < 8
  · rw [if_pos (show nI (nw / 100 % 24) < 8 from nI_lt (b := 8) h1 (by decide)), if_pos rfl, show pkh nw = false by unfold pkh; simp; omega]
    exact e31 0 (by omega)
  · rw [if_neg (show ¬ nI (nw / 100 % 24) < 8 from nI_nlt (b := 8) (by omega) (by omega))]
    by_cases h2 : 19 < nw / 100 % 24
    · rw [if_pos (show (19 : Int32) < nI (nw / 100 % 24) from nI_lt (a := 19) h2 (by omega)), if_pos rfl, show pkh nw = false by unfold pkh; simp; omega]
      exact e31 0 (by omega)
    · rw [if_neg (show ¬ (19 : Int32) < nI (nw / 100 % 24) from nI_nlt (a := 19) (by omega) (by omega)), if_neg (by decide), show pkh nw = true by unfold pkh; simp; omega]
      exact e31 3 (by omega)
theorem Rel.zone (h : Rel V L N ρ t nw i) {p : Nat} (hp : p < 10) : vp_in (ρ 6 p) 8 ∧ vp_in (ρ 2 (ρ 6 p).toNatClampNeg) 3 := ⟨(h.r5.2.1 p hp).1, (h.r5.1 _ (vp_lt (h.r5.2.1 p hp).1)).1⟩
theorem Rel.rrate (h : Rel V L N ρ t nw i) {p : Nat} (hp : p < 10) : fr_rateNow ρ (nI p) = some (rnow ρ nw p) := rx_rate hp h.r5.2.2.2.2.2.2.1 h.r5.2.2.2.2.2.2.2 (h.zone hp).1 (h.zone hp).2
theorem Rel.rate_in (h : Rel V L N ρ t nw i) {p : Nat} (hp : p < 10) : vp_in (rnow ρ nw p) 1001 := by
  have hz := vp_lt (h.zone hp).2
  exact h.r4.2 _ (by split <;> omega)
theorem Rel.hist (h : Rel V L N ρ t nw i) {p : Nat} (hp : p < 10) : V 121 (hix (ρ 2 (ρ 6 p).toNatClampNeg).toNatClampNeg nw) = rnow ρ nw p := by
  have hz := vp_lt (h.zone hp).2
  have h4 := h.r4.1 _ hz
  unfold hix rnow
  cases pkh nw
  · rw [if_neg (by decide), if_neg (by decide), Nat.zero_add]
    exact h4.2
  · rw [if_pos rfl, if_pos rfl, Nat.add_zero]
    exact h4.1
theorem Rel.crate (h : Rel V L N ρ t nw i) {p : Nat} (hp : p < 10) : fc_rateNow V L N (nI p) = some (rnow ρ nw p) := by
  have hz := vp_lt (h.zone hp).2
  unfold fc_rateNow
  rw [nI_clamp (by omega), h.c 228 0 (by decide), h.c 101 6 (by decide), h.c 41 2 (by decide), h.r5.2.2.2.2.2.2.1, pt_peak (by have := h.r5.2.2.2.2.2.2.2; omega)]
  simp only [po_b]
  rw [pn_eq (h.zone hp).2, pt_hist]
  simp only [po_b]
  rw [nI_clamp (by unfold hix; split <;> omega), h.hist hp]
theorem day_eq {n : Nat} (hn : n ≤ 50000) : nI n / 2400 = nI (n / 2400) := by
  rw [show (2400 : Int32) = nI 2400 by decide, pk_div (by omega) (by decide) (by decide)]
/-- may the bundle b serve in the zone z -/
def okb (ρ : Rho) (z : Int32) (b : Nat) : Prop := (((ρ 16 b) >>> (z &&& 31)) &&& 1) = 1 ∧ ρ 0 0 / 2400 < ρ 18 b ∧ ¬ ρ 17 b ≤ 0
theorem ahd_irr {ρ : Rho} {a b : Nat} (h1 : ahd ρ a b) (h2 : ahd ρ b a) : False := by
  unfold ahd at h1 h2
  simp only [Int32.lt_iff_toInt_lt, ← Int32.toInt_inj] at h1 h2
  omega
theorem ahd_tr {ρ : Rho} {a b c : Nat} (h1 : ahd ρ a b) (h2 : ahd ρ b c) : ahd ρ a c := by
  unfold ahd at h1 h2 ⊢
  simp only [Int32.lt_iff_toInt_lt, ← Int32.toInt_inj] at h1 h2 ⊢
  omega
/-- the first in the order of use -/
def fst1 (ρ : Rho) (P : Nat → Prop) (f : Int32) : Prop := (f = -1 ∧ ∀ b, ¬ P b) ∨ ∃ b, b < 40 ∧ f = nI b ∧ P b ∧ ∀ b', P b' → b' = b ∨ ahd ρ b b'
theorem fst1_eq {ρ : Rho} {P : Nat → Prop} {f g : Int32} (h1 : fst1 ρ P f) (h2 : fst1 ρ P g) : f = g := by
  rcases h1 with ⟨e1, h1⟩ | ⟨b1, -, e1, p1, q1⟩ <;> rcases h2 with ⟨e2, h2⟩ | ⟨b2, -, e2, p2, q2⟩
  · rw [e1, e2]
  · exact absurd p2 (h1 _)
  · exact absurd p1 (h2 _)
  · rcases q1 b2 p2 with z | z
    · rw [e1, e2, z]
    · rcases q2 b1 p1 with y | y
      · rw [e1, e2, y]
      · exact absurd y (fun y => ahd_irr z y)
theorem rb_isOver {b : Nat} (hb : b < 40) : fr_isOver ρ (nI b) = some (if ρ 0 0 / 2400 < ρ 18 b then 0 else 1) := by
  unfold fr_isOver fr_today
  simp only [po_b]
  rw [if_neg (nI_in hb (by omega)), nI_clamp (by omega)]
  split <;> rfl
theorem rb_isAhead {a b : Nat} (ha : a < 40) (hb : b < 40) : fr_isAhead ρ (nI a) (nI b) = some (if (ρ 19 a < ρ 19 b ∨ (ρ 19 a = ρ 19 b ∧ ρ 18 a < ρ 18 b)) then 1 else 0) := by
  unfold fr_isAhead
  rw [nI_clamp (show a < 2 ^ 31 by omega), nI_clamp (show b < 2 ^ 31 by omega), if_neg (ng ha (by omega)), if_neg (ng hb (by omega)), if_neg (ng ha (by omega)), if_neg (ng hb (by omega)), if_neg (ng ha (by omega)), if_neg (ng hb (by omega))]
  simp only [Int32.lt_iff_toInt_lt, Int32.le_iff_toInt_le, ← Int32.toInt_inj]
  by_cases h1 : (ρ 19 a).toInt = (ρ 19 b).toInt
  · rw [if_pos h1]
    by_cases h2 : (ρ 18 b).toInt ≤ (ρ 18 a).toInt
    · rw [if_pos h2, if_neg (by omega)]
    · rw [if_neg h2, if_pos (by omega)]
  · rw [if_neg h1]
    by_cases h2 : (ρ 19 b).toInt ≤ (ρ 19 a).toInt
    · rw [if_pos h2, if_neg (by omega)]
    · rw [if_neg h2, if_pos (by omega)]
/-- one bundle of the scan -/
theorem rb_step {k b m : Nat} {f z : Int32} (n : Nat) (hk : k < 80) (hm : m ≤ 40) (h14 : ρ 14 0 = nI m) (hb : b < m) : ((ρ 15 b = ρ 25 k ∧ okb ρ z b) → fr_bundleFor_22 (n + 1) ρ (nI k) f z (nI b) = (if f = -1 then fr_bundleFor_22 n ρ (nI k) (nI b) z (nI (b + 1)) else (fr_isAhead ρ (nI b) f).bind fun o => if o = 0 then fr_bundleFor_22 n ρ (nI k) f z (nI (b + 1)) else fr_bundleFor_22 n ρ (nI k) (nI b) z (nI (b + 1)))) ∧ (¬ (ρ 15 b = ρ 25 k ∧ okb ρ z b) → fr_bundleFor_22 (n + 1) ρ (nI k) f z (nI b) = fr_bundleFor_22 n ρ (nI k) f z (nI (b + 1))) := by
  have e85 : fr_bundleFor_85 (fr_bundleFor_22 n) ρ (nI k) f z (nI b) = fr_bundleFor_22 n ρ (nI k) f z (nI (b + 1)) := by
    unfold fr_bundleFor_85 fr_bundleFor_86 fr_bundleFor_113 fr_bundleFor_114
    simp only [po_b, if_true]
    rw [nI_1]
  have e86 : fr_bundleFor_86 (fr_bundleFor_22 n) ρ (nI k) f z (nI b) 1 = (if f = -1 then fr_bundleFor_22 n ρ (nI k) (nI b) z (nI (b + 1)) else (fr_isAhead ρ (nI b) f).bind fun o => if o = 0 then fr_bundleFor_22 n ρ (nI k) f z (nI (b + 1)) else fr_bundleFor_22 n ρ (nI k) (nI b) z (nI (b + 1))) := by
    unfold fr_bundleFor_86 fr_bundleFor_113 fr_bundleFor_108 fr_bundleFor_114
    rw [if_neg (by decide)]
    simp only [po_b]
    rw [nI_1]
  rw [fr_bundleFor_22, h14, if_neg (nI_ge hb (by omega)), rb_isOver (by omega), e85, e86, nI_clamp (show k < 2 ^ 31 by omega), nI_clamp (show b < 2 ^ 31 by omega), if_neg (ng (by omega) (by omega)), if_neg (ng hk (by omega)), if_neg (ng (by omega) (by omega))]
  simp only [po_b]
  rw [if_neg (ng (by omega) (by omega))]
  unfold okb
  refine ⟨fun ⟨h1, h2, h3, h4⟩ => ?_, fun hn => ?_⟩
  · rw [if_pos h1, if_pos h2, if_pos h3, if_pos rfl, if_neg h4]
  · by_cases h1 : ρ 15 b = ρ 25 k
    · rw [if_pos h1]
      by_cases h2 : (((ρ 16 b) >>> (z &&& 31)) &&& 1) = 1
      · rw [if_pos h2]
        by_cases h3 : ρ 0 0 / 2400 < ρ 18 b
        · rw [if_pos h3, if_pos rfl]
          by_cases h4 : ρ 17 b ≤ 0
          · rw [if_pos h4]
          · exact absurd ⟨h1, h2, h3, h4⟩ hn
        · rw [if_neg h3, if_neg (by decide)]
      · rw [if_neg h2]
    · rw [if_neg h1]
theorem rb_loop {k m : Nat} {z : Int32} (hk : k < 80) (hm : m ≤ 40) (h14 : ρ 14 0 = nI m) (n : Nat) : ∀ (b : Nat) (f : Int32), m ≤ b + n → b ≤ m → fst1 ρ (fun b' => b' < b ∧ ρ 15 b' = ρ 25 k ∧ okb ρ z b') f → ∃ g, fr_bundleFor_22 (n + 1) ρ (nI k) f z (nI b) = some g ∧ fst1 ρ (fun b' => b' < m ∧ ρ 15 b' = ρ 25 k ∧ okb ρ z b') g := by
  have hend : ∀ (n : Nat) (f : Int32), fr_bundleFor_22 (n + 1) ρ (nI k) f z (nI m) = some f := fun n f => by
    rw [fr_bundleFor_22, h14, if_pos (nI_le (Nat.le_refl _) (by omega))]
  induction n with
  | zero =>
    intro b f h1 h2 h3
    obtain rfl : b = m := by omega
    exact ⟨f, hend _ _, h3⟩
  | succ n ih =>
    intro b f h1 h2 h3
    by_cases hb : b = m
    · subst hb; exact ⟨f, hend _ _, h3⟩
    · have hb : b < m := by omega
      by_cases hP : ρ 15 b = ρ 25 k ∧ okb ρ z b
      · rw [(rb_step _ hk hm h14 hb).1 hP]
        rcases h3 with ⟨e, h3⟩ | ⟨b1, hb1, e, p1, q1⟩
        · rw [if_pos e]
          refine ih (b + 1) _ (by omega) (by omega) (Or.inr ⟨b, by omega, rfl, ⟨by omega, hP⟩, fun b' hb' => ?_⟩)
          by_cases hlt : b' < b
          · exact absurd ⟨hlt, hb'.2⟩ (h3 b')
          · exact Or.inl (by omega)
        · rw [if_neg (by rw [e]; exact pn_m1 (by omega)), e, rb_isAhead (by omega) hb1]
          simp only [po_b]
          by_cases hA : (ρ 19 b < ρ 19 b1 ∨ (ρ 19 b = ρ 19 b1 ∧ ρ 18 b < ρ 18 b1))
          · rw [if_pos hA, if_neg (by decide)]
            have hA1 : ahd ρ b b1 := hA.elim Or.inl (fun q => Or.inr ⟨q.1, Or.inl q.2⟩)
            refine ih (b + 1) _ (by omega) (by omega) (Or.inr ⟨b, by omega, rfl, ⟨by omega, hP⟩, fun b' hb' => ?_⟩)
            by_cases hlt : b' < b
            · rcases q1 b' ⟨hlt, hb'.2⟩ with y | y
              · rw [y]; exact Or.inr hA1
              · exact Or.inr (ahd_tr hA1 y)
            · exact Or.inl (by omega)
          · rw [if_neg hA, if_pos rfl]
            have hA1 : ahd ρ b1 b := by
              have hlt := p1.1
              unfold ahd
              simp only [Int32.lt_iff_toInt_lt, ← Int32.toInt_inj] at hA ⊢
              omega
            refine ih (b + 1) _ (by omega) (by omega) (Or.inr ⟨b1, hb1, rfl, ⟨by have := p1.1; omega, p1.2⟩, fun b' hb' => ?_⟩)
            by_cases hlt : b' < b
            · exact q1 b' ⟨hlt, hb'.2⟩
            · obtain rfl : b' = b := by have := hb'.1; omega
              exact Or.inr hA1
      · rw [(rb_step _ hk hm h14 hb).2 hP]
        refine ih (b + 1) _ (by omega) (by omega) ?_
        have hiff : ∀ b', (b' < b + 1 ∧ ρ 15 b' = ρ 25 k ∧ okb ρ z b') ↔ (b' < b ∧ ρ 15 b' = ρ 25 k ∧ okb ρ z b') := fun b' => ⟨fun q => ⟨by
          by_cases e : b' = b
          · subst e; exact absurd q.2 hP
          · have := q.1; omega, q.2⟩, fun q => ⟨by have := q.1; omega, q.2⟩⟩
        rcases h3 with ⟨e, h3⟩ | ⟨b1, hb1, e, p1, q1⟩
        · exact Or.inl ⟨e, fun b' q => h3 b' ((hiff b').mp q)⟩
        · exact Or.inr ⟨b1, hb1, e, (hiff b1).mpr p1, fun b' q => q1 b' ((hiff b').mp q)⟩
/-- one of the class's list -/
theorem cb_loop {w z : Nat} {l : List Nat} {day : Int32} (hw : w < 2 ^ 31) (hL : L 15 w = l.map nI) (hl : l.length ≤ 40) (hb : ∀ b ∈ l, b < 40) (hd : ρ 0 0 / 2400 = day) (hz : V 200 z = nI z) (hz2 : z < 3) (h0 : V 0 = ρ 16) (h1 : V 1 = ρ 18) (h8 : ∀ b ∈ l, day < ρ 18 b → V 3 b = ρ 17 b) (hs : l.Pairwise (ahd ρ)) (n : Nat) : ∀ j : Nat, l.length ≤ j + n → j ≤ l.length → ∃ g, fc_Wallet_findBundle_2 (n + 1) V L N (nI w) (nI z) day (nI j) = some g ∧ fst1 ρ (fun b' => b' ∈ l.drop j ∧ okb ρ (nI z) b') g := by
  have hlen : (L 15 w).length = l.length := by rw [hL, List.length_map]
  have hend : ∀ n : Nat, ∃ g, fc_Wallet_findBundle_2 (n + 1) V L N (nI w) (nI z) day (nI l.length) = some g ∧ fst1 ρ (fun b' => b' ∈ l.drop l.length ∧ okb ρ (nI z) b') g := fun n => by
    refine ⟨-1, ?_, Or.inl ⟨rfl, fun b q => ?_⟩⟩
    · rw [fc_Wallet_findBundle_2]
      simp only [po_b]
      rw [nI_clamp hw, hlen, if_pos (nI_le (Nat.le_refl _) (by omega))]
    · rw [List.drop_length] at q
      exact absurd q.1 List.not_mem_nil
  induction n with
  | zero =>
    intro j q1 q2
    obtain rfl : j = l.length := by omega
    exact hend _
  | succ n ih =>
    intro j q1 q2
    by_cases hj : j = l.length
    · subst hj; exact hend _
    · have hj : j < l.length := by omega
      have hg : (L 15 w).getD j 0 = nI l[j] := by
        rw [hL, List.getD_eq_getElem?_getD, List.getElem?_map, List.getElem?_eq_getElem hj]
        rfl
      have hd2 : l.drop j = l[j] :: l.drop (j + 1) := List.drop_eq_getElem_cons hj
      have hbj : l[j] < 40 := hb _ (List.getElem_mem hj)
      obtain ⟨g, i1, i2⟩ := ih (j + 1) (by omega) (by omega)
      have hskip : ¬ okb ρ (nI z) l[j] → fst1 ρ (fun b' => b' ∈ l.drop j ∧ okb ρ (nI z) b') g := fun hn => by
        have hiff : ∀ b', (b' ∈ l.drop j ∧ okb ρ (nI z) b') ↔ (b' ∈ l.drop (j + 1) ∧ okb ρ (nI z) b') := fun b' => by
          rw [hd2]
          refine ⟨fun q => ⟨?_, q.2⟩, fun q => ⟨List.mem_cons_of_mem _ q.1, q.2⟩⟩
          rcases List.mem_cons.mp q.1 with y | y
          · rw [y] at q; exact absurd q.2 hn
          · exact y
        rcases i2 with ⟨e, i2⟩ | ⟨b1, hb1, e, p1, q1⟩
        · exact Or.inl ⟨e, fun b' q => i2 b' ((hiff b').mp q)⟩
        · exact Or.inr ⟨b1, hb1, e, (hiff b1).mpr p1, fun b' q => q1 b' ((hiff b').mp q)⟩
      have e55 : fc_Wallet_findBundle_55 (fc_Wallet_findBundle_2 (n + 1)) V L N (nI w) (nI z) day (nI j) = some g := by
        unfold fc_Wallet_findBundle_55
        simp only [po_b]
        rw [nI_1]
        exact i1
      rw [fc_Wallet_findBundle_2]
      simp only [po_b]
      rw [nI_clamp hw, hlen, if_neg (nI_ge hj (by omega)), if_neg (nI_in hj (by omega)), nI_clamp (show j < 2 ^ 31 by omega), hg, e55]
      unfold fc_Bundle_isFor fc_Bundle_isOver
      rw [nI_clamp (show z < 2 ^ 31 by omega), nI_clamp (show l[j] < 2 ^ 31 by omega), hz, h0, h1]
      by_cases c1 : (((ρ 16 l[j]) >>> (nI z &&& 31)) &&& 1) = 1
      · rw [if_pos c1]
        simp only [po_b]
        rw [if_neg (by decide)]
        by_cases c2 : day < ρ 18 l[j]
        · rw [if_pos c2]
          simp only [po_b]
          rw [if_pos trivial, h8 _ (List.getElem_mem hj) c2]
          by_cases c3 : ρ 17 l[j] ≤ 0
          · rw [if_pos c3]
            exact ⟨g, rfl, hskip (fun q => q.2.2 c3)⟩
          · rw [if_neg c3]
            refine ⟨_, rfl, Or.inr ⟨l[j], hbj, rfl, ⟨by rw [hd2]; exact List.mem_cons_self, c1, by rw [hd]; exact c2, c3⟩, fun b' q => ?_⟩⟩
            rw [hd2] at q
            rcases List.mem_cons.mp q.1 with y | y
            · exact Or.inl y
            · refine Or.inr ?_
              have hs2 : (l.drop j).Pairwise (ahd ρ) := hs.sublist (List.drop_sublist j l)
              rw [hd2] at hs2
              exact (List.pairwise_cons.mp hs2).1 b' y
        · rw [if_neg c2]
          simp only [po_b]
          rw [if_neg (by decide)]
          exact ⟨g, rfl, hskip (fun q => c2 (by rw [← hd]; exact q.2.1))⟩
      · rw [if_neg c1]
        simp only [po_b]
        rw [if_pos trivial]
        exact ⟨g, rfl, hskip (fun q => c1 q.1)⟩
/-- the bundle that serves a leg -/
theorem Rel.bundle (h : Rel V L N ρ t nw i) {k : Nat} (hk : k < N 4) : ∃ g, fc_Wallet_findBundle V L N (V 83 k) (V 41 (V 101 (V 81 k).toNatClampNeg).toNatClampNeg) (V 228 0 / 2400) = some g ∧ fr_bundleFor ρ (nI k) = some g ∧ (g = -1 ∨ ∃ b, b < N 0 ∧ g = nI b ∧ okb ρ (ρ 2 (ρ 6 (ρ 23 k).toNatClampNeg).toNatClampNeg) b) := by
  obtain ⟨a23, a24, a25⟩ := h.r5.2.2.1 k hk
  have hn4 := h.r3.2.1.2.2.2
  have hn0 := h.r3.2.1.2.1
  have hp := vp_lt a23
  have hz := h.zone hp
  have hw := vp_lt a25
  obtain ⟨l, l1, l2, l3, l4⟩ := h.r9 _ hw
  rw [h.c 83 25 (by decide), h.c 41 2 (by decide), h.c 101 6 (by decide), h.c 81 23 (by decide), h.c 228 0 (by decide)]
  obtain ⟨g, g1, g2⟩ := rb_loop (ρ := ρ) (k := k) (z := ρ 2 (ρ 6 (ρ 23 k).toNatClampNeg).toNatClampNeg) (by omega) hn0 h.r3.2.2.1.1 2999 0 (-1) (by omega) (by omega) (Or.inl ⟨rfl, fun b q => by have := q.1; omega⟩)
  have hfr : fr_bundleFor ρ (nI k) = some g := by
    unfold fr_bundleFor
    rw [nI_clamp (show k < 2 ^ 31 by omega), if_neg (ng (by omega) (by omega)), if_neg a23, if_neg hz.1]
    simp only [po_b]
    exact g1
  obtain ⟨g', c1, c2⟩ := cb_loop (V := V) (N := N) (L := L) (ρ := ρ) (w := (ρ 25 k).toNatClampNeg) (z := (ρ 2 (ρ 6 (ρ 23 k).toNatClampNeg).toNatClampNeg).toNatClampNeg) (day := ρ 0 0 / 2400) (by omega) l1 (by omega) (fun b hb => by have := ((l4 b).mp hb).1; omega) rfl (h.r2 200 (by decide) _ (by rw [show 200 / 20 = 10 by decide, h.r3.1.2.1]; exact vp_lt hz.2)) (vp_lt hz.2) (h.c 0 16 (by decide)) (h.c 1 18 (by decide)) (fun b hb hd => h.r8 b ((l4 b).mp hb).1 hd) l2 2999 0 (by omega) (by omega)
  rw [← pn_eq a25, ← pn_eq hz.2] at c1
  rw [← pn_eq hz.2, List.drop_zero] at c2
  have c3 : fst1 ρ (fun b' => b' < N 0 ∧ ρ 15 b' = ρ 25 k ∧ okb ρ (ρ 2 (ρ 6 (ρ 23 k).toNatClampNeg).toNatClampNeg) b') g' := by
    have hiff : ∀ b', (b' ∈ l ∧ okb ρ (ρ 2 (ρ 6 (ρ 23 k).toNatClampNeg).toNatClampNeg) b') ↔ (b' < N 0 ∧ ρ 15 b' = ρ 25 k ∧ okb ρ (ρ 2 (ρ 6 (ρ 23 k).toNatClampNeg).toNatClampNeg) b') := fun b' => by
      rw [l4, ← pn_eq a25, and_assoc]
    rcases c2 with ⟨e, c2⟩ | ⟨b1, hb1, e, p1, q1⟩
    · exact Or.inl ⟨e, fun b' q => c2 b' ((hiff b').mpr q)⟩
    · exact Or.inr ⟨b1, hb1, e, (hiff b1).mp p1, fun b' q => q1 b' ((hiff b').mpr q)⟩
  have e : g' = g := fst1_eq c3 g2
  subst e
  refine ⟨g', c1, hfr, ?_⟩
  rcases g2 with ⟨e, -⟩ | ⟨b1, hb1, e, p1, q1⟩
  · exact Or.inl e
  · exact Or.inr ⟨b1, p1.1, e, p1.2.2⟩
end RD
