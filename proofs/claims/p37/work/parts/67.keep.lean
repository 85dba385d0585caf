/-! WHAT IS KEPT while slices are halved -/
section KP
variable {V V' : Rho} {L : Lst} {N : Cnt} {ρ ρ' : Rho} {t nw i k : Nat}
theorem raise_P {P : Rho → Prop} (hP : ∀ (V ρ : Rho) (x : Nat), Rel V L N ρ t nw i → gv ρ N k x → P ρ → P (hfR ρ (ρ 25 k).toNatClampNeg x)) (ht : t ≤ 512) (hk : k < N 4) {r : Nat} {may : Int32} (n : Nat) : ∀ (V ρ : Rho) (j : Nat) (g : Int32), Rel V L N ρ t nw i → P ρ → 1000 ≤ j + n → j + sPh ρ ≤ 1000 → (nI r ≤ ρ 12 (ρ 25 k).toNatClampNeg → g = -1) → (¬ nI r ≤ ρ 12 (ρ 25 k).toNatClampNeg → fr_giverTo ρ (nI k) = some g) → ∃ V' ρ', fc_raiseMoney_2 (n + 1) V L N (nI k) (nI r) (nI j) = some V' ∧ fr_moneyFor_62 (n + 1) ρ (nI k) (nI r) may g = fr_moneyFor_62 (0 + 1) ρ' (nI k) (nI r) may (-1) ∧ Rel V' L N ρ' t nw i ∧ chg [160, 182] V V' ∧ chg [12, 34] ρ ρ' ∧ ρ' 34 k = ρ 34 k ∧ (∀ j, ρ 34 j = 0 → ρ' 34 j = 0) ∧ P ρ' := by
  have hend : ∀ (n : Nat) (V ρ : Rho) (j : Nat) (g : Int32), Rel V L N ρ t nw i → P ρ → 1000 ≤ j → j + sPh ρ ≤ 1000 → (nI r ≤ ρ 12 (ρ 25 k).toNatClampNeg → g = -1) → (¬ nI r ≤ ρ 12 (ρ 25 k).toNatClampNeg → fr_giverTo ρ (nI k) = some g) → ∃ V' ρ', fc_raiseMoney_2 (n + 1) V L N (nI k) (nI r) (nI j) = some V' ∧ fr_moneyFor_62 (n + 1) ρ (nI k) (nI r) may g = fr_moneyFor_62 (0 + 1) ρ' (nI k) (nI r) may (-1) ∧ Rel V' L N ρ' t nw i ∧ chg [160, 182] V V' ∧ chg [12, 34] ρ ρ' ∧ ρ' 34 k = ρ 34 k ∧ (∀ j, ρ 34 j = 0 → ρ' 34 j = 0) ∧ P ρ' := by
    intro n V ρ j g h hp h1 h2 h3 h4
    have hg : g = -1 := by
      by_cases hr : nI r ≤ ρ 12 (ρ 25 k).toNatClampNeg
      · exact h3 hr
      · obtain ⟨g', -, a, b⟩ := h.giver hk
        rw [h4 hr] at a
        rw [Option.some.inj a]
        rcases b with b | ⟨x, b, -⟩
        · exact b
        · have := gv_sPh b h.n4
          omega
    subst hg
    refine ⟨V, ρ, ?_, r62_end, h, chg.rf, chg.rf, rfl, fun _ z => z, hp⟩
    rw [fc_raiseMoney_2, if_pos (show (1000 : Int32) ≤ nI j from nI_le (a := 1000) h1 (by omega))]
  induction n with
  | zero => exact fun V ρ j g h hp h1 => hend 0 V ρ j g h hp (by omega)
  | succ n ih =>
    intro V ρ j g h hp h1 h2 h3 h4
    by_cases hj : 1000 ≤ j
    · exact hend (n + 1) V ρ j g h hp hj h2 h3 h4
    · by_cases hr : nI r ≤ ρ 12 (ρ 25 k).toNatClampNeg
      · rw [h3 hr]
        refine ⟨V, ρ, ?_, r62_end, h, chg.rf, chg.rf, rfl, fun _ z => z, hp⟩
        rw [fc_raiseMoney_2, if_neg (show ¬ (1000 : Int32) ≤ nI j from nI_ge (b := 1000) (by omega) (by omega)), nI_clamp (show k < 2 ^ 31 by have := h.n4; omega), h.c 83 25 (by decide), h.c 182 12 (by decide), if_pos hr]
      · obtain ⟨g', c1, a, b⟩ := h.giver hk
        have e : g = g' := by
          have a2 := h4 hr
          rw [a] at a2
          exact (Option.some.inj a2).symm
        subst e
        have hn4 := h.n4
        rcases b with b | ⟨x, hx, b⟩
        · rw [b]
          refine ⟨V, ρ, ?_, r62_end, h, chg.rf, chg.rf, rfl, fun _ z => z, hp⟩
          rw [b] at c1
          rw [fc_raiseMoney_2, if_neg (show ¬ (1000 : Int32) ≤ nI j from nI_ge (b := 1000) (by omega) (by omega)), c1, nI_clamp (show k < 2 ^ 31 by omega), h.c 83 25 (by decide), h.c 182 12 (by decide), if_neg hr]
          simp only [po_b, if_true]
        · obtain ⟨o1, o2, o3⟩ := op_half h ht hk hx
          rw [b] at c1
          have hxn := hx.1
          have gx := ng (n := 80) (show x < 80 by omega) (by omega)
          have gk := ng (n := 80) (show k < 80 by omega) (by omega)
          have e25 : hfR ρ (ρ 25 k).toNatClampNeg x 25 k = ρ 25 k := rfl
          have h25 : ¬ (ρ 25 k < 0 ∨ 4 ≤ (ρ 25 k).toNatClampNeg) := (h.r5.2.2.1 k hk).2.2
          have hch : chg [12, 34] ρ (hfR ρ (ρ 25 k).toNatClampNeg x) := (chg.rf.st (by decide)).st (by decide)
          have hcV : chg [160, 182] V (hfV V ρ (ρ 25 k).toNatClampNeg x) := (chg.rf.st (by decide)).st (by decide)
          have e34 : hfR ρ (ρ 25 k).toNatClampNeg x 34 k = ρ 34 k := by
            unfold hfR
            rw [rcs_col (by decide), cs_nei hx.2.2.1.symm]
          have e34j : ∀ j, ρ 34 j = 0 → hfR ρ (ρ 25 k).toNatClampNeg x 34 j = 0 := fun j z => by
            have hne : j ≠ x := fun y => by
              have := hx.2.2.2.2.2.2
              rw [← y, z] at this
              exact absurd this (by decide)
            unfold hfR
            rw [rcs_col (by decide), cs_nei hne, z]
          have hfin : ∀ g2 : Int32, (nI r ≤ hfR ρ (ρ 25 k).toNatClampNeg x 12 (ρ 25 k).toNatClampNeg → g2 = -1) → (¬ nI r ≤ hfR ρ (ρ 25 k).toNatClampNeg x 12 (ρ 25 k).toNatClampNeg → fr_giverTo (hfR ρ (ρ 25 k).toNatClampNeg x) (nI k) = some g2) → fr_moneyFor_62 (n + 1 + 1) ρ (nI k) (nI r) may (nI x) = fr_moneyFor_62 (n + 1) (hfR ρ (ρ 25 k).toNatClampNeg x) (nI k) (nI r) may g2 := by
            intro g2 y1 y2
            rw [fr_moneyFor_62, if_neg (pn_m1 (by omega)), nI_clamp (show x < 2 ^ 31 by omega), o1]
            simp only [po_b]
            rw [nI_clamp (show k < 2 ^ 31 by omega), e25]
            simp only [gx, gk, h25, if_false]
            unfold fr_moneyFor_107
            by_cases y : nI r ≤ hfR ρ (ρ 25 k).toNatClampNeg x 12 (ρ 25 k).toNatClampNeg
            · rw [if_pos y, y1 y]
            · rw [if_neg y, y2 y]
              simp only [po_b]
          have hex : ∃ g2 : Int32, (nI r ≤ hfR ρ (ρ 25 k).toNatClampNeg x 12 (ρ 25 k).toNatClampNeg → g2 = -1) ∧ (¬ nI r ≤ hfR ρ (ρ 25 k).toNatClampNeg x 12 (ρ 25 k).toNatClampNeg → fr_giverTo (hfR ρ (ρ 25 k).toNatClampNeg x) (nI k) = some g2) := by
            by_cases y : nI r ≤ hfR ρ (ρ 25 k).toNatClampNeg x 12 (ρ 25 k).toNatClampNeg
            · exact ⟨-1, fun _ => rfl, fun z => absurd y z⟩
            · obtain ⟨g2, -, z, -⟩ := o2.giver hk
              exact ⟨g2, fun z => absurd z y, fun _ => z⟩
          obtain ⟨g2, y1, y2⟩ := hex
          obtain ⟨V', ρ', z1, z2, z3, z4, z5, z6, z7, z8⟩ := ih (hfV V ρ (ρ 25 k).toNatClampNeg x) (hfR ρ (ρ 25 k).toNatClampNeg x) (j + 1) g2 o2 (hP V ρ x h hx hp) (by omega) (by omega) y1 y2
          refine ⟨V', ρ', ?_, ?_, z3, (hcV.tr z4).sub (by decide), (hch.tr z5).sub (by decide), z6.trans e34, fun j z => z7 j (e34j j z), z8⟩
          · rw [raise_step h hk hx (by omega) hr c1]
            exact z1
          · rw [b, hfin g2 y1 y2]
            exact z2
theorem mny_P {P : Rho → Prop} (hP : ∀ (V ρ : Rho) (x : Nat), Rel V L N ρ t nw i → gv ρ N k x → P ρ → P (hfR ρ (ρ 25 k).toNatClampNeg x)) (hp0 : P ρ) (h : Rel V L N ρ t nw i) (ht : t ≤ 512) (hk : k < N 4) (h34 : ρ 34 k = 0) (hg : fc_Wallet_findBundle V L N (V 83 k) (V 41 (V 101 (V 81 k).toNatClampNeg).toNatClampNeg) (V 228 0 / 2400) = some (-1)) : ∃ (V1 ρ1 : Rho) (M r : Nat), P ρ1 ∧ r ≤ 1000 ∧ rnow ρ nw (ρ 23 k).toNatClampNeg = nI r ∧ Rel V1 L N ρ1 t nw i ∧ chg [160, 182] V V1 ∧ chg [12, 34] ρ ρ1 ∧ ρ1 34 k = 0 ∧ (∀ j, ρ 34 j = 0 → ρ1 34 j = 0) ∧ M ≤ 100 ∧ M * r ≤ fre ρ1 (ρ 25 k).toNatClampNeg ∧ fr_moneyFor ρ (nI k) = some (cs ρ1 12 (ρ 25 k).toNatClampNeg (ρ1 12 (ρ 25 k).toNatClampNeg - nI M * nI r), nI M) ∧ fc_takeSlice V L N (nI k) = if 1 ≤ M then some (tmV V1 ρ1 (ρ 25 k).toNatClampNeg k M r, 1) else some (V1, 0) := by
  have hn4 := h.n4
  obtain ⟨a23, a24, a25⟩ := h.r5.2.2.1 k hk
  have hw := vp_lt a25
  have hnw := h.r5.2.2.2.2.2.2.2
  have h25 : ¬ (ρ 25 k < 0 ∨ 4 ≤ (ρ 25 k).toNatClampNeg) := a25
  have gk := ng (n := 80) (show k < 80 by omega) (by omega)
  obtain ⟨p, hp, hp2, ep⟩ := pn_of a23
  obtain ⟨r, hr, hr2, er⟩ := pn_of (h.rate_in hp)
  obtain ⟨ln, hl, hl2, el⟩ := pn_of h.r5.2.2.2.2.2.1.1
  have hl0 := h.r5.2.2.2.2.2.1.2
  rw [el, nI_clamp hl2] at hl0
  have hle := h.r14.le hw hk
  rw [ep, nI_clamp hp2]
  -- the class, as far as the rate
  have hc : fc_takeSlice V L N (nI k) = if nI r ≤ 0 then fc_takeSlice_119 V L N (nI k) (nI r) (nI ln) else (fc_Phone_mostByCap V L N (nI p) (nI (nw / 2400))).bind fun o12 => (if (if (o12 / nI r) < nI ln then (o12 / nI r) else nI ln) ≤ 0 then fc_takeSlice_103 V L N (nI k) (nI r) (if (o12 / nI r) < nI ln then (o12 / nI r) else nI ln) else (fc_raiseMoney V L N (nI k) (nI r)).bind fun o15 => fc_takeSlice_103 o15 L N (nI k) (nI r) (if (o12 / nI r) < nI ln then (o12 / nI r) else nI ln)) := by
    have e81 : V 81 k = nI p := by rw [h.c 81 23 (by decide), ep]
    unfold fc_takeSlice fc_dayOf
    rw [nI_clamp (show k < 2 ^ 31 by omega)]
    simp only [po_b]
    rw [hg]
    simp only [po_b, if_true]
    rw [e81, h.crate hp, er]
    simp only [po_b]
    rw [h.c 227 1 (by decide), el, h.c 228 0 (by decide), h.r5.2.2.2.2.2.2.1, day_eq hnw]
    by_cases hr0 : r = 0
    · subst hr0
      rw [if_pos (show nI 0 ≤ 0 by decide), if_pos (show nI 0 ≤ 0 by decide)]
    · have hne : ¬ nI r = 0 := nI_ne0 (by omega) hr2
      rw [if_neg (nI_nle (by omega) hr2), if_neg (nI_nle (by omega) hr2)]
      simp only [hne, if_false]
  have hr9 : fr_moneyFor ρ (nI k) = if nI r = 0 then some (ρ, nI ln) else (fr_lets ρ (nI p) (nI r)).bind fun o4 => (if o4 ≤ 0 then fr_moneyFor_62 FU ρ (nI k) (nI r) o4 (-1) else (if nI r ≤ ρ 12 (ρ 25 k).toNatClampNeg then fr_moneyFor_62 FU ρ (nI k) (nI r) o4 (-1) else (fr_giverTo ρ (nI k)).bind fun o7 => fr_moneyFor_62 FU ρ (nI k) (nI r) o4 o7)) := by
    unfold fr_moneyFor fr_moneyFor_59 fr_moneyFor_60
    rw [nI_clamp (show k < 2 ^ 31 by omega), ep, h.rrate hp, er]
    simp only [po_b, gk, h25, if_false]
    rw [el]
  have sub9 : ∀ M : Nat, M * r ≤ fre ρ (ρ 25 k).toNatClampNeg → True := fun _ _ => trivial
  by_cases hr0 : r = 0
  · subst hr0
    refine ⟨V, ρ, ln, 0, hp0, by omega, er, h, chg.rf, chg.rf, h34, fun _ z => z, by omega, by omega, ?_, ?_⟩
    · rw [hr9, if_pos (show nI 0 = 0 by decide), nI_0, Int32.mul_zero, Int32.sub_zero, cs_self]
    · rw [hc, if_pos (show nI 0 ≤ 0 by decide), c119 h hk (by omega)]
  · have hr1 : 0 < r := by omega
    obtain ⟨q, o, hq, l1, l2, l3⟩ := cap_eq h hp hr1 (show r ≤ 1000 by omega)
    rw [el, nI_clamp hl2] at l3
    rw [if_neg (nI_nle hr1 hr2), l2] at hc
    rw [if_neg (nI_ne0 hr1 hr2), l1] at hr9
    simp only [po_b] at hc hr9
    by_cases hq0 : q = 0
    · -- the cap lets none
      have hx : (if (o / nI r) < nI ln then (o / nI r) else nI ln) ≤ 0 := by
        rcases l3 with z | z
        · rw [z, hq0, Nat.zero_min]
          decide
        · exact z.2
      rw [if_pos hx, c103_neg h ht hk hr1 (by omega) hx] at hc
      rw [hq0, if_pos (show nI 0 ≤ 0 by decide), show FU = 2999 + 1 from rfl, r62_end, r62_fin h ht hk hr1 (by omega) (by omega), Nat.zero_min] at hr9
      exact ⟨V, ρ, 0, r, hp0, by omega, er, h, chg.rf, chg.rf, h34, fun _ z => z, by omega, by omega, hr9, by rw [hc, if_neg (by omega)]⟩
    · have hx : (if (o / nI r) < nI ln then (o / nI r) else nI ln) = nI (min q ln) := l3.resolve_right (fun z => hq0 z.1)
      have hg2 : ∃ g : Int32, (nI r ≤ ρ 12 (ρ 25 k).toNatClampNeg → g = -1) ∧ (¬ nI r ≤ ρ 12 (ρ 25 k).toNatClampNeg → fr_giverTo ρ (nI k) = some g) := by
        by_cases y : nI r ≤ ρ 12 (ρ 25 k).toNatClampNeg
        · exact ⟨-1, fun _ => rfl, fun z => absurd y z⟩
        · obtain ⟨g2, -, z, -⟩ := h.giver hk
          exact ⟨g2, fun z => absurd z y, fun _ => z⟩
      obtain ⟨g, y1, y2⟩ := hg2
      obtain ⟨V1, ρ1, z1, z2, z3, z4, z5, z6, z7, z8⟩ := raise_P (L := L) (N := N) (t := t) (nw := nw) (i := i) hP ht hk (r := r) (may := nI q) 2999 V ρ 0 g h hp0 (by omega) (by have := sPh_le h; omega) y1 y2
      have e25 : ρ1 25 k = ρ 25 k := by rw [z5 25 (by decide)]
      have e1 : ρ1 1 0 = nI ln := by rw [z5 1 (by decide), el]
      have hfin := r62_fin z3 ht hk hr1 (show r ≤ 1000 by omega) hq
      rw [e25, e1, nI_clamp hl2] at hfin
      have hcl := c103 z3 ht hk (q := min q ln) hr1 (show r ≤ 1000 by omega) (by omega)
      rw [e25] at hcl
      rw [hx, if_neg (nI_nle (by omega) (by omega)), show fc_raiseMoney V L N (nI k) (nI r) = some V1 from z1] at hc
      simp only [po_b] at hc
      rw [hcl, c119 z3 hk (by omega), e25] at hc
      have hM : min q (min ln (fre ρ1 (ρ 25 k).toNatClampNeg / r)) = min (min q ln) (fre ρ1 (ρ 25 k).toNatClampNeg / r) := by omega
      have hr10 : fr_moneyFor ρ (nI k) = fr_moneyFor_62 (2999 + 1) ρ (nI k) (nI r) (nI q) g := by
        rw [hr9, if_neg (nI_nle (by omega) hq)]
        by_cases y : nI r ≤ ρ 12 (ρ 25 k).toNatClampNeg
        · rw [if_pos y, y1 y]
          rfl
        · rw [if_neg y, y2 y]
          rfl
      rw [z2, hfin, hM] at hr10
      refine ⟨V1, ρ1, _, r, z8, by omega, er, z3, z4, z5, z6.trans h34, z7, by omega, ?_, hr10, hc⟩
      exact Nat.le_trans (Nat.mul_le_mul_right r (Nat.min_le_right _ _)) (Nat.div_mul_le_self _ _)
end KP
