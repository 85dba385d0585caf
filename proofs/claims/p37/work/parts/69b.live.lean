/-! WHAT STAYS while seconds pass -/
section LK
variable {V V' : Rho} {L : Lst} {N : Cnt} {ρ ρ' : Rho} {t nw i k p M : Nat} {γ : Nat → Nat → Nat} {ε : Nat → Int32}
theorem Rel.nn {V' : Rho} {L' : Lst} {N' : Cnt} {t' nw' i' : Nat} (h : Rel V L N ρ t nw i) (h' : Rel V' L' N' ρ' t' nw' i') (hr : agr [14, 20, 22] ρ ρ') : N' 4 = N 4 ∧ N' 1 = N 1 ∧ N' 0 = N 0 := by
  have a1 := h.r3.2.1
  have a2 := h'.r3.2.1
  have b1 := h.r3.2.2.1
  have b2 := h'.r3.2.2.1
  rw [hr 14 (by decide), hr 20 (by decide), hr 22 (by decide)] at b2
  exact ⟨pn_inj (by omega) (by omega) (b2.2.2.symm.trans b1.2.2), pn_inj (by omega) (by omega) (b2.2.1.symm.trans b1.2.1), pn_inj (by omega) (by omega) (b2.1.symm.trans b1.1)⟩
theorem ne_succ (x : Int32) : ¬ x = x + 1 := by
  intro h
  have h2 : x - x = x + 1 - x := congrArg (fun y => y - x) h
  rw [Int32.sub_self, Int32.add_comm, Int32.add_sub_cancel] at h2
  exact absurd h2 (by decide)
theorem LG.rate (hL : LG ρ γ ε k) (ha : ρ 26 k = 0) (h32 : ρ 32 k = ρ 0 0) (hpos : ¬ ρ 27 k + 1 = 0) (e23 : ρ' 23 k = ρ 23 k) (e24 : ρ' 24 k = ρ 24 k) (e26 : ρ' 26 k = ρ 26 k) (e31 : ρ' 31 k = ρ 31 k) (e6 : ρ' 6 = ρ 6) (e27 : ρ' 27 k = ρ 27 k + 1) (e32 : ρ' 32 k = ρ 0 0 + 1) (e30 : ∃ x : Int32, ρ' 30 k = x.toInt8.toInt32) : LG ρ' γ ε k := by
  obtain ⟨a, b, c, d, f1, f2, f3⟩ := hL
  unfold LG
  rw [e23, e24, e26, e31, e6, e27, e32]
  refine ⟨a, ?_, e30, fun z => absurd z hpos, f1, f2, fun _ z => absurd ha z⟩
  rw [← h32, ← b]
  rw [Int32.add_assoc, Int32.add_comm 1, ← Int32.add_assoc]
theorem spe_le (hM : MQ9 ρ M) {w : Nat} (hw : w < 4) : spe ρ w ≤ M ∧ ρ 13 w = nI (spe ρ w) := by
  obtain ⟨h1, h2, h3⟩ := hM
  have := sumN_ge (f := spe ρ) hw
  refine ⟨by omega, ?_⟩
  obtain ⟨j, hj, e⟩ := nI_of (h3 w hw)
  unfold spe
  rw [e, nI_clamp hj]
theorem cha_le (h : Rel V L N ρ t nw i) (hM : MQ9 ρ M) (hk : k < N 4) : cha ρ k ≤ M ∧ ρ 28 k = nI (cha ρ k) := by
  obtain ⟨h1, h2, h3⟩ := hM
  have := sumN_ge (f := cha ρ) (show k < nlg ρ by rw [h.lgs]; exact hk)
  refine ⟨by omega, ?_⟩
  obtain ⟨j, hj, e⟩ := nI_of (h.r17 k).2.2.1.1
  unfold cha
  rw [e, nI_clamp hj]
theorem rates_keep (h : Rel V L N ρ t nw p) (hk : k < N 4) (ha : ρ 26 k = 0) (ep : ρ 23 k = nI p) (hp : p < 10) (hs : ¬ ρ 34 k = 0) (hr35 : ρ 33 k = -1 → ρ 35 k = rnow ρ nw p) (hJ : PJ ρ γ ε M) (hM9 : M ≤ 1000000000) : ∃ ρ', fr_rates ρ (nI k) = some ρ' ∧ PJ ρ' γ ε M ∧ chg [10, 11, 13, 27, 28, 29, 30, 32, 34] ρ ρ' := by
  have hn4 := h.n4
  have hkl : k < nlg ρ := by rw [h.lgs]; exact hk
  have hnw := h.r5.2.2.2.2.2.2.2
  have e00 := h.r5.2.2.2.2.2.2.1
  obtain ⟨q1, q2, q3, q4, q5⟩ := h.r7 k hk
  obtain ⟨s, hs1, hs2, es⟩ := pn_of q1
  obtain ⟨r, hr1, hr2, er⟩ := pn_of (h.rate_in hp)
  have hs0 : 1 ≤ s := Nat.pos_of_ne_zero (fun z => hs (by rw [es, z, nI_0]))
  have e34 : ρ 34 k - 1 = nI (s - 1) := by rw [es, show (1 : Int32) = nI 1 by decide, nI_sb hs0]
  obtain ⟨a23, a24, a25⟩ := h.r5.2.2.1 k hk
  have hw := vp_lt a25
  have h25 : ¬ (ρ 25 k < 0 ∨ 4 ≤ (ρ 25 k).toNatClampNeg) := a25
  have gk := ng (n := 80) (show k < 80 by omega) (by omega)
  have gp := ng (n := 10) hp (by omega)
  have h32 : ρ 32 k = ρ 0 0 := by
    obtain ⟨-, w2⟩ := h.r11 k hk
    rw [(w2 ha).2, ep, nI_clamp (by omega), if_neg (by omega), e00, Nat.add_zero]
  have hpos : ¬ ρ 27 k + 1 = 0 := by
    obtain ⟨z1, z2⟩ := (h.r17 k).2.1
    obtain ⟨x, hx, ex⟩ := nI_of z1
    rw [ex, nI_clamp hx, h32, e00, nI_clamp (by omega)] at z2
    rw [ex, nI_1]
    exact nI_ne0 (by omega) (by omega)
  generalize htg : ((3 * ρ 30 k + rnow ρ nw p).toInt8.toInt32) = tg
  by_cases h33 : ρ 33 k = -1
  · generalize hct : (if ρ 11 p = nI (nw / 2400) then ρ 10 p else 0) = ct
    have hR : fr_rates ρ (nI k) = some (cs (cs (cs (cs (cs (cs (cs (cs ρ 34 k (ρ 34 k - 1)) 27 k (ρ 27 k + 1)) 32 k (ρ 0 0 + 1)) 30 k tg) 28 k (ρ 28 k + rnow ρ nw p)) 13 (ρ 25 k).toNatClampNeg (ρ 13 (ρ 25 k).toNatClampNeg + rnow ρ nw p)) 10 p (ct + rnow ρ nw p)) 11 p (nI (nw / 2400))) := by
      have hday : ρ 0 0 / 2400 = nI (nw / 2400) := by rw [e00, day_eq hnw]
      unfold fr_rates fr_costToday fr_today
      have hrr := h.rrate hp
      have hcl := nI_clamp (show p < 2 ^ 31 by omega)
      rw [nI_clamp (show k < 2 ^ 31 by omega), ep]
      simp only [po_b, hrr, hcl, gk, gp, h25, if_false, rcs_col, ne_eq, Nat.reduceEqDiff, not_false_eq_true]
      rw [if_pos h33, hday, htg]
      by_cases hd : ρ 11 p = nI (nw / 2400)
      · rw [if_pos hd] at hct ⊢
        simp only [po_b]
        rw [hct]
      · rw [if_neg hd] at hct ⊢
        simp only [po_b]
        rw [hct]
    have hch : chg [10, 11, 13, 27, 28, 29, 30, 32, 34] ρ (cs (cs (cs (cs (cs (cs (cs (cs ρ 34 k (ρ 34 k - 1)) 27 k (ρ 27 k + 1)) 32 k (ρ 0 0 + 1)) 30 k tg) 28 k (ρ 28 k + rnow ρ nw p)) 13 (ρ 25 k).toNatClampNeg (ρ 13 (ρ 25 k).toNatClampNeg + rnow ρ nw p)) 10 p (ct + rnow ρ nw p)) 11 p (nI (nw / 2400))) := (((((((chg.rf.st (by decide)).st (by decide)).st (by decide)).st (by decide)).st (by decide)).st (by decide)).st (by decide)).st (by decide)
    refine ⟨_, hR, ?_, hch⟩
    have f34 : ∀ j, (cs (cs (cs (cs (cs (cs (cs (cs ρ 34 k (ρ 34 k - 1)) 27 k (ρ 27 k + 1)) 32 k (ρ 0 0 + 1)) 30 k tg) 28 k (ρ 28 k + rnow ρ nw p)) 13 (ρ 25 k).toNatClampNeg (ρ 13 (ρ 25 k).toNatClampNeg + rnow ρ nw p)) 10 p (ct + rnow ρ nw p)) 11 p (nI (nw / 2400))) 34 j = if j = k then nI (s - 1) else ρ 34 j := fun j => by
      simp only [rcs_col, ne_eq, Nat.reduceEqDiff, not_false_eq_true]
      by_cases e : j = k
      · rw [e, cs_at, if_pos rfl, e34]
      · rw [cs_nei e, if_neg e]
    have f13 : ∀ j, (cs (cs (cs (cs (cs (cs (cs (cs ρ 34 k (ρ 34 k - 1)) 27 k (ρ 27 k + 1)) 32 k (ρ 0 0 + 1)) 30 k tg) 28 k (ρ 28 k + rnow ρ nw p)) 13 (ρ 25 k).toNatClampNeg (ρ 13 (ρ 25 k).toNatClampNeg + rnow ρ nw p)) 10 p (ct + rnow ρ nw p)) 11 p (nI (nw / 2400))) 13 j = if j = (ρ 25 k).toNatClampNeg then ρ 13 j + rnow ρ nw p else ρ 13 j := fun j => by
      simp only [rcs_col, ne_eq, Nat.reduceEqDiff, not_false_eq_true]
      by_cases e : j = (ρ 25 k).toNatClampNeg
      · rw [e, cs_at, if_pos rfl]
      · rw [cs_nei e, if_neg e]
        simp only [rcs_col, ne_eq, Nat.reduceEqDiff, not_false_eq_true]
    have f28 : ∀ j, (cs (cs (cs (cs (cs (cs (cs (cs ρ 34 k (ρ 34 k - 1)) 27 k (ρ 27 k + 1)) 32 k (ρ 0 0 + 1)) 30 k tg) 28 k (ρ 28 k + rnow ρ nw p)) 13 (ρ 25 k).toNatClampNeg (ρ 13 (ρ 25 k).toNatClampNeg + rnow ρ nw p)) 10 p (ct + rnow ρ nw p)) 11 p (nI (nw / 2400))) 28 j = if j = k then ρ 28 j + rnow ρ nw p else ρ 28 j := fun j => by
      simp only [rcs_col, ne_eq, Nat.reduceEqDiff, not_false_eq_true]
      by_cases e : j = k
      · rw [e, cs_at, if_pos rfl]
      · rw [cs_nei e, if_neg e]
        simp only [rcs_col, ne_eq, Nat.reduceEqDiff, not_false_eq_true]
    have f27 : (cs (cs (cs (cs (cs (cs (cs (cs ρ 34 k (ρ 34 k - 1)) 27 k (ρ 27 k + 1)) 32 k (ρ 0 0 + 1)) 30 k tg) 28 k (ρ 28 k + rnow ρ nw p)) 13 (ρ 25 k).toNatClampNeg (ρ 13 (ρ 25 k).toNatClampNeg + rnow ρ nw p)) 10 p (ct + rnow ρ nw p)) 11 p (nI (nw / 2400))) 27 k = ρ 27 k + 1 := by
      simp only [rcs_col, ne_eq, Nat.reduceEqDiff, not_false_eq_true, cs_at]
    have f32 : (cs (cs (cs (cs (cs (cs (cs (cs ρ 34 k (ρ 34 k - 1)) 27 k (ρ 27 k + 1)) 32 k (ρ 0 0 + 1)) 30 k tg) 28 k (ρ 28 k + rnow ρ nw p)) 13 (ρ 25 k).toNatClampNeg (ρ 13 (ρ 25 k).toNatClampNeg + rnow ρ nw p)) 10 p (ct + rnow ρ nw p)) 11 p (nI (nw / 2400))) 32 k = ρ 0 0 + 1 := by
      simp only [rcs_col, ne_eq, Nat.reduceEqDiff, not_false_eq_true, cs_at]
    have f30 : (cs (cs (cs (cs (cs (cs (cs (cs ρ 34 k (ρ 34 k - 1)) 27 k (ρ 27 k + 1)) 32 k (ρ 0 0 + 1)) 30 k tg) 28 k (ρ 28 k + rnow ρ nw p)) 13 (ρ 25 k).toNatClampNeg (ρ 13 (ρ 25 k).toNatClampNeg + rnow ρ nw p)) 10 p (ct + rnow ρ nw p)) 11 p (nI (nw / 2400))) 30 k = tg := by
      simp only [rcs_col, ne_eq, Nat.reduceEqDiff, not_false_eq_true, cs_at]
    have fo : ∀ d ∈ [27, 29, 30, 32], ∀ j, j ≠ k → (cs (cs (cs (cs (cs (cs (cs (cs ρ 34 k (ρ 34 k - 1)) 27 k (ρ 27 k + 1)) 32 k (ρ 0 0 + 1)) 30 k tg) 28 k (ρ 28 k + rnow ρ nw p)) 13 (ρ 25 k).toNatClampNeg (ρ 13 (ρ 25 k).toNatClampNeg + rnow ρ nw p)) 10 p (ct + rnow ρ nw p)) 11 p (nI (nw / 2400))) d j = ρ d j := fun d hd j hne => by
      simp only [List.mem_cons, List.not_mem_nil, or_false] at hd
      rcases hd with rfl | rfl | rfl | rfl <;> simp only [rcs_col, ne_eq, Nat.reduceEqDiff, not_false_eq_true, cs_nei hne]
    generalize hR9 : (cs (cs (cs (cs (cs (cs (cs (cs ρ 34 k (ρ 34 k - 1)) 27 k (ρ 27 k + 1)) 32 k (ρ 0 0 + 1)) 30 k tg) 28 k (ρ 28 k + rnow ρ nw p)) 13 (ρ 25 k).toNatClampNeg (ρ 13 (ρ 25 k).toNatClampNeg + rnow ρ nw p)) 10 p (ct + rnow ρ nw p)) 11 p (nI (nw / 2400))) = R9 at hch f34 f13 f28 f27 f32 f30 fo
    have en : nlg R9 = nlg ρ := by unfold nlg; rw [hch 22 (by decide)]
    have g35 : ρ 35 k = nI r := (hr35 h33).trans er
    refine ⟨fun j hj => ?_, ⟨?_, ?_, ?_⟩, ?_⟩
    · rw [en] at hj
      by_cases e : j = k
      · subst e
        exact (hJ.1 j hj).rate ha h32 hpos (by rw [hch 23 (by decide)]) (by rw [hch 24 (by decide)]) (by rw [hch 26 (by decide)]) (by rw [hch 31 (by decide)]) (hch 6 (by decide)) f27 f32 ⟨_, f30.trans htg.symm⟩
      · refine (hJ.1 j hj).congr (fun d hd => ?_) (hch 6 (by decide))
        simp only [List.mem_cons, List.not_mem_nil, or_false] at hd
        rcases hd with rfl | rfl | rfl | rfl | rfl | rfl | rfl | rfl | rfl
        · rw [hch 23 (by decide)]
        · rw [hch 24 (by decide)]
        · rw [hch 26 (by decide)]
        · exact fo 27 (by decide) j e
        · rw [f28, if_neg e]
        · exact fo 29 (by decide) j e
        · exact fo 30 (by decide) j e
        · rw [hch 31 (by decide)]
        · exact fo 32 (by decide) j e
    · obtain ⟨m1, m2, m3⟩ := hJ.2.1
      obtain ⟨b1, b2⟩ := spe_le hJ.2.1 hw
      have a1 := sumN_at (f := mIn ρ) (g := mIn R9) hkl (fun j _ hne => by unfold mIn; rw [hch 33 (by decide), hch 35 (by decide), f34, if_neg hne])
      have a2 := sumN_at (f := spe ρ) (g := spe R9) hw (fun j _ hne => by unfold spe; rw [f13, if_neg hne])
      have a3 : sumN (fre R9) 4 = sumN (fre ρ) 4 := sumN_congr (fun j _ => by unfold fre; rw [hch 12 (by decide)])
      have y1 : mIn R9 k = (s - 1) * r := by
        unfold mIn
        rw [hch 33 (by decide), hch 35 (by decide), f34, if_pos rfl, if_pos h33, g35, nI_clamp (by omega), nI_clamp hr2]
      have y2 : mIn ρ k = s * r := by
        unfold mIn
        rw [if_pos h33, es, g35, nI_clamp hs2, nI_clamp hr2]
      have y3 : spe R9 (ρ 25 k).toNatClampNeg = spe ρ (ρ 25 k).toNatClampNeg + r := by
        show (R9 13 _).toNatClampNeg = _
        rw [f13, if_pos rfl, b2, er, nI_add, nI_clamp (by omega)]
      have y4 : s * r = (s - 1) * r + r := by
        obtain ⟨x, rfl⟩ : ∃ x, s = x + 1 := ⟨s - 1, by omega⟩
        rw [Nat.add_sub_cancel, Nat.add_mul, Nat.one_mul]
      rw [en]
      omega
    · obtain ⟨m1, m2, m3⟩ := hJ.2.1
      obtain ⟨b1, b2⟩ := spe_le hJ.2.1 hw
      obtain ⟨c1, c2⟩ := cha_le h hJ.2.1 hk
      have a2 := sumN_at (f := spe ρ) (g := spe R9) hw (fun j _ hne => by unfold spe; rw [f13, if_neg hne])
      have a4 := sumN_at (f := cha ρ) (g := cha R9) hkl (fun j _ hne => by unfold cha; rw [f28, if_neg hne])
      have y3 : spe R9 (ρ 25 k).toNatClampNeg = spe ρ (ρ 25 k).toNatClampNeg + r := by
        show (R9 13 _).toNatClampNeg = _
        rw [f13, if_pos rfl, b2, er, nI_add, nI_clamp (by omega)]
      have y5 : cha R9 k = cha ρ k + r := by
        show (R9 28 k).toNatClampNeg = _
        rw [f28, if_pos rfl, c2, er, nI_add, nI_clamp (by omega)]
      rw [en]
      omega
    · intro w9 hw9
      obtain ⟨b1, b2⟩ := spe_le hJ.2.1 hw9
      rw [f13]
      split
      · rw [b2, er, nI_add]
        exact nI_pos (by omega)
      · rw [b2]
        exact nI_pos (by omega)
    · refine hJ.2.2.at hkl (hch 14 (by decide)) (hch 22 (by decide)) (fun j _ hne => ⟨by rw [hch 33 (by decide)], by rw [f34, if_neg hne]⟩) (fun b hb z1 z2 => ?_)
      have hb4 : b < 40 := by
        have := h.bds
        have := h.r3.2.1.2.1
        omega
      rw [hch 17 (by decide)]
      refine ⟨z1, ?_⟩
      have e : ¬ ρ 33 k = nI b := by
        rw [h33]
        exact fun z => pn_m1 (k := b) (by omega) z.symm
      unfold bsl
      rw [hch 33 (by decide), if_neg e, if_neg e]
      exact Nat.le_refl _
  · have hR : fr_rates ρ (nI k) = some (cs (cs (cs (cs (cs ρ 34 k (ρ 34 k - 1)) 27 k (ρ 27 k + 1)) 32 k (ρ 0 0 + 1)) 30 k tg) 29 k (ρ 29 k + rnow ρ nw p)) := by
      unfold fr_rates fr_costToday fr_today
      have hrr := h.rrate hp
      have hcl := nI_clamp (show p < 2 ^ 31 by omega)
      rw [nI_clamp (show k < 2 ^ 31 by omega), ep]
      simp only [po_b, hrr, hcl, gk, gp, h25, if_false, rcs_col, ne_eq, Nat.reduceEqDiff, not_false_eq_true]
      rw [if_neg h33, htg]
    have hch : chg [27, 29, 30, 32, 34] ρ (cs (cs (cs (cs (cs ρ 34 k (ρ 34 k - 1)) 27 k (ρ 27 k + 1)) 32 k (ρ 0 0 + 1)) 30 k tg) 29 k (ρ 29 k + rnow ρ nw p)) := ((((chg.rf.st (by decide)).st (by decide)).st (by decide)).st (by decide)).st (by decide)
    refine ⟨_, hR, ?_, hch.sub (by decide)⟩
    have f34 : ∀ j, (cs (cs (cs (cs (cs ρ 34 k (ρ 34 k - 1)) 27 k (ρ 27 k + 1)) 32 k (ρ 0 0 + 1)) 30 k tg) 29 k (ρ 29 k + rnow ρ nw p)) 34 j = if j = k then nI (s - 1) else ρ 34 j := fun j => by
      simp only [rcs_col, ne_eq, Nat.reduceEqDiff, not_false_eq_true]
      by_cases e : j = k
      · rw [e, cs_at, if_pos rfl, e34]
      · rw [cs_nei e, if_neg e]
    have f27 : (cs (cs (cs (cs (cs ρ 34 k (ρ 34 k - 1)) 27 k (ρ 27 k + 1)) 32 k (ρ 0 0 + 1)) 30 k tg) 29 k (ρ 29 k + rnow ρ nw p)) 27 k = ρ 27 k + 1 := by
      simp only [rcs_col, ne_eq, Nat.reduceEqDiff, not_false_eq_true, cs_at]
    have f32 : (cs (cs (cs (cs (cs ρ 34 k (ρ 34 k - 1)) 27 k (ρ 27 k + 1)) 32 k (ρ 0 0 + 1)) 30 k tg) 29 k (ρ 29 k + rnow ρ nw p)) 32 k = ρ 0 0 + 1 := by
      simp only [rcs_col, ne_eq, Nat.reduceEqDiff, not_false_eq_true, cs_at]
    have f30 : (cs (cs (cs (cs (cs ρ 34 k (ρ 34 k - 1)) 27 k (ρ 27 k + 1)) 32 k (ρ 0 0 + 1)) 30 k tg) 29 k (ρ 29 k + rnow ρ nw p)) 30 k = tg := by
      simp only [rcs_col, ne_eq, Nat.reduceEqDiff, not_false_eq_true, cs_at]
    have fo : ∀ d ∈ [27, 29, 30, 32], ∀ j, j ≠ k → (cs (cs (cs (cs (cs ρ 34 k (ρ 34 k - 1)) 27 k (ρ 27 k + 1)) 32 k (ρ 0 0 + 1)) 30 k tg) 29 k (ρ 29 k + rnow ρ nw p)) d j = ρ d j := fun d hd j hne => by
      simp only [List.mem_cons, List.not_mem_nil, or_false] at hd
      rcases hd with rfl | rfl | rfl | rfl <;> simp only [rcs_col, ne_eq, Nat.reduceEqDiff, not_false_eq_true, cs_nei hne]
    generalize hR9 : (cs (cs (cs (cs (cs ρ 34 k (ρ 34 k - 1)) 27 k (ρ 27 k + 1)) 32 k (ρ 0 0 + 1)) 30 k tg) 29 k (ρ 29 k + rnow ρ nw p)) = R9 at hch f34 f27 f32 f30 fo
    have en : nlg R9 = nlg ρ := by unfold nlg; rw [hch 22 (by decide)]
    refine ⟨fun j hj => ?_, ?_, ?_⟩
    · rw [en] at hj
      by_cases e : j = k
      · subst e
        exact (hJ.1 j hj).rate ha h32 hpos (by rw [hch 23 (by decide)]) (by rw [hch 24 (by decide)]) (by rw [hch 26 (by decide)]) (by rw [hch 31 (by decide)]) (hch 6 (by decide)) f27 f32 ⟨_, f30.trans htg.symm⟩
      · refine (hJ.1 j hj).congr (fun d hd => ?_) (hch 6 (by decide))
        simp only [List.mem_cons, List.not_mem_nil, or_false] at hd
        rcases hd with rfl | rfl | rfl | rfl | rfl | rfl | rfl | rfl | rfl
        · rw [hch 23 (by decide)]
        · rw [hch 24 (by decide)]
        · rw [hch 26 (by decide)]
        · exact fo 27 (by decide) j e
        · rw [hch 28 (by decide)]
        · exact fo 29 (by decide) j e
        · exact fo 30 (by decide) j e
        · rw [hch 31 (by decide)]
        · exact fo 32 (by decide) j e
    · refine hJ.2.1.mv (w := 0) (by decide) hkl (hch 13 (by decide)) (hch 28 (by decide)) (hch 22 (by decide)) (fun w' _ _ => by rw [hch 12 (by decide)]) (fun j _ hne => by unfold mIn; rw [hch 33 (by decide), hch 35 (by decide), f34, if_neg hne]) ?_
      have y1 : mIn R9 k = 0 := by unfold mIn; rw [hch 33 (by decide), if_neg h33]
      have y2 : mIn ρ k = 0 := by unfold mIn; rw [if_neg h33]
      have y3 : fre R9 0 = fre ρ 0 := by unfold fre; rw [hch 12 (by decide)]
      omega
    · refine hJ.2.2.at hkl (hch 14 (by decide)) (hch 22 (by decide)) (fun j _ hne => ⟨by rw [hch 33 (by decide)], by rw [f34, if_neg hne]⟩) (fun b hb z1 z2 => ?_)
      rw [hch 17 (by decide)]
      refine ⟨z1, ?_⟩
      unfold bsl
      rw [hch 33 (by decide), f34, if_pos rfl, es, nI_clamp hs2, nI_clamp (by omega)]
      split <;> omega
/-- what the slice of a leg is when its second is lived -/
theorem lives_shape (h : Rel V L N ρ t nw p) (hk : k < N 4) (ep : ρ 23 k = nI p) (hp : p < 10) : (fr_lives ρ (nI k) = fr_lives_93 ρ (nI k) ∧ (ρ 33 k = -1 → ρ 35 k = rnow ρ nw p)) ∨ fr_lives ρ (nI k) = (fr_allGoesBack ρ (nI k)).bind fun o1 => fr_lives_93 o1 (nI k) := by
  have hn4 := h.n4
  have hn0 := h.r3.2.1.2.1
  have gk := ng (n := 80) (show k < 80 by omega) (by omega)
  have gp := ng (n := 10) hp (by omega)
  have hcl := nI_clamp (show p < 2 ^ 31 by omega)
  have hclk := nI_clamp (show k < 2 ^ 31 by omega)
  have hrr := h.rrate hp
  obtain ⟨q1, q2, q3, q4, q5⟩ := h.r7 k hk
  have h6 : ¬ (ρ 6 p < 0 ∨ 8 ≤ (ρ 6 p).toNatClampNeg) := (h.zone hp).1
  have r80 : fr_lives_80 ρ (nI k) = fr_lives_93 ρ (nI k) := by
    unfold fr_lives_80 fr_lives_81
    rw [if_pos rfl]
  have r81 : fr_lives_81 ρ (nI k) 0 = fr_lives_93 ρ (nI k) := by
    unfold fr_lives_81
    rw [if_pos rfl]
  have r81' : fr_lives_81 ρ (nI k) 1 = (fr_allGoesBack ρ (nI k)).bind fun o1 => fr_lives_93 o1 (nI k) := by
    unfold fr_lives_81
    rw [if_neg (by decide)]
  have r76 : fr_lives_76 ρ (nI k) = (fr_allGoesBack ρ (nI k)).bind fun o1 => fr_lives_93 o1 (nI k) := r81'
  unfold fr_lives
  rw [hclk, ep]
  simp only [po_b, hrr, gk, gp, h6, hcl, if_false]
  rw [r81, r81', r80, r76]
  by_cases e1 : ρ 33 k = -1
  · rw [if_pos e1]
    by_cases e2 : ρ 35 k = rnow ρ nw p
    · rw [if_pos e2]; exact Or.inl ⟨rfl, fun _ => e2⟩
    · rw [if_neg e2]; exact Or.inr rfl
  · rw [if_neg e1]
    by_cases e2 : ρ 33 k < 0
    · rw [if_pos e2]; exact Or.inl ⟨rfl, fun z => absurd z e1⟩
    · rw [if_neg e2]
      have hb : vp_in (ρ 33 k) (N 0) := by
        rcases q2 with z | z | z
        · rw [z] at e2; exact absurd (by decide) e2
        · exact absurd z e1
        · exact z
      have hov : fr_isOver ρ (ρ 33 k) = some (if ρ 0 0 / 2400 < ρ 18 (ρ 33 k).toNatClampNeg then 0 else 1) := by
        have := rb_isOver (ρ := ρ) (b := (ρ 33 k).toNatClampNeg) (by have := vp_lt hb; omega)
        rw [← pn_eq hb] at this
        exact this
      have hb40 : ¬ (ρ 33 k < 0 ∨ 40 ≤ (ρ 33 k).toNatClampNeg) := vp_mono hb hn0
      rw [hov]
      simp only [po_b, hb40, if_false]
      by_cases hd : ρ 0 0 / 2400 < ρ 18 (ρ 33 k).toNatClampNeg
      · rw [if_pos hd, if_pos rfl]
        by_cases e3 : (((ρ 16 (ρ 33 k).toNatClampNeg) >>> ((ρ 2 (ρ 6 p).toNatClampNeg) &&& 31)) &&& 1) = 0
        · rw [if_pos e3]; exact Or.inr rfl
        · rw [if_neg e3]; exact Or.inl ⟨rfl, fun z => absurd z e1⟩
      · rw [if_neg hd, if_neg (by decide)]; exact Or.inr rfl
def CC (ρ ρ' : Rho) : Prop := (C2 ρ' = C2 ρ ∧ ρ' 36 0 = ρ 36 0) ∨ (C2 ρ' = C2 ρ + 1 ∧ ρ' 36 0 = ρ 36 0 + 1)
theorem l93_keep (h : Rel V L N ρ t nw p) (ht : t ≤ 512) (hk : k < N 4) (ha : ρ 26 k = 0) (ep : ρ 23 k = nI p) (hp : p < 10) (hr35 : ¬ ρ 34 k = 0 → ρ 33 k = -1 → ρ 35 k = rnow ρ nw p) (hJ : PJ ρ γ ε M) (hP : PA ρ) (hM9 : M ≤ 1000000000) : ∃ ρ', fr_lives_93 ρ (nI k) = some ρ' ∧ PJ ρ' γ ε M ∧ PA ρ' ∧ CC ρ ρ' ∧ agr [14, 20, 22] ρ ρ' := by
  have hn4 := h.n4
  have gk := ng (n := 80) (show k < 80 by omega) (by omega)
  have r107 : ∀ ρ : Rho, ρ 26 k = 0 → fr_lives_107 ρ (nI k) = fr_rates ρ (nI k) := fun ρ q => by
    unfold fr_lives_107
    rw [nI_clamp (show k < 2 ^ 31 by omega), if_neg gk, if_pos q, ob_s]
  have r93 : fr_lives_93 ρ (nI k) = if ρ 34 k = 0 then (fr_getsSlice ρ (nI k)).bind fun o2 => fr_lives_107 o2 (nI k) else fr_lives_107 ρ (nI k) := by
    unfold fr_lives_93
    rw [nI_clamp (show k < 2 ^ 31 by omega), if_neg gk]
  by_cases hs : ρ 34 k = 0
  · rw [r93, if_pos hs]
    have hL := hJ.1 k (by rw [h.lgs]; exact hk)
    obtain ⟨ρ1, g1, g2, g3, g4⟩ := gets_keep h ht hk ha hs hJ hP hL.1.2.2.2.1 hL.1.2.1
    rw [g1]
    simp only [po_b]
    rcases g4 with ⟨e26, e34, e35, e36, hch⟩ | ⟨e26, eC, e36, hch, -, -⟩
    · rcases op_slice h ht hk ha hs with ⟨V1, ρ2, -, a2, a3, -, a5, a6, -⟩ | ⟨V1, ρ2, -, a2, a3, a4, a5, a6, -⟩
      · obtain rfl : ρ2 = ρ1 := Option.some.inj (a2.symm.trans g1)
        have e26k : ρ2 26 k = 0 := by rw [e26, ha]
        obtain ⟨ρ3, b1, b2, b3⟩ := rates_keep a3 hk e26k (by rw [hch 23 (by decide), ep]) hp e34 (fun z => by rw [e35 z, ep, nI_clamp (by omega), rnow_eq (hch 5 (by decide)) (hch 2 (by decide)) (hch 6 (by decide))]) g2 hM9
        exact ⟨ρ3, by rw [r107 ρ2 e26k, b1], b2, g3.congr (b3.agr (by decide)), Or.inl ⟨by rw [C2.congr (b3 26 (by decide)), C2.congr e26], by rw [b3 36 (by decide), e36]⟩, fun c hc => (b3 c (by revert c; decide)).trans (hch c (by revert c; decide))⟩
      · -- the reference cuts: not this case
        obtain ⟨V2, L2, N2, ρ3, b1, b2, b3, b4, b5, -⟩ := op_close a3 ht hk (by rw [a5 26 (by decide), ha]) (st := 2) (by decide)
        have : ρ3 = ρ1 := Option.some.inj (b2.symm.trans (a2.symm.trans g1))
        rw [this] at b5
        rw [e26, ha] at b5
        exact absurd b5 (by decide)
    · refine ⟨ρ1, ?_, g2, g3, Or.inr ⟨eC, e36⟩, fun c hc => hch c (by revert c; decide)⟩
      unfold fr_lives_107
      rw [nI_clamp (show k < 2 ^ 31 by omega), if_neg gk, e26, if_neg (by decide)]
  · rw [r93, if_neg hs, r107 ρ ha]
    obtain ⟨ρ3, b1, b2, b3⟩ := rates_keep h hk ha ep hp hs (hr35 hs) hJ hM9
    exact ⟨ρ3, b1, b2, hP.congr (b3.agr (by decide)), Or.inl ⟨C2.congr (b3 26 (by decide)), by rw [b3 36 (by decide)]⟩, fun c hc => b3 c (by revert c; decide)⟩
theorem lives_keep (h : Rel V L N ρ t nw p) (ht : t ≤ 512) (hk : k < N 4) (ha : ρ 26 k = 0) (ep : ρ 23 k = nI p) (hp : p < 10) (hJ : PJ ρ γ ε M) (hP : PA ρ) (hM9 : M ≤ 1000000000) : ∃ ρ', fr_lives ρ (nI k) = some ρ' ∧ PJ ρ' γ ε M ∧ PA ρ' ∧ CC ρ ρ' ∧ agr [14, 20, 22] ρ ρ' := by
  have hn4 := h.n4
  rcases lives_shape h hk ep hp with ⟨e, e2⟩ | e
  · rw [e]
    exact l93_keep h ht hk ha ep hp (fun _ => e2) hJ hP hM9
  · rw [e]
    obtain ⟨V1, ρ1, -, b2, b3, -, b5, b6, -, -⟩ := op_back h ht hk
    have e1 : ρ1 = cs (gbk ρ k (ρ 34 k)) 33 k (-2) := Option.some.inj (b2.symm.trans (rg_allBack (by omega) (h.r5.2.2.1 k hk).2.2 (h.b40 hk)))
    have hq := all_keep h ht hk hJ.2.1 hJ.2.2
    rw [← e1] at hq
    have en : nlg ρ1 = nlg ρ := by unfold nlg; rw [b5 22 (by decide)]
    have hJ1 : PJ ρ1 γ ε M := ⟨fun j hj => (hJ.1 j (by rw [← en]; exact hj)).congr (fun d hd => by rw [b5 d (fun z => by
        simp only [List.mem_cons, List.not_mem_nil, or_false] at hd z
        omega)]) (b5 6 (by decide)), hq⟩
    rw [b2]
    simp only [po_b]
    obtain ⟨ρ2, c1, c2, c3, c4, c5⟩ := l93_keep b3 ht hk (by rw [b5 26 (by decide), ha]) (by rw [b5 23 (by decide), ep]) hp (fun z => absurd b6 z) hJ1 (hP.congr (b5.agr (by decide))) hM9
    refine ⟨ρ2, c1, c2, c3, ?_, fun c hc => (c5 c hc).trans (b5 c (by revert c; decide))⟩
    unfold CC at c4 ⊢
    rw [C2.congr (b5 26 (by decide)), b5 36 (by decide)] at c4
    exact c4
/-- a second, lived by all phones -/
theorem live_keep (ht : t ≤ 512) (hM9 : M ≤ 1000000000) (hnw : nw + 1 ≤ 50000) (n : Nat) : ∀ (p : Nat) (V : Rho) (L : Lst) (N : Cnt) (ρ : Rho) (d : Nat), Rel V L N ρ t nw p → PJ ρ γ ε M → PA ρ → 10 ≤ p + n → p ≤ 10 → ∃ V' L' N' ρ' d', fc_liveSecond_13 (n + 1) V L N (nI d) 10 (nI p) = some ((V', L', N'), nI (d + d')) ∧ Rel V' L' N' ρ' t (nw + 1) 0 ∧ PJ ρ' γ ε M ∧ PA ρ' ∧ C2 ρ' = C2 ρ + d' ∧ N' 4 = N 4 ∧ N' 1 = N 1 ∧ N' 0 = N 0 := by
  have hend : ∀ (n : Nat) (V : Rho) (L : Lst) (N : Cnt) (ρ : Rho) (d : Nat), Rel V L N ρ t nw 10 → PJ ρ γ ε M → PA ρ → ∃ V' L' N' ρ' d', fc_liveSecond_13 (n + 1) V L N (nI d) 10 (nI 10) = some ((V', L', N'), nI (d + d')) ∧ Rel V' L' N' ρ' t (nw + 1) 0 ∧ PJ ρ' γ ε M ∧ PA ρ' ∧ C2 ρ' = C2 ρ + d' ∧ N' 4 = N 4 ∧ N' 1 = N 1 ∧ N' 0 = N 0 := by
    intro n V L N ρ d h hJ hP
    have hr : chg [0] ρ (cs ρ 0 0 (ρ 0 0 + 1)) := chg.rf.st (by decide)
    refine ⟨_, L, N, _, 0, ?_, h.tick hnw, hJ.congr (hr.agr (by decide)), hP.congr (hr.agr (by decide)), (C2.congr (hr 26 (by decide))).trans (Nat.add_zero _).symm, rfl, rfl, rfl⟩
    rw [fc_liveSecond_13, if_pos (show (10 : Int32) ≤ nI 10 by decide)]
    simp only [po_b]
    rw [h.c 228 0 (by decide), Nat.add_zero]
  induction n with
  | zero =>
    intro p V L N ρ d h hJ hP h1 h2
    obtain rfl : p = 10 := by omega
    exact hend 0 V L N ρ d h hJ hP
  | succ n ih =>
    intro p V L N ρ d h hJ hP h1 h2
    by_cases hp : p = 10
    · subst hp; exact hend (n + 1) V L N ρ d h hJ hP
    · have hp : p < 10 := by omega
      have gp := ng (n := 10) hp (by omega)
      have hcl := nI_clamp (show p < 2 ^ 31 by omega)
      have hle : ¬ (10 : Int32) ≤ nI p := nI_ge (b := 10) (by omega) (by omega)
      rcases h.leg hp with q | ⟨x, hx, q, qa, qp⟩
      · obtain ⟨V', L', N', ρ', d', z1, z2, z3, z4, z5, z6⟩ := ih (p + 1) V L N ρ d (h.next q hp) hJ hP (by omega) (by omega)
        refine ⟨V', L', N', ρ', d', ?_, z2, z3, z4, z5, z6⟩
        rw [fc_liveSecond_13, if_neg hle, hcl, if_neg gp, h.c 104 9 (by decide), if_pos q]
        simp only [po_b]
        rw [nI_1]
        exact z1
      · obtain ⟨V1, L1, N1, ρ1, o, y1, y2, y3, y4, y5⟩ := op_lived h ht hx qa qp hp
        obtain ⟨ρ2, k1, k2, k3, k4, k5⟩ := lives_keep h ht hx qa qp hp hJ hP hM9
        obtain rfl : ρ2 = ρ1 := Option.some.inj (k1.symm.trans y2)
        have hx80 := h.n4
        have y6 := h.nn y3 k5
        have h3' : ∃ d1, nI (d + d1) = (if o = 0 then nI (d + 1) else nI d) ∧ C2 ρ2 = C2 ρ + d1 := by
          rcases y4 with ⟨e1, e2, -⟩ | ⟨e1, e2, -⟩
          · rcases k4 with ⟨f1, f2⟩ | ⟨f1, f2⟩
            · exact ⟨0, by rw [if_neg (by rw [e1]; decide), Nat.add_zero], f1.trans (Nat.add_zero _).symm⟩
            · exact absurd (e2.symm.trans f2) (ne_succ _)
          · rcases k4 with ⟨f1, f2⟩ | ⟨f1, f2⟩
            · exact absurd (f2.symm.trans e2) (ne_succ _)
            · exact ⟨1, by rw [if_pos e1], f1⟩
        obtain ⟨d1, w1, w2⟩ := h3'
        obtain ⟨V', L', N', ρ', d', z1, z2, z3, z4, z5, z6⟩ := ih (p + 1) V1 L1 N1 ρ2 (d + d1) y3 k2 k3 (by omega) (by omega)
        refine ⟨V', L', N', ρ', d1 + d', ?_, z2, z3, z4, by omega, z6.1.trans y6.1, z6.2.1.trans y6.2.1, z6.2.2.trans y6.2.2⟩
        rw [fc_liveSecond_13, if_neg hle, hcl, if_neg gp, h.c 104 9 (by decide), q, if_neg (pn_m1 (by omega)), y1]
        simp only [po_b]
        rw [w1] at z1
        rw [nI_1, nI_1, ← Nat.add_assoc]
        by_cases e : o = 0
        · rw [if_pos e] at z1 ⊢
          exact z1
        · rw [if_neg e] at z1 ⊢
          exact z1
theorem pass_keep (ht : t ≤ 512) (hM9 : M ≤ 1000000000) {m : Nat} (hm : m ≤ 500) (n : Nat) : ∀ (j nw : Nat) (V : Rho) (L : Lst) (N : Cnt) (ρ : Rho) (d : Nat), Rel V L N ρ t nw 0 → PJ ρ γ ε M → PA ρ → m ≤ j + n → j ≤ m → nw + (m - j) ≤ 50000 → ∃ V' L' N' ρ' d', fc_pass_48 (n + 1) V L N (nI m) (nI d) (nI j) = some (.inl ((V', L', N'), nI (d + d'))) ∧ Rel V' L' N' ρ' t (nw + (m - j)) 0 ∧ PJ ρ' γ ε M ∧ PA ρ' ∧ C2 ρ' = C2 ρ + d' ∧ N' 4 = N 4 ∧ N' 1 = N 1 ∧ N' 0 = N 0 := by
  have hend : ∀ (n nw : Nat) (V : Rho) (L : Lst) (N : Cnt) (ρ : Rho) (d : Nat), Rel V L N ρ t nw 0 → PJ ρ γ ε M → PA ρ → ∃ V' L' N' ρ' d', fc_pass_48 (n + 1) V L N (nI m) (nI d) (nI m) = some (.inl ((V', L', N'), nI (d + d'))) ∧ Rel V' L' N' ρ' t (nw + (m - m)) 0 ∧ PJ ρ' γ ε M ∧ PA ρ' ∧ C2 ρ' = C2 ρ + d' ∧ N' 4 = N 4 ∧ N' 1 = N 1 ∧ N' 0 = N 0 := by
    intro n nw V L N ρ d h hJ hP
    rw [Nat.sub_self, Nat.add_zero]
    refine ⟨V, L, N, ρ, 0, ?_, h, hJ, hP, (Nat.add_zero _).symm, rfl, rfl, rfl⟩
    rw [fc_pass_48, if_pos (nI_le (Nat.le_refl _) (by omega)), Nat.add_zero]
  induction n with
  | zero =>
    intro j nw V L N ρ d h hJ hP h1 h2 h3
    obtain rfl : j = m := by omega
    exact hend 0 nw V L N ρ d h hJ hP
  | succ n ih =>
    intro j nw V L N ρ d h hJ hP h1 h2 h3
    by_cases hj : j = m
    · subst hj; exact hend (n + 1) nw V L N ρ d h hJ hP
    · have hj : j < m := by omega
      obtain ⟨V1, L1, N1, ρ1, d1, y1, y2, y3, y4, y5, y6⟩ := live_keep (γ := γ) (ε := ε) ht hM9 (nw := nw) (by omega) 2999 0 V L N ρ 0 h hJ hP (by omega) (by omega)
      obtain ⟨V', L', N', ρ', d2, z1, z2, z3, z4, z5, z6⟩ := ih (j + 1) (nw + 1) V1 L1 N1 ρ1 (d + d1) y2 y3 y4 (by omega) (by omega) (by omega)
      refine ⟨V', L', N', ρ', d1 + d2, ?_, ?_, z3, z4, by omega, z6.1.trans y6.1, z6.2.1.trans y6.2.1, z6.2.2.trans y6.2.2⟩
      · rw [Nat.zero_add] at y1
        rw [fc_pass_48, if_neg (nI_ge hj (by omega)), show fc_liveSecond V L N = some ((V1, L1, N1), nI d1) from y1]
        simp only [po_b]
        rw [nI_1, nI_add, ← Nat.add_assoc]
        exact z1
      · rw [show nw + (m - j) = nw + 1 + (m - (j + 1)) by omega]
        exact z2
/-- pass, all told -/
theorem p_pass (h : Rel V L N ρ t nw 0) (ht : t ≤ 512) (hM9 : M ≤ 1000000000) {m : Nat} (hm1 : 1 ≤ m) (hm : m ≤ 500) (hnw : nw + m ≤ 50000) (hJ : PJ ρ γ ε M) (hP : PA ρ) : ∃ V' L' N' ρ' d, fc_pass V L N (nI m) = some (.inl ((V', L', N'), nI d)) ∧ Rel V' L' N' ρ' t (nw + m) 0 ∧ PJ ρ' γ ε M ∧ PA ρ' ∧ C2 ρ' = C2 ρ + d ∧ N' 4 = N 4 ∧ N' 1 = N 1 ∧ N' 0 = N 0 := by
  obtain ⟨V', L', N', ρ', d, z1, z2, z3, z4, z5, z6⟩ := pass_keep (γ := γ) (ε := ε) ht hM9 hm 2999 0 nw V L N ρ 0 h hJ hP (by omega) (by omega) (by omega)
  refine ⟨V', L', N', ρ', d, ?_, z2, z3, z4, z5, z6⟩
  have e00 := h.r5.2.2.2.2.2.2.1
  unfold fc_pass fc_isOutside
  rw [h.c 228 0 (by decide), e00, if_neg (show ¬ nI m < 1 from nI_nlt (b := 1) hm1 (by omega)), if_pos (show nI m ≤ 500 from nI_le (b := 500) hm (by omega)), nI_add]
  simp only [po_b, if_true]
  rw [if_pos (show nI (nw + m) ≤ 50000 from nI_le (b := 50000) hnw (by omega))]
  rw [Nat.zero_add] at z1
  exact z1
end LK
