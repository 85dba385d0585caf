/-! WHAT STAYS while seconds pass -/
section LK
variable {V V' : Rho} {L : Lst} {N : Cnt} {ρ ρ' : Rho} {t nw i k p M : Nat} {γ : Nat → Nat → Nat} {ε : Nat → Int32}
theorem ne_succ (x : Int32) : ¬ x = x + 1 := by
  intro h
  have h2 : x - x = x + 1 - x := congrArg (fun y => y - x) h
  rw [Int32.sub_self, Int32.add_comm, Int32.add_sub_cancel] at h2
  exact absurd h2 (by decide)
theorem LG.rate (hL : LG ρ γ ε k) (ha : ρ 26 k = 0) (h32 : ρ 32 k = ρ 0 0) (hpos : ¬ ρ 27 k + 1 = 0) (e23 : ρ' 23 k = ρ 23 k) (e24 : ρ' 24 k = ρ 24 k) (e26 : ρ' 26 k = ρ 26 k) (e31 : ρ' 31 k = ρ 31 k) (e6 : ρ' 6 = ρ 6) (e27 : ρ' 27 k = ρ 27 k + 1) (e32 : ρ' 32 k = ρ 0 0 + 1) (e30 : ∃ x : Int32, ρ' 30 k = x.toInt8.toInt32) : LG ρ' γ ε k := by
  obtain ⟨a, b, c, d, f1, f2, f3⟩ := hL
  unfold LG
  rw [e23, e24, e26, e31, e6, e27, e32]
  refine ⟨a, ?_, e30, fun z => absurd z hpos, f1, f2, fun _ z => absurd ha z⟩
  rw [← h32, ← b]
  rw [Int32.add_assoc, Int32.add_comm 1, ← Int32.add_assoc]
theorem spe_le (hM : MQ9 ρ M) {w : Nat} (hw : w < 4) : spe ρ w ≤ M ∧ ρ 13 w = nI (spe ρ w) := by
  obtain ⟨h1, h2, h3⟩ := hM
  have := sumN_ge (f := spe ρ) hw
  refine ⟨by omega, ?_⟩
  obtain ⟨j, hj, e⟩ := nI_of (h3 w hw)
  unfold spe
  rw [e, nI_clamp hj]
theorem cha_le (h : Rel V L N ρ t nw i) (hM : MQ9 ρ M) (hk : k < N 4) : cha ρ k ≤ M ∧ ρ 28 k = nI (cha ρ k) := by
  obtain ⟨h1, h2, h3⟩ := hM
  have := sumN_ge (f := cha ρ) (show k < nlg ρ by rw [h.lgs]; exact hk)
  refine ⟨by omega, ?_⟩
  obtain ⟨j, hj, e⟩ := nI_of (h.r17 k).2.2.1.1
  unfold cha
  rw [e, nI_clamp hj]
theorem rates_keep (h : Rel V L N ρ t nw p) (hk : k < N 4) (ha : ρ 26 k = 0) (ep : ρ 23 k = nI p) (hp : p < 10) (hs : ¬ ρ 34 k = 0) (hr35 : ρ 33 k = -1 → ρ 35 k = rnow ρ nw p) (hJ : PJ ρ γ ε M) (hM9 : M ≤ 1000000000) : ∃ ρ', fr_rates ρ (nI k) = some ρ' ∧ PJ ρ' γ ε M ∧ chg [10, 11, 13, 27, 28, 29, 30, 32, 34] ρ ρ' := by
  have hn4 := h.n4
  have hkl : k < nlg ρ := by rw [h.lgs]; exact hk
  have hnw := h.r5.2.2.2.2.2.2.2
  have e00 := h.r5.2.2.2.2.2.2.1
  obtain ⟨q1, q2, q3, q4, q5⟩ := h.r7 k hk
  obtain ⟨s, hs1, hs2, es⟩ := pn_of q1
  obtain ⟨r, hr1, hr2, er⟩ := pn_of (h.rate_in hp)
  have hs0 : 1 ≤ s := Nat.pos_of_ne_zero (fun z => hs (by rw [es, z, nI_0]))
  have e34 : ρ 34 k - 1 = nI (s - 1) := by rw [es, show (1 : Int32) = nI 1 by decide, nI_sb hs0]
  obtain ⟨a23, a24, a25⟩ := h.r5.2.2.1 k hk
  have hw := vp_lt a25
  have h25 : ¬ (ρ 25 k < 0 ∨ 4 ≤ (ρ 25 k).toNatClampNeg) := a25
  have gk := ng (n := 80) (show k < 80 by omega) (by omega)
  have gp := ng (n := 10) hp (by omega)
  have h32 : ρ 32 k = ρ 0 0 := by
    obtain ⟨-, w2⟩ := h.r11 k hk
    rw [(w2 ha).2, ep, nI_clamp (by omega), if_neg (by omega), e00, Nat.add_zero]
  have hpos : ¬ ρ 27 k + 1 = 0 := by
    obtain ⟨z1, z2⟩ := (h.r17 k).2.1
    obtain ⟨x, hx, ex⟩ := nI_of z1
    rw [ex, nI_clamp hx, h32, e00, nI_clamp (by omega)] at z2
    rw [ex, nI_1]
    exact nI_ne0 (by omega) (by omega)
  generalize htg : ((3 * ρ 30 k + rnow ρ nw p).toInt8.toInt32) = tg
  by_cases h33 : ρ 33 k = -1
  · generalize hct : (if ρ 11 p = nI (nw / 2400) then ρ 10 p else 0) = ct
    have hR : fr_rates ρ (nI k) = some (cs (cs (cs (cs (cs (cs (cs (cs ρ 34 k (ρ 34 k - 1)) 27 k (ρ 27 k + 1)) 32 k (ρ 0 0 + 1)) 30 k tg) 28 k (ρ 28 k + rnow ρ nw p)) 13 (ρ 25 k).toNatClampNeg (ρ 13 (ρ 25 k).toNatClampNeg + rnow ρ nw p)) 10 p (ct + rnow ρ nw p)) 11 p (nI (nw / 2400))) := by
      have hday : ρ 0 0 / 2400 = nI (nw / 2400) := by rw [e00, day_eq hnw]
      unfold fr_rates fr_costToday fr_today
      have hrr := h.rrate hp
      have hcl := nI_clamp (show p < 2 ^ 31 by omega)
      rw [nI_clamp (show k < 2 ^ 31 by omega), ep]
      simp only [po_b, hrr, hcl, gk, gp, h25, if_false, rcs_col, ne_eq, Nat.reduceEqDiff, not_false_eq_true]
      rw [if_pos h33, hday, htg]
      by_cases hd : ρ 11 p = nI (nw / 2400)
      · rw [if_pos hd] at hct ⊢
        simp only [po_b]
        rw [hct]
      · rw [if_neg hd] at hct ⊢
        simp only [po_b]
        rw [hct]
    have hch : chg [10, 11, 13, 27, 28, 29, 30, 32, 34] ρ (cs (cs (cs (cs (cs (cs (cs (cs ρ 34 k (ρ 34 k - 1)) 27 k (ρ 27 k + 1)) 32 k (ρ 0 0 + 1)) 30 k tg) 28 k (ρ 28 k + rnow ρ nw p)) 13 (ρ 25 k).toNatClampNeg (ρ 13 (ρ 25 k).toNatClampNeg + rnow ρ nw p)) 10 p (ct + rnow ρ nw p)) 11 p (nI (nw / 2400))) := (((((((chg.rf.st (by decide)).st (by decide)).st (by decide)).st (by decide)).st (by decide)).st (by decide)).st (by decide)).st (by decide)
    refine ⟨_, hR, ?_, hch⟩
    have f34 : ∀ j, (cs (cs (cs (cs (cs (cs (cs (cs ρ 34 k (ρ 34 k - 1)) 27 k (ρ 27 k + 1)) 32 k (ρ 0 0 + 1)) 30 k tg) 28 k (ρ 28 k + rnow ρ nw p)) 13 (ρ 25 k).toNatClampNeg (ρ 13 (ρ 25 k).toNatClampNeg + rnow ρ nw p)) 10 p (ct + rnow ρ nw p)) 11 p (nI (nw / 2400))) 34 j = if j = k then nI (s - 1) else ρ 34 j := fun j => by
      simp only [rcs_col, ne_eq, Nat.reduceEqDiff, not_false_eq_true]
      by_cases e : j = k
      · rw [e, cs_at, if_pos rfl, e34]
      · rw [cs_nei e, if_neg e]
    have f13 : ∀ j, (cs (cs (cs (cs (cs (cs (cs (cs ρ 34 k (ρ 34 k - 1)) 27 k (ρ 27 k + 1)) 32 k (ρ 0 0 + 1)) 30 k tg) 28 k (ρ 28 k + rnow ρ nw p)) 13 (ρ 25 k).toNatClampNeg (ρ 13 (ρ 25 k).toNatClampNeg + rnow ρ nw p)) 10 p (ct + rnow ρ nw p)) 11 p (nI (nw / 2400))) 13 j = if j = (ρ 25 k).toNatClampNeg then ρ 13 j + rnow ρ nw p else ρ 13 j := fun j => by
      simp only [rcs_col, ne_eq, Nat.reduceEqDiff, not_false_eq_true]
      by_cases e : j = (ρ 25 k).toNatClampNeg
      · rw [e, cs_at, if_pos rfl]
      · rw [cs_nei e, if_neg e]
    have f28 : ∀ j, (cs (cs (cs (cs (cs (cs (cs (cs ρ 34 k (ρ 34 k - 1)) 27 k (ρ 27 k + 1)) 32 k (ρ 0 0 + 1)) 30 k tg) 28 k (ρ 28 k + rnow ρ nw p)) 13 (ρ 25 k).toNatClampNeg (ρ 13 (ρ 25 k).toNatClampNeg + rnow ρ nw p)) 10 p (ct + rnow ρ nw p)) 11 p (nI (nw / 2400))) 28 j = if j = k then ρ 28 j + rnow ρ nw p else ρ 28 j := fun j => by
      simp only [rcs_col, ne_eq, Nat.reduceEqDiff, not_false_eq_true]
      by_cases e : j = k
      · rw [e, cs_at, if_pos rfl]
      · rw [cs_nei e, if_neg e]
    have f27 : (cs (cs (cs (cs (cs (cs (cs (cs ρ 34 k (ρ 34 k - 1)) 27 k (ρ 27 k + 1)) 32 k (ρ 0 0 + 1)) 30 k tg) 28 k (ρ 28 k + rnow ρ nw p)) 13 (ρ 25 k).toNatClampNeg (ρ 13 (ρ 25 k).toNatClampNeg + rnow ρ nw p)) 10 p (ct + rnow ρ nw p)) 11 p (nI (nw / 2400))) 27 k = ρ 27 k + 1 := by
      simp only [rcs_col, ne_eq, Nat.reduceEqDiff, not_false_eq_true, cs_at]
    have f32 : (cs (cs (cs (cs (cs (cs (cs (cs ρ 34 k (ρ 34 k - 1)) 27 k (ρ 27 k + 1)) 32 k (ρ 0 0 + 1)) 30 k tg) 28 k (ρ 28 k + rnow ρ nw p)) 13 (ρ 25 k).toNatClampNeg (ρ 13 (ρ 25 k).toNatClampNeg + rnow ρ nw p)) 10 p (ct + rnow ρ nw p)) 11 p (nI (nw / 2400))) 32 k = ρ 0 0 + 1 := by
      simp only [rcs_col, ne_eq, Nat.reduceEqDiff, not_false_eq_true, cs_at]
    have f30 : (cs (cs (cs (cs (cs (cs (cs (cs ρ 34 k (ρ 34 k - 1)) 27 k (ρ 27 k + 1)) 32 k (ρ 0 0 + 1)) 30 k tg) 28 k (ρ 28 k + rnow ρ nw p)) 13 (ρ 25 k).toNatClampNeg (ρ 13 (ρ 25 k).toNatClampNeg + rnow ρ nw p)) 10 p (ct + rnow ρ nw p)) 11 p (nI (nw / 2400))) 30 k = tg := by
      simp only [rcs_col, ne_eq, Nat.reduceEqDiff, not_false_eq_true, cs_at]
    have fo : ∀ d ∈ [27, 29, 30, 32], ∀ j, j ≠ k → (cs (cs (cs (cs (cs (cs (cs (cs ρ 34 k (ρ 34 k - 1)) 27 k (ρ 27 k + 1)) 32 k (ρ 0 0 + 1)) 30 k tg) 28 k (ρ 28 k + rnow ρ nw p)) 13 (ρ 25 k).toNatClampNeg (ρ 13 (ρ 25 k).toNatClampNeg + rnow ρ nw p)) 10 p (ct + rnow ρ nw p)) 11 p (nI (nw / 2400))) d j = ρ d j := fun d hd j hne => by
      simp only [List.mem_cons, List.not_mem_nil, or_false] at hd
      rcases hd with rfl | rfl | rfl | rfl <;> simp only [rcs_col, ne_eq, Nat.reduceEqDiff, not_false_eq_true, cs_nei hne]
    generalize hR9 : (cs (cs (cs (cs (cs (cs (cs (cs ρ 34 k (ρ 34 k - 1)) 27 k (ρ 27 k + 1)) 32 k (ρ 0 0 + 1)) 30 k tg) 28 k (ρ 28 k + rnow ρ nw p)) 13 (ρ 25 k).toNatClampNeg (ρ 13 (ρ 25 k).toNatClampNeg + rnow ρ nw p)) 10 p (ct + rnow ρ nw p)) 11 p (nI (nw / 2400))) = R9 at hch f34 f13 f28 f27 f32 f30 fo
    have en : nlg R9 = nlg ρ := by unfold nlg; rw [hch 22 (by decide)]
    have g35 : ρ 35 k = nI r := (hr35 h33).trans er
    refine ⟨fun j hj => ?_, ⟨?_, ?_, ?_⟩, ?_⟩
    · rw [en] at hj
      by_cases e : j = k
      · subst e
        exact (hJ.1 j hj).rate ha h32 hpos (by rw [hch 23 (by decide)]) (by rw [hch 24 (by decide)]) (by rw [hch 26 (by decide)]) (by rw [hch 31 (by decide)]) (hch 6 (by decide)) f27 f32 ⟨_, f30.trans htg.symm⟩
      · refine (hJ.1 j hj).congr (fun d hd => ?_) (hch 6 (by decide))
        simp only [List.mem_cons, List.not_mem_nil, or_false] at hd
        rcases hd with rfl | rfl | rfl | rfl | rfl | rfl | rfl | rfl | rfl
        · rw [hch 23 (by decide)]
        · rw [hch 24 (by decide)]
        · rw [hch 26 (by decide)]
        · exact fo 27 (by decide) j e
        · rw [f28, if_neg e]
        · exact fo 29 (by decide) j e
        · exact fo 30 (by decide) j e
        · rw [hch 31 (by decide)]
        · exact fo 32 (by decide) j e
    · obtain ⟨m1, m2, m3⟩ := hJ.2.1
      obtain ⟨b1, b2⟩ := spe_le hJ.2.1 hw
      have a1 := sumN_at (f := mIn ρ) (g := mIn R9) hkl (fun j _ hne => by unfold mIn; rw [hch 33 (by decide), hch 35 (by decide), f34, if_neg hne])
      have a2 := sumN_at (f := spe ρ) (g := spe R9) hw (fun j _ hne => by unfold spe; rw [f13, if_neg hne])
      have a3 : sumN (fre R9) 4 = sumN (fre ρ) 4 := sumN_congr (fun j _ => by unfold fre; rw [hch 12 (by decide)])
      have y1 : mIn R9 k = (s - 1) * r := by
        unfold mIn
        rw [hch 33 (by decide), hch 35 (by decide), f34, if_pos rfl, if_pos h33, g35, nI_clamp (by omega), nI_clamp hr2]
      have y2 : mIn ρ k = s * r := by
        unfold mIn
        rw [if_pos h33, es, g35, nI_clamp hs2, nI_clamp hr2]
      have y3 : spe R9 (ρ 25 k).toNatClampNeg = spe ρ (ρ 25 k).toNatClampNeg + r := by
        show (R9 13 _).toNatClampNeg = _
        rw [f13, if_pos rfl, b2, er, nI_add, nI_clamp (by omega)]
      have y4 : s * r = (s - 1) * r + r := by
        obtain ⟨x, rfl⟩ : ∃ x, s = x + 1 := ⟨s - 1, by omega⟩
        rw [Nat.add_sub_cancel, Nat.add_mul, Nat.one_mul]
      rw [en]
      omega
    · obtain ⟨m1, m2, m3⟩ := hJ.2.1
      obtain ⟨b1, b2⟩ := spe_le hJ.2.1 hw
      obtain ⟨c1, c2⟩ := cha_le h hJ.2.1 hk
      have a2 := sumN_at (f := spe ρ) (g := spe R9) hw (fun j _ hne => by unfold spe; rw [f13, if_neg hne])
      have a4 := sumN_at (f := cha ρ) (g := cha R9) hkl (fun j _ hne => by unfold cha; rw [f28, if_neg hne])
      have y3 : spe R9 (ρ 25 k).toNatClampNeg = spe ρ (ρ 25 k).toNatClampNeg + r := by
        show (R9 13 _).toNatClampNeg = _
        rw [f13, if_pos rfl, b2, er, nI_add, nI_clamp (by omega)]
      have y5 : cha R9 k = cha ρ k + r := by
        show (R9 28 k).toNatClampNeg = _
        rw [f28, if_pos rfl, c2, er, nI_add, nI_clamp (by omega)]
      rw [en]
      omega
    · intro w9 hw9
      obtain ⟨b1, b2⟩ := spe_le hJ.2.1 hw9
      rw [f13]
      split
      · rw [b2, er, nI_add]
        exact nI_pos (by omega)
      · rw [b2]
        exact nI_pos (by omega)
    · refine hJ.2.2.at hkl (hch 14 (by decide)) (hch 22 (by decide)) (fun j _ hne => ⟨by rw [hch 33 (by decide)], by rw [f34, if_neg hne]⟩) (fun b hb z1 z2 => ?_)
      have hb4 : b < 40 := by
        have := h.bds
        have := h.r3.2.1.2.1
        omega
      rw [hch 17 (by decide)]
      refine ⟨z1, ?_⟩
      have e : ¬ ρ 33 k = nI b := by
        rw [h33]
        exact fun z => pn_m1 (k := b) (by omega) z.symm
      unfold bsl
      rw [hch 33 (by decide), if_neg e, if_neg e]
      exact Nat.le_refl _
  · have hR : fr_rates ρ (nI k) = some (cs (cs (cs (cs (cs ρ 34 k (ρ 34 k - 1)) 27 k (ρ 27 k + 1)) 32 k (ρ 0 0 + 1)) 30 k tg) 29 k (ρ 29 k + rnow ρ nw p)) := by
      unfold fr_rates fr_costToday fr_today
      have hrr := h.rrate hp
      have hcl := nI_clamp (show p < 2 ^ 31 by omega)
      rw [nI_clamp (show k < 2 ^ 31 by omega), ep]
      simp only [po_b, hrr, hcl, gk, gp, h25, if_false, rcs_col, ne_eq, Nat.reduceEqDiff, not_false_eq_true]
      rw [if_neg h33, htg]
    have hch : chg [27, 29, 30, 32, 34] ρ (cs (cs (cs (cs (cs ρ 34 k (ρ 34 k - 1)) 27 k (ρ 27 k + 1)) 32 k (ρ 0 0 + 1)) 30 k tg) 29 k (ρ 29 k + rnow ρ nw p)) := ((((chg.rf.st (by decide)).st (by decide)).st (by decide)).st (by decide)).st (by decide)
    refine ⟨_, hR, ?_, hch.sub (by decide)⟩
    have f34 : ∀ j, (cs (cs (cs (cs (cs ρ 34 k (ρ 34 k - 1)) 27 k (ρ 27 k + 1)) 32 k (ρ 0 0 + 1)) 30 k tg) 29 k (ρ 29 k + rnow ρ nw p)) 34 j = if j = k then nI (s - 1) else ρ 34 j := fun j => by
      simp only [rcs_col, ne_eq, Nat.reduceEqDiff, not_false_eq_true]
      by_cases e : j = k
      · rw [e, cs_at, if_pos rfl, e34]
      · rw [cs_nei e, if_neg e]
    have f27 : (cs (cs (cs (cs (cs ρ 34 k (ρ 34 k - 1)) 27 k (ρ 27 k + 1)) 32 k (ρ 0 0 + 1)) 30 k tg) 29 k (ρ 29 k + rnow ρ nw p)) 27 k = ρ 27 k + 1 := by
      simp only [rcs_col, ne_eq, Nat.reduceEqDiff, not_false_eq_true, cs_at]
    have f32 : (cs (cs (cs (cs (cs ρ 34 k (ρ 34 k - 1)) 27 k (ρ 27 k + 1)) 32 k (ρ 0 0 + 1)) 30 k tg) 29 k (ρ 29 k + rnow ρ nw p)) 32 k = ρ 0 0 + 1 := by
      simp only [rcs_col, ne_eq, Nat.reduceEqDiff, not_false_eq_true, cs_at]
    have f30 : (cs (cs (cs (cs (cs ρ 34 k (ρ 34 k - 1)) 27 k (ρ 27 k + 1)) 32 k (ρ 0 0 + 1)) 30 k tg) 29 k (ρ 29 k + rnow ρ nw p)) 30 k = tg := by
      simp only [rcs_col, ne_eq, Nat.reduceEqDiff, not_false_eq_true, cs_at]
    have fo : ∀ d ∈ [27, 29, 30, 32], ∀ j, j ≠ k → (cs (cs (cs (cs (cs ρ 34 k (ρ 34 k - 1)) 27 k (ρ 27 k + 1)) 32 k (ρ 0 0 + 1)) 30 k tg) 29 k (ρ 29 k + rnow ρ nw p)) d j = ρ d j := fun d hd j hne => by
      simp only [List.mem_cons, List.not_mem_nil, or_false] at hd
      rcases hd with rfl | rfl | rfl | rfl <;> simp only [rcs_col, ne_eq, Nat.reduceEqDiff, not_false_eq_true, cs_nei hne]
    generalize hR9 : (cs (cs (cs (cs (cs ρ 34 k (ρ 34 k - 1)) 27 k (ρ 27 k + 1)) 32 k (ρ 0 0 + 1)) 30 k tg) 29 k (ρ 29 k + rnow ρ nw p)) = R9 at hch f34 f27 f32 f30 fo
    have en : nlg R9 = nlg ρ := by unfold nlg; rw [hch 22 (by decide)]
    refine ⟨fun j hj => ?_, ?_, ?_⟩
    · rw [en] at hj
      by_cases e : j = k
      · subst e
        exact (hJ.1 j hj).rate ha h32 hpos (by rw [hch 23 (by decide)]) (by rw [hch 24 (by decide)]) (by rw [hch 26 (by decide)]) (by rw [hch 31 (by decide)]) (hch 6 (by decide)) f27 f32 ⟨_, f30.trans htg.symm⟩
      · refine (hJ.1 j hj).congr (fun d hd => ?_) (hch 6 (by decide))
        simp only [List.mem_cons, List.not_mem_nil, or_false] at hd
        rcases hd with rfl | rfl | rfl | rfl | rfl | rfl | rfl | rfl | rfl
        · rw [hch 23 (by decide)]
        · rw [hch 24 (by decide)]
        · rw [hch 26 (by decide)]
        · exact fo 27 (by decide) j e
        · rw [hch 28 (by decide)]
        · exact fo 29 (by decide) j e
        · exact fo 30 (by decide) j e
        · rw [hch 31 (by decide)]
        · exact fo 32 (by decide) j e
    · refine hJ.2.1.mv (w := 0) (by decide) hkl (hch 13 (by decide)) (hch 28 (by decide)) (hch 22 (by decide)) (fun w' _ _ => by rw [hch 12 (by decide)]) (fun j _ hne => by unfold mIn; rw [hch 33 (by decide), hch 35 (by decide), f34, if_neg hne]) ?_
      have y1 : mIn R9 k = 0 := by unfold mIn; rw [hch 33 (by decide), if_neg h33]
      have y2 : mIn ρ k = 0 := by unfold mIn; rw [if_neg h33]
      have y3 : fre R9 0 = fre ρ 0 := by unfold fre; rw [hch 12 (by decide)]
      omega
    · refine hJ.2.2.at hkl (hch 14 (by decide)) (hch 22 (by decide)) (fun j _ hne => ⟨by rw [hch 33 (by decide)], by rw [f34, if_neg hne]⟩) (fun b hb z1 z2 => ?_)
      rw [hch 17 (by decide)]
      refine ⟨z1, ?_⟩
      unfold bsl
      rw [hch 33 (by decide), f34, if_pos rfl, es, nI_clamp hs2, nI_clamp (by omega)]
      split <;> omega
end LK
