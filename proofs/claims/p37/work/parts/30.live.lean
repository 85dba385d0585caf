/-! A SECOND IS LIVED -/
theorem R1.mk {V ρ : Rho} (h41 : V 41 = ρ 2) (h42 : V 42 = ρ 3) (h43 : V 43 = ρ 4) (h101 : V 101 = ρ 6) (h102 : V 102 = ρ 7) (h103 : V 103 = ρ 8) (h104 : V 104 = ρ 9) (h105 : V 105 = ρ 11) (h106 : V 106 = ρ 10) (h182 : V 182 = ρ 12) (h183 : V 183 = ρ 13) (h81 : V 81 = ρ 23) (h82 : V 82 = ρ 24) (h83 : V 83 = ρ 25) (h87 : V 87 = ρ 26) (h88 : V 88 = ρ 27) (h89 : V 89 = ρ 28) (h90 : V 90 = ρ 29) (h91 : V 91 = ρ 30) (h160 : V 160 = ρ 34) (h0 : V 0 = ρ 16) (h1 : V 1 = ρ 18) (h2 : V 2 = ρ 19) (h21 : V 21 = ρ 21) (h227 : V 227 = ρ 1) (h228 : V 228 = ρ 0) : R1 V ρ := by
  intro q hq
  simp only [eqT, List.mem_cons, List.not_mem_nil, or_false] at hq
  rcases hq with rfl | rfl | rfl | rfl | rfl | rfl | rfl | rfl | rfl | rfl | rfl | rfl | rfl | rfl | rfl | rfl | rfl | rfl | rfl | rfl | rfl | rfl | rfl | rfl | rfl | rfl <;> assumption
theorem cs_ow {V : Rho} {c i : Nat} {x y : Int32} : cs (cs V c i x) c i y = cs V c i y := by
  funext a b
  unfold cs
  by_cases h : a = c ∧ b = i
  · rw [if_pos h, if_pos h]
  · rw [if_neg h, if_neg h, if_neg h]
section LV
variable {V V' : Rho} {L : Lst} {N : Cnt} {ρ ρ' : Rho} {t nw i k p : Nat}
theorem c_addCost {m day : Int32} (hp : p < 2 ^ 31) : fc_Phone_addCost V L N (nI p) m day = some (cs (cs V 105 p day) 106 p ((if V 105 p = day then V 106 p else 0) + m)) := by
  unfold fc_Phone_addCost fc_Phone_addCost_18
  rw [nI_clamp hp]
  simp only [po_b]
  by_cases h : V 105 p = day
  · rw [if_pos h, if_pos h, cs_same h]
  · rw [if_neg h, if_neg h, cs_ow, cs_at]
/-- nothing is left that could go back -/
theorem op_back0 (h : Rel V L N ρ t nw i) (hk : k < N 4) (hs : ρ 34 k = 0) : fc_giveBack V L N (nI k) = some V ∧ fr_allGoesBack ρ (nI k) = some (cs ρ 33 k (-2)) ∧ Rel V L N (cs ρ 33 k (-2)) t nw i := by
  have hn4 := h.n4
  obtain ⟨q1, q2, q3, q4, q5⟩ := h.r7 k hk
  obtain ⟨a23, a24, a25⟩ := h.r5.2.2.1 k hk
  have e160 := h.c 160 34 (by decide)
  have hfr := rg_allBack (ρ := ρ) (by omega) a25 (h.b40 hk)
  have eg : gbk ρ k (ρ 34 k) = ρ := by
    unfold gbk
    rw [Int32.sub_self, cs_same hs, hs, Int32.zero_mul, Int32.add_zero, Int32.add_zero, cs_self, cs_self]
    split
    · rfl
    · split <;> rfl
  rw [eg] at hfr
  refine ⟨?_, hfr, h.sl chg.rf (chg.rf.st (by decide)) (h.r1.right (by decide)) (h.r7.at k ⟨q1, Or.inl cs_at, q3, q4, Or.inl hs⟩ (fun j hj hne => ⟨rfl, rfl, rfl, cs_nei hne, rfl, rfl⟩)) (h.r8.congr (fun _ _ => rfl) (fun c hc => rcs_col (by revert c; decide))) (h.r14.mv (w := 0) (by decide) hk (fun _ _ _ => rfl) (fun j _ hne => ?_) (h.r14.1 0 (by decide)) ?_) (h.r16.st2 (by decide))⟩
  · unfold fc_giveBack fc_Slice_moneyLeft fc_dayOf fc_Bundle_isOver
    rw [nI_clamp (show k < 2 ^ 31 by omega)]
    simp only [po_b]
    have ez : cs V 160 k 0 = V := cs_same (by rw [e160, hs])
    by_cases h1 : V 162 k = -1
    · rw [if_pos h1, if_pos h1]
      simp only [po_b]
      rw [show V 160 k = 0 by rw [e160, hs], Int32.zero_mul, Int32.add_zero, cs_self, ez]
    · rw [if_neg h1]
      rw [show V 160 k = 0 by rw [e160, hs], Int32.add_zero, cs_self, ez]
      split
      · simp only [po_b, if_true]
      · simp only [po_b]
        rw [if_neg (by decide)]
  · unfold mIn
    rw [cs_nei hne]
    rfl
  · unfold mIn fre
    rw [cs_at, if_neg (by decide)]
    show (ρ 12 0).toNatClampNeg + 0 ≤ _
    omega
/-- a second used -/
theorem Rel.us (h : Rel V L N ρ t nw p) (hV : chg [88, 89, 90, 91, 105, 106, 160, 183] V V') (hr : chg [10, 11, 13, 27, 28, 29, 30, 32, 34] ρ ρ') (r1 : R1 V' ρ') (hk : k < N 4) (ha : ρ 26 k = 0) (ep : ρ 23 k = nI p) (hp : p < 10) (hs : ¬ ρ 34 k = 0) (f34 : ρ' 34 k = ρ 34 k - 1) (f34o : ∀ j, j ≠ k → ρ' 34 j = ρ 34 j) (f27 : ρ' 27 k = ρ 27 k + 1) (f27o : ∀ j, j ≠ k → ρ' 27 j = ρ 27 j) (f32 : ρ' 32 k = ρ 0 0 + 1) (f32o : ∀ j, j ≠ k → ρ' 32 j = ρ 32 j) (fcc : ρ' 28 k + ρ' 29 k = ρ 28 k + ρ 29 k + rnow ρ nw p) (fo : ∀ j, j ≠ k → ρ' 28 j = ρ 28 j ∧ ρ' 29 j = ρ 29 j) (r16 : R16 N ρ') (f289 : (ρ' 28 k = ρ 28 k + rnow ρ nw p ∧ ρ' 29 k = ρ 29 k) ∨ (ρ' 28 k = ρ 28 k ∧ ρ' 29 k = ρ 29 k + rnow ρ nw p)) : Rel V' L N ρ' t nw (p + 1) := by
  have hn4 := h.n4
  have hnw := h.r5.2.2.2.2.2.2.2
  have e00 := h.r5.2.2.2.2.2.2.1
  rw [e00, nI_1] at f32
  obtain ⟨q1, q2, q3, q4, q5⟩ := h.r7 k hk
  obtain ⟨s, hs1, hs2, es⟩ := pn_of q1
  have hs0 : 1 ≤ s := Nat.pos_of_ne_zero (fun z => hs (by rw [es, z, nI_0]))
  have f34' : ρ' 34 k = nI (s - 1) := by
    rw [f34, es]
    exact pk_sub (a := s) (b := 1) hs0
  have hother : ∀ j, j < N 4 → ρ 26 j = 0 → j ≠ k → (ρ 23 j).toNatClampNeg ≠ p := fun j hj hj26 hne z => by
    obtain ⟨y, hy, hy2, ey⟩ := pn_of (h.r5.2.2.1 j hj).1
    rw [ey, nI_clamp hy2] at z
    subst z
    have a1 := h.r6.2 j hj hj26
    have a2 := h.r6.2 k hk ha
    rw [ey, nI_clamp hy2] at a1
    rw [ep, nI_clamp hy2] at a2
    exact hne (pn_inj (by omega) (by omega) (a1.symm.trans a2))
  obtain ⟨u1, u2⟩ := h.r11 k hk
  obtain ⟨u2, u3⟩ := u2 ha
  rw [ep, nI_clamp (show p < 2 ^ 31 by omega), if_neg (Nat.lt_irrefl p), Nat.add_zero] at u3
  refine ⟨r1, h.r2.congr (hV.agr (by decide)), h.r3.congr (hr.agr (by decide)), h.r4.congr (hV.agr (by decide)) (hr.agr (by decide)), h.r5.congr (hr.agr (by decide)), h.r6.congr (hr.agr (by decide)), h.r7.at k ?_ (fun j _ hne => ⟨by rw [hV 161 (by decide)], by rw [hV 162 (by decide)], by rw [hr 26 (by decide)], by rw [hr 33 (by decide)], f34o j hne, by rw [hr 35 (by decide)]⟩), h.r8.congr (hV.agr (by decide)) (hr.agr (by decide)), h.r9.congr (hr.agr (by decide)), h.r10.congr (hr.agr (by decide)), fun j hj => ?_, h.r12.congr (hV.agr (by decide)) (hr.agr (by decide)), ?_, h.r14.mv (w := 0) (by decide) hk (fun w' _ _ => by rw [hr 12 (by decide)]) (fun j _ hne => ?_) (by rw [hr 12 (by decide)]; exact h.r14.1 0 (by decide)) ?_, h.r15.congr (hr.agr (by decide)), r16, fun j => ?_⟩
  · unfold R7k
    rw [f34', hr 33 (by decide), hr 35 (by decide), hr 26 (by decide), hV 162 (by decide), hV 161 (by decide)]
    exact ⟨vp_in_nI (by omega) (by omega), q2, q3, q4, Or.inr (q5.resolve_left hs)⟩
  · by_cases e : j = k
    · subst e
      unfold R11k
      rw [f32, f27, hV 84 (by decide), hr 23 (by decide), ep, nI_clamp (show p < 2 ^ 31 by omega), if_neg (show ¬ p + 1 = 0 by omega), if_pos (show p < p + 1 by omega)]
      refine ⟨vp_in_nI (by omega) (by omega), fun _ => ⟨?_, rfl⟩⟩
      rw [← Int32.add_assoc, u2, u3, nI_1]
    · unfold R11k
      rw [f32o j e, f27o j e, hV 84 (by decide), hr 23 (by decide), hr 26 (by decide)]
      obtain ⟨w1, w2⟩ := h.r11 j hj
      refine ⟨vp_mono w1 (by split <;> split <;> omega), fun q => ⟨(w2 q).1, ?_⟩⟩
      rw [(w2 q).2]
      have := hother j hj q e
      by_cases c : (ρ 23 j).toNatClampNeg < p
      · rw [if_pos c, if_pos (by omega)]
      · rw [if_neg c, if_neg (by omega)]
  · obtain ⟨F, hF, hk13⟩ := h.r13
    refine ⟨F, hF.congr (hV.agr (by decide)), fun j hj => ?_⟩
    by_cases e : j = k
    · subst e
      obtain ⟨w1, w2, es9, x, w3, w4, w5⟩ := hk13 j hk
      have hU : (ρ 32 j).toNatClampNeg = nw := by rw [u3, nI_clamp (by omega)]
      have hU' : (ρ' 32 j).toNatClampNeg = nw + 1 := by rw [f32, nI_clamp (by omega)]
      obtain ⟨w6, w7⟩ := w4 ha
      rw [ep, nI_clamp (show p < 2 ^ 31 by omega)] at w7
      unfold R13k
      rw [hU', hr 23 (by decide), hr 6 (by decide), hr 26 (by decide), evs_agr (hV.agr (by decide)), hV 60 (by decide), hV 62 (by decide)]
      rw [hU] at w1 w2
      refine ⟨evok_mono (Nat.le_succ _) (evok_agr (hV.agr (by decide)) w1), ?_, es9, x, w3, fun q => ⟨w6, by rw [ep, nI_clamp (show p < 2 ^ 31 by omega)]; exact w7⟩, w5⟩
      rw [fcc, w2, w3, evs_grow w6, w7, h.c 41 2 (by decide)]
      congr 1
      unfold gz
      have hh : hix (ρ 2 (ρ 6 p).toNatClampNeg).toNatClampNeg nw < 6 := by
        have := vp_lt (h.zone hp).2
        unfold hix
        split <;> omega
      rw [(hF.1 _ hh).2.2.2 nw (Nat.le_refl _), h.hist hp]
    · exact (hk13 j hj).congr (hV.agr (by decide)) ⟨f32o j e, (fo j e).1, (fo j e).2, by rw [hr 26 (by decide)], by rw [hr 23 (by decide)], hr 6 (by decide)⟩
  · unfold mIn
    rw [f34o j hne, hr 33 (by decide), hr 35 (by decide)]
  · have y1 : fre ρ' 0 = fre ρ 0 := by
      unfold fre
      rw [hr 12 (by decide)]
    have y2 : mIn ρ' k ≤ mIn ρ k := by
      unfold mIn
      rw [f34', hr 33 (by decide), hr 35 (by decide), nI_clamp (by omega), es, nI_clamp hs2]
      split
      · exact Nat.mul_le_mul_right _ (Nat.sub_le _ _)
      · exact Nat.le_refl _
    omega
  · by_cases e : j = k
    · subst e
      obtain ⟨w0, w1, w2, w3⟩ := h.r17 j
      rw [u3] at w1 w2 w3
      rw [f32, f27, hr 26 (by decide)]
      have hrt := h.rate_in hp
      refine ⟨w0, bdd_add w1 (vp_in_nI (n := 1) (by omega) (by omega)) hnw (by omega), ?_⟩
      rcases f289 with ⟨y1, y2⟩ | ⟨y1, y2⟩
      · rw [y1, y2]
        exact ⟨bdd_add w2 hrt hnw (Nat.le_refl _), bdd_up w3 hnw⟩
      · rw [y1, y2]
        exact ⟨bdd_up w2 hnw, bdd_add w3 hrt hnw (Nat.le_refl _)⟩
    · rw [hr 26 (by decide), f27o j e, f32o j e, (fo j e).1, (fo j e).2]
      exact h.r17 j
theorem op_use (h : Rel V L N ρ t nw p) (hk : k < N 4) (ha : ρ 26 k = 0) (ep : ρ 23 k = nI p) (hp : p < 10) (hs : ¬ ρ 34 k = 0) : ∃ V' ρ', fc_Leg_useSecond V L N (nI k) (rnow ρ nw p) (nI (nw / 2400)) = some V' ∧ fr_rates ρ (nI k) = some ρ' ∧ Rel V' L N ρ' t nw (p + 1) ∧ ρ' 36 = ρ 36 ∧ ρ' 39 = ρ 39 ∧ ρ' 26 = ρ 26 := by
  have hn4 := h.n4
  have hnw := h.r5.2.2.2.2.2.2.2
  have e00 := h.r5.2.2.2.2.2.2.1
  obtain ⟨q1, q2, q3, q4, q5⟩ := h.r7 k hk
  obtain ⟨a23, a24, a25⟩ := h.r5.2.2.1 k hk
  have hw := vp_lt a25
  have h25 : ¬ (ρ 25 k < 0 ∨ 4 ≤ (ρ 25 k).toNatClampNeg) := a25
  have gk := ng (n := 80) (show k < 80 by omega) (by omega)
  have gp := ng (n := 10) hp (by omega)
  have e81 : V 81 k = nI p := by rw [h.c 81 23 (by decide), ep]
  have e8 := h.c 88 27 (by decide)
  have e160 := h.c 160 34 (by decide)
  generalize htg : ((3 * ρ 30 k + rnow ρ nw p).toInt8.toInt32) = tg
  have hq9 := (q5.resolve_left hs).2
  by_cases h33 : ρ 33 k = -1
  · have h162 : V 162 k = -1 := by
      rcases hq9 with z | z
      · exact z.2.1
      · exact absurd h33 (vp_ne z.1)
    generalize hct : (if ρ 11 p = nI (nw / 2400) then ρ 10 p else 0) = ct
    have hc : fc_Leg_useSecond V L N (nI k) (rnow ρ nw p) (nI (nw / 2400)) = some (cs (cs (cs (cs (cs (cs (cs V 160 k (ρ 34 k - 1)) 88 k (ρ 27 k + 1)) 89 k (ρ 28 k + rnow ρ nw p)) 183 (ρ 25 k).toNatClampNeg (ρ 13 (ρ 25 k).toNatClampNeg + rnow ρ nw p)) 105 p (nI (nw / 2400))) 106 p (ct + rnow ρ nw p)) 91 k tg) := by
      unfold fc_Leg_useSecond fc_Leg_useSecond_78
      rw [nI_clamp (show k < 2 ^ 31 by omega)]
      simp only [po_b]
      rw [if_pos (show cs (cs V 160 k (V 160 k - 1)) 88 k (cs V 160 k (V 160 k - 1) 88 k + 1) 162 k = -1 from h162)]
      rw [show cs (cs (cs (cs V 160 k (V 160 k - 1)) 88 k (cs V 160 k (V 160 k - 1) 88 k + 1)) 89 k (cs (cs V 160 k (V 160 k - 1)) 88 k (cs V 160 k (V 160 k - 1) 88 k + 1) 89 k + rnow ρ nw p)) 183 (cs (cs (cs V 160 k (V 160 k - 1)) 88 k (cs V 160 k (V 160 k - 1) 88 k + 1)) 89 k (cs (cs V 160 k (V 160 k - 1)) 88 k (cs V 160 k (V 160 k - 1) 88 k + 1) 89 k + rnow ρ nw p) 83 k).toNatClampNeg (cs (cs (cs V 160 k (V 160 k - 1)) 88 k (cs V 160 k (V 160 k - 1) 88 k + 1)) 89 k (cs (cs V 160 k (V 160 k - 1)) 88 k (cs V 160 k (V 160 k - 1) 88 k + 1) 89 k + rnow ρ nw p) 183 (cs (cs (cs V 160 k (V 160 k - 1)) 88 k (cs V 160 k (V 160 k - 1) 88 k + 1)) 89 k (cs (cs V 160 k (V 160 k - 1)) 88 k (cs V 160 k (V 160 k - 1) 88 k + 1) 89 k + rnow ρ nw p) 83 k).toNatClampNeg + rnow ρ nw p) = cs (cs (cs (cs V 160 k (V 160 k - 1)) 88 k (V 88 k + 1)) 89 k (V 89 k + rnow ρ nw p)) 183 (V 83 k).toNatClampNeg (V 183 (V 83 k).toNatClampNeg + rnow ρ nw p) from rfl]
      rw [show cs (cs (cs (cs V 160 k (V 160 k - 1)) 88 k (V 88 k + 1)) 89 k (V 89 k + rnow ρ nw p)) 183 (V 83 k).toNatClampNeg (V 183 (V 83 k).toNatClampNeg + rnow ρ nw p) 81 k = nI p from e81, c_addCost (by omega)]
      simp only [po_b]
      rw [show cs (cs (cs (cs V 160 k (V 160 k - 1)) 88 k (V 88 k + 1)) 89 k (V 89 k + rnow ρ nw p)) 183 (V 83 k).toNatClampNeg (V 183 (V 83 k).toNatClampNeg + rnow ρ nw p) 105 p = V 105 p from rfl, show cs (cs (cs (cs V 160 k (V 160 k - 1)) 88 k (V 88 k + 1)) 89 k (V 89 k + rnow ρ nw p)) 183 (V 83 k).toNatClampNeg (V 183 (V 83 k).toNatClampNeg + rnow ρ nw p) 106 p = V 106 p from rfl]
      rw [h.c 105 11 (by decide), h.c 106 10 (by decide), hct, e160, e8, h.c 89 28 (by decide), h.c 183 13 (by decide), h.c 83 25 (by decide)]
      rw [show ∀ W : Rho, cs (cs (cs (cs (cs (cs V 160 k (ρ 34 k - 1)) 88 k (ρ 27 k + 1)) 89 k (ρ 28 k + rnow ρ nw p)) 183 (ρ 25 k).toNatClampNeg (ρ 13 (ρ 25 k).toNatClampNeg + rnow ρ nw p)) 105 p (nI (nw / 2400))) 106 p (ct + rnow ρ nw p) 91 k = V 91 k from fun _ => rfl, h.c 91 30 (by decide), htg]
      exact V
    have hR : fr_rates ρ (nI k) = some (cs (cs (cs (cs (cs (cs (cs (cs ρ 34 k (ρ 34 k - 1)) 27 k (ρ 27 k + 1)) 32 k (ρ 0 0 + 1)) 30 k tg) 28 k (ρ 28 k + rnow ρ nw p)) 13 (ρ 25 k).toNatClampNeg (ρ 13 (ρ 25 k).toNatClampNeg + rnow ρ nw p)) 10 p (ct + rnow ρ nw p)) 11 p (nI (nw / 2400))) := by
      have hday : ρ 0 0 / 2400 = nI (nw / 2400) := by rw [e00, day_eq hnw]
      unfold fr_rates fr_costToday fr_today
      have hrr := h.rrate hp
      have hcl := nI_clamp (show p < 2 ^ 31 by omega)
      rw [nI_clamp (show k < 2 ^ 31 by omega), ep]
      simp only [po_b, hrr, hcl, gk, gp, h25, if_false, rcs_col, ne_eq, Nat.reduceEqDiff, not_false_eq_true]
      rw [if_pos h33, hday, htg]
      by_cases hd : ρ 11 p = nI (nw / 2400)
      · rw [if_pos hd] at hct ⊢
        simp only [po_b]
        rw [hct]
      · rw [if_neg hd] at hct ⊢
        simp only [po_b]
        rw [hct]
    refine ⟨_, _, hc, hR, h.us (((((((chg.rf.st (by decide)).st (by decide)).st (by decide)).st (by decide)).st (by decide)).st (by decide)).st (by decide)) ((((((((chg.rf.st (by decide)).st (by decide)).st (by decide)).st (by decide)).st (by decide)).st (by decide)).st (by decide)).st (by decide)) ?_ hk ha ep hp hs ?_ (fun j hne => ?_) ?_ (fun j hne => ?_) ?_ (fun j hne => ?_) ?_ (fun j hne => ⟨?_, ?_⟩) ?_ ?_, rfl, rfl, rfl⟩
    · exact R1.mk (h.c 41 2 (by decide)) (h.c 42 3 (by decide)) (h.c 43 4 (by decide)) (h.c 101 6 (by decide)) (h.c 102 7 (by decide)) (h.c 103 8 (by decide)) (h.c 104 9 (by decide)) (by simp only [rcs_col, rcs_upd, ne_eq, Nat.reduceEqDiff, not_false_eq_true, h.c 105 11 (by decide)]) (by simp only [rcs_col, rcs_upd, ne_eq, Nat.reduceEqDiff, not_false_eq_true, h.c 106 10 (by decide)]) (h.c 182 12 (by decide)) (by simp only [rcs_col, rcs_upd, ne_eq, Nat.reduceEqDiff, not_false_eq_true, h.c 183 13 (by decide)]) (h.c 81 23 (by decide)) (h.c 82 24 (by decide)) (h.c 83 25 (by decide)) (h.c 87 26 (by decide)) (by simp only [rcs_col, rcs_upd, ne_eq, Nat.reduceEqDiff, not_false_eq_true, h.c 88 27 (by decide)]) (by simp only [rcs_col, rcs_upd, ne_eq, Nat.reduceEqDiff, not_false_eq_true, h.c 89 28 (by decide)]) (h.c 90 29 (by decide)) (by simp only [rcs_col, rcs_upd, ne_eq, Nat.reduceEqDiff, not_false_eq_true, h.c 91 30 (by decide)]) (by simp only [rcs_col, rcs_upd, ne_eq, Nat.reduceEqDiff, not_false_eq_true, h.c 160 34 (by decide)]) (h.c 0 16 (by decide)) (h.c 1 18 (by decide)) (h.c 2 19 (by decide)) (h.c 21 21 (by decide)) (h.c 227 1 (by decide)) (h.c 228 0 (by decide))
    · simp only [rcs_col, ne_eq, Nat.reduceEqDiff, not_false_eq_true, cs_at]
    · simp only [rcs_col, ne_eq, Nat.reduceEqDiff, not_false_eq_true, cs_nei hne]
    · simp only [rcs_col, ne_eq, Nat.reduceEqDiff, not_false_eq_true, cs_at]
    · simp only [rcs_col, ne_eq, Nat.reduceEqDiff, not_false_eq_true, cs_nei hne]
    · simp only [rcs_col, ne_eq, Nat.reduceEqDiff, not_false_eq_true, cs_at]
    · simp only [rcs_col, ne_eq, Nat.reduceEqDiff, not_false_eq_true, cs_nei hne]
    · simp only [rcs_col, ne_eq, Nat.reduceEqDiff, not_false_eq_true, cs_at]
      grind
    · simp only [rcs_col, ne_eq, Nat.reduceEqDiff, not_false_eq_true, cs_nei hne]
    · simp only [rcs_col, ne_eq, Nat.reduceEqDiff, not_false_eq_true]
    · exact (((((((h.r16.st hk).st hk).st2 (by decide)).st2 (by decide)).st hk).st2 (by decide)).st2 (by decide)).st2 (by decide)
    · exact Or.inl ⟨by simp only [rcs_col, ne_eq, Nat.reduceEqDiff, not_false_eq_true, cs_at], by simp only [rcs_col, ne_eq, Nat.reduceEqDiff, not_false_eq_true]⟩
  · have h162 : ¬ V 162 k = -1 := by
      rcases hq9 with z | z
      · exact absurd z.1 h33
      · rw [z.2]; exact h33
    have hc : fc_Leg_useSecond V L N (nI k) (rnow ρ nw p) (nI (nw / 2400)) = some (cs (cs (cs (cs V 160 k (ρ 34 k - 1)) 88 k (ρ 27 k + 1)) 90 k (ρ 29 k + rnow ρ nw p)) 91 k tg) := by
      unfold fc_Leg_useSecond fc_Leg_useSecond_78
      rw [nI_clamp (show k < 2 ^ 31 by omega)]
      simp only [po_b, rcs_col, ne_eq, Nat.reduceEqDiff, not_false_eq_true]
      rw [if_neg h162, e160, e8, h.c 90 29 (by decide), h.c 91 30 (by decide), htg]
    have hR : fr_rates ρ (nI k) = some (cs (cs (cs (cs (cs ρ 34 k (ρ 34 k - 1)) 27 k (ρ 27 k + 1)) 32 k (ρ 0 0 + 1)) 30 k tg) 29 k (ρ 29 k + rnow ρ nw p)) := by
      unfold fr_rates fr_costToday fr_today
      have hrr := h.rrate hp
      have hcl := nI_clamp (show p < 2 ^ 31 by omega)
      rw [nI_clamp (show k < 2 ^ 31 by omega), ep]
      simp only [po_b, hrr, hcl, gk, gp, h25, if_false, rcs_col, ne_eq, Nat.reduceEqDiff, not_false_eq_true]
      rw [if_neg h33, htg]
    refine ⟨_, _, hc, hR, h.us ((((chg.rf.st (by decide)).st (by decide)).st (by decide)).st (by decide)) (((((chg.rf.st (by decide)).st (by decide)).st (by decide)).st (by decide)).st (by decide)) ?_ hk ha ep hp hs ?_ (fun j hne => ?_) ?_ (fun j hne => ?_) ?_ (fun j hne => ?_) ?_ (fun j hne => ⟨?_, ?_⟩) ?_ ?_, rfl, rfl, rfl⟩
    · exact R1.mk (h.c 41 2 (by decide)) (h.c 42 3 (by decide)) (h.c 43 4 (by decide)) (h.c 101 6 (by decide)) (h.c 102 7 (by decide)) (h.c 103 8 (by decide)) (h.c 104 9 (by decide)) (h.c 105 11 (by decide)) (h.c 106 10 (by decide)) (h.c 182 12 (by decide)) (h.c 183 13 (by decide)) (h.c 81 23 (by decide)) (h.c 82 24 (by decide)) (h.c 83 25 (by decide)) (h.c 87 26 (by decide)) (by simp only [rcs_col, rcs_upd, ne_eq, Nat.reduceEqDiff, not_false_eq_true, h.c 88 27 (by decide)]) (h.c 89 28 (by decide)) (by simp only [rcs_col, rcs_upd, ne_eq, Nat.reduceEqDiff, not_false_eq_true, h.c 90 29 (by decide)]) (by simp only [rcs_col, rcs_upd, ne_eq, Nat.reduceEqDiff, not_false_eq_true, h.c 91 30 (by decide)]) (by simp only [rcs_col, rcs_upd, ne_eq, Nat.reduceEqDiff, not_false_eq_true, h.c 160 34 (by decide)]) (h.c 0 16 (by decide)) (h.c 1 18 (by decide)) (h.c 2 19 (by decide)) (h.c 21 21 (by decide)) (h.c 227 1 (by decide)) (h.c 228 0 (by decide))
    · simp only [rcs_col, ne_eq, Nat.reduceEqDiff, not_false_eq_true, cs_at]
    · simp only [rcs_col, ne_eq, Nat.reduceEqDiff, not_false_eq_true, cs_nei hne]
    · simp only [rcs_col, ne_eq, Nat.reduceEqDiff, not_false_eq_true, cs_at]
    · simp only [rcs_col, ne_eq, Nat.reduceEqDiff, not_false_eq_true, cs_nei hne]
    · simp only [rcs_col, ne_eq, Nat.reduceEqDiff, not_false_eq_true, cs_at]
    · simp only [rcs_col, ne_eq, Nat.reduceEqDiff, not_false_eq_true, cs_nei hne]
    · simp only [rcs_col, ne_eq, Nat.reduceEqDiff, not_false_eq_true, cs_at]
      grind
    · simp only [rcs_col, ne_eq, Nat.reduceEqDiff, not_false_eq_true]
    · simp only [rcs_col, ne_eq, Nat.reduceEqDiff, not_false_eq_true, cs_nei hne]
    · exact ((((h.r16.st hk).st hk).st2 (by decide)).st2 (by decide)).st hk
    · exact Or.inr ⟨by simp only [rcs_col, ne_eq, Nat.reduceEqDiff, not_false_eq_true], by simp only [rcs_col, ne_eq, Nat.reduceEqDiff, not_false_eq_true, cs_at]⟩
end LV
