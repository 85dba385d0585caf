/-! A SECOND of all legs, and many of them -/
section PS
variable {V V' : Rho} {L : Lst} {N : Cnt} {ρ ρ' : Rho} {t nw i k p : Nat}
/-- a phone without a leg has lived its second -/
theorem Rel.next (h : Rel V L N ρ t nw p) (h9 : ρ 9 p = -1) (hp : p < 10) : Rel V L N ρ t nw (p + 1) := by
  have hn4 := h.n4
  refine ⟨h.r1, h.r2, h.r3, h.r4, h.r5, h.r6, h.r7, h.r8, h.r9, h.r10, fun j hj => ?_, h.r12, h.r13, h.r14, h.r15, h.r16, h.r17⟩
  obtain ⟨w1, w2⟩ := h.r11 j hj
  refine ⟨vp_mono w1 (by split <;> split <;> omega), fun q => ⟨(w2 q).1, ?_⟩⟩
  rw [(w2 q).2]
  obtain ⟨y, hy, hy2, ey⟩ := pn_of (h.r5.2.2.1 j hj).1
  have e1 := h.r6.2 j hj q
  rw [ey, nI_clamp hy2] at e1 ⊢
  have hne : y ≠ p := fun z => by
    rw [z, h9] at e1
    exact pn_m1 (k := j) (by omega) e1.symm
  by_cases c : y < p
  · rw [if_pos c, if_pos (by omega)]
  · rw [if_neg c, if_neg (by omega)]
theorem rnow_eq (h5 : ρ' 5 = ρ 5) (h2 : ρ' 2 = ρ 2) (h6 : ρ' 6 = ρ 6) : rnow ρ' nw p = rnow ρ nw p := by
  unfold rnow
  rw [h5, h2, h6]
theorem st23 (h : Rel V L N ρ t nw p) (ht : t ≤ 512) (hk : k < N 4) (ha : ρ 26 k = 0) (ep : ρ 23 k = nI p) (hp : p < 10) : ∃ V' L' N' ρ' o, fc_isLived_23 V L N (nI k) (rnow ρ nw p) = some ((V', L', N'), o) ∧ fr_lives_93 ρ (nI k) = some ρ' ∧ Rel V' L' N' ρ' t nw (p + 1) ∧ ((o = 1 ∧ ρ' 36 0 = ρ 36 0 ∧ E26 ρ ≤ E26 ρ') ∨ (o = 0 ∧ ρ' 36 0 = ρ 36 0 + 1 ∧ E26 ρ + 1 ≤ E26 ρ')) ∧ ρ' 39 = ρ 39 := by
  have hn4 := h.n4
  have gk := ng (n := 80) (show k < 80 by omega) (by omega)
  have c50 : ∀ (V ρ : Rho), Rel V L N ρ t nw p → ∀ r, fc_isLived_50 V L N (nI k) r = (fc_Leg_useSecond V L N (nI k) r (nI (nw / 2400))).bind fun o2 => some ((o2, L, N), 1) := fun V ρ h r => by
    unfold fc_isLived_50 fc_dayOf
    simp only [po_b]
    rw [h.c 228 0 (by decide), h.r5.2.2.2.2.2.2.1, day_eq h.r5.2.2.2.2.2.2.2]
  have r107 : ∀ ρ : Rho, ρ 26 k = 0 → fr_lives_107 ρ (nI k) = fr_rates ρ (nI k) := fun ρ q => by
    unfold fr_lives_107
    rw [nI_clamp (show k < 2 ^ 31 by omega), if_neg gk, if_pos q, ob_s]
  have r93 : fr_lives_93 ρ (nI k) = if ρ 34 k = 0 then (fr_getsSlice ρ (nI k)).bind fun o2 => fr_lives_107 o2 (nI k) else fr_lives_107 ρ (nI k) := by
    unfold fr_lives_93
    rw [nI_clamp (show k < 2 ^ 31 by omega), if_neg gk]
  obtain ⟨s, hs1, hs2, es⟩ := pn_of (h.r7 k hk).1
  by_cases hs : ρ 34 k = 0
  · rw [r93, if_pos hs]
    have c23 : fc_isLived_23 V L N (nI k) (rnow ρ nw p) = (fc_takeSlice V L N (nI k)).bind fun o2 => (if o2.2 = 0 then (fc_closeLeg o2.1 L N (nI k) 2).bind fun o3 => some ((o3.1, o3.2.1, o3.2.2), 0) else fc_isLived_50 o2.1 L N (nI k) (rnow ρ nw p)) := by
      unfold fc_isLived_23
      rw [nI_clamp (show k < 2 ^ 31 by omega), h.c 160 34 (by decide), hs, if_neg (by decide)]
    rw [c23]
    rcases op_slice h ht hk ha hs with ⟨V1, ρ1, a1, a2, a3, a4, a5, a6, -⟩ | ⟨V1, ρ1, a1, a2, a3, a4, a5, a6, -⟩
    · have e26 : ρ1 26 k = 0 := by rw [a5 26 (by decide), ha]
      have e23 : ρ1 23 k = nI p := by rw [a5 23 (by decide), ep]
      obtain ⟨V2, ρ2, b1, b2, b3, b4, b5, bE⟩ := op_use a3 hk e26 e23 hp a6
      rw [rnow_eq (a5 5 (by decide)) (a5 2 (by decide)) (a5 6 (by decide))] at b1
      refine ⟨V2, L, N, ρ2, 1, ?_, ?_, b3, Or.inl ⟨rfl, by rw [b4, a5 36 (by decide)], by rw [E26_eq bE, E26_eq (a5 26 (by decide))]; exact Nat.le_refl _⟩, by rw [b5, a5 39 (by decide)]⟩
      · rw [a1]
        simp only [po_b]
        rw [if_neg (by decide), c50 V1 ρ1 a3, b1]
        rfl
      · rw [a2]
        simp only [po_b]
        rw [r107 ρ1 e26]
        exact b2
    · have e26 : ρ1 26 k = 0 := by rw [a5 26 (by decide), ha]
      have e23 : ρ1 23 k = nI p := by rw [a5 23 (by decide), ep]
      obtain ⟨V2, L2, N2, ρ2, b1, b2, b3, b4, b5, b6, b7, b8, bE⟩ := op_close a3 ht hk e26 (st := 2) (by decide)
      rw [e23, nI_clamp (show p < 2 ^ 31 by omega)] at b6
      refine ⟨V2, L2, N2, ρ2, 0, ?_, ?_, b3.next b6 hp, Or.inr ⟨rfl, by rw [b4 36 (by decide), a6], by rw [E26_eq (a5 26 (by decide))] at bE; exact bE⟩, by rw [b4 39 (by decide), a5 39 (by decide)]⟩
      · rw [a1]
        simp only [po_b]
        rw [if_pos trivial, b1]
        rfl
      · rw [a2, b2]
        simp only [po_b]
        unfold fr_lives_107
        rw [nI_clamp (show k < 2 ^ 31 by omega), if_neg gk, b5, if_neg (by decide)]
  · have hs0 : 1 ≤ s := Nat.pos_of_ne_zero (fun z => hs (by rw [es, z, nI_0]))
    obtain ⟨V2, ρ2, b1, b2, b3, b4, b5, bE⟩ := op_use h hk ha ep hp hs
    refine ⟨V2, L, N, ρ2, 1, ?_, ?_, b3, Or.inl ⟨rfl, by rw [b4], by rw [E26_eq bE]; exact Nat.le_refl _⟩, b5⟩
    · unfold fc_isLived_23
      rw [nI_clamp (show k < 2 ^ 31 by omega), h.c 160 34 (by decide), es, if_pos (show (1 : Int32) ≤ nI s from nI_le (a := 1) hs0 hs2), c50 V ρ h, b1]
      rfl
    · rw [r93, if_neg hs, r107 ρ ha]
      exact b2
theorem and1 (x : Int32) : x &&& 1 = 0 ∨ x &&& 1 = 1 := by
  obtain ⟨j, hj, e⟩ := pk_andE x (m := 1) 1 (by decide)
  have hj : j < 2 := hj
  rw [e]
  have : j = 0 ∨ j = 1 := by omega
  rcases this with rfl | rfl
  · exact Or.inl (by decide)
  · exact Or.inr (by decide)
theorem op_lived (h : Rel V L N ρ t nw p) (ht : t ≤ 512) (hk : k < N 4) (ha : ρ 26 k = 0) (ep : ρ 23 k = nI p) (hp : p < 10) : ∃ V' L' N' ρ' o, fc_isLived V L N (nI k) = some ((V', L', N'), o) ∧ fr_lives ρ (nI k) = some ρ' ∧ Rel V' L' N' ρ' t nw (p + 1) ∧ ((o = 1 ∧ ρ' 36 0 = ρ 36 0 ∧ E26 ρ ≤ E26 ρ') ∨ (o = 0 ∧ ρ' 36 0 = ρ 36 0 + 1 ∧ E26 ρ + 1 ≤ E26 ρ')) ∧ ρ' 39 = ρ 39 := by
  have hn4 := h.n4
  have hn0 := h.r3.2.1.2.1
  have gk := ng (n := 80) (show k < 80 by omega) (by omega)
  have gp := ng (n := 10) hp (by omega)
  have hcl := nI_clamp (show p < 2 ^ 31 by omega)
  have hclk := nI_clamp (show k < 2 ^ 31 by omega)
  have hrr := h.rrate hp
  have e81 : V 81 k = nI p := by rw [h.c 81 23 (by decide), ep]
  obtain ⟨q1, q2, q3, q4, q5⟩ := h.r7 k hk
  have h6 : ¬ (ρ 6 p < 0 ∨ 8 ≤ (ρ 6 p).toNatClampNeg) := (h.zone hp).1
  have hc : ∀ o, fc_isSliceFit V L N (nI k) (rnow ρ nw p) = some o → fc_isLived V L N (nI k) = if o = 0 then (fc_giveBack V L N (nI k)).bind fun o4 => fc_isLived_23 o4 L N (nI k) (rnow ρ nw p) else fc_isLived_23 V L N (nI k) (rnow ρ nw p) := fun o q => by
    unfold fc_isLived
    rw [hclk, e81, h.crate hp]
    simp only [po_b]
    rw [q]
    simp only [po_b]
  have r80 : fr_lives_80 ρ (nI k) = fr_lives_93 ρ (nI k) := by
    unfold fr_lives_80 fr_lives_81
    rw [if_pos rfl]
  have r81 : fr_lives_81 ρ (nI k) 0 = fr_lives_93 ρ (nI k) := by
    unfold fr_lives_81
    rw [if_pos rfl]
  have r81' : fr_lives_81 ρ (nI k) 1 = (fr_allGoesBack ρ (nI k)).bind fun o1 => fr_lives_93 o1 (nI k) := by
    unfold fr_lives_81
    rw [if_neg (by decide)]
  have r76 : fr_lives_76 ρ (nI k) = (fr_allGoesBack ρ (nI k)).bind fun o1 => fr_lives_93 o1 (nI k) := r81'
  -- the class finds out whether the slice fits; the reference too
  have hcf : ∃ o, fc_isSliceFit V L N (nI k) (rnow ρ nw p) = some o ∧ (¬ ρ 34 k = 0 → (o = 1 ∧ fr_lives ρ (nI k) = fr_lives_93 ρ (nI k)) ∨ (o = 0 ∧ fr_lives ρ (nI k) = (fr_allGoesBack ρ (nI k)).bind fun o1 => fr_lives_93 o1 (nI k))) := by
    unfold fc_isSliceFit fc_dayOf fc_Bundle_isOver fc_Bundle_isFor
    rw [hclk, e81, hcl, h.c 228 0 (by decide), h.c 1 18 (by decide), h.c 0 16 (by decide), h.c 101 6 (by decide), h.c 41 2 (by decide)]
    simp only [po_b]
    have hz := (h.zone hp).2
    have e200 : V 200 (ρ 2 (ρ 6 p).toNatClampNeg).toNatClampNeg = ρ 2 (ρ 6 p).toNatClampNeg := by
      rw [h.r2 200 (by decide) _ (by rw [show 200 / 20 = 10 by decide, h.r3.1.2.1]; exact vp_lt hz), ← pn_eq hz]
    rw [e200]
    by_cases h1 : V 162 k = -1
    · rw [if_pos h1]
      refine ⟨if V 161 k = rnow ρ nw p then 1 else 0, by split <;> rfl, fun hs => ?_⟩
      rcases (q5.resolve_left hs).2 with ⟨m1, m2, m3⟩ | ⟨b1, b2⟩
      · rw [m3]
        unfold fr_lives
        rw [hclk, ep]
        simp only [po_b, hrr, gk, if_false]
        rw [if_pos m1]
        by_cases e : ρ 35 k = rnow ρ nw p
        · rw [if_pos e, if_pos e]
          exact Or.inl ⟨rfl, r81⟩
        · rw [if_neg e, if_neg e]
          exact Or.inr ⟨rfl, r81'⟩
      · rw [b2] at h1
        exact absurd h1 (vp_ne b1)
    · rw [if_neg h1]
      have hb : vp_in (V 162 k) (N 0) := q3.resolve_left h1
      have hb40 : ¬ (V 162 k < 0 ∨ 40 ≤ (V 162 k).toNatClampNeg) := vp_mono hb hn0
      have hb0 : ¬ V 162 k < 0 := fun z => hb (Or.inl z)
      have hre : ¬ ρ 34 k = 0 → fr_lives ρ (nI k) = if ρ 0 0 / 2400 < ρ 18 (V 162 k).toNatClampNeg then (if (((ρ 16 (V 162 k).toNatClampNeg) >>> ((ρ 2 (ρ 6 p).toNatClampNeg) &&& 31)) &&& 1) = 0 then fr_lives_76 ρ (nI k) else fr_lives_80 ρ (nI k)) else fr_lives_76 ρ (nI k) := fun hs => by
        rcases (q5.resolve_left hs).2 with ⟨m1, m2, m3⟩ | ⟨b1, b2⟩
        · exact absurd m2 h1
        · have hov : fr_isOver ρ (V 162 k) = some (if ρ 0 0 / 2400 < ρ 18 (V 162 k).toNatClampNeg then 0 else 1) := by
            have := rb_isOver (ρ := ρ) (b := (V 162 k).toNatClampNeg) (by have := vp_lt hb; omega)
            rw [← pn_eq hb] at this
            exact this
          unfold fr_lives
          rw [hclk, ep, ← b2]
          simp only [po_b, gk, if_false, hcl]
          rw [if_neg h1, if_neg hb0, hov]
          simp only [po_b, hb40, gp, h6, if_false]
          by_cases hd : ρ 0 0 / 2400 < ρ 18 (V 162 k).toNatClampNeg
          · rw [if_pos hd, if_pos rfl, if_pos hd]
          · rw [if_neg hd, if_neg (by decide), if_neg hd]
      by_cases hd : ρ 0 0 / 2400 < ρ 18 (V 162 k).toNatClampNeg
      · rw [if_pos hd]
        simp only [po_b, if_true]
        rcases and1 ((ρ 16 (V 162 k).toNatClampNeg) >>> ((ρ 2 (ρ 6 p).toNatClampNeg) &&& 31)) with e | e
        · rw [e, if_neg (show ¬ (0 : Int32) = 1 by decide)]
          simp only [po_b, if_true]
          refine ⟨0, rfl, fun hs => Or.inr ⟨rfl, ?_⟩⟩
          rw [hre hs, if_pos hd, if_pos e, r76]
        · rw [e, if_pos rfl]
          simp only [po_b]
          rw [if_neg (by decide)]
          refine ⟨1, rfl, fun hs => Or.inl ⟨rfl, ?_⟩⟩
          rw [hre hs, if_pos hd, if_neg (by rw [e]; decide), r80]
      · rw [if_neg hd]
        simp only [po_b]
        rw [if_neg (by decide)]
        refine ⟨0, rfl, fun hs => Or.inr ⟨rfl, ?_⟩⟩
        rw [hre hs, if_neg hd, r76]
  obtain ⟨o, ho, hcf⟩ := hcf
  have hc := hc o ho
  by_cases hs : ρ 34 k = 0
  · obtain ⟨z1, z2, z3⟩ := op_back0 h hk hs
    have hc2 : fc_isLived V L N (nI k) = fc_isLived_23 V L N (nI k) (rnow ρ nw p) := by
      rw [hc, z1]
      split <;> rfl
    have hr2 : fr_lives ρ (nI k) = fr_lives_93 ρ (nI k) ∨ fr_lives ρ (nI k) = fr_lives_93 (cs ρ 33 k (-2)) (nI k) := by
      have r76' : fr_lives_76 ρ (nI k) = fr_lives_93 (cs ρ 33 k (-2)) (nI k) := by
        rw [r76, z2]
        rfl
      have r81'' : fr_lives_81 ρ (nI k) 1 = fr_lives_93 (cs ρ 33 k (-2)) (nI k) := r76'
      unfold fr_lives
      rw [hclk, ep]
      simp only [po_b, hrr, gk, gp, h6, hcl, if_false]
      rw [r81, r81'', r80, r76']
      by_cases e1 : ρ 33 k = -1
      · rw [if_pos e1]
        by_cases e2 : ρ 35 k = rnow ρ nw p
        · rw [if_pos e2]; exact Or.inl rfl
        · rw [if_neg e2]; exact Or.inr rfl
      · rw [if_neg e1]
        by_cases e2 : ρ 33 k < 0
        · rw [if_pos e2]; exact Or.inl rfl
        · rw [if_neg e2]
          have hb : vp_in (ρ 33 k) (N 0) := by
            rcases q2 with z | z | z
            · rw [z] at e2; exact absurd (by decide) e2
            · exact absurd z e1
            · exact z
          have hov : fr_isOver ρ (ρ 33 k) = some (if ρ 0 0 / 2400 < ρ 18 (ρ 33 k).toNatClampNeg then 0 else 1) := by
            have := rb_isOver (ρ := ρ) (b := (ρ 33 k).toNatClampNeg) (by have := vp_lt hb; omega)
            rw [← pn_eq hb] at this
            exact this
          have hb40 : ¬ (ρ 33 k < 0 ∨ 40 ≤ (ρ 33 k).toNatClampNeg) := vp_mono hb hn0
          rw [hov]
          simp only [po_b, hb40, if_false]
          by_cases hd : ρ 0 0 / 2400 < ρ 18 (ρ 33 k).toNatClampNeg
          · rw [if_pos hd, if_pos rfl]
            by_cases e3 : (((ρ 16 (ρ 33 k).toNatClampNeg) >>> ((ρ 2 (ρ 6 p).toNatClampNeg) &&& 31)) &&& 1) = 0
            · rw [if_pos e3]; exact Or.inr rfl
            · rw [if_neg e3]; exact Or.inl rfl
          · rw [if_neg hd, if_neg (by decide)]; exact Or.inr rfl
    rw [hc2]
    rcases hr2 with e | e
    · rw [e]
      exact st23 h ht hk ha ep hp
    · rw [e]
      have := st23 z3 ht hk ha ep hp
      rw [rnow_eq (ρ' := cs ρ 33 k (-2)) (ρ := ρ) rfl rfl rfl] at this
      exact this
  · rcases hcf hs with ⟨e1, e2⟩ | ⟨e1, e2⟩
    · rw [hc, e1, if_neg (by decide), e2]
      exact st23 h ht hk ha ep hp
    · obtain ⟨V1, ρ1, b1, b2, b3, b4, b5, b6, -, -⟩ := op_back h ht hk
      rw [hc, e1, if_pos rfl, e2, b1, b2]
      simp only [po_b]
      have := st23 b3 ht hk (by rw [b5 26 (by decide), ha]) (by rw [b5 23 (by decide), ep]) hp
      rw [rnow_eq (b5 5 (by decide)) (b5 2 (by decide)) (b5 6 (by decide)), b5 36 (by decide), b5 39 (by decide), E26_eq (b5 26 (by decide))] at this
      exact this
/-- the second is over -/
theorem Rel.tick (h : Rel V L N ρ t nw 10) (hnw : nw + 1 ≤ 50000) : Rel (cs V 228 0 (ρ 0 0 + 1)) L N (cs ρ 0 0 (ρ 0 0 + 1)) t (nw + 1) 0 := by
  have e00 := h.r5.2.2.2.2.2.2.1
  have hV : chg [228] V (cs V 228 0 (ρ 0 0 + 1)) := chg.rf.st (by decide)
  have hr : chg [0] ρ (cs ρ 0 0 (ρ 0 0 + 1)) := chg.rf.st (by decide)
  have e1 : cs ρ 0 0 (ρ 0 0 + 1) 0 0 = nI (nw + 1) := by rw [cs_at, e00, nI_1]
  refine ⟨h.r1.both (by decide), h.r2.congr (hV.agr (by decide)), h.r3.congr (hr.agr (by decide)), h.r4.congr (hV.agr (by decide)) (hr.agr (by decide)), ?_, h.r6.congr (hr.agr (by decide)), h.r7.congr (hV.agr (by decide)) (hr.agr (by decide)), fun b hb hd => ?_, h.r9.congr (hr.agr (by decide)), h.r10.congr (hr.agr (by decide)), fun j hj => ?_, h.r12.congr (hV.agr (by decide)) (hr.agr (by decide)), ?_, h.r14.congr (hr.agr (by decide)), h.r15.congr (hr.agr (by decide)), h.r16.congr (hr.agr (by decide)), h.r17.congr (hr.agr (by decide))⟩
  · obtain ⟨w1, w2, w3, w4, w5, w6, w7, w8⟩ := h.r5
    exact ⟨w1, w2, w3, w4, w5, w6, e1, hnw⟩
  · rw [e1, day_eq hnw] at hd
    refine h.r8 b hb ?_
    rw [e00, day_eq (by omega)]
    have hd : nI ((nw + 1) / 2400) < ρ 18 b := hd
    rw [Int32.lt_iff_toInt_lt, nI_toInt (by omega)] at hd ⊢
    omega
  · obtain ⟨w1, w2⟩ := h.r11 j hj
    refine ⟨vp_mono w1 (by rw [if_neg (by decide), if_pos rfl]; omega), fun q => ⟨(w2 q).1, ?_⟩⟩
    have := vp_lt (h.r5.2.2.1 j hj).1
    have e2 := (w2 q).2
    rw [if_pos this] at e2
    show ρ 32 j = nI (nw + 1 + if (ρ 23 j).toNatClampNeg < 0 then 1 else 0)
    rw [if_neg (Nat.not_lt_zero _), e2]
  · obtain ⟨F, ⟨hF, hF7⟩, hk13⟩ := h.r13
    refine ⟨F, ⟨fun hh hi => ?_, hF7⟩, fun j hj => (hk13 j hj).congr (hV.agr (by decide)) ⟨rfl, rfl, rfl, rfl, rfl, rfl⟩⟩
    obtain ⟨a1, a2, a3, a4⟩ := hF hh hi
    exact ⟨a1, a2, fun x hx => ⟨(a3 x hx).1, Nat.le_trans (a3 x hx).2 (Nat.le_succ _)⟩, fun s hs => a4 s (by omega)⟩
theorem live_loop (ht : t ≤ 512) {c0 : Int32} {e0 : Nat} (hnw : nw + 1 ≤ 50000) (n : Nat) : ∀ (p : Nat) (V : Rho) (L : Lst) (N : Cnt) (ρ : Rho) (d : Nat), Rel V L N ρ t nw p → 10 ≤ p + n → p ≤ 10 → ρ 36 0 = c0 + nI d → e0 + d ≤ E26 ρ → ∃ V' L' N' ρ' d', fc_liveSecond_13 (n + 1) V L N (nI d) 10 (nI p) = some ((V', L', N'), nI d') ∧ (∀ k47 a b, fr_pass_54 k47 (n + 1) ρ a b (nI p) = k47 ρ' a (b + 1)) ∧ Rel V' L' N' ρ' t (nw + 1) 0 ∧ ρ' 36 0 = c0 + nI d' ∧ ρ' 39 = ρ 39 ∧ e0 + d' ≤ E26 ρ' := by
  have hend : ∀ (n : Nat) (V : Rho) (L : Lst) (N : Cnt) (ρ : Rho) (d : Nat), Rel V L N ρ t nw 10 → ρ 36 0 = c0 + nI d → e0 + d ≤ E26 ρ → ∃ V' L' N' ρ' d', fc_liveSecond_13 (n + 1) V L N (nI d) 10 (nI 10) = some ((V', L', N'), nI d') ∧ (∀ k47 a b, fr_pass_54 k47 (n + 1) ρ a b (nI 10) = k47 ρ' a (b + 1)) ∧ Rel V' L' N' ρ' t (nw + 1) 0 ∧ ρ' 36 0 = c0 + nI d' ∧ ρ' 39 = ρ 39 ∧ e0 + d' ≤ E26 ρ' := by
    intro n V L N ρ d h h1 h2
    refine ⟨_, L, N, _, d, ?_, fun k47 a b => ?_, h.tick hnw, h1, rfl, h2⟩
    · rw [fc_liveSecond_13, if_pos (show (10 : Int32) ≤ nI 10 by decide)]
      simp only [po_b]
      rw [h.c 228 0 (by decide)]
    · rw [fr_pass_54, if_pos (show (10 : Int32) ≤ nI 10 by decide)]
      simp only [po_b]
  induction n with
  | zero =>
    intro p V L N ρ d h h1 h2 h3 h4
    obtain rfl : p = 10 := by omega
    exact hend 0 V L N ρ d h h3 h4
  | succ n ih =>
    intro p V L N ρ d h h1 h2 h3 h4
    by_cases hp : p = 10
    · subst hp; exact hend (n + 1) V L N ρ d h h3 h4
    · have hp : p < 10 := by omega
      have gp := ng (n := 10) hp (by omega)
      have hcl := nI_clamp (show p < 2 ^ 31 by omega)
      have hle : ¬ (10 : Int32) ≤ nI p := nI_ge (b := 10) (by omega) (by omega)
      rcases h.leg hp with q | ⟨x, hx, q, qa, qp⟩
      · obtain ⟨V', L', N', ρ', d', z1, z2, z3, z4, z5, z6⟩ := ih (p + 1) V L N ρ d (h.next q hp) (by omega) (by omega) h3 h4
        refine ⟨V', L', N', ρ', d', ?_, fun k47 a b => ?_, z3, z4, z5, z6⟩
        · rw [fc_liveSecond_13, if_neg hle, hcl, if_neg gp, h.c 104 9 (by decide), if_pos q]
          simp only [po_b]
          rw [nI_1]
          exact z1
        · rw [fr_pass_54, if_neg hle, hcl, if_neg gp, if_pos q]
          unfold fr_pass_80
          simp only [po_b]
          rw [nI_1]
          exact z2 k47 a b
      · obtain ⟨V1, L1, N1, ρ1, o, y1, y2, y3, y4, y5⟩ := op_lived h ht hx qa qp hp
        have h3' : ∃ d1, nI d1 = (if o = 0 then nI (d + 1) else nI d) ∧ ρ1 36 0 = c0 + nI d1 ∧ e0 + d1 ≤ E26 ρ1 := by
          rcases y4 with ⟨e1, e2, e3⟩ | ⟨e1, e2, e3⟩
          · exact ⟨d, by rw [if_neg (by rw [e1]; decide)], by rw [e2, h3], by omega⟩
          · exact ⟨d + 1, by rw [if_pos e1], by rw [e2, h3, Int32.add_assoc, nI_1], by omega⟩
        obtain ⟨d1, w1, w2, w3⟩ := h3'
        obtain ⟨V', L', N', ρ', d', z1, z2, z3, z4, z5, z6⟩ := ih (p + 1) V1 L1 N1 ρ1 d1 y3 (by omega) (by omega) w2 w3
        have hx80 := h.n4
        refine ⟨V', L', N', ρ', d', ?_, fun k47 a b => ?_, z3, z4, z5.trans y5, z6⟩
        · rw [fc_liveSecond_13, if_neg hle, hcl, if_neg gp, h.c 104 9 (by decide), q, if_neg (pn_m1 (by omega)), y1]
          simp only [po_b]
          rw [w1] at z1
          rw [nI_1, nI_1]
          by_cases e : o = 0
          · rw [if_pos e] at z1 ⊢
            exact z1
          · rw [if_neg e] at z1 ⊢
            exact z1
        · rw [fr_pass_54, if_neg hle, hcl, if_neg gp, q, if_neg (pn_m1 (by omega)), if_neg gp, y2]
          simp only [po_b]
          unfold fr_pass_80
          simp only [po_b]
          rw [nI_1]
          exact z2 k47 a b
theorem pass_loop (ht : t ≤ 512) {m : Nat} (hm : m ≤ 500) (n : Nat) : ∀ (j nw : Nat) (V : Rho) (L : Lst) (N : Cnt) (ρ : Rho), Rel V L N ρ t nw 0 → m ≤ j + n → j ≤ m → nw + (m - j) ≤ 50000 → ∃ V' L' N' ρ' d, fc_pass_48 (n + 1) V L N (nI m) (ρ 36 0) (nI j) = some (.inl ((V', L', N'), ρ' 36 0)) ∧ fr_pass_47 (n + 1) ρ (nI m) (nI j) = some (ρ', ρ' 36 0) ∧ Rel V' L' N' ρ' t (nw + (m - j)) 0 ∧ ρ' 39 = ρ 39 ∧ ρ' 36 0 = ρ 36 0 + nI d ∧ E26 ρ + d ≤ E26 ρ' := by
  have hend : ∀ (n nw : Nat) (V : Rho) (L : Lst) (N : Cnt) (ρ : Rho), Rel V L N ρ t nw 0 → ∃ V' L' N' ρ' d, fc_pass_48 (n + 1) V L N (nI m) (ρ 36 0) (nI m) = some (.inl ((V', L', N'), ρ' 36 0)) ∧ fr_pass_47 (n + 1) ρ (nI m) (nI m) = some (ρ', ρ' 36 0) ∧ Rel V' L' N' ρ' t (nw + (m - m)) 0 ∧ ρ' 39 = ρ 39 ∧ ρ' 36 0 = ρ 36 0 + nI d ∧ E26 ρ + d ≤ E26 ρ' := by
    intro n nw V L N ρ h
    rw [Nat.sub_self, Nat.add_zero]
    refine ⟨V, L, N, ρ, 0, ?_, ?_, h, rfl, by rw [nI_0, Int32.add_zero], by omega⟩
    · rw [fc_pass_48, if_pos (nI_le (Nat.le_refl _) (by omega))]
    · rw [fr_pass_47, if_pos (nI_le (Nat.le_refl _) (by omega))]
  induction n with
  | zero =>
    intro j nw V L N ρ h h1 h2 h3
    obtain rfl : j = m := by omega
    exact hend 0 nw V L N ρ h
  | succ n ih =>
    intro j nw V L N ρ h h1 h2 h3
    by_cases hj : j = m
    · subst hj; exact hend (n + 1) nw V L N ρ h
    · have hj : j < m := by omega
      obtain ⟨V1, L1, N1, ρ1, d1, y1, y2, y3, y4, y5, y6⟩ := live_loop ht (c0 := ρ 36 0) (e0 := E26 ρ) (by omega) 2999 0 V L N ρ 0 h (by omega) (by omega) (by rw [nI_0, Int32.add_zero]) (by omega)
      obtain ⟨V', L', N', ρ', d2, z1, z2, z3, z4, z5, z6⟩ := ih (j + 1) (nw + 1) V1 L1 N1 ρ1 y3 (by omega) (by omega) (by omega)
      refine ⟨V', L', N', ρ', d1 + d2, ?_, ?_, ?_, z4.trans y5, by rw [z5, y4, Int32.add_assoc, nI_add], by omega⟩
      · rw [fc_pass_48, if_neg (nI_ge hj (by omega)), show fc_liveSecond V L N = some ((V1, L1, N1), nI d1) from y1]
        simp only [po_b]
        rw [nI_1, ← y4]
        exact z1
      · rw [fr_pass_47, if_neg (nI_ge hj (by omega))]
        refine (y2 (fr_pass_47 (n + 1)) (nI m) (nI j)).trans ?_
        rw [nI_1]
        exact z2
      · rw [show nw + (m - j) = nw + 1 + (m - (j + 1)) by omega]
        exact z3
end PS
