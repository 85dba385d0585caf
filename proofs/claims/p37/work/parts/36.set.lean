/-! WHAT IS SET, and money put in or moved -/
section ST
variable {V V' : Rho} {L : Lst} {N : Cnt} {ρ ρ' : Rho} {t nw i k p c : Nat}
theorem out_ok {a lo hi : Int32} (h1 : ¬ a < lo) (h2 : a ≤ hi) : fc_isOutside V L N a lo hi = some 0 := by
  unfold fc_isOutside
  rw [if_neg h1, if_pos h2]
theorem out_bad {a lo hi : Int32} (h : a < lo ∨ ¬ a ≤ hi) : fc_isOutside V L N a lo hi = some 1 := by
  unfold fc_isOutside
  by_cases h1 : a < lo
  · rw [if_pos h1]
  · rw [if_neg h1, if_neg (h.resolve_left h1)]
theorem inr_ok {a lo hi : Int32} (h1 : ¬ a < lo) (h2 : a ≤ hi) : fr_isIn ρ a lo hi = some 1 := by
  rw [rx_isIn, if_neg h1, if_neg (Int32.not_lt.mpr h2)]
theorem inr_bad {a lo hi : Int32} (h : a < lo ∨ ¬ a ≤ hi) : fr_isIn ρ a lo hi = some 0 := by
  rw [rx_isIn]
  by_cases h1 : a < lo
  · rw [if_pos h1]
  · rw [if_neg h1, if_pos (Int32.not_le.mp (h.resolve_left h1))]
theorem rng (a lo hi : Int32) : (¬ a < lo ∧ a ≤ hi) ∨ (a < lo ∨ ¬ a ≤ hi) := by
  by_cases h1 : a < lo
  · exact Or.inr (Or.inl h1)
  · by_cases h2 : a ≤ hi
    · exact Or.inl ⟨h1, h2⟩
    · exact Or.inr (Or.inr h2)
theorem nat_of {a : Int32} {lo hi : Nat} (hh : hi < 2 ^ 31) (h1 : ¬ a < nI lo) (h2 : a ≤ nI hi) (hl : lo < 2 ^ 31 := by decide) : ∃ m, lo ≤ m ∧ m ≤ hi ∧ a = nI m := by
  have e1 := nI_toInt hl
  have e2 := nI_toInt hh
  rw [Int32.lt_iff_toInt_lt, e1] at h1
  rw [Int32.le_iff_toInt_le, e2] at h2
  obtain ⟨m, hm, rfl⟩ := nI_of (x := a) (fun z => by rw [Int32.lt_iff_toInt_lt, Int32.toInt_zero] at z; omega)
  rw [nI_toInt hm] at h1 h2
  exact ⟨m, by omega, by omega, rfl⟩
theorem f_setSlice (h : Rel V L N ρ t nw 0) (x : Int32) : OKR V L N (fc_setSlice V L N x) (fr_setSlice ρ x) cd2 t (E26 ρ) := by
  unfold fc_setSlice fr_setSlice
  rcases rng x 1 100 with ⟨h1, h2⟩ | hb
  · rw [out_ok h1 h2, inr_ok h1 h2]
    simp only [po_b, if_true]
    rw [if_neg (show ¬ (1 : Int32) = 0 by decide)]
    right
    obtain ⟨m, m1, m2, rfl⟩ := nat_of (lo := 1) (hi := 100) (by decide) h1 h2
    refine ⟨cs V 227 0 (nI m), V 227 0, cs (cs ρ 39 0 0) 1 0 (nI m), rfl, ?_, rfl, ⟨nw, ?_⟩, Nat.le_of_eq (E26_eq rfl).symm⟩
    · unfold fr_setSlice_16
      rw [can_ok]
      simp only [po_b]
      rw [h.c 227 1 (by decide)]
      rfl
    · have h0 := h.can 0
      have hV : chg [227] V (cs V 227 0 (nI m)) := chg.rf.st (by decide)
      have hR : chg [1] (cs ρ 39 0 0) (cs (cs ρ 39 0 0) 1 0 (nI m)) := chg.rf.st (by decide)
      refine ⟨h0.r1.both (by decide), h0.r2.congr (hV.agr (by decide)), h0.r3.congr (hR.agr (by decide)), h0.r4.congr (hV.agr (by decide)) (hR.agr (by decide)), ?_, h0.r6.congr (hR.agr (by decide)), h0.r7.congr (hV.agr (by decide)) (hR.agr (by decide)), h0.r8.congr (hV.agr (by decide)) (hR.agr (by decide)), h0.r9.congr (hR.agr (by decide)), h0.r10.congr (hR.agr (by decide)), h0.r11.congr (hV.agr (by decide)) (hR.agr (by decide)), h0.r12.congr (hV.agr (by decide)) (hR.agr (by decide)), h0.r13.congr (hV.agr (by decide)) (hR.agr (by decide)), h0.r14.congr (hR.agr (by decide)), h0.r15.congr (hR.agr (by decide)), h0.r16.congr (hR.agr (by decide)), h0.r17.congr (hR.agr (by decide))⟩
      obtain ⟨w1, w2, w3, w4, w5, w6, w7, w8⟩ := h0.r5
      refine ⟨w1, w2, w3, w4, w5, ?_, w7, w8⟩
      rw [cs_at, nI_clamp (show m < 2 ^ 31 by omega)]
      exact ⟨vp_in_nI (by omega) (by omega), by omega⟩
  · rw [out_bad hb, inr_bad hb]
    simp only [po_b, if_true]
    left
    refine ⟨2, cs ρ 39 0 1, 0, ?_, ?_, cs_at, by decide, h.err 1⟩
    · rw [if_neg (by decide)]
    · unfold fr_setSlice_16
      rw [can_bad (by decide)]
theorem f_setCap (h : Rel V L N ρ t nw 0) (x y : Int32) : OKR V L N (fc_setCap V L N x y) (fr_setCap ρ x y) cd12 t (E26 ρ) := by
  have h0 := h.can 0
  unfold fc_setCap fr_setCap
  rcases ix x (n := 10) (by decide) with ⟨p, hp, rfl⟩ | hx
  · have gp := ng (n := 10) hp (by omega)
    have hclp := nI_clamp (show p < 2 ^ 31 by omega)
    rw [isP_ok hp, phA_ok hp]
    simp only [po_b, Sum.elim_inl]
    rw [if_neg (show ¬ (1 : Int32) = 0 by decide)]
    have good : OKR V L N (fc_setCap_31 V L N y (nI p)) (fr_setCap_27 ρ (nI p) y 0) cd12 t (E26 ρ) := by
      right
      refine ⟨cs V 103 p y, V 103 p, cs (cs ρ 39 0 0) 8 p y, ?_, ?_, rfl, ⟨nw, ?_⟩, Nat.le_of_eq (E26_eq rfl).symm⟩
      · unfold fc_setCap_31
        simp only [po_b]
        rw [hclp]
      · unfold fr_setCap_27
        rw [can_ok, hclp]
        simp only [po_b, gp, if_false]
        rw [h.c 103 8 (by decide)]
        rfl
      · have hV : chg [103] V (cs V 103 p y) := chg.rf.st (by decide)
        have hR : chg [8] (cs ρ 39 0 0) (cs (cs ρ 39 0 0) 8 p y) := chg.rf.st (by decide)
        exact ⟨h0.r1.both (by decide), h0.r2.congr (hV.agr (by decide)), h0.r3.congr (hR.agr (by decide)), h0.r4.congr (hV.agr (by decide)) (hR.agr (by decide)), h0.r5.congr (hR.agr (by decide)), h0.r6.congr (hR.agr (by decide)), h0.r7.congr (hV.agr (by decide)) (hR.agr (by decide)), h0.r8.congr (hV.agr (by decide)) (hR.agr (by decide)), h0.r9.congr (hR.agr (by decide)), h0.r10.congr (hR.agr (by decide)), h0.r11.congr (hV.agr (by decide)) (hR.agr (by decide)), h0.r12.congr (hV.agr (by decide)) (hR.agr (by decide)), h0.r13.congr (hV.agr (by decide)) (hR.agr (by decide)), h0.r14.congr (hR.agr (by decide)), h0.r15.congr (hR.agr (by decide)), h0.r16.congr (hR.agr (by decide)), h0.r17.congr (hR.agr (by decide))⟩
    by_cases hm : y = -1
    · rw [if_pos hm, inr_ok (lo := -1) (hi := 1000000) (by rw [hm]; decide) (by rw [hm]; decide)]
      simp only [po_b]
      rw [if_neg (show ¬ (1 : Int32) = 0 by decide)]
      exact good
    · rw [if_neg hm]
      have e1 : (1000000 : Int32).toInt = 1000000 := by decide
      have em : (-1 : Int32).toInt = -1 := by decide
      rcases rng y 0 1000000 with ⟨h1, h2⟩ | hb
      · rw [out_ok h1 h2, inr_ok (lo := -1) (fun z => by
          rw [Int32.lt_iff_toInt_lt] at h1 z
          rw [Int32.toInt_zero] at h1
          omega) h2]
        simp only [po_b, if_true]
        rw [if_neg (show ¬ (1 : Int32) = 0 by decide)]
        exact good
      · rw [out_bad hb, inr_bad (by
          rcases hb with z | z
          · refine Or.inl ?_
            rw [Int32.lt_iff_toInt_lt] at z ⊢
            rw [Int32.toInt_zero] at z
            have : y.toInt ≠ -1 := fun q => hm (Int32.toInt_inj.mp (q.trans em.symm))
            omega
          · exact Or.inr z)]
        simp only [po_b, if_true]
        left
        refine ⟨2, cs ρ 39 0 2, 0, ?_, ?_, cs_at, by decide, h.err 2⟩
        · rw [if_neg (by decide)]
        · unfold fr_setCap_27
          rw [can_bad (by decide)]
  · rw [isP_bad hx, phA_bad hx]
    simp only [po_b, if_true, Sum.elim_inr]
    left
    refine ⟨1, cs ρ 39 0 1, 0, rfl, ?_, cs_at, by decide, h.err 1⟩
    unfold fr_setCap_27
    rw [can_bad (by decide)]
theorem f_setWallet (h : Rel V L N ρ t nw 0) (x y : Int32) : OKR V L N (fc_setWallet V L N x y) (fr_setWallet ρ x y) cd13 t (E26 ρ) := by
  have h0 := h.can 0
  have bad1 : fr_setWallet_19 ρ x y 0 = some (cs ρ 39 0 1, 0) := by
    unfold fr_setWallet_19 fr_setWallet_44
    rw [if_pos rfl, can_bad (by decide)]
  unfold fc_setWallet fr_setWallet fr_setWallet_18
  rcases ix x (n := 10) (by decide) with ⟨p, hp, rfl⟩ | hx
  · have gp := ng (n := 10) hp (by omega)
    have hclp := nI_clamp (show p < 2 ^ 31 by omega)
    rw [isP_ok hp, phA_ok hp]
    simp only [po_b, Sum.elim_inl]
    rw [if_neg (show ¬ (1 : Int32) = 0 by decide)]
    rcases ix y (n := 4) (by decide) with ⟨w, hw, rfl⟩ | hy
    · rw [isW_ok hw, waA_ok hw]
      simp only [po_b, Sum.elim_inl]
      rw [if_neg (show ¬ (1 : Int32) = 0 by decide), hclp, h.c 104 9 (by decide)]
      unfold fr_setWallet_19 fr_setWallet_44
      rw [if_neg (show ¬ (1 : Int32) = 0 by decide), hclp, if_neg gp]
      by_cases q : ρ 9 p = -1
      · rw [if_pos q, if_pos q, can_ok]
        right
        simp only [gp, if_false, po_b]
        have hwp := (h.r5.2.1 p hp).2
        refine ⟨cs V 102 p (nI w), ρ 7 p, cs (cs ρ 39 0 0) 7 p (nI w), ?_, rfl, rfl, ⟨nw, ?_⟩, Nat.le_of_eq (E26_eq rfl).symm⟩
        · rw [h.c 102 7 (by decide), h.r2 180 (by decide) _ (by rw [show 180 / 20 = 9 by decide, h.r3.1.2.2.2.1]; exact vp_lt hwp), ← pn_eq hwp]
        · have hV : chg [102] V (cs V 102 p (nI w)) := chg.rf.st (by decide)
          have hR : chg [7] (cs ρ 39 0 0) (cs (cs ρ 39 0 0) 7 p (nI w)) := chg.rf.st (by decide)
          refine ⟨h0.r1.both (by decide), h0.r2.congr (hV.agr (by decide)), h0.r3.congr (hR.agr (by decide)), h0.r4.congr (hV.agr (by decide)) (hR.agr (by decide)), ?_, h0.r6.congr (hR.agr (by decide)), h0.r7.congr (hV.agr (by decide)) (hR.agr (by decide)), h0.r8.congr (hV.agr (by decide)) (hR.agr (by decide)), h0.r9.congr (hR.agr (by decide)), h0.r10.congr (hR.agr (by decide)), h0.r11.congr (hV.agr (by decide)) (hR.agr (by decide)), h0.r12.congr (hV.agr (by decide)) (hR.agr (by decide)), h0.r13.congr (hV.agr (by decide)) (hR.agr (by decide)), h0.r14.congr (hR.agr (by decide)), h0.r15.congr (hR.agr (by decide)), h0.r16.congr (hR.agr (by decide)), h0.r17.congr (hR.agr (by decide))⟩
          obtain ⟨w1, w2, w3, w4, w5, w6, w7, w8⟩ := h0.r5
          refine ⟨w1, fun q hq => ⟨(w2 q hq).1, ?_⟩, w3, w4, w5, w6, w7, w8⟩
          by_cases e : q = p
          · subst e
            rw [cs_at]
            exact vp_in_nI hw (by omega)
          · rw [cs_nei e]
            exact (w2 q hq).2
      · rw [if_neg q, if_neg q, can_bad (by decide)]
        exact Or.inl ⟨3, cs ρ 39 0 2, 0, rfl, rfl, cs_at, by decide, h.err 2⟩
    · rw [isW_bad hy, waA_bad hy]
      simp only [po_b, if_true, Sum.elim_inr]
      exact Or.inl ⟨1, cs ρ 39 0 1, 0, rfl, bad1, cs_at, by decide, h.err 1⟩
  · rw [isP_bad hx, phA_bad hx]
    simp only [po_b, if_true, Sum.elim_inr]
    exact Or.inl ⟨1, cs ρ 39 0 1, 0, rfl, bad1, cs_at, by decide, h.err 1⟩
theorem f_setZone (h : Rel V L N ρ t nw 0) (x y : Int32) : OKR V L N (fc_setZone V L N x y) (fr_setZone ρ x y) cd3 t (E26 ρ) := by
  have h0 := h.can 0
  have e20 : ρ 20 0 = nI (N 1) := h.r3.2.2.1.2.1
  have e13 : L 13 0 = iot (N 1) := h.r3.2.2.2.2.1
  have hn1 := h.r3.2.1.2.2.1
  unfold fc_setZone fr_setZone
  rcases ix x (n := 8) (by decide) with ⟨c, hc, rfl⟩ | hx
  · have gc := ng (n := 8) hc (by omega)
    have hclc := nI_clamp (show c < 2 ^ 31 by omega)
    rw [isC_ok hc, ceA_ok hc]
    simp only [po_b, Sum.elim_inl]
    rw [if_neg (show ¬ (1 : Int32) = 0 by decide)]
    rcases ix y (n := 3) (by decide) with ⟨z, hz, rfl⟩ | hy
    · have gz := ng (n := 3) hz (by omega)
      have hclz := nI_clamp (show z < 2 ^ 31 by omega)
      rw [isZ_ok hz, out_ok (nI_pos (by omega)) (show nI z ≤ 2 from nI_le (b := 2) (by omega) (by decide))]
      simp only [po_b, if_true]
      rw [if_neg (show ¬ (1 : Int32) = 0 by decide), e13, iot_len, e20, hclc, hclz, if_neg gz]
      unfold fr_setZone_35
      by_cases h1 : N 1 = 0
      · rw [if_pos h1, if_pos (show nI (N 1) ≤ 0 by rw [h1]; decide), can_ok, if_neg (show ¬ (1 : Int32) = 0 by decide), hclc]
        right
        simp only [gc, if_false, po_b]
        have hzc := (h.r5.1 c hc).1
        refine ⟨cs V 41 c (nI z), ρ 2 c, cs (cs ρ 39 0 0) 2 c (nI z), ?_, rfl, rfl, ⟨nw, ?_⟩, Nat.le_of_eq (E26_eq rfl).symm⟩
        · rw [h.c 41 2 (by decide), h.r2 200 (by decide) _ (by rw [show 200 / 20 = 10 by decide, h.r3.1.2.1]; exact vp_lt hzc), ← pn_eq hzc]
        · have hV : chg [41] V (cs V 41 c (nI z)) := chg.rf.st (by decide)
          have hR : chg [2] (cs ρ 39 0 0) (cs (cs ρ 39 0 0) 2 c (nI z)) := chg.rf.st (by decide)
          have hno : ∀ j, j < N 4 → False := fun j hj => by
            have := vp_lt (h.r5.2.2.1 j hj).2.1
            omega
          refine ⟨h0.r1.both (by decide), h0.r2.congr (hV.agr (by decide)), h0.r3.congr (hR.agr (by decide)), h0.r4.congr (hV.agr (by decide)) (hR.agr (by decide)), ?_, h0.r6.congr (hR.agr (by decide)), h0.r7.congr (hV.agr (by decide)) (hR.agr (by decide)), h0.r8.congr (hV.agr (by decide)) (hR.agr (by decide)), h0.r9.congr (hR.agr (by decide)), h0.r10.congr (hR.agr (by decide)), h0.r11.congr (hV.agr (by decide)) (hR.agr (by decide)), h0.r12.congr (hV.agr (by decide)) (hR.agr (by decide)), ?_, h0.r14.congr (hR.agr (by decide)), h0.r15.congr (hR.agr (by decide)), h0.r16.congr (hR.agr (by decide)), h0.r17.congr (hR.agr (by decide))⟩
          · obtain ⟨w1, w2, w3, w4, w5, w6, w7, w8⟩ := h0.r5
            refine ⟨fun q hq => ⟨?_, (w1 q hq).2⟩, w2, w3, w4, w5, w6, w7, w8⟩
            by_cases e : q = c
            · subst e
              rw [cs_at]
              exact vp_in_nI hz (by omega)
            · rw [cs_nei e]
              exact (w1 q hq).1
          · obtain ⟨F, hF, -⟩ := h0.r13
            exact ⟨F, hF.congr (hV.agr (by decide)), fun j hj => (hno j hj).elim⟩
      · rw [if_neg h1, if_neg (nI_nle (by omega) (by omega)), can_bad (by decide), if_pos rfl]
        exact Or.inl ⟨3, cs ρ 39 0 3, 0, rfl, rfl, cs_at, by decide, h.err 3⟩
    · rw [isZ_bad hy, out_bad (lo := 0) (hi := 2) (hy.imp id (fun q z => by
        have e3 : (2 : Int32).toInt = 2 := by decide
        rw [Int32.le_iff_toInt_le, nI_toInt (by decide)] at q
        rw [Int32.le_iff_toInt_le] at z
        omega))]
      simp only [po_b, if_true]
      rw [if_neg (show ¬ (1 : Int32) = 0 by decide)]
      unfold fr_setZone_35
      rw [can_bad (by decide)]
      exact Or.inl ⟨2, cs ρ 39 0 2, 0, rfl, rfl, cs_at, by decide, h.err 2⟩
  · rw [isC_bad hx, ceA_bad hx]
    simp only [po_b, if_true, Sum.elim_inr]
    unfold fr_setZone_35
    rw [can_bad (by decide)]
    exact Or.inl ⟨1, cs ρ 39 0 1, 0, rfl, rfl, cs_at, by decide, h.err 1⟩
theorem f_setChannels (h : Rel V L N ρ t nw 0) (x y z : Int32) : OKR V L N (fc_setChannels V L N x y z) (fr_setChannels ρ x y z) cd12 t (E26 ρ) := by
  have h0 := h.can 0
  have r23 : ∀ s, fr_setChannels_24 ρ x y z s = (fr_isCell ρ x).bind fun o1 => (if o1 = 0 then some (cs ρ 39 0 1, 0) else (if s = 0 then some (cs ρ 39 0 2, 0) else fr_setChannels_48 ρ x y z 0)) := fun s => by
    unfold fr_setChannels_24 fr_setChannels_48
    rw [can_bad (by decide), can_bad (by decide)]
  have hall : fr_setChannels ρ x y z = fr_setChannels_24 ρ x y z (if (¬ y < 0 ∧ y ≤ 10) ∧ (¬ z < 0 ∧ z ≤ y) then 1 else 0) := by
    unfold fr_setChannels fr_setChannels_23
    rcases rng y 0 10 with ⟨a1, a2⟩ | hb
    · rw [inr_ok a1 a2]
      simp only [po_b]
      rw [if_neg (show ¬ (1 : Int32) = 0 by decide)]
      rcases rng z 0 y with ⟨b1, b2⟩ | hb
      · rw [inr_ok b1 b2, if_pos ⟨⟨a1, a2⟩, ⟨b1, b2⟩⟩]
        simp only [po_b]
        rw [if_neg (show ¬ (1 : Int32) = 0 by decide)]
      · rw [inr_bad hb, if_neg (fun q => hb.elim (fun w => q.2.1 w) (fun w => w q.2.2))]
        simp only [po_b, if_true]
    · rw [inr_bad hb, if_neg (fun q => hb.elim (fun w => q.1.1 w) (fun w => w q.1.2))]
      simp only [po_b, if_true]
  rw [hall, r23]
  unfold fc_setChannels
  rcases ix x (n := 8) (by decide) with ⟨c, hc, rfl⟩ | hx
  · have gc := ng (n := 8) hc (by omega)
    have hclc := nI_clamp (show c < 2 ^ 31 by omega)
    rw [isC_ok hc, ceA_ok hc]
    simp only [po_b, Sum.elim_inl]
    rw [if_neg (show ¬ (1 : Int32) = 0 by decide)]
    by_cases hg : (¬ y < 0 ∧ y ≤ 10) ∧ (¬ z < 0 ∧ z ≤ y)
    · rw [if_pos hg, if_neg (show ¬ (1 : Int32) = 0 by decide), out_ok hg.1.1 hg.1.2]
      simp only [po_b, if_true]
      rw [out_ok hg.2.1 hg.2.2]
      simp only [po_b, if_true]
      obtain ⟨a, -, ha, rfl⟩ := nat_of (lo := 0) (hi := 10) (by decide) hg.1.1 hg.1.2
      obtain ⟨b, -, hb, rfl⟩ := nat_of (lo := 0) (hi := a) (by omega) hg.2.1 hg.2.2
      right
      unfold fr_setChannels_48
      rw [can_ok, hclc, pc_legsIn]
      simp only [po_b, gc, if_false]
      rw [pr_legsIn]
      simp only [po_b]
      have hV : chg [42, 43] V (cs (cs V 42 c (nI a)) 43 c (nI b)) := (chg.rf.st (by decide)).st (by decide)
      have hR : chg [3, 4] (cs ρ 39 0 0) (cs (cs (cs ρ 39 0 0) 3 c (nI a)) 4 c (nI b)) := (chg.rf.st (by decide)).st (by decide)
      have hrel : Rel (cs (cs V 42 c (nI a)) 43 c (nI b)) L N (cs (cs (cs ρ 39 0 0) 3 c (nI a)) 4 c (nI b)) t nw 0 := by
        refine ⟨(h0.r1.both (c := 42) (d := 3) (by decide)).both (by decide), h0.r2.congr (hV.agr (by decide)), h0.r3.congr (hR.agr (by decide)), h0.r4.congr (hV.agr (by decide)) (hR.agr (by decide)), ?_, h0.r6.congr (hR.agr (by decide)), h0.r7.congr (hV.agr (by decide)) (hR.agr (by decide)), h0.r8.congr (hV.agr (by decide)) (hR.agr (by decide)), h0.r9.congr (hR.agr (by decide)), h0.r10.congr (hR.agr (by decide)), h0.r11.congr (hV.agr (by decide)) (hR.agr (by decide)), h0.r12.congr (hV.agr (by decide)) (hR.agr (by decide)), h0.r13.congr (hV.agr (by decide)) (hR.agr (by decide)), h0.r14.congr (hR.agr (by decide)), h0.r15.congr (hR.agr (by decide)), h0.r16.congr (hR.agr (by decide)), h0.r17.congr (hR.agr (by decide))⟩
        obtain ⟨w1, w2, w3, w4, w5, w6, w7, w8⟩ := h0.r5
        refine ⟨fun q hq => ⟨(w1 q hq).1, ?_, ?_⟩, w2, w3, w4, w5, w6, w7, w8⟩
        · rw [rcs_col (by decide)]
          by_cases e : q = c
          · subst e
            rw [cs_at]
            exact vp_in_nI (by omega) (by omega)
          · rw [cs_nei e]
            exact (w1 q hq).2.1
        · by_cases e : q = c
          · subst e
            rw [cs_at]
            exact vp_in_nI (by omega) (by omega)
          · rw [cs_nei e, rcs_col (by decide)]
            exact (w1 q hq).2.2
      refine ⟨_, _, _, rfl, ?_, rfl, ⟨nw, hrel⟩, Nat.le_of_eq (E26_eq rfl).symm⟩
      rw [lg_eq hrel]
    · rw [if_neg hg, if_pos rfl]
      left
      refine ⟨2, cs ρ 39 0 2, 0, ?_, rfl, cs_at, by decide, h.err 2⟩
      rcases rng y 0 10 with ⟨a1, a2⟩ | hb
      · rw [out_ok a1 a2]
        simp only [po_b, if_true]
        rcases rng z 0 y with ⟨b1, b2⟩ | hb
        · exact absurd ⟨⟨a1, a2⟩, ⟨b1, b2⟩⟩ hg
        · rw [out_bad hb]
          simp only [po_b]
          rw [if_neg (by decide)]
      · rw [out_bad hb]
        simp only [po_b]
        rw [if_neg (by decide)]
  · rw [isC_bad hx, ceA_bad hx]
    simp only [po_b, if_true, Sum.elim_inr]
    exact Or.inl ⟨1, cs ρ 39 0 1, 0, rfl, rfl, cs_at, by decide, h.err 1⟩
/-- money of one wallet, or two -/
theorem Rel.mon (h : Rel V L N ρ t nw i) {t' : Nat} (ht : t ≤ t') (hV : chg [182] V V') (hr : chg [12] ρ ρ') (r1 : V' 182 = ρ' 12) (r14 : R14 N ρ' t') : Rel V' L N ρ' t' nw i := by
  have hl : Rel V L N ρ t' nw i := by
    obtain ⟨d, rfl⟩ : ∃ d, t' = t + d := ⟨t' - t, by omega⟩
    clear r14 ht
    induction d with
    | zero => exact h
    | succ d ih => exact ih.later
  refine ⟨fun q hq => ?_, hl.r2.congr (hV.agr (by decide)), hl.r3.congr (hr.agr (by decide)), hl.r4.congr (hV.agr (by decide)) (hr.agr (by decide)), hl.r5.congr (hr.agr (by decide)), hl.r6.congr (hr.agr (by decide)), hl.r7.congr (hV.agr (by decide)) (hr.agr (by decide)), hl.r8.congr (hV.agr (by decide)) (hr.agr (by decide)), hl.r9.congr (hr.agr (by decide)), hl.r10.congr (hr.agr (by decide)), hl.r11.congr (hV.agr (by decide)) (hr.agr (by decide)), hl.r12.congr (hV.agr (by decide)) (hr.agr (by decide)), hl.r13.congr (hV.agr (by decide)) (hr.agr (by decide)), r14, hl.r15.congr (hr.agr (by decide)), hl.r16.congr (hr.agr (by decide)), hl.r17.congr (hr.agr (by decide))⟩
  have hd : ∀ q ∈ eqT, (q.1 = 182 ↔ q.2 = 12) := by decide
  by_cases e : q.1 = 182
  · rw [e, (hd q hq).mp e]
    exact r1
  · rw [hV q.1 (fun z => e (List.mem_singleton.mp z)), hr q.2 (fun z => e ((hd q hq).mpr (List.mem_singleton.mp z)))]
    exact h.1 q hq
theorem f_top (h : Rel V L N ρ t nw 0) (ht : t + 1 ≤ 512) (x y : Int32) : OKR V L N (fc_top V L N x y) (fr_top ρ x y) cd12 (t + 1) (E26 ρ) := by
  have h0 := h.can 0
  unfold fc_top fr_top
  rcases ix x (n := 4) (by decide) with ⟨w, hw, rfl⟩ | hx
  · have gw := ng (n := 4) hw (by omega)
    have hclw := nI_clamp (show w < 2 ^ 31 by omega)
    rw [isW_ok hw, waA_ok hw]
    simp only [po_b, Sum.elim_inl]
    rw [if_neg (show ¬ (1 : Int32) = 0 by decide)]
    rcases rng y 1 1000000 with ⟨h1, h2⟩ | hb
    · rw [out_ok h1 h2, inr_ok h1 h2]
      simp only [po_b, if_true]
      rw [if_neg (show ¬ (1 : Int32) = 0 by decide), hclw]
      obtain ⟨m, m1, m2, rfl⟩ := nat_of (lo := 1) (hi := 1000000) (by decide) h1 h2
      right
      unfold fr_top_27
      rw [can_ok, hclw]
      simp only [po_b, gw, if_false]
      have hfe := h.r14.eq hw
      have hsum := sumN_ge (f := fre ρ) hw
      have hle := h.r14.2
      have ev : ρ 12 w + nI m = nI (fre ρ w + m) := by rw [hfe, nI_add]
      refine ⟨cs V 182 w (nI (fre ρ w + m)), nI (fre ρ w + m), cs (cs ρ 39 0 0) 12 w (nI (fre ρ w + m)), ?_, ?_, rfl, ⟨nw, ?_⟩, Nat.le_of_eq (E26_eq rfl).symm⟩
      · rw [h.c 182 12 (by decide), ev, cs_at]
      · rw [show cs ρ 39 0 0 12 w = ρ 12 w from rfl, ev, cs_at]
      · refine h0.mon (Nat.le_succ t) (chg.rf.st (by decide)) (chg.rf.st (by decide)) (by show cs V 182 w _ 182 = cs (cs ρ 39 0 0) 12 w _ 12; rw [rcs_upd, rcs_upd, h.c 182 12 (by decide)]; rfl) ⟨fun w' hw' => ?_, ?_⟩
        · by_cases e : w' = w
          · subst e; rw [cs_at]; exact nI_pos (by omega)
          · rw [cs_nei e]; exact h.r14.1 w' hw'
        · have hat := sumN_at (f := fre ρ) (g := fre (cs (cs ρ 39 0 0) 12 w (nI (fre ρ w + m)))) hw (fun w' _ hne => by
            show (cs (cs ρ 39 0 0) 12 w (nI (fre ρ w + m)) 12 w').toNatClampNeg = _
            rw [cs_nei hne]; rfl)
          have y1 : fre (cs (cs ρ 39 0 0) 12 w (nI (fre ρ w + m))) w = fre ρ w + m := by
            show (cs (cs ρ 39 0 0) 12 w (nI (fre ρ w + m)) 12 w).toNatClampNeg = _
            rw [cs_at, nI_clamp (by omega)]
          have y2 : sumN (mIn (cs (cs ρ 39 0 0) 12 w (nI (fre ρ w + m)))) (N 4) = sumN (mIn ρ) (N 4) := rfl
          omega
    · rw [out_bad hb, inr_bad hb]
      simp only [po_b, if_true]
      left
      refine ⟨2, cs ρ 39 0 2, 0, ?_, ?_, cs_at, by decide, h.later.err 2⟩
      · rw [if_neg (by decide)]
      · unfold fr_top_27
        rw [can_bad (by decide)]
  · rw [isW_bad hx, waA_bad hx]
    simp only [po_b, if_true, Sum.elim_inr]
    left
    refine ⟨1, cs ρ 39 0 1, 0, rfl, ?_, cs_at, by decide, h.later.err 1⟩
    unfold fr_top_27
    rw [can_bad (by decide)]
theorem f_give (h : Rel V L N ρ t nw 0) (ht : t ≤ 512) (x y z : Int32) : OKR V L N (fc_give V L N x y z) (fr_give ρ x y z) cd3 t (E26 ρ) := by
  have h0 := h.can 0
  have bad1 : fr_give_19 ρ x y z 0 = some (cs ρ 39 0 1, 0) := by
    have r41 : ∀ s, fr_give_41 ρ x y z 0 s = some (cs ρ 39 0 1, 0) := fun s => by
      unfold fr_give_41 fr_give_77
      rw [if_pos rfl, can_bad (by decide)]
    have r40 : fr_give_40 ρ x y z 0 = some (cs ρ 39 0 1, 0) := r41 0
    unfold fr_give_19
    rw [r40, r41, rx_isIn]
    simp only [po_b, ite_self]
  unfold fc_give fr_give fr_give_18
  rcases ix x (n := 4) (by decide) with ⟨a, ha, rfl⟩ | hx
  · have ga := ng (n := 4) ha (by omega)
    have hcla := nI_clamp (show a < 2 ^ 31 by omega)
    rw [isW_ok ha, waA_ok ha]
    simp only [po_b, Sum.elim_inl]
    rw [if_neg (show ¬ (1 : Int32) = 0 by decide)]
    rcases ix y (n := 4) (by decide) with ⟨b, hb, rfl⟩ | hy
    · have gb := ng (n := 4) hb (by omega)
      have hclb := nI_clamp (show b < 2 ^ 31 by omega)
      rw [isW_ok hb, waA_ok hb]
      simp only [po_b, Sum.elim_inl]
      rw [if_neg (show ¬ (1 : Int32) = 0 by decide)]
      have r40 : fr_give_40 ρ (nI a) (nI b) z 1 = some (cs ρ 39 0 2, 0) := by
        unfold fr_give_40 fr_give_41 fr_give_77
        rw [if_neg (show ¬ (1 : Int32) = 0 by decide), if_pos rfl, can_bad (by decide)]
      unfold fr_give_19
      rw [r40]
      by_cases hab : nI a = nI b
      · rw [if_pos hab, if_pos hab]
        exact Or.inl ⟨2, cs ρ 39 0 2, 0, rfl, rfl, cs_at, by decide, h.err 2⟩
      · rw [if_neg hab, if_neg hab]
        have hne : a ≠ b := fun q => hab (by rw [q])
        rcases rng z 1 1000000 with ⟨h1, h2⟩ | hbd
        · rw [out_ok h1 h2, inr_ok h1 h2]
          simp only [po_b, if_true]
          rw [if_neg (show ¬ (1 : Int32) = 0 by decide), hcla, hclb, h.c 182 12 (by decide)]
          obtain ⟨m, m1, m2, rfl⟩ := nat_of (lo := 1) (hi := 1000000) (by decide) h1 h2
          unfold fr_give_41 fr_give_77
          rw [if_neg (show ¬ (1 : Int32) = 0 by decide), if_neg (show ¬ (1 : Int32) = 0 by decide), hcla, if_neg ga]
          have hfa := h.r14.eq ha
          have hfb := h.r14.eq hb
          have hsa := sumN_ge (f := fre ρ) ha
          have hsb := sumN_ge (f := fre ρ) hb
          have hle := h.r14.2
          by_cases hm : m ≤ fre ρ a
          · rw [if_pos (show nI m ≤ ρ 12 a by rw [hfa]; exact nI_le hm (by omega)), if_pos (show nI m ≤ ρ 12 a by rw [hfa]; exact nI_le hm (by omega)), can_ok]
            right
            simp only [po_b, ga, gb, hclb, if_false]
            have e1 : ρ 12 a - nI m = nI (fre ρ a - m) := by rw [hfa, pk_sub hm]
            have e2 : ρ 12 b + nI m = nI (fre ρ b + m) := by rw [hfb, nI_add]
            have f2 : cs V 182 a (nI (fre ρ a - m)) 182 b = ρ 12 b := by rw [cs_nei (fun q => hne q.symm), h.c 182 12 (by decide)]
            have f3 : cs (cs ρ 39 0 0) 12 a (nI (fre ρ a - m)) 12 b = ρ 12 b := by rw [cs_nei (fun q => hne q.symm)]; rfl
            refine ⟨cs (cs V 182 a (nI (fre ρ a - m))) 182 b (nI (fre ρ b + m)), nI (fre ρ a - m), cs (cs (cs ρ 39 0 0) 12 a (nI (fre ρ a - m))) 12 b (nI (fre ρ b + m)), ?_, ?_, rfl, ⟨nw, ?_⟩, Nat.le_of_eq (E26_eq rfl).symm⟩
            · rw [e1, f2, e2, cs_nei hne, cs_at]
            · rw [show cs ρ 39 0 0 12 a = ρ 12 a from rfl, e1, f3, e2, cs_nei hne, cs_at]
            · refine h0.mon (Nat.le_refl t) ((chg.rf.st (by decide)).st (by decide)) ((chg.rf.st (by decide)).st (by decide)) (by show cs (cs V 182 a _) 182 b _ 182 = cs (cs (cs ρ 39 0 0) 12 a _) 12 b _ 12; rw [rcs_upd, rcs_upd, rcs_upd, rcs_upd, h.c 182 12 (by decide)]; rfl) ⟨fun w' hw' => ?_, ?_⟩
              · by_cases e : w' = b
                · subst e; rw [cs_at]; exact nI_pos (by omega)
                · rw [cs_nei e]
                  by_cases e' : w' = a
                  · subst e'; rw [cs_at]; exact nI_pos (by omega)
                  · rw [cs_nei e']; exact h.r14.1 w' hw'
              · have hat1 := sumN_at (f := fre ρ) (g := fre (cs (cs ρ 39 0 0) 12 a (nI (fre ρ a - m)))) ha (fun w' _ hn => by
                  show (cs (cs ρ 39 0 0) 12 a (nI (fre ρ a - m)) 12 w').toNatClampNeg = _
                  rw [cs_nei hn]; rfl)
                have hat2 := sumN_at (f := fre (cs (cs ρ 39 0 0) 12 a (nI (fre ρ a - m)))) (g := fre (cs (cs (cs ρ 39 0 0) 12 a (nI (fre ρ a - m))) 12 b (nI (fre ρ b + m)))) hb (fun w' _ hn => by
                  show (cs (cs (cs ρ 39 0 0) 12 a (nI (fre ρ a - m))) 12 b (nI (fre ρ b + m)) 12 w').toNatClampNeg = _
                  rw [cs_nei hn]; rfl)
                have y1 : fre (cs (cs ρ 39 0 0) 12 a (nI (fre ρ a - m))) a = fre ρ a - m := by
                  show (cs (cs ρ 39 0 0) 12 a (nI (fre ρ a - m)) 12 a).toNatClampNeg = _
                  rw [cs_at, nI_clamp (by omega)]
                have y2 : fre (cs (cs (cs ρ 39 0 0) 12 a (nI (fre ρ a - m))) 12 b (nI (fre ρ b + m))) b = fre ρ b + m := by
                  show (cs (cs (cs ρ 39 0 0) 12 a (nI (fre ρ a - m))) 12 b (nI (fre ρ b + m)) 12 b).toNatClampNeg = _
                  rw [cs_at, nI_clamp (by omega)]
                have y3 : fre (cs (cs ρ 39 0 0) 12 a (nI (fre ρ a - m))) b = fre ρ b := by
                  show (cs (cs ρ 39 0 0) 12 a (nI (fre ρ a - m)) 12 b).toNatClampNeg = _
                  rw [f3]; rfl
                have y4 : sumN (mIn (cs (cs (cs ρ 39 0 0) 12 a (nI (fre ρ a - m))) 12 b (nI (fre ρ b + m)))) (N 4) = sumN (mIn ρ) (N 4) := rfl
                omega
          · rw [if_neg (show ¬ nI m ≤ ρ 12 a by rw [hfa]; exact nI_ge (by omega) (by omega)), if_neg (show ¬ nI m ≤ ρ 12 a by rw [hfa]; exact nI_ge (by omega) (by omega)), can_bad (by decide)]
            exact Or.inl ⟨3, cs ρ 39 0 3, 0, rfl, rfl, cs_at, by decide, h.err 3⟩
        · rw [out_bad hbd, inr_bad hbd]
          simp only [po_b, if_true]
          rw [if_neg (show ¬ (1 : Int32) = 0 by decide)]
          exact Or.inl ⟨2, cs ρ 39 0 2, 0, rfl, rfl, cs_at, by decide, h.err 2⟩
    · rw [isW_bad hy, waA_bad hy]
      simp only [po_b, if_true, Sum.elim_inr]
      exact Or.inl ⟨1, cs ρ 39 0 1, 0, rfl, bad1, cs_at, by decide, h.err 1⟩
  · rw [isW_bad hx, waA_bad hx]
    simp only [po_b, if_true, Sum.elim_inr]
    exact Or.inl ⟨1, cs ρ 39 0 1, 0, rfl, bad1, cs_at, by decide, h.err 1⟩
end ST
