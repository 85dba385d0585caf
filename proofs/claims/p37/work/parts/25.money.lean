/-! MONEY: slices given back, slices halved -/
section MN
variable {V V' : Rho} {L : Lst} {N : Cnt} {ρ ρ' : Rho} {t nw i k : Nat}
/-- what slices change -/
theorem Rel.sl (h : Rel V L N ρ t nw i) (hV : chg [3, 160, 161, 162, 182] V V') (hr : chg [12, 17, 33, 34, 35, 36] ρ ρ') (r1 : R1 V' ρ') (r7 : R7 V' N ρ') (r8 : R8 V' N ρ') (r14 : R14 N ρ' t) (r16 : R16 N ρ') : Rel V' L N ρ' t nw i :=
  ⟨r1, h.r2.congr (hV.agr (by decide)), h.r3.congr (hr.agr (by decide)), h.r4.congr (hV.agr (by decide)) (hr.agr (by decide)), h.r5.congr (hr.agr (by decide)), h.r6.congr (hr.agr (by decide)), r7, r8, h.r9.congr (hr.agr (by decide)), h.r10.congr (hr.agr (by decide)), h.r11.congr (hV.agr (by decide)) (hr.agr (by decide)), h.r12.congr (hV.agr (by decide)) (hr.agr (by decide)), h.r13.congr (hV.agr (by decide)) (hr.agr (by decide)), r14, h.r15.congr (hr.agr (by decide)), r16, h.r17.congr (hr.agr (by decide))⟩
theorem R14.le (h : R14 N ρ t) {w : Nat} (hw : w < 4) (hk : k < N 4) : fre ρ w + mIn ρ k ≤ 1000000 * t := by
  have a := sumN_ge (f := fre ρ) hw
  have b := sumN_ge (f := mIn ρ) hk
  have c := h.2
  omega
theorem R14.eq (h : R14 N ρ t) {w : Nat} (hw : w < 4) : ρ 12 w = nI (fre ρ w) := by
  obtain ⟨j, hj, e⟩ := nI_of (h.1 w hw)
  unfold fre
  rw [e, nI_clamp hj]
theorem R14.mv (h : R14 N ρ t) {w : Nat} (hw : w < 4) (hk : k < N 4) (hfo : ∀ w', w' < 4 → w' ≠ w → ρ' 12 w' = ρ 12 w') (hmo : ∀ j, j < N 4 → j ≠ k → mIn ρ' j = mIn ρ j) (hpos : ¬ ρ' 12 w < 0) (hsum : fre ρ' w + mIn ρ' k ≤ fre ρ w + mIn ρ k) : R14 N ρ' t := by
  refine ⟨fun w' hw' => ?_, ?_⟩
  · by_cases e : w' = w
    · rw [e]; exact hpos
    · rw [hfo w' hw' e]; exact h.1 w' hw'
  · have a := sumN_at (f := fre ρ) (g := fre ρ') hw (fun w' h1 h2 => by unfold fre; rw [hfo w' h1 h2])
    have b := sumN_at (f := mIn ρ) (g := mIn ρ') hk hmo
    have c := h.2
    omega
/-- some of a slice goes back -/
def gbk (ρ : Rho) (k : Nat) (m : Int32) : Rho := if ρ 33 k = -1 then cs (cs ρ 34 k (ρ 34 k - m)) 12 (ρ 25 k).toNatClampNeg (ρ 12 (ρ 25 k).toNatClampNeg + m * ρ 35 k) else if ρ 33 k < 0 then cs ρ 34 k (ρ 34 k - m) else cs (cs ρ 34 k (ρ 34 k - m)) 17 (ρ 33 k).toNatClampNeg (ρ 17 (ρ 33 k).toNatClampNeg + m)
theorem rg_back {m : Int32} (hk : k < 80) (h25 : vp_in (ρ 25 k) 4) (h33 : ρ 33 k = -2 ∨ ρ 33 k = -1 ∨ vp_in (ρ 33 k) 40) : fr_goesBack ρ (nI k) m = some (gbk ρ k m) := by
  have g1 := ng (n := 80) hk (by omega)
  have g2 : ¬ (ρ 25 k < 0 ∨ 4 ≤ (ρ 25 k).toNatClampNeg) := h25
  unfold fr_goesBack gbk
  rw [nI_clamp (show k < 2 ^ 31 by omega)]
  simp only [po_b, rcs_col (show (25 : Nat) ≠ 34 by decide), rcs_col (show (12 : Nat) ≠ 34 by decide), rcs_col (show (35 : Nat) ≠ 34 by decide), rcs_col (show (17 : Nat) ≠ 34 by decide), g1, g2, if_false]
  by_cases h1 : ρ 33 k = -1
  · rw [if_pos h1, if_pos h1]
  · rw [if_neg h1, if_neg h1]
    by_cases h2 : ρ 33 k < 0
    · rw [if_pos h2, if_pos h2]
    · rw [if_neg h2, if_neg h2]
      have h3 : vp_in (ρ 33 k) 40 := by
        rcases h33 with q | q | q
        · rw [q] at h2; exact absurd (by decide) h2
        · exact absurd q h1
        · exact q
      rw [if_neg h3, if_neg h3]
theorem rg_allBack (hk : k < 80) (h25 : vp_in (ρ 25 k) 4) (h33 : ρ 33 k = -2 ∨ ρ 33 k = -1 ∨ vp_in (ρ 33 k) 40) : fr_allGoesBack ρ (nI k) = some (cs (gbk ρ k (ρ 34 k)) 33 k (-2)) := by
  unfold fr_allGoesBack
  rw [nI_clamp (show k < 2 ^ 31 by omega), if_neg (ng hk (by omega)), rg_back hk h25 h33]
  simp only [po_b]
  rw [if_neg (ng hk (by omega))]
theorem Rel.b40 (h : Rel V L N ρ t nw i) (hk : k < N 4) : ρ 33 k = -2 ∨ ρ 33 k = -1 ∨ vp_in (ρ 33 k) 40 := by
  have := h.r3.2.1.2.1
  rcases (h.r7 k hk).2.1 with q | q | q
  · exact Or.inl q
  · exact Or.inr (Or.inl q)
  · exact Or.inr (Or.inr (vp_mono q this))
theorem Rel.n4 (h : Rel V L N ρ t nw i) : N 4 ≤ 80 := h.r3.2.1.2.2.2
theorem Int32.zmul {x : Int32} : (0 : Int32) * x = 0 := Int32.zero_mul
/-- all of a slice goes back -/
theorem op_back (h : Rel V L N ρ t nw i) (ht : t ≤ 512) (hk : k < N 4) : ∃ V' ρ', fc_giveBack V L N (nI k) = some V' ∧ fr_allGoesBack ρ (nI k) = some ρ' ∧ Rel V' L N ρ' t nw i ∧ chg [3, 160, 182] V V' ∧ chg [12, 17, 33, 34] ρ ρ' ∧ ρ' 34 k = 0 ∧ (∀ j, ρ 34 j = 0 → ρ' 34 j = 0) ∧ ∀ j, j ≠ k → ρ' 34 j = ρ 34 j := by
  have hn4 := h.n4
  have hn0 := h.r3.2.1.2.1
  obtain ⟨q1, q2, q3, q4, q5⟩ := h.r7 k hk
  obtain ⟨a23, a24, a25⟩ := h.r5.2.2.1 k hk
  have hw := vp_lt a25
  have hnw := h.r5.2.2.2.2.2.2.2
  have e182 := h.c 182 12 (by decide)
  have e83 := h.c 83 25 (by decide)
  have e160 := h.c 160 34 (by decide)
  have e1 := h.c 1 18 (by decide)
  have e228 := h.c 228 0 (by decide)
  have hfr := rg_allBack (ρ := ρ) (by omega) a25 (h.b40 hk)
  rw [hfr]
  by_cases hs : ρ 34 k = 0
  · -- nothing is left of it
    have eg : gbk ρ k (ρ 34 k) = ρ := by
      unfold gbk
      rw [Int32.sub_self, cs_same hs, hs, Int32.zero_mul, Int32.add_zero, Int32.add_zero, cs_self, cs_self]
      split
      · rfl
      · split <;> rfl
    have ec : fc_giveBack V L N (nI k) = some V := by
      unfold fc_giveBack fc_Slice_moneyLeft fc_dayOf fc_Bundle_isOver
      rw [nI_clamp (show k < 2 ^ 31 by omega)]
      simp only [po_b]
      have ez : cs V 160 k 0 = V := cs_same (by rw [e160, hs])
      by_cases h1 : V 162 k = -1
      · rw [if_pos h1, if_pos h1]
        simp only [po_b]
        rw [show V 160 k = 0 by rw [e160, hs], Int32.zero_mul, Int32.add_zero, cs_self, ez]
      · rw [if_neg h1]
        rw [show V 160 k = 0 by rw [e160, hs], Int32.add_zero, cs_self, ez]
        split
        · simp only [po_b, if_true]
        · simp only [po_b]
          rw [if_neg (by decide)]
    rw [eg]
    refine ⟨V, _, ec, rfl, h.sl chg.rf (chg.rf.st (by decide)) (h.r1.right (by decide)) (h.r7.at k ?_ (fun j hj hne => ⟨rfl, rfl, rfl, cs_nei hne, rfl, rfl⟩)) (h.r8.congr (fun _ _ => rfl) (fun c hc => rcs_col (by revert c; decide))) (h.r14.mv (w := 0) (by decide) hk (fun _ _ _ => rfl) (fun j _ hne => ?_) (h.r14.1 0 (by decide)) ?_) (h.r16.st2 (by decide)), chg.rf, chg.rf.st (by decide), hs, fun _ z => z, fun _ _ => rfl⟩
    · refine ⟨q1, Or.inl cs_at, q3, q4, Or.inl hs⟩
    · unfold mIn
      rw [cs_nei hne]
      rfl
    · unfold mIn fre
      rw [cs_at, if_neg (by decide)]
      show (ρ 12 0).toNatClampNeg + 0 ≤ _
      omega
  · rcases q5.resolve_left hs with ⟨ha, (⟨m1, m2, m3⟩ | ⟨b1, b2⟩)⟩
    · -- money
      have hle := h.r14.le hw hk
      have hsr : ρ 34 k * ρ 35 k = nI (mIn ρ k) := by
        unfold mIn
        rw [if_pos m1, ← pk_mul, ← pn_eq q1, ← pn_eq q4]
      have hfe := h.r14.eq hw
      have eg : gbk ρ k (ρ 34 k) = cs (cs ρ 34 k 0) 12 (ρ 25 k).toNatClampNeg (nI (fre ρ (ρ 25 k).toNatClampNeg + mIn ρ k)) := by
        unfold gbk
        rw [if_pos m1, Int32.sub_self, hsr, hfe, nI_add]
      have ec : fc_giveBack V L N (nI k) = some (cs (cs V 182 (ρ 25 k).toNatClampNeg (nI (fre ρ (ρ 25 k).toNatClampNeg + mIn ρ k))) 160 k 0) := by
        unfold fc_giveBack fc_Slice_moneyLeft
        rw [nI_clamp (show k < 2 ^ 31 by omega), if_pos m2, if_pos m2]
        simp only [po_b]
        rw [e160, m3, hsr, e83, e182, hfe, nI_add]
      rw [eg]
      refine ⟨_, _, ec, rfl, h.sl ((chg.rf.st (by decide)).st (by decide)) (((chg.rf.st (by decide)).st (by decide)).st (by decide)) ?_ (h.r7.at k ?_ (fun j hj hne => ⟨rfl, rfl, rfl, ?_, ?_, rfl⟩)) (h.r8.congr (fun c hc => ?_) (fun c hc => ?_)) (h.r14.mv (w := (ρ 25 k).toNatClampNeg) hw hk (fun w' _ hne => ?_) (fun j _ hne => ?_) ?_ ?_) (((h.r16.st hk).st2 (by decide)).st2 (by decide)), (chg.rf.st (by decide)).st (by decide), ((chg.rf.st (by decide)).st (by decide)).st (by decide), ?_, fun j z => ?_, fun j hj => ?_⟩
      · rw [cs_comm (c := 182) (d := 160) (by decide)]
        exact ((h.r1.both (c := 160) (d := 34) (by decide)).both (c := 182) (d := 12) (by decide)).right (by decide)
      · refine ⟨?_, Or.inl cs_at, q3, q4, Or.inl ?_⟩
        · show vp_in (cs (cs (cs ρ 34 k 0) 12 _ _) 33 k (-2) 34 k) 101
          rw [rcs_col (by decide), rcs_col (by decide), cs_at]
          exact vp_in_nI (n := 0) (by decide) (by decide)
        · rw [rcs_col (by decide), rcs_col (by decide), cs_at]
      · rw [cs_nei hne, rcs_col (by decide), rcs_col (by decide)]
      · rw [rcs_col (by decide), rcs_col (by decide), cs_nei hne]
      · rw [rcs_col (by revert c; decide), rcs_col (by revert c; decide)]
      · rw [rcs_col (by revert c; decide), rcs_col (by revert c; decide), rcs_col (by revert c; decide)]
      · rw [rcs_col (by decide), cs_nei hne, rcs_col (by decide)]
      · unfold mIn
        rw [cs_nei hne, rcs_col (by decide), rcs_col (by decide), rcs_col (show (34 : Nat) ≠ 33 by decide), rcs_col (show (34 : Nat) ≠ 12 by decide), cs_nei hne]
        rfl
      · rw [rcs_col (by decide), cs_at]
        exact nI_pos (by omega)
      · have y1 : fre (cs (cs (cs ρ 34 k 0) 12 (ρ 25 k).toNatClampNeg (nI (fre ρ (ρ 25 k).toNatClampNeg + mIn ρ k))) 33 k (-2)) (ρ 25 k).toNatClampNeg = fre ρ (ρ 25 k).toNatClampNeg + mIn ρ k := by
          show (cs (cs (cs ρ 34 k 0) 12 _ _) 33 k (-2) 12 _).toNatClampNeg = _
          rw [rcs_col (by decide), cs_at, nI_clamp (by omega)]
        have y2 : mIn (cs (cs (cs ρ 34 k 0) 12 (ρ 25 k).toNatClampNeg (nI (fre ρ (ρ 25 k).toNatClampNeg + mIn ρ k))) 33 k (-2)) k = 0 := by
          unfold mIn
          rw [cs_at]
          exact if_neg (by decide)
        omega
      · rw [rcs_col (by decide), rcs_col (by decide), cs_at]
      · by_cases hjk : j = k
        · rw [hjk, rcs_col (by decide), rcs_col (by decide), cs_at]
        · rw [rcs_col (by decide), rcs_col (by decide), cs_nei hjk]
          exact z
      · rw [rcs_col (by decide), rcs_col (by decide), cs_nei hj]
    · -- a bundle
      have hb := vp_lt b1
      have hb1 : ¬ ρ 33 k = -1 := vp_ne b1
      have hb2 : ¬ ρ 33 k < 0 := fun z => b1 (Or.inl z)
      have eg : gbk ρ k (ρ 34 k) = cs (cs ρ 34 k 0) 17 (ρ 33 k).toNatClampNeg (ρ 17 (ρ 33 k).toNatClampNeg + ρ 34 k) := by
        unfold gbk
        rw [if_neg hb1, if_neg hb2, Int32.sub_self]
      have ec : fc_giveBack V L N (nI k) = some (if ρ 0 0 / 2400 < ρ 18 (ρ 33 k).toNatClampNeg then cs (cs V 3 (ρ 33 k).toNatClampNeg (V 3 (ρ 33 k).toNatClampNeg + ρ 34 k)) 160 k 0 else cs V 160 k 0) := by
        unfold fc_giveBack fc_dayOf fc_Bundle_isOver
        rw [nI_clamp (show k < 2 ^ 31 by omega), b2, if_neg hb1, e228, e1, e160]
        simp only [po_b]
        by_cases hd : ρ 0 0 / 2400 < ρ 18 (ρ 33 k).toNatClampNeg
        · rw [if_pos hd, if_pos hd]
          simp only [po_b, if_true]
        · rw [if_neg hd, if_neg hd]
          simp only [po_b]
          rw [if_neg (by decide)]
      have hmz : mIn ρ k = 0 := by unfold mIn; exact if_neg hb1
      have r7' : ∀ W : Rho, W 161 = V 161 → W 162 = V 162 → R7 W N (cs (cs (cs ρ 34 k 0) 17 (ρ 33 k).toNatClampNeg (ρ 17 (ρ 33 k).toNatClampNeg + ρ 34 k)) 33 k (-2)) := fun W w1 w2 => by
        refine h.r7.at k ⟨?_, Or.inl cs_at, ?_, q4, Or.inl ?_⟩ (fun j hj hne => ⟨by rw [w1], by rw [w2], rfl, ?_, ?_, rfl⟩)
        · show vp_in (cs (cs (cs ρ 34 k 0) 17 _ _) 33 k (-2) 34 k) 101
          rw [rcs_col (by decide), rcs_col (by decide), cs_at]
          exact vp_in_nI (n := 0) (by decide) (by decide)
        · rw [w2]; exact q3
        · rw [rcs_col (by decide), rcs_col (by decide), cs_at]
        · rw [cs_nei hne, rcs_col (by decide), rcs_col (by decide)]
        · rw [rcs_col (by decide), rcs_col (by decide), cs_nei hne]
      have r14' : R14 N (cs (cs (cs ρ 34 k 0) 17 (ρ 33 k).toNatClampNeg (ρ 17 (ρ 33 k).toNatClampNeg + ρ 34 k)) 33 k (-2)) t := by
        refine h.r14.mv (w := 0) (by decide) hk (fun _ _ _ => rfl) (fun j _ hne => ?_) (h.r14.1 0 (by decide)) ?_
        · unfold mIn
          rw [cs_nei hne, rcs_col (by decide), rcs_col (by decide), rcs_col (show (34 : Nat) ≠ 33 by decide), rcs_col (show (34 : Nat) ≠ 17 by decide), cs_nei hne]
          rfl
        · rw [hmz]
          unfold mIn fre
          rw [cs_at, if_neg (by decide)]
          show (ρ 12 0).toNatClampNeg + 0 ≤ _
          omega
      have r16' : R16 N (cs (cs (cs ρ 34 k 0) 17 (ρ 33 k).toNatClampNeg (ρ 17 (ρ 33 k).toNatClampNeg + ρ 34 k)) 33 k (-2)) := ((h.r16.st hk).st2 (by decide)).st2 (by decide)
      have r1' : R1 (cs V 160 k 0) (cs (cs (cs ρ 34 k 0) 17 (ρ 33 k).toNatClampNeg (ρ 17 (ρ 33 k).toNatClampNeg + ρ 34 k)) 33 k (-2)) := ((h.r1.both (c := 160) (d := 34) (by decide)).right (by decide)).right (by decide)
      rw [eg]
      by_cases hd : ρ 0 0 / 2400 < ρ 18 (ρ 33 k).toNatClampNeg
      · rw [if_pos hd] at ec
        have h8 := h.r8 _ hb hd
        refine ⟨_, _, ec, rfl, h.sl ((chg.rf.st (by decide)).st (by decide)) (((chg.rf.st (by decide)).st (by decide)).st (by decide)) ?_ (r7' _ rfl rfl) (fun b hb9 hd9 => ?_) r14' r16', (chg.rf.st (by decide)).st (by decide), ((chg.rf.st (by decide)).st (by decide)).st (by decide), ?_, fun j z => ?_, fun j hj => ?_⟩
        · rw [cs_comm (c := 3) (d := 160) (by decide)]
          exact r1'.left (by decide)
        · rw [rcs_col (by decide), rcs_col (show (17 : Nat) ≠ 33 by decide)]
          by_cases e : b = (ρ 33 k).toNatClampNeg
          · subst e
            rw [cs_at, cs_at, h8]
          · rw [cs_nei e, cs_nei e, rcs_col (by decide)]
            exact h.r8 b hb9 hd9
        · rw [rcs_col (by decide), rcs_col (by decide), cs_at]
        · by_cases hjk : j = k
          · rw [hjk, rcs_col (by decide), rcs_col (by decide), cs_at]
          · rw [rcs_col (by decide), rcs_col (by decide), cs_nei hjk]
            exact z
        · rw [rcs_col (by decide), rcs_col (by decide), cs_nei hj]
      · rw [if_neg hd] at ec
        refine ⟨_, _, ec, rfl, h.sl (chg.rf.st (by decide)) (((chg.rf.st (by decide)).st (by decide)).st (by decide)) r1' (r7' _ rfl rfl) (fun b hb9 hd9 => ?_) r14' r16', chg.rf.st (by decide), ((chg.rf.st (by decide)).st (by decide)).st (by decide), ?_, fun j z => ?_, fun j hj => ?_⟩
        · rw [rcs_col (by decide), rcs_col (show (17 : Nat) ≠ 33 by decide)]
          have hd9 : ρ 0 0 / 2400 < ρ 18 b := hd9
          by_cases e : b = (ρ 33 k).toNatClampNeg
          · subst e; exact absurd hd9 hd
          · rw [cs_nei e, rcs_col (by decide)]
            exact h.r8 b hb9 hd9
        · rw [rcs_col (by decide), rcs_col (by decide), cs_at]
        · by_cases hjk : j = k
          · rw [hjk, rcs_col (by decide), rcs_col (by decide), cs_at]
          · rw [rcs_col (by decide), rcs_col (by decide), cs_nei hjk]
            exact z
        · rw [rcs_col (by decide), rcs_col (by decide), cs_nei hj]
end MN
