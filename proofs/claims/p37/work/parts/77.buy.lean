/-! THE FACE, told with what stays: a bundle -/
section FB
variable {V V' : Rho} {L L' : Lst} {N N' : Cnt} {ρ ρ' : Rho} {t nw i k p c b z M : Nat} {γ : Nat → Nat → Nat} {ε : Nat → Int32}
theorem buy_keep (h : Rel V L N ρ t nw 0) {w m s : Nat} {a2 a4 a5 : Int32} (hw : w < 4) (hn : N 0 < 40) (hm : m ≤ fre ρ w) (hs : s ≤ 5000) (hfl : fre ρ w ≤ 1000000000) (hJ : PJ ρ γ ε M) : PJ (byR ρ w (N 0) (nI (fre ρ w - m)) a2 (nI s) a4 a5) γ ε (M - m) := by
  have hR : chg [12, 14, 15, 16, 17, 18, 19] ρ (byR ρ w (N 0) (nI (fre ρ w - m)) a2 (nI s) a4 a5) := ((((((chg.rf.st (by decide)).st (by decide)).st (by decide)).st (by decide)).st (by decide)).st (by decide)).st (by decide)
  have e5 : nlg (byR ρ w (N 0) (nI (fre ρ w - m)) a2 (nI s) a4 a5) = nlg ρ := by unfold nlg; rw [hR 22 (by decide)]
  have r12 : ∀ w', byR ρ w (N 0) (nI (fre ρ w - m)) a2 (nI s) a4 a5 12 w' = if w' = w then nI (fre ρ w - m) else ρ 12 w' := fun w' => by
    unfold byR
    simp only [rcs_col, ne_eq, Nat.reduceEqDiff, not_false_eq_true]
    split
    · rename_i e; rw [e, cs_at]
    · rename_i e; rw [cs_nei e]
  have r17 : ∀ b, byR ρ w (N 0) (nI (fre ρ w - m)) a2 (nI s) a4 a5 17 b = if b = N 0 then nI s else ρ 17 b := fun b => by
    unfold byR
    simp only [rcs_col, ne_eq, Nat.reduceEqDiff, not_false_eq_true]
    split
    · rename_i e; rw [e, cs_at]
    · rename_i e; rw [cs_nei e, rcs_col (by decide), rcs_col (by decide), rcs_col (by decide)]
  have e14 : byR ρ w (N 0) (nI (fre ρ w - m)) a2 (nI s) a4 a5 14 0 = nI (N 0 + 1) := by
    unfold byR
    rw [cs_at]
  have hbd : nbd (byR ρ w (N 0) (nI (fre ρ w - m)) a2 (nI s) a4 a5) = N 0 + 1 := by
    unfold nbd
    rw [e14, nI_clamp (by omega)]
  refine ⟨fun j hj => ?_, ?_, fun b hb => ?_⟩
  · rw [e5] at hj
    exact (hJ.1 j hj).congr (fun d hd => by rw [hR d (fun z => by
      simp only [List.mem_cons, List.not_mem_nil, or_false] at hd z
      omega)]) (hR 6 (by decide))
  · obtain ⟨h1, h2, h3⟩ := hJ.2.1
    have e2 : mIn (byR ρ w (N 0) (nI (fre ρ w - m)) a2 (nI s) a4 a5) = mIn ρ := by funext j; unfold mIn; rw [hR 33 (by decide), hR 34 (by decide), hR 35 (by decide)]
    have e3 : spe (byR ρ w (N 0) (nI (fre ρ w - m)) a2 (nI s) a4 a5) = spe ρ := by funext j; unfold spe; rw [hR 13 (by decide)]
    have e4 : cha (byR ρ w (N 0) (nI (fre ρ w - m)) a2 (nI s) a4 a5) = cha ρ := by funext j; unfold cha; rw [hR 28 (by decide)]
    have q := sumN_at (f := fre ρ) (g := fre (byR ρ w (N 0) (nI (fre ρ w - m)) a2 (nI s) a4 a5)) hw (fun j _ hne => by
      show (byR ρ w (N 0) (nI (fre ρ w - m)) a2 (nI s) a4 a5 12 j).toNatClampNeg = _
      rw [r12, if_neg hne]
      rfl)
    have q2 : fre (byR ρ w (N 0) (nI (fre ρ w - m)) a2 (nI s) a4 a5) w = fre ρ w - m := by
      show (byR ρ w (N 0) (nI (fre ρ w - m)) a2 (nI s) a4 a5 12 w).toNatClampNeg = _
      rw [r12, if_pos rfl, nI_clamp (by omega)]
    have q3 := sumN_ge (f := fre ρ) hw
    unfold MQ9
    rw [e2, e3, e4, e5, hR 13 (by decide)]
    exact ⟨by omega, h2, h3⟩
  · rw [hbd] at hb
    rw [e5, r17]
    have ebs : bsl (byR ρ w (N 0) (nI (fre ρ w - m)) a2 (nI s) a4 a5) b = bsl ρ b := by funext j; unfold bsl; rw [hR 33 (by decide), hR 34 (by decide)]
    rw [ebs]
    by_cases e : b = N 0
    · rw [if_pos e, nI_clamp (by omega)]
      have z : sumN (bsl ρ b) (nlg ρ) ≤ nlg ρ * 0 := sumN_le (fun j hj => by
        rw [h.lgs] at hj
        obtain ⟨-, q2, -⟩ := h.r7 j hj
        unfold bsl
        rw [if_neg (fun y => by
          rw [y, e] at q2
          rcases q2 with q | q | q
          · exact absurd q (by
              have := nI_pos (show N 0 < 2 ^ 31 by omega)
              intro z9
              rw [z9] at this
              exact this (by decide))
          · exact pn_m1 (by omega) q
          · exact q (Or.inr (by rw [nI_clamp (by omega)]; exact Nat.le_refl _)))]
        exact Nat.le_refl _)
      exact ⟨nI_pos (by omega), by omega⟩
    · rw [if_neg e]
      exact hJ.2.2 b (by rw [h.bds]; omega)
theorem p_buy (h : Rel V L N ρ t nw 0) (ht : t ≤ 512) {w m s z d r : Nat} (hw : w < 4) (hz1 : 1 ≤ z) (hz7 : z ≤ 7) (hs1 : 1 ≤ s) (hs : s ≤ 5000) (hd1 : 1 ≤ d) (hd : d ≤ 30) (hr : r ≤ 9) (hm : m ≤ 1000000) (hJ : PJ ρ γ ε M) (hP : PA ρ) (hM9 : M ≤ 1000000000) :
    ((fre ρ w < m ∨ N 0 = 40) ∧ fc_buy V L N (nI w) (nI z) (nI s) (nI d) (nI r) (nI m) = some (.inr 3)) ∨ (m ≤ fre ρ w ∧ N 0 < 40 ∧ ∃ V' L' N' ρ', fc_buy V L N (nI w) (nI z) (nI s) (nI d) (nI r) (nI m) = some (.inl ((V', L', N'), nI (N 0))) ∧ Rel V' L' N' ρ' t nw 0 ∧ PJ ρ' γ ε (M - m) ∧ PA ρ' ∧ N' 4 = N 4 ∧ N' 1 = N 1 ∧ N' 0 = N 0 + 1 ∧ ρ' 12 w = nI (fre ρ w - m) ∧ ρ' 17 (N 0) = nI s ∧ ρ' 0 0 / 2400 < ρ' 18 (N 0)) := by
  have hclw := nI_clamp (show w < 2 ^ 31 by omega)
  have gw := ng (n := 4) hw (by omega)
  have hfe := h.r14.eq hw
  have hfl := fre_le hJ.2.1 hw
  have e14 : ρ 14 0 = nI (N 0) := h.r3.2.2.1.1
  have hn0 := h.r3.2.1.2.1
  have hnw := h.r5.2.2.2.2.2.2.2
  have e00 := h.r5.2.2.2.2.2.2.1
  have hpre : fr_buy ρ (nI w) (nI z) (nI s) (nI d) (nI r) (nI m) = if ρ 12 w < nI m then some (cs ρ 39 0 3, 0) else if ρ 14 0 = 40 then some (cs ρ 39 0 3, 0) else fr_buy_107 ρ (nI w) (nI z) (nI s) (nI d) (nI r) (nI m) 0 := by
    have bad3 : fr_buy_107 ρ (nI w) (nI z) (nI s) (nI d) (nI r) (nI m) 3 = some (cs ρ 39 0 3, 0) := by
      unfold fr_buy_107
      rw [can_bad (by decide)]
    unfold fr_buy
    rw [inr_ok (show ¬ nI z < 1 from nI_nlt (b := 1) hz1 (by omega)) (show nI z ≤ 7 from nI_le (b := 7) hz7 (by omega)), inr_ok (show ¬ nI s < 1 from nI_nlt (b := 1) hs1 (by omega)) (show nI s ≤ 5000 from nI_le (b := 5000) hs (by omega)), inr_ok (show ¬ nI d < 1 from nI_nlt (b := 1) hd1 (by omega)) (show nI d ≤ 30 from nI_le (b := 30) hd (by omega)), inr_ok (nI_pos (by omega)) (show nI r ≤ 9 from nI_le (b := 9) hr (by omega)), inr_ok (nI_pos (by omega)) (show nI m ≤ 1000000 from nI_le (b := 1000000) hm (by omega))]
    simp only [po_b]
    rw [if_neg (show ¬ (1 : Int32) = 0 by decide), if_neg (show ¬ (1 : Int32) = 0 by decide), if_neg (show ¬ (1 : Int32) = 0 by decide), if_neg (show ¬ (1 : Int32) = 0 by decide), if_neg (show ¬ (1 : Int32) = 0 by decide)]
    unfold fr_buy_59 fr_buy_102
    rw [isW_ok hw]
    simp only [po_b]
    rw [if_neg (show ¬ (1 : Int32) = 0 by decide), if_neg (show ¬ (1 : Int32) = 0 by decide), hclw, if_neg gw, bad3]
  have no : fr_buy ρ (nI w) (nI z) (nI s) (nI d) (nI r) (nI m) = some (cs ρ 39 0 3, 0) → fc_buy V L N (nI w) (nI z) (nI s) (nI d) (nI r) (nI m) = some (.inr 3) := fun hf => by
    obtain ⟨e, e1, e2⟩ := (f_buy h ht (nI w) (nI z) (nI s) (nI d) (nI r) (nI m)).no hf (by rw [cs_at]; decide)
    rw [cs_at] at e2
    rw [e1, cd3_3 e2]
  by_cases hmm : m ≤ fre ρ w
  · have c1 : ¬ ρ 12 w < nI m := by rw [hfe]; exact nI_nlt hmm (by omega)
    by_cases hn : N 0 < 40
    · refine Or.inr ⟨hmm, hn, ?_⟩
      have c2 : ¬ ρ 14 0 = 40 := by
        rw [e14]
        exact fun z => by
          have := (nI_eq (a := N 0) (b := 40) (by omega) (by omega)).mp z
          omega
      have gn := ng (n := 40) hn (by omega)
      have hcln := nI_clamp (show N 0 < 2 ^ 31 by omega)
      have hf : fr_buy ρ (nI w) (nI z) (nI s) (nI d) (nI r) (nI m) = some (byR (cs ρ 39 0 0) w (N 0) (nI (fre ρ w - m)) (nI z) (nI s) (nI (nw / 2400) + nI d) (nI r), nI (N 0)) := by
        have ev : ρ 12 w - nI m = nI (fre ρ w - m) := by rw [hfe, pk_sub hmm]
        rw [hpre, if_neg c1, if_neg c2]
        unfold fr_buy_107 fr_today
        rw [can_ok, hclw]
        simp only [po_b, gw, if_false, rcs_col, ne_eq, Nat.reduceEqDiff, not_false_eq_true, e14, hcln, gn, cs_at]
        rw [e00, day_eq hnw, ev, nI_1, nI_pred]
        rfl
      obtain ⟨W, w1, w2⟩ := (f_buy h ht (nI w) (nI z) (nI s) (nI d) (nI r) (nI m)).get hf rfl
      have hR : chg [12, 14, 15, 16, 17, 18, 19] (cs ρ 39 0 0) (byR (cs ρ 39 0 0) w (N 0) (nI (fre ρ w - m)) (nI z) (nI s) (nI (nw / 2400) + nI d) (nI r)) := ((((((chg.rf.st (by decide)).st (by decide)).st (by decide)).st (by decide)).st (by decide)).st (by decide)).st (by decide)
      have w3 := w2.at (nw := nw) (by rw [hR 0 (by decide)]; exact e00) hnw
      have k := buy_keep (a2 := nI z) (a4 := nI (nw / 2400) + nI d) (a5 := nI r) (h.can 0) hw hn hmm hs (show fre ρ w ≤ _ by omega) (hJ.can 0)
      have b1 := w3.r3.2.1
      have b2 := w3.r3.2.2.1
      have a1 := h.r3.2.1
      have a2 := h.r3.2.2.1
      have n0 : byR (cs ρ 39 0 0) w (N 0) (nI (fre ρ w - m)) (nI z) (nI s) (nI (nw / 2400) + nI d) (nI r) 14 0 = nI (N 0 + 1) := by
        unfold byR
        rw [cs_at]
      rw [n0, hR 20 (by decide), hR 22 (by decide), show cs ρ 39 0 0 20 = ρ 20 from rfl, show cs ρ 39 0 0 22 = ρ 22 from rfl] at b2
      refine ⟨W.1, W.2.1, W.2.2, _, w1, w3, k, (hP.can 0).congr (hR.agr (by decide)), pn_inj (by omega) (by omega) (b2.2.2.symm.trans a2.2.2), pn_inj (by omega) (by omega) (b2.2.1.symm.trans a2.2.1), pn_inj (by omega) (by omega) b2.1.symm, ?_, ?_, ?_⟩
      · unfold byR
        simp only [rcs_col, ne_eq, Nat.reduceEqDiff, not_false_eq_true]
        exact cs_at
      · unfold byR
        simp only [rcs_col, ne_eq, Nat.reduceEqDiff, not_false_eq_true]
        exact cs_at
      · rw [hR 0 (by decide), show cs ρ 39 0 0 0 0 = ρ 0 0 from rfl, e00, day_eq hnw, show byR (cs ρ 39 0 0) w (N 0) (nI (fre ρ w - m)) (nI z) (nI s) (nI (nw / 2400) + nI d) (nI r) 18 (N 0) = nI (nw / 2400) + nI d by
          unfold byR
          simp only [rcs_col, ne_eq, Nat.reduceEqDiff, not_false_eq_true]
          exact cs_at, nI_add]
        exact nI_lt (by omega) (by omega)
    · refine Or.inl ⟨Or.inr (by omega), no ?_⟩
      rw [hpre, if_neg c1, if_pos (show ρ 14 0 = 40 by rw [e14, show N 0 = 40 by omega]; rfl)]
  · refine Or.inl ⟨Or.inl (by omega), no ?_⟩
    rw [hpre, if_pos (show ρ 12 w < nI m by rw [hfe]; exact nI_lt (by omega) (by omega))]
end FB
