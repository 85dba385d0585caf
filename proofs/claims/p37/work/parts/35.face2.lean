/-! join, leave, move, pass -/
section FB
variable {V V' : Rho} {L : Lst} {N : Cnt} {ρ ρ' : Rho} {t nw i k p c : Nat}
theorem f_join (h : Rel V L N ρ t nw 0) (ht : t ≤ 512) (x y hs : Int32) : OKW V L N (fc_join V L N x y hs) (fr_join ρ x y hs) cd13 t (E26 ρ) := by
  have hn4 := h.n4
  have hn1 := h.r3.2.1.2.2.1
  have e13 : L 13 0 = iot (N 1) := h.r3.2.2.2.2.1
  have e14 : L 14 0 = iot (N 4) := h.r3.2.2.2.2.2
  have e20 : ρ 20 0 = nI (N 1) := h.r3.2.2.1.2.1
  have e22 : ρ 22 0 = nI (N 4) := h.r3.2.2.1.2.2
  have bad1 : fr_join_20 ρ x y hs 0 = some (cs ρ 39 0 1, 0) := by
    unfold fr_join_20 fr_join_81 fr_join_82 fr_join_104
    rw [if_pos rfl, if_pos rfl, can_bad (by decide)]
  unfold fr_join fr_join_19
  rcases ix x (n := 10) (by decide) with ⟨p, hp, rfl⟩ | hx
  · rw [isP_ok hp]
    simp only [po_b]
    rw [if_neg (by decide)]
    rcases ix y (n := N 1) (by omega) with ⟨c, hc, rfl⟩ | hy
    · rw [isCall_ok e20 (by omega) hc]
      simp only [po_b]
      rw [if_neg (by decide)]
      have gp := ng (n := 10) hp (by omega)
      have hclp := nI_clamp (show p < 2 ^ 31 by omega)
      have hclc := nI_clamp (show c < 2 ^ 31 by omega)
      obtain ⟨xa, hxa, hxa2, exa⟩ := pn_of (h.r5.2.1 p hp).1
      obtain ⟨oa, p1, p2, -, -⟩ := h.chan hxa
      have hpar := pr_parties (ρ := ρ) (c := nI c) h.p80
      have hm10 := cntN_le (ptR ρ (nI c)) 10
      have hm4 := h.r15 c hc
      have r77 : fr_join_77 ρ (nI p) (nI c) hs 1 = some (cs ρ 39 0 2, 0) := by
        unfold fr_join_77 fr_join_82 fr_join_104
        rw [if_neg (by decide), if_neg (by decide), can_bad (by decide)]
      have hr : fr_join_20 ρ (nI p) (nI c) hs 1 = if ρ 9 p = -1 ∧ ¬ cntN (ptR ρ (nI c)) 10 = 0 ∧ ¬ cntN (ptR ρ (nI c)) 10 = 4 ∧ ¬ oa < 1 ∧ N 4 < 80 then fr_join_81 ρ (nI p) (nI c) hs 1 else some (cs ρ 39 0 2, 0) := by
        unfold fr_join_20
        rw [if_neg (by decide), r77, hclp, if_neg gp, hpar, if_neg gp, exa, p2, e22]
        simp only [po_b]
        by_cases h1 : ρ 9 p = -1
        · rw [if_pos h1]
          by_cases h2 : cntN (ptR ρ (nI c)) 10 = 0
          · rw [if_pos (show nI (cntN (ptR ρ (nI c)) 10) = 0 by rw [h2]; rfl), if_neg (fun z => z.2.1 h2)]
          · rw [if_neg (nI_ne0 (by omega) (by omega))]
            by_cases h3 : cntN (ptR ρ (nI c)) 10 = 4
            · rw [if_pos (show nI (cntN (ptR ρ (nI c)) 10) = 4 by rw [h3]; rfl), if_neg (fun z => z.2.2.1 h3)]
            · rw [if_neg (show ¬ nI (cntN (ptR ρ (nI c)) 10) = 4 from fun z => h3 ((nI_eq (a := cntN (ptR ρ (nI c)) 10) (b := 4) (by omega) (by omega)).mp z))]
              by_cases h4 : oa < 1
              · rw [if_pos h4, if_pos rfl, if_neg (fun z => z.2.2.2.1 h4)]
              · rw [if_neg h4, if_neg (by decide)]
                by_cases h5 : N 4 < 80
                · rw [if_neg (show ¬ nI (N 4) = 80 from fun z => by
                    have := (nI_eq (a := N 4) (b := 80) (by omega) (by omega)).mp z
                    omega), if_pos ⟨h1, h2, h3, h4, h5⟩]
                · rw [if_pos (show nI (N 4) = 80 by rw [show N 4 = 80 by omega]; rfl), if_neg (fun z => h5 z.2.2.2.2)]
        · rw [if_neg h1, if_neg (fun z => h1 z.1)]
      have hcc : fc_join V L N (nI p) (nI c) hs = if ρ 9 p = -1 ∧ ¬ cntN (ptR ρ (nI c)) 10 = 0 ∧ ¬ cntN (ptR ρ (nI c)) 10 = 4 ∧ ¬ oa < 1 ∧ N 4 < 80 then (fc_openLeg V L N (nI p) (nI c) hs).bind fun o13 => (fc_takeSliceOrCut o13.1.1 o13.1.2.1 o13.1.2.2 o13.2).bind fun o16 => some (.inl ((o16.1, o16.2.1, o16.2.2), (o16.1 80 o13.2.toNatClampNeg))) else some (.inr 3) := by
        unfold fc_join
        rw [phA_ok hp]
        simp only [po_b, Sum.elim_inl]
        rw [caA_ok e13 (by omega) hc]
        simp only [po_b, Sum.elim_inl]
        rw [pc_count (v0 := nI c) (by rw [hclc, h.r10 c hc, List.length_map]; exact Nat.le_trans mem_len (by omega)), hclc, h.cnt hc]
        simp only [po_b]
        rw [hclp, h.c 104 9 (by decide), h.c 101 6 (by decide), exa, p1, e14, iot_len]
        simp only [po_b]
        by_cases h1 : ρ 9 p = -1
        · rw [if_pos h1]
          by_cases h2 : cntN (ptR ρ (nI c)) 10 = 0
          · rw [if_pos (show nI (cntN (ptR ρ (nI c)) 10) = 0 by rw [h2]; rfl), if_neg (fun z => z.2.1 h2)]
          · rw [if_neg (nI_ne0 (by omega) (by omega))]
            by_cases h3 : cntN (ptR ρ (nI c)) 10 = 4
            · rw [if_neg (show ¬ nI (cntN (ptR ρ (nI c)) 10) < 4 by rw [h3]; decide), if_neg (fun z => z.2.2.1 h3)]
            · rw [if_pos (show nI (cntN (ptR ρ (nI c)) 10) < 4 from nI_lt (b := 4) (by omega) (by omega))]
              by_cases h4 : oa < 1
              · rw [if_pos h4, if_neg (fun z => z.2.2.2.1 h4)]
              · rw [if_neg h4]
                by_cases h5 : N 4 < 80
                · rw [if_pos (show nI (N 4) < 80 from nI_lt (b := 80) h5 (by omega)), if_pos ⟨h1, h2, h3, h4, h5⟩]
                · rw [if_neg (show ¬ nI (N 4) < 80 from nI_nlt (b := 80) (by omega) (by omega)), if_neg (fun z => h5 z.2.2.2.2)]
        · rw [if_neg h1, if_neg (fun z => h1 z.1)]
      rw [hr, hcc]
      by_cases hg : ρ 9 p = -1 ∧ ¬ cntN (ptR ρ (nI c)) 10 = 0 ∧ ¬ cntN (ptR ρ (nI c)) 10 = 4 ∧ ¬ oa < 1 ∧ N 4 < 80
      · rw [if_pos hg, if_pos hg]
        obtain ⟨h1, h2, h3, h4, h5⟩ := hg
        have h0 := h.can 0
        obtain ⟨hh, hhh, hhh2, ehh⟩ := pn_of (h.r5.2.2.2.1 c hc)
        have hw : vp_in (if hs = 0 then ρ 7 p else ρ 7 hh) 4 := by
          split
          · exact (h.r5.2.1 p hp).2
          · exact (h.r5.2.1 hh hhh).2
        obtain ⟨V1, L1, N1, ρ1, a1, a2, a3, a4, a5, a6, a7, a8, a9⟩ := op_open h0 ht hp h1 hc h5 hw (by show cntN (ptR ρ (nI c)) 10 ≤ 3; omega)
        obtain ⟨V2, L2, N2, ρ2, b1, b2, b3, b4, b5, b6, bE⟩ := op_cut a3 ht (k := N 4) (by omega) (by rw [a4 26 (by decide)]; exact h.r16 26 (by decide) _ (Nat.le_refl _)) (by rw [a4 34 (by decide)]; exact h.r16 34 (by decide) _ (Nat.le_refl _))
        have hcl4 := nI_clamp (show N 4 < 2 ^ 31 by omega)
        right
        refine ⟨(V2, L2, N2), nI (N 4), ρ2, ?_, ?_, by rw [b6, a4 39 (by decide), cs_at], ⟨nw, b3⟩, by rw [E26_eq (a4 26 (by decide))] at bE; exact bE⟩
        · have ho : fc_openLeg V L N (nI p) (nI c) hs = some ((V1, L1, N1), nI (N 4)) := by
            unfold fc_openLeg
            rw [hclp, hclc, h.c 102 7 (by decide), h.c 21 21 (by decide), ehh, nI_clamp hhh2]
            by_cases e : hs = 0
            · rw [if_pos e] at a1 ⊢; exact a1
            · rw [if_neg e] at a1 ⊢; exact a1
          rw [ho]
          simp only [po_b]
          rw [b1]
          simp only [po_b]
          rw [hcl4, b3.r2 80 (by decide) (N 4) (by show N 4 < N2 4; rw [b5 4 (by decide)]; omega)]
        · have h133 : ∀ z, z < 10 → ρ 7 z = (if hs = 0 then ρ 7 p else ρ 7 hh) → fr_join_133 (cs ρ 39 0 0) (nI p) (nI c) (nI z) = some (ρ2, nI (N 4)) := fun z hz e => by
            unfold fr_join_133
            rw [nI_clamp (show z < 2 ^ 31 by omega), if_neg (ng (n := 10) hz (by omega)), show cs ρ 39 0 0 7 z = ρ 7 z from rfl, e, a2]
            simp only [po_b]
            rw [b2]
            simp only [po_b]
          unfold fr_join_81 fr_join_82
          rw [if_neg (by decide), if_pos rfl]
          unfold fr_join_104
          rw [can_ok, hclc]
          dsimp only
          rw [show cs ρ 39 0 0 21 c = nI hh from ehh]
          have gc := ng (n := 40) (show c < 40 by omega) (by omega)
          simp only [gc, if_false]
          by_cases e : hs = 0
          · rw [if_pos e]
            exact h133 p hp (by rw [if_pos e])
          · rw [if_neg e]
            exact h133 hh hhh (by rw [if_neg e])
      · rw [if_neg hg, if_neg hg]
        exact Or.inl ⟨3, cs ρ 39 0 2, 0, rfl, rfl, cs_at, by decide, h.err 2⟩
    · rw [isCall_bad e20 (by omega) hy]
      simp only [po_b, if_true]
      left
      refine ⟨1, cs ρ 39 0 1, 0, ?_, bad1, cs_at, by decide, h.err 1⟩
      unfold fc_join
      rw [phA_ok hp]
      simp only [po_b, Sum.elim_inl]
      rw [caA_bad e13 hy]
      simp only [po_b, Sum.elim_inr]
  · rw [isP_bad hx]
    simp only [po_b, if_true]
    left
    refine ⟨1, cs ρ 39 0 1, 0, ?_, bad1, cs_at, by decide, h.err 1⟩
    unfold fc_join
    rw [phA_bad hx]
    simp only [po_b, Sum.elim_inr]
theorem f_leave (h : Rel V L N ρ t nw 0) (ht : t ≤ 512) (x : Int32) : OKW V L N (fc_leave V L N x) (fr_leave ρ x) cd13 t (E26 ρ) := by
  have hn4 := h.n4
  unfold fr_leave
  rcases ix x (n := 10) (by decide) with ⟨p, hp, rfl⟩ | hx
  · have gp := ng (n := 10) hp (by omega)
    have hclp := nI_clamp (show p < 2 ^ 31 by omega)
    rw [isP_ok hp]
    simp only [po_b]
    rw [if_neg (by decide), hclp, if_neg gp]
    unfold fc_leave
    rw [phA_ok hp]
    simp only [po_b, Sum.elim_inl]
    rw [hclp, h.c 104 9 (by decide)]
    rcases h.leg hp with q | ⟨k, hk, q, qa, qp⟩
    · rw [if_pos q, if_pos q]
      left
      refine ⟨3, cs ρ 39 0 2, 0, rfl, ?_, cs_at, by decide, h.err 2⟩
      unfold fr_leave_29
      rw [can_bad (by decide)]
    · rw [q, if_neg (pn_m1 (by omega)), if_neg (pn_m1 (by omega))]
      have gk := ng (n := 80) (show k < 80 by omega) (by omega)
      have hclk := nI_clamp (show k < 2 ^ 31 by omega)
      have h0 := h.can 0
      obtain ⟨V1, L1, N1, ρ1, a1, a2, a3, a4, a5, a6, a7, a8, aE⟩ := op_close h0 ht hk qa (st := 1) (by decide)
      rw [show cs ρ 39 0 0 23 k = nI p from qp, hclp] at a2
      have hk1 : k < N1 4 := by rw [a8 4 (by decide)]; exact hk
      obtain ⟨c, hc, hc2, ec⟩ := pn_of (a3.r5.2.2.1 k hk1).2.1
      right
      have hcnt := a3.cnt hc
      refine ⟨(V1, L1, N1), nI (cntN (ptR ρ1 (nI c)) 10), ρ1, ?_, ?_, by rw [a4 39 (by decide), cs_at], ⟨nw, a3⟩, Nat.le_trans (Nat.le_succ _) aE⟩
      · rw [a1]
        simp only [po_b]
        rw [hclk, a3.c 82 24 (by decide), ec, pc_count (v0 := nI c) (by rw [nI_clamp hc2, a3.r10 c hc, List.length_map]; exact Nat.le_trans mem_len (by have := a3.n4; omega)), nI_clamp hc2, hcnt]
        simp only [po_b]
      · unfold fr_leave_29
        rw [can_ok, hclp]
        simp only [po_b, gp, if_false]
        rw [show cs ρ 39 0 0 9 p = nI k from q, show cs ρ 39 0 0 6 p = ρ 6 p from rfl]
        rw [show cs ρ 39 0 0 6 p = ρ 6 p from rfl] at a2
        rw [a2]
        simp only [po_b]
        rw [hclk, if_neg gk, ec, pr_parties a3.p80]
        simp only [po_b]
  · rw [isP_bad hx]
    simp only [po_b, if_true]
    left
    refine ⟨1, cs ρ 39 0 1, 0, ?_, ?_, cs_at, by decide, h.err 1⟩
    · unfold fc_leave
      rw [phA_bad hx]
      simp only [po_b, Sum.elim_inr]
    · unfold fr_leave_29
      rw [can_bad (by decide)]
/-- a phone without a leg comes to another cell -/
theorem op_cell (h : Rel V L N ρ t nw 0) (hp : p < 10) (h9 : ρ 9 p = -1) (hc : c < 8) : Rel (cs V 101 p (nI c)) L N (cs ρ 6 p (nI c)) t nw 0 := by
  have hn4 := h.n4
  have hV : chg [101] V (cs V 101 p (nI c)) := chg.rf.st (by decide)
  have hR : chg [6] ρ (cs ρ 6 p (nI c)) := chg.rf.st (by decide)
  refine ⟨h.r1.both (by decide), h.r2.congr (hV.agr (by decide)), h.r3.congr (hR.agr (by decide)), h.r4.congr (hV.agr (by decide)) (hR.agr (by decide)), ?_, h.r6.congr (hR.agr (by decide)), h.r7.congr (hV.agr (by decide)) (hR.agr (by decide)), h.r8.congr (hV.agr (by decide)) (hR.agr (by decide)), h.r9.congr (hR.agr (by decide)), h.r10.congr (hR.agr (by decide)), h.r11.congr (hV.agr (by decide)) (hR.agr (by decide)), h.r12.congr (hV.agr (by decide)) (hR.agr (by decide)), ?_, h.r14.congr (hR.agr (by decide)), h.r15.congr (hR.agr (by decide)), h.r16.congr (hR.agr (by decide)), h.r17.congr (hR.agr (by decide))⟩
  · obtain ⟨w1, w2, w3, w4, w5, w6, w7, w8⟩ := h.r5
    refine ⟨w1, fun q hq => ⟨?_, (w2 q hq).2⟩, w3, w4, w5, w6, w7, w8⟩
    by_cases e : q = p
    · subst e
      rw [cs_at]
      exact vp_in_nI hc (by omega)
    · rw [cs_nei e]
      exact (w2 q hq).1
  · obtain ⟨F, hF, hk13⟩ := h.r13
    refine ⟨F, hF.congr (hV.agr (by decide)), fun j hj => ?_⟩
    obtain ⟨a, b, es, x, c1, c2, c3⟩ := hk13 j hj
    refine ⟨evok_agr (hV.agr (by decide)) a, ?_, es, x, c1, fun q => ?_, c3⟩
    · rw [evs_agr (hV.agr (by decide))]
      exact b
    · refine ⟨(c2 q).1, ?_⟩
      obtain ⟨y, hy, hy2, ey⟩ := pn_of (h.r5.2.2.1 j hj).1
      have e1 := h.r6.2 j hj q
      have e2 := (c2 q).2
      rw [ey, nI_clamp hy2] at e1 e2
      show V 62 x.toNatClampNeg = cs ρ 6 p (nI c) 6 (ρ 23 j).toNatClampNeg
      rw [ey, nI_clamp hy2, cs_nei (fun z => ?_)]
      · exact e2
      · rw [z, h9] at e1
        exact pn_m1 (k := j) (by omega) e1.symm
/-- a leg comes to another cell -/
theorem op_move (h : Rel V L N ρ t nw 0) (ht : t + 1 ≤ 512) (hk : k < N 4) (ha : ρ 26 k = 0) (ep : ρ 23 k = nI p) (hp : p < 10) (hc : c < 8) : ∃ V' L' N', fc_Leg_keepEvent V L N (nI k) 1 (nI nw) (nI c) = some (V', L', N') ∧ V' 104 = V 104 ∧ Rel (cs V' 101 p (nI c)) L' N' (cs (cs ρ 6 p (nI c)) 31 k ((trn (ρ 31 k) + 31 * nI nw) ^^^ (8 * 1 + nI c))) (t + 1) nw 0 := by
  have hn4 := h.n4
  have hnw := h.r5.2.2.2.2.2.2.2
  have hn3 := h.r12.n3 hn4 (by omega)
  have hlen := (h.r12.1 k hk).2.1
  rw [if_pos ha] at hlen
  have hR : chg [6, 31] ρ (cs (cs ρ 6 p (nI c)) 31 k ((trn (ρ 31 k) + 31 * nI nw) ^^^ (8 * 1 + nI c))) := (chg.rf.st (by decide)).st (by decide)
  have hV : chg [60, 61, 62, 101] V (cs (evV V N 1 (nI nw) (nI c)) 101 p (nI c)) := (evV_chg.sub (by decide)).st (by decide)
  have hVe : agr [41, 60, 61, 62] (evV V N 1 (nI nw) (nI c)) (cs (evV V N 1 (nI nw) (nI c)) 101 p (nI c)) := fun d hd => rcs_col (by revert d; decide)
  have hleg : ∀ j, j < N 4 → ρ 26 j = 0 → j ≠ k → (ρ 23 j).toNatClampNeg ≠ p := fun j hj hj26 hne z => by
    obtain ⟨y, hy, hy2, ey⟩ := pn_of (h.r5.2.2.1 j hj).1
    rw [ey, nI_clamp hy2] at z
    subst z
    have a1 := h.r6.2 j hj hj26
    have a2 := h.r6.2 k hk ha
    rw [ey, nI_clamp hy2] at a1
    rw [ep, nI_clamp hy2] at a2
    exact hne (pn_inj (by omega) (by omega) (a1.symm.trans a2))
  have hcl := nI_clamp (show p < 2 ^ 31 by omega)
  have hclc := nI_clamp (show c < 2 ^ 31 by omega)
  have h1 := h.later
  refine ⟨_, _, _, keep_eq (by omega) (by omega) hn3, rfl, ⟨?_, (h.r2.congr (hV.agr (by decide))).up (by decide), h.r3.congr (hR.agr (by decide)), h.r4.congr (hV.agr (by decide)) (hR.agr (by decide)), ?_, h.r6.congr (hR.agr (by decide)), h.r7.congr (hV.agr (by decide)) (hR.agr (by decide)), h.r8.congr (hV.agr (by decide)) (hR.agr (by decide)), h.r9.congr (hR.agr (by decide)), h.r10.congr (hR.agr (by decide)), h.r11.congr (hV.agr (by decide)) (hR.agr (by decide)), ?_, ?_, h1.r14.congr (hR.agr (by decide)), h.r15.congr (hR.agr (by decide)), h.r16.congr (hR.agr (by decide)), h.r17.congr (hR.agr (by decide))⟩⟩
  · unfold evV
    exact (((h.r1.left (by decide)).left (by decide)).left (by decide)).both (c := 101) (d := 6) (by decide) |>.right (by decide)
  · obtain ⟨w1, w2, w3, w4, w5, w6, w7, w8⟩ := h.r5
    refine ⟨w1, fun q hq => ⟨?_, (w2 q hq).2⟩, w3, w4, w5, w6, w7, w8⟩
    rw [rcs_col (show (6 : Nat) ≠ 31 by decide)]
    by_cases e : q = p
    · subst e
      rw [cs_at]
      exact vp_in_nI hc (by omega)
    · rw [cs_nei e]
      exact (w2 q hq).1
  · refine (h.r12.ev (k := k) (t' := t + 1) (ρ' := cs (cs ρ 6 p (nI c)) 31 k ((trn (ρ 31 k) + 31 * nI nw) ^^^ (8 * 1 + nI c))) (a := 1) (b := nI nw) (c := nI c) hk hn3 (vp_in_nI hc (by omega)) (fun _ _ => rfl) cs_at (fun j hj => by rw [cs_nei hj]; rfl) (fun _ _ => rfl) (by omega) ?_).congr (fun d hd => hVe d (by revert d; decide)) (fun _ _ => rfl)
    show _ ≤ t + 1 + 1 + (if ρ 26 k = 0 then 0 else 1)
    omega
  · obtain ⟨F, hF, hk13⟩ := h1.r13
    refine ⟨F, hF.congr (hV.agr (by decide)), fun j hj => ?_⟩
    refine R13k.congr (V := evV V N 1 (nI nw) (nI c)) (ρ := cs (cs ρ 6 p (nI c)) 31 k ((trn (ρ 31 k) + 31 * nI nw) ^^^ (8 * 1 + nI c))) ?_ hVe ⟨rfl, rfl, rfl, rfl, rfl, rfl⟩
    by_cases e : j = k
    · subst e
      obtain ⟨w1, w2, es, x, w3, w4, w5⟩ := hk13 j hk
      have hnew : (nI (N 3)).toNatClampNeg = N 3 := nI_clamp (by omega)
      have hold : ∀ x ∈ L 18 j, evV V N 1 (nI nw) (nI c) 60 x.toNatClampNeg = V 60 x.toNatClampNeg ∧ evV V N 1 (nI nw) (nI c) 61 x.toNatClampNeg = V 61 x.toNatClampNeg ∧ evV V N 1 (nI nw) (nI c) 62 x.toNatClampNeg = V 62 x.toNatClampNeg := fun x hx => by
        have := vp_lt ((h.r12.1 j hk).1 x hx).1
        exact ⟨evV_old this _, evV_old this _, evV_old this _⟩
      obtain ⟨u1, u2⟩ := h.r11 j hk
      have u3 := (u2 ha).2
      rw [if_neg (Nat.not_lt_zero _), Nat.add_zero] at u3
      have hU : (ρ 32 j).toNatClampNeg = nw := by rw [u3, nI_clamp (by omega)]
      have hz : vp_in (V 41 c) 3 := by
        rw [h.c 41 2 (by decide)]
        exact (h.r5.1 c hc).1
      rw [hU] at w1 w2
      have v41 : evV V N 1 (nI nw) (nI c) 41 = V 41 := rfl
      show R13k (evV V N 1 (nI nw) (nI c)) (evL L N j) _ F j
      unfold R13k
      rw [show cs (cs ρ 6 p (nI c)) 31 j ((trn (ρ 31 j) + 31 * nI nw) ^^^ (8 * 1 + nI c)) 32 j = ρ 32 j from rfl, show cs (cs ρ 6 p (nI c)) 31 j ((trn (ρ 31 j) + 31 * nI nw) ^^^ (8 * 1 + nI c)) 28 j = ρ 28 j from rfl, show cs (cs ρ 6 p (nI c)) 31 j ((trn (ρ 31 j) + 31 * nI nw) ^^^ (8 * 1 + nI c)) 29 j = ρ 29 j from rfl, show cs (cs ρ 6 p (nI c)) 31 j ((trn (ρ 31 j) + 31 * nI nw) ^^^ (8 * 1 + nI c)) 26 j = ρ 26 j from rfl, show cs (cs ρ 6 p (nI c)) 31 j ((trn (ρ 31 j) + 31 * nI nw) ^^^ (8 * 1 + nI c)) 23 j = ρ 23 j from rfl, hU, evL_k]
      refine ⟨?_, ?_, L 18 j, nI (N 3), rfl, fun _ => ?_, fun q => absurd ha q⟩
      · refine evok_app (U' := nw) (evok_V (V := V) (fun _ => rfl) hold w1) (by rw [hnew]; exact evV_new.2.1) (Nat.le_refl _) (by omega) ?_
        rw [hnew, evV_new.2.2, v41, hclc]
        exact hz
      · rw [evs_app, hnew, evV_new.1, if_neg (by decide), evV_new.2.1, nI_clamp (show nw < 2 ^ 31 by omega), Int32.sub_self, Int32.add_zero, evs_V (V := V) (V' := evV V N 1 (nI nw) (nI c)) (fun _ => rfl) hold]
        exact w2
      · rw [hnew, evV_new.1, evV_new.2.2, ep, hcl, rcs_col (by decide), cs_at]
        exact ⟨by decide, rfl⟩
    · refine R13.old (ρ := ρ) h1.r12 hj (hk13 j hj) e ⟨rfl, rfl, rfl, rfl, rfl, fun q => ?_⟩
      rw [rcs_col (by decide), cs_nei (hleg j hj q e)]
theorem nbr : ∀ a, a < 8 → ∀ b, b < 8 → (((nI a + 1) - (nI a + 1) / 8 * 8 = nI b ∨ (nI b + 1) - (nI b + 1) / 8 * 8 = nI a) ↔ ((if 0 ≤ (nI a - nI b) then (nI a - nI b) else 0 - (nI a - nI b)) = 1 ∨ (if 0 ≤ (nI a - nI b) then (nI a - nI b) else 0 - (nI a - nI b)) = 7)) := by decide +kernel
theorem f_move (h : Rel V L N ρ t nw 0) (ht : t + 1 ≤ 512) (x y : Int32) : OKW V L N (fc_move V L N x y) (fr_move ρ x y) cd1 (t + 1) (E26 ρ) := by
  have hn4 := h.n4
  have h1 := h.later
  have bad1 : fr_move_20 ρ x y 1 = some (cs ρ 39 0 1, 0) := by
    unfold fr_move_20
    rw [can_bad (by decide)]
  unfold fr_move fr_move_19
  rcases ix x (n := 10) (by decide) with ⟨p, hp, rfl⟩ | hx
  · rw [isP_ok hp]
    simp only [po_b]
    rw [if_neg (by decide)]
    rcases ix y (n := 8) (by decide) with ⟨c, hc, rfl⟩ | hy
    · rw [isC_ok hc]
      simp only [po_b]
      rw [if_neg (by decide)]
      right
      have gp := ng (n := 10) hp (by omega)
      have gc := ng (n := 8) hc (by omega)
      have hclp := nI_clamp (show p < 2 ^ 31 by omega)
      have hclc := nI_clamp (show c < 2 ^ 31 by omega)
      obtain ⟨b, hb, hb2, eb⟩ := pn_of (h.r5.2.1 p hp).1
      have h0 := h.can 0
      have h01 := h1.can 0
      unfold fr_move_20
      rw [can_ok, hclp]
      simp only [po_b, gp, if_false]
      unfold fc_move
      rw [phA_ok hp]
      simp only [po_b, Sum.elim_inl]
      rw [ceA_ok hc]
      simp only [po_b, Sum.elim_inl]
      rw [hclp, h.c 104 9 (by decide), h.c 101 6 (by decide), show cs ρ 39 0 0 6 p = ρ 6 p from rfl, show cs ρ 39 0 0 9 p = ρ 9 p from rfl, eb]
      by_cases hbc : b = c
      · subst hbc
        rw [if_pos rfl, if_pos rfl]
        by_cases q : ρ 9 p = -1
        · rw [if_pos q, if_pos q]
          exact ⟨(V, L, N), 0, cs ρ 39 0 0, rfl, rfl, cs_at, ⟨nw, h01⟩, Nat.le_of_eq (E26_eq rfl).symm⟩
        · rw [if_neg q, if_neg q]
          exact ⟨(V, L, N), 1, cs ρ 39 0 0, rfl, rfl, cs_at, ⟨nw, h01⟩, Nat.le_of_eq (E26_eq rfl).symm⟩
      · have hbc1 : ¬ nI c = nI b := fun z => hbc ((nI_eq (by omega) (by omega)).mp z.symm)
        have hbc2 : ¬ nI b = nI c := fun z => hbc1 z.symm
        rw [if_neg hbc1, if_neg hbc2]
        have c92 : ∀ (W : Rho) (L' : Lst) (N' : Cnt), fc_move_92 W L' N' (nI p) (nI c) = some (.inl ((cs W 101 p (nI c), L', N'), if W 104 p = -1 then 0 else 1)) := fun W L' N' => by
          unfold fc_move_92
          simp only [po_b]
          rw [hclp, rcs_col (by decide)]
          split <;> rfl
        rcases h.leg hp with q | ⟨k, hk, q, qa, qp⟩
        · -- without a leg
          rw [if_pos q, c92, h.c 104 9 (by decide), if_pos q]
          have hrel := op_cell h01 hp (c := c) q hc
          have r87 : ∀ s, fr_move_87 (cs ρ 39 0 0) (nI p) (nI c) (nI b) (ρ 9 p) s = some (cs (cs ρ 39 0 0) 6 p (nI c), 0) := fun s => by
            unfold fr_move_87
            rw [hclp, if_neg gp]
            simp only [po_b]
            rw [if_pos q]
          refine ⟨_, 0, cs (cs ρ 39 0 0) 6 p (nI c), rfl, ?_, by rw [rcs_col (by decide), cs_at], ⟨nw, hrel⟩, Nat.le_of_eq (E26_eq rfl).symm⟩
          unfold fr_areNeighbours fr_move_86
          rw [r87, r87, pr_legsIn, hclc]
          simp only [po_b, gc, if_false]
          rw [ite_self]
          split
          · simp only [po_b, ite_self]
          · split
            · simp only [po_b, ite_self]
            · simp only [po_b, ite_self]
        · have gk := ng (n := 80) (show k < 80 by omega) (by omega)
          have hclk := nI_clamp (show k < 2 ^ 31 by omega)
          have hneb : ¬ ρ 9 p = -1 := by rw [q]; exact pn_m1 (by omega)
          have hnext : ∃ o : Int32, fc_Cell_isNextTo V L N (nI b) (nI c) = some o ∧ fr_areNeighbours (cs ρ 39 0 0) (nI b) (nI c) = some o := by
            have hid : ∀ z, z < 8 → V 40 z = nI z := fun z hz => h.r2 40 (by decide) z (by rw [show 40 / 20 = 2 by decide, h.r3.1.2.2.1]; exact hz)
            have hn := nbr b hb c hc
            unfold fc_Cell_isNextTo fr_areNeighbours
            rw [nI_clamp hb2, hclc, hid b hb, hid c hc]
            simp only [po_b]
            by_cases e1 : (nI b + 1) - (nI b + 1) / 8 * 8 = nI c ∨ (nI c + 1) - (nI c + 1) / 8 * 8 = nI b
            · refine ⟨1, ?_, ?_⟩
              · rcases hn.mp e1 with z | z
                · rw [if_pos z]
                · rw [z, if_neg (by decide), if_pos rfl]
              · rcases e1 with z | z
                · rw [if_pos z]
                · rw [if_pos z, ite_self]
            · have e2 := fun z => e1 (hn.mpr z)
              refine ⟨0, ?_, ?_⟩
              · rw [if_neg (fun z => e2 (Or.inl z)), if_neg (fun z => e2 (Or.inr z))]
              · rw [if_neg (fun z => e1 (Or.inl z)), if_neg (fun z => e1 (Or.inr z))]
          obtain ⟨o, n1, n2⟩ := hnext
          rw [if_neg hneb, n1, n2]
          simp only [po_b]
          -- the leg is dropped
          obtain ⟨V1, L1, N1, ρ1, a1, a2, a3, a4, a5, a6, a7, a8, a9, aE⟩ := op_closeM h01 (by omega) hk qa (st := 3) (by decide)
          have a9 := a9 (nI c)
          rw [show cs ρ 39 0 0 23 k = nI p from qp, hclp, show cs ρ 39 0 0 6 p = nI b from eb] at a9
          rw [show cs ρ 39 0 0 23 k = nI p from qp, hclp] at a6
          have c85 : fc_move_85 V L N (nI p) (nI c) (ρ 9 p) = some (.inl ((cs V1 101 p (nI c), L1, N1), 0)) := by
            unfold fc_move_85
            rw [q, a1]
            simp only [po_b]
            rw [c92, a3.c 104 9 (by decide), if_pos a6]
          have r86 : fr_move_86 (cs ρ 39 0 0) (nI p) (nI c) (nI b) (ρ 9 p) = some (cs ρ1 6 p (nI c), 0) := by
            unfold fr_move_86 fr_move_87
            rw [hclp, if_neg gp]
            simp only [po_b, if_true]
            rw [if_neg hneb, q, a9]
            rfl
          have hdrop := op_cell a3 hp (c := c) a6 hc
          have e39 : cs ρ1 6 p (nI c) 39 0 = 0 := by rw [rcs_col (by decide), a4 39 (by decide), cs_at]
          -- the leg goes on
          obtain ⟨V2, L2, N2, m1, m2, m3⟩ := op_move h0 ht hk qa qp hp hc
          have e228 : V 228 0 = nI nw := by rw [h.c 228 0 (by decide)]; exact h.r5.2.2.2.2.2.2.1
          have r87 : fr_move_87 (cs ρ 39 0 0) (nI p) (nI c) (nI b) (ρ 9 p) 1 = some (cs (cs (cs ρ 39 0 0) 6 p (nI c)) 31 k ((trn (ρ 31 k) + 31 * nI nw) ^^^ (8 * 1 + nI c)), 1) := by
            unfold fr_move_87 fr_notes fr_turned
            rw [hclp, if_neg gp]
            simp only [po_b]
            rw [if_neg hneb, q, hclk]
            simp only [po_b, gk, if_false]
            rw [if_neg (by decide), show cs (cs ρ 39 0 0) 6 p (nI c) 0 0 = nI nw from h.r5.2.2.2.2.2.2.1]
            rfl
          rw [c85, r86, r87, pc_legsIn, pr_legsIn, lg_eq h0, hclc, h.c 42 3 (by decide)]
          simp only [po_b, gc, if_false]
          have hch : cs ρ 39 0 0 3 c = ρ 3 c := rfl
          rw [hch]
          by_cases ho : o = 0
          · rw [if_pos ho, if_pos ho]
            exact ⟨_, 0, _, rfl, rfl, e39, ⟨nw, hdrop⟩, Nat.le_trans (Nat.le_succ _) aE⟩
          · rw [if_neg ho, if_neg ho]
            by_cases hf : ρ 3 c ≤ nI (cntN (lgR (cs ρ 39 0 0) (nI c)) 10)
            · rw [if_pos hf, if_pos hf]
              exact ⟨_, 0, _, rfl, rfl, e39, ⟨nw, hdrop⟩, Nat.le_trans (Nat.le_succ _) aE⟩
            · rw [if_neg hf, if_neg hf, q, e228, m1]
              simp only [po_b]
              rw [c92, m2, h.c 104 9 (by decide), if_neg hneb]
              exact ⟨_, 1, _, rfl, rfl, rfl, ⟨nw, m3⟩, Nat.le_of_eq (E26_eq rfl).symm⟩
    · rw [isC_bad hy]
      simp only [po_b, if_true]
      left
      refine ⟨1, cs ρ 39 0 1, 0, ?_, bad1, cs_at, by decide, h1.err 1⟩
      unfold fc_move
      rw [phA_ok hp]
      simp only [po_b, Sum.elim_inl]
      rw [ceA_bad hy]
      simp only [po_b, Sum.elim_inr]
  · rw [isP_bad hx]
    simp only [po_b, if_true]
    left
    refine ⟨1, cs ρ 39 0 1, 0, ?_, bad1, cs_at, by decide, h1.err 1⟩
    unfold fc_move
    rw [phA_bad hx]
    simp only [po_b, Sum.elim_inr]
theorem f_pass (h : Rel V L N ρ t nw 0) (ht : t ≤ 512) (x : Int32) : (∃ e ρ' a, fc_pass V L N x = some (.inr e) ∧ fr_pass ρ x = some (ρ', a) ∧ ρ' 39 0 = cd23 e ∧ ¬ cd23 e = 0 ∧ RelX (V, L, N) ρ' t ∧ E26 ρ ≤ E26 ρ') ∨ (∃ W d ρ', fc_pass V L N x = some (.inl (W, nI d)) ∧ fr_pass ρ x = some (ρ', nI d) ∧ ρ' 39 0 = 0 ∧ RelX W ρ' t ∧ E26 ρ + d ≤ E26 ρ') := by
  have hnw := h.r5.2.2.2.2.2.2.2
  have e00 := h.r5.2.2.2.2.2.2.1
  unfold fc_pass fr_pass fc_isOutside
  rw [rx_isIn, h.c 228 0 (by decide), e00]
  by_cases h1 : x < 1
  · rw [if_pos h1, if_pos h1]
    simp only [po_b, if_true]
    left
    refine ⟨2, cs ρ 39 0 1, 0, ?_, ?_, cs_at, by decide, h.err 1⟩
    · rw [if_neg (by decide)]
    · unfold fr_pass_32
      rw [can_bad (by decide)]
  · rw [if_neg h1, if_neg h1]
    by_cases h2 : x ≤ 500
    · obtain ⟨m, hm, rfl⟩ := nI_of2 (n := 500) (M := 500) (x := x) (by decide) (fun z => h1 (by
        rw [Int32.lt_iff_toInt_lt] at z ⊢
        rw [Int32.toInt_zero] at z
        have : (1 : Int32).toInt = 1 := by decide
        omega)) h2
      have hm1 : 1 ≤ m := by
        by_cases z : m = 0
        · rw [z] at h1; exact absurd (by decide) h1
        · omega
      rw [if_pos h2, if_neg (Int32.not_lt.mpr h2), nI_add]
      simp only [po_b, if_true]
      rw [if_neg (show ¬ (1 : Int32) = 0 by decide)]
      by_cases h3 : nw + m ≤ 50000
      · rw [if_pos (show nI (nw + m) ≤ 50000 from nI_le (b := 50000) h3 (by omega)), if_pos (show nI (nw + m) ≤ 50000 from nI_le (b := 50000) h3 (by omega))]
        right
        have h0 : Rel V L N (cs (cs ρ 39 0 0) 36 0 0) t nw 0 := (h.can 0).idle (chg.rf.st (by decide))
        obtain ⟨V', L', N', ρ', d, z1, z2, z3, z4, z5, z6⟩ := pass_loop ht hm 2999 0 nw V L N _ h0 (by omega) (by omega) (by omega)
        rw [show cs (cs ρ 39 0 0) 36 0 0 36 0 = 0 from cs_at] at z1 z5
        rw [Int32.zero_add] at z5
        rw [z5] at z1 z2
        refine ⟨(V', L', N'), d, ρ', z1, ?_, ?_, ⟨_, z3⟩, z6⟩
        · unfold fr_pass_32
          rw [can_ok]
          simp only [po_b]
          exact z2
        · rw [z4]
          rfl
      · rw [if_neg (show ¬ nI (nw + m) ≤ 50000 from nI_ge (a := 50000) (by omega) (by omega)), if_neg (show ¬ nI (nw + m) ≤ 50000 from nI_ge (a := 50000) (by omega) (by omega))]
        left
        refine ⟨3, cs ρ 39 0 2, 0, rfl, ?_, cs_at, by decide, h.err 2⟩
        unfold fr_pass_32
        rw [can_bad (by decide)]
    · rw [if_neg h2, if_pos (Int32.not_le.mp h2)]
      simp only [po_b, if_true]
      left
      refine ⟨2, cs ρ 39 0 1, 0, ?_, ?_, cs_at, by decide, h.err 1⟩
      · rw [if_neg (by decide)]
      · unfold fr_pass_32
        rw [can_bad (by decide)]
end FB
