/-! THE FACE, told with what stays: move -/
section FM
variable {V V' : Rho} {L : Lst} {N : Cnt} {ρ ρ' : Rho} {t nw i k p c b x M : Nat} {γ : Nat → Nat → Nat} {ε : Nat → Int32} {w : Int32}
/-- another cell of a leg, as it is noted -/
def xc (γ : Nat → Nat → Nat) (k c : Nat) : Nat → Nat → Nat := fun col j => if col = 2 ∧ j = k then c else γ col j
theorem cell_pj (hJ : PJ ρ γ ε M) (h : Rel V L N ρ t nw i) (hp : p < 10) (h9 : ρ 9 p = -1) {y : Int32} : PJ (cs ρ 6 p y) γ ε M := by
  have hch : chg [6] ρ (cs ρ 6 p y) := chg.rf.st (by decide)
  refine ⟨fun j hj => ?_, hJ.2.1.congr (hch.agr (by decide)), hJ.2.2.congr (hch.agr (by decide))⟩
  have hj : j < nlg ρ := hj
  obtain ⟨a, b, c, d, f1, f2, f3⟩ := hJ.1 j hj
  refine ⟨a, b, c, d, f1, fun z1 z2 => ?_, f3⟩
  obtain ⟨g1, g2⟩ := f2 z1 z2
  refine ⟨g1, ?_⟩
  have hne : γ 0 j ≠ p := fun z => by
    have q := h.r6.2 j (by rw [← h.lgs]; exact hj) z2
    rw [a.1, nI_clamp (by omega), z, h9] at q
    have := h.n4
    have := h.lgs
    exact pn_m1 (k := j) (by omega) q.symm
  rw [cs_nei hne]
  exact g2
theorem p_move_same (h : Rel V L N ρ t nw 0) (hp : p < 10) (hc : c < 8) (eb : ρ 6 p = nI c) : fc_move V L N (nI p) (nI c) = some (.inl ((V, L, N), if ρ 9 p = -1 then 0 else 1)) := by
  unfold fc_move
  rw [phA_ok hp]
  simp only [po_b, Sum.elim_inl]
  rw [ceA_ok hc]
  simp only [po_b, Sum.elim_inl]
  rw [nI_clamp (show p < 2 ^ 31 by omega), h.c 104 9 (by decide), h.c 101 6 (by decide), eb, if_pos rfl]
  by_cases q : ρ 9 p = -1
  · rw [if_pos q, if_pos q]
  · rw [if_neg q, if_neg q]
theorem p_move (h : Rel V L N ρ t nw 0) (ht : t + 1 ≤ 512) (hp : p < 10) (hc : c < 8) (hb : b < 8) (eb : ρ 6 p = nI b) (hbc : b ≠ c) (hJ : PJ ρ γ ε M) (hP : PA ρ) :
    (ρ 9 p = -1 ∧ ∃ V' L' N' ρ', fc_move V L N (nI p) (nI c) = some (.inl ((V', L', N'), 0)) ∧ Rel V' L' N' ρ' (t + 1) nw 0 ∧ PJ ρ' γ ε M ∧ PA ρ' ∧ (∀ d, d ≠ 3 → N' d = N d) ∧ ρ' 6 p = nI c ∧ ρ' 9 p = -1) ∨
    (∃ k, k < N 4 ∧ ρ 9 p = nI k ∧ ρ 26 k = 0 ∧ ρ 23 k = nI p ∧
      ((((nI b + 1) - (nI b + 1) / 8 * 8 = nI c ∨ (nI c + 1) - (nI c + 1) / 8 * 8 = nI b) ∧ ∃ V' L' N' ρ', fc_move V L N (nI p) (nI c) = some (.inl ((V', L', N'), 1)) ∧ Rel V' L' N' ρ' (t + 1) nw 0 ∧ PJ ρ' (xc γ k c) (xe ε k (evn (ε k) 1 (nI nw) (nI c))) M ∧ PA ρ' ∧ (∀ d, d ≠ 3 → N' d = N d) ∧ ρ' 6 p = nI c ∧ ρ' 9 p = nI k ∧ ρ' 26 k = 0) ∨
       (∃ V' L' N' ρ', fc_move V L N (nI p) (nI c) = some (.inl ((V', L', N'), 0)) ∧ Rel V' L' N' ρ' (t + 1) nw 0 ∧ PJ ρ' γ ε M ∧ PA ρ' ∧ (∀ d, d ≠ 3 → N' d = N d) ∧ ρ' 6 p = nI c ∧ ρ' 9 p = -1 ∧ ρ' 26 k = 3))) := by
  have hn4 := h.n4
  have h1 := h.later
  have gc := ng (n := 8) hc (by omega)
  have hclp := nI_clamp (show p < 2 ^ 31 by omega)
  have hclc := nI_clamp (show c < 2 ^ 31 by omega)
  have hb2 : b < 2 ^ 31 := by omega
  have hbc1 : ¬ nI c = nI b := fun z => hbc ((nI_eq (by omega) (by omega)).mp z.symm)
  have hbc2 : ¬ nI b = nI c := fun z => hbc1 z.symm
  have c92 : ∀ (W : Rho) (L' : Lst) (N' : Cnt), fc_move_92 W L' N' (nI p) (nI c) = some (.inl ((cs W 101 p (nI c), L', N'), if W 104 p = -1 then 0 else 1)) := fun W L' N' => by
    unfold fc_move_92
    simp only [po_b]
    rw [hclp, rcs_col (by decide)]
    split <;> rfl
  have hpre : fc_move V L N (nI p) (nI c) = if ρ 9 p = -1 then fc_move_92 V L N (nI p) (nI c) else (fc_Cell_isNextTo V L N (nI b) (nI c)).bind fun o => if o = 0 then fc_move_85 V L N (nI p) (nI c) (ρ 9 p) else (fc_legsIn V L N (nI c)).bind fun o2 => if V 42 c ≤ o2 then fc_move_85 V L N (nI p) (nI c) (ρ 9 p) else (fc_Leg_keepEvent V L N (ρ 9 p) 1 (V 228 0) (nI c)).bind fun o4 => fc_move_92 o4.1 o4.2.1 o4.2.2 (nI p) (nI c) := by
    unfold fc_move
    rw [phA_ok hp]
    simp only [po_b, Sum.elim_inl]
    rw [ceA_ok hc]
    simp only [po_b, Sum.elim_inl]
    rw [hclp, hclc, h.c 104 9 (by decide), h.c 101 6 (by decide), eb]
    first | rw [if_neg hbc1] | rw [if_neg hbc2]
  rcases h.leg hp with q | ⟨k, hk, q, qa, qp⟩
  · refine Or.inl ⟨q, cs V 101 p (nI c), L, N, cs ρ 6 p (nI c), ?_, op_cell h1 hp q hc, cell_pj hJ h hp q, hP.congr ((chg.rf.st (C := [6]) (by decide) : chg [6] ρ (cs ρ 6 p (nI c))).agr (by decide)), fun _ _ => rfl, cs_at, q⟩
    rw [hpre, if_pos q, c92, h.c 104 9 (by decide), if_pos q]
  · refine Or.inr ⟨k, hk, q, qa, qp, ?_⟩
    have hneb : ¬ ρ 9 p = -1 := by rw [q]; exact pn_m1 (by omega)
    have hid : ∀ z, z < 8 → V 40 z = nI z := fun z hz => h.r2 40 (by decide) z (by rw [show 40 / 20 = 2 by decide, h.r3.1.2.2.1]; exact hz)
    have hn := nbr b hb c hc
    have hnext : ∃ o : Int32, fc_Cell_isNextTo V L N (nI b) (nI c) = some o ∧ (¬ o = 0 → ((nI b + 1) - (nI b + 1) / 8 * 8 = nI c ∨ (nI c + 1) - (nI c + 1) / 8 * 8 = nI b)) := by
      unfold fc_Cell_isNextTo
      rw [nI_clamp hb2, hclc, hid b hb, hid c hc]
      simp only [po_b]
      by_cases e1 : (nI b + 1) - (nI b + 1) / 8 * 8 = nI c ∨ (nI c + 1) - (nI c + 1) / 8 * 8 = nI b
      · refine ⟨1, ?_, fun _ => e1⟩
        rcases hn.mp e1 with z | z
        · rw [if_pos z]
        · rw [z, if_neg (by decide), if_pos rfl]
      · have e2 := fun z => e1 (hn.mpr z)
        refine ⟨0, ?_, fun z => absurd rfl z⟩
        rw [if_neg (fun z => e2 (Or.inl z)), if_neg (fun z => e2 (Or.inr z))]
    obtain ⟨o, n1, n2⟩ := hnext
    have hL := hJ.1 k (by rw [h.lgs]; exact hk)
    -- dropped
    have drop : ∃ V' L' N' ρ', fc_move_85 V L N (nI p) (nI c) (ρ 9 p) = some (.inl ((V', L', N'), 0)) ∧ Rel V' L' N' ρ' (t + 1) nw 0 ∧ PJ ρ' γ ε M ∧ PA ρ' ∧ (∀ d, d ≠ 3 → N' d = N d) ∧ ρ' 6 p = nI c ∧ ρ' 9 p = -1 ∧ ρ' 26 k = 3 := by
      obtain ⟨V1, L1, N1, ρ1, a1, a2, a3, a4, a5, a6, a7, a8, aE⟩ := op_close h1 (by omega) hk qa (st := 3) (by decide)
      obtain ⟨ρ2, k1, k2, k3, k4, k5, -⟩ := close_keep h1 (by omega) hk qa (st := 3) (by decide) hJ hP hL.1.2.2.2.1 hL.1.2.1
      obtain rfl : ρ2 = ρ1 := Option.some.inj (k1.symm.trans a2)
      rw [qp, hclp] at a6
      refine ⟨cs V1 101 p (nI c), L1, N1, cs ρ2 6 p (nI c), ?_, op_cell a3 hp a6 hc, cell_pj k2 a3 hp a6, k3.congr ((chg.rf.st (C := [6]) (by decide) : chg [6] ρ2 (cs ρ2 6 p (nI c))).agr (by decide)), a8, cs_at, a6, a5⟩
      unfold fc_move_85
      rw [q, a1]
      simp only [po_b]
      rw [c92, a3.c 104 9 (by decide), if_pos a6]
    rw [hpre, if_neg hneb, n1]
    simp only [po_b]
    by_cases ho : o = 0
    · rw [if_pos ho]
      exact Or.inr drop
    · rw [if_neg ho, pc_legsIn]
      simp only [po_b]
      by_cases hf : V 42 c ≤ nI (cntN (lgF V (nI c)) 10)
      · rw [if_pos hf]
        exact Or.inr drop
      · rw [if_neg hf]
        refine Or.inl ⟨n2 ho, ?_⟩
        obtain ⟨V2, L2, N2, m1, m2, m3⟩ := op_move h ht hk qa qp hp hc
        have e228 : V 228 0 = nI nw := by rw [h.c 228 0 (by decide)]; exact h.r5.2.2.2.2.2.2.1
        have hnn : N2 = nup N 3 := by
          have hn3 : N 3 ≤ 50000 := R12.n3 h.r12 hn4 (by omega)
          have z := m1
          obtain ⟨F, -, hk13⟩ := h.r13
          rw [keep_eq (by omega) (by have := (h.r12.1 k hk).2.1; rw [if_pos qa] at this; omega) hn3] at z
          have z2 := Option.some.inj z
          exact (congrArg (fun q => q.2.2) z2).symm
        have hcx : chg [6, 31] ρ (cs (cs ρ 6 p (nI c)) 31 k ((trn (ρ 31 k) + 31 * nI nw) ^^^ (8 * 1 + nI c))) := (chg.rf.st (by decide)).st (by decide)
        refine ⟨cs V2 101 p (nI c), L2, N2, _, ?_, m3, ⟨fun j hj => ?_, hJ.2.1.congr (hcx.agr (by decide)), hJ.2.2.congr (hcx.agr (by decide))⟩, hP.congr (hcx.agr (by decide)), fun d hd => by rw [hnn, nup_ne hd], by rw [rcs_col (by decide), cs_at], by rw [hcx 9 (by decide)]; exact q, by rw [hcx 26 (by decide)]; exact qa⟩
        · rw [q, e228, m1]
          simp only [po_b]
          rw [c92, m2, h.c 104 9 (by decide), if_neg hneb]
        · have hj : j < nlg ρ := hj
          have hj4 : j < N 4 := by rw [← h.lgs]; exact hj
          have hLj := hJ.1 j hj
          by_cases e : j = k
          · subst e
            obtain ⟨⟨a1, a2, a3, a4, a5, a6, a7⟩, b', c', d, e1, e2, e3⟩ := hLj
            have g0 : γ 3 j = 0 := by
              rcases (show γ 3 j = 0 ∨ γ 3 j = 1 by omega) with z | z
              · exact z
              · exact absurd qa (e1 z).1
            have gp : γ 0 j = p := pn_inj (by omega) (by omega) (a1.symm.trans qp)
            have x0 : ∀ col, col ≠ 2 → xc γ j c col j = γ col j := fun col hc => if_neg (fun z => hc z.1)
            have x2 : xc γ j c 2 j = c := if_pos ⟨rfl, rfl⟩
            have y1 : xe ε j (evn (ε j) 1 (nI nw) (nI c)) j = evn (ε j) 1 (nI nw) (nI c) := if_pos rfl
            unfold LG
            rw [x0 0 (by decide), x0 1 (by decide), x2, x0 3 (by decide), x0 4 (by decide), y1, hcx 23 (by decide), hcx 24 (by decide), hcx 26 (by decide), hcx 27 (by decide), hcx 28 (by decide), hcx 29 (by decide), hcx 30 (by decide), hcx 32 (by decide), cs_at, rcs_col (by decide), gp, cs_at]
            refine ⟨⟨by rw [← gp]; exact a1, a2, hp, a4, hc, a6, a7⟩, b', c', d, fun z => by omega, fun _ _ => ⟨?_, rfl⟩, fun _ z => absurd qa z⟩
            rw [(e2 g0 qa).1]
            rfl
          · have x0 : ∀ col, xc γ k c col j = γ col j := fun col => if_neg (fun z => e z.2)
            have y1 : xe ε k (evn (ε k) 1 (nI nw) (nI c)) j = ε j := if_neg e
            obtain ⟨⟨a1, a2, a3, a4, a5, a6, a7⟩, b', c', d, e1, e2, e3⟩ := hLj
            unfold LG
            rw [x0, x0, x0, x0, x0, y1, hcx 23 (by decide), hcx 24 (by decide), hcx 26 (by decide), hcx 27 (by decide), hcx 28 (by decide), hcx 29 (by decide), hcx 30 (by decide), hcx 32 (by decide), cs_nei e, rcs_col (show (31 : Nat) ≠ 6 by decide), rcs_col (show (6 : Nat) ≠ 31 by decide)]
            refine ⟨⟨a1, a2, a3, a4, a5, a6, a7⟩, b', c', d, e1, fun z1 z2 => ⟨(e2 z1 z2).1, ?_⟩, e3⟩
            have hne : γ 0 j ≠ p := fun z => by
              have q9 := h.r6.2 j hj4 z2
              rw [a1, nI_clamp (by omega), z, q] at q9
              exact e (pn_inj (by omega) (by omega) q9).symm
            rw [cs_nei hne]
            exact (e2 z1 z2).2
end FM
