/-! THE FACE, told with what stays: begin, join, leave, move -/
section FK
variable {V V' : Rho} {L : Lst} {N : Cnt} {ρ ρ' : Rho} {t nw i k p c x M : Nat} {γ : Nat → Nat → Nat} {ε : Nat → Int32} {w : Int32}
theorem PJ.can (h : PJ ρ γ ε M) (e : Int32) : PJ (cs ρ 39 0 e) γ ε M := h.congr ((chg.rf.st (C := [39]) (by decide) : chg [39] ρ (cs ρ 39 0 e)).agr (by decide))
theorem PA.can (h : PA ρ) (e : Int32) : PA (cs ρ 39 0 e) := h.congr ((chg.rf.st (C := [39]) (by decide) : chg [39] ρ (cs ρ 39 0 e)).agr (by decide))
theorem two_keep (h : Rel V L N ρ t nw 0) (ht : t ≤ 512) {a b xa xb : Nat} {hs : Int32} (ha : a < 10) (hb : b < 10) (hab : a ≠ b) (h9a : ρ 9 a = -1) (h9b : ρ 9 b = -1) (hc : c < N 1) (h80 : N 4 + 2 ≤ 80) (hcnt : cntN (ptR ρ (nI c)) 10 = 0) (hhost : ρ 21 c = nI a) (hxa : xa < 8) (hxb : xb < 8) (exa : ρ 6 a = nI xa) (exb : ρ 6 b = nI xb) (hJ : PJ ρ γ ε M) (hP : PA ρ) :
    ∃ V' L' N' ρ', ((fc_openLeg V L N (nI a) (nI c) 0).bind fun o19 => (fc_openLeg o19.1.1 o19.1.2.1 o19.1.2.2 (nI b) (nI c) hs).bind fun o22 => (fc_takeSliceOrCut o22.1.1 o22.1.2.1 o22.1.2.2 o19.2).bind fun o25 => (if (o25.1 87 o22.2.toNatClampNeg) = 0 then (fc_takeSliceOrCut o25.1 o25.2.1 o25.2.2 o22.2).bind fun o27 => some (Sum.inl ((o27.1, o27.2.1, o27.2.2), (o27.1 20 (nI c).toNatClampNeg))) else some (Sum.inl ((o25.1, o25.2.1, o25.2.2), (o25.1 20 (nI c).toNatClampNeg))))) = some (Sum.inl ((V', L', N'), nI c) : (CW × Int32) ⊕ Nat) ∧
      Rel V' L' N' ρ' t nw 0 ∧ PJ ρ' (xg (xg γ (N 4) a c xa nw) (N 4 + 1) b c xb nw) (xe (xe ε (N 4) (evn (nI a) 0 (nI nw) (nI xa))) (N 4 + 1) (evn (nI b) 0 (nI nw) (nI xb))) M ∧ PA ρ' ∧ N' 4 = N 4 + 2 ∧ N' 1 = N 1 ∧ N' 0 = N 0 ∧ ρ' 6 = ρ 6 := by
  have hn4 := h.n4
  have hn1 := h.r3.2.1.2.2.1
  have hclc := nI_clamp (show c < 2 ^ 31 by omega)
  obtain ⟨V1, L1, N1, ρ1, a1, a2, a3, a4, a5, a6, a7, a8, a9⟩ := op_open h ht ha h9a hc (by omega) (h.r5.2.1 a ha).2 (by omega)
  have f1 : ρ1 = brR ρ N a c (ρ 7 a) nw := by
    have z := begins_eq (c := c) (w := ρ 7 a) h ha (by omega)
    rw [a2] at z
    exact congrArg Prod.fst (Option.some.inj z)
  have hc1 : c < N1 1 := by rw [a5 1 (by decide) (by decide) (by decide)]; exact hc
  obtain ⟨w, hw, ew⟩ : ∃ w : Int32, vp_in w 4 ∧ w = if hs = 0 then ρ1 7 b else ρ1 7 a := by
    by_cases e : hs = 0
    · rw [if_pos e]; exact ⟨_, (a3.r5.2.1 b hb).2, rfl⟩
    · rw [if_neg e]; exact ⟨_, (a3.r5.2.1 a ha).2, rfl⟩
  have h9b1 : ρ1 9 b = -1 := by rw [a7, if_neg (fun z => hab z.symm)]; exact h9b
  obtain ⟨V2, L2, N2, ρ2, b1, b2, b3, b4, b5, b6, b7, b8, b9⟩ := op_open a3 ht hb h9b1 hc1 (by omega) hw (by omega)
  have f2 : ρ2 = brR ρ1 N1 b c w nw := by
    have z := begins_eq (c := c) (w := w) a3 hb (by omega)
    rw [b2] at z
    exact congrArg Prod.fst (Option.some.inj z)
  -- what stays
  have j1 := open_keep (w := ρ 7 a) h ha h9a (show c < 40 by omega) (by omega) hxa exa hJ
  obtain ⟨p1, p1o⟩ := br_pt (w := ρ 7 a) h ha h9a (by omega) (show c < 2 ^ 31 by omega)
  rw [← f1] at j1 p1 p1o
  have j2 := open_keep (w := w) a3 hb h9b1 (show c < 40 by omega) (by omega) hxb (by rw [a4 6 (by decide)]; exact exb) j1
  obtain ⟨p2, p2o⟩ := br_pt (w := w) a3 hb h9b1 (by omega) (show c < 2 ^ 31 by omega)
  rw [← f2] at j2 p2 p2o
  rw [a6] at j2
  have q2 : cntN (ptR ρ2 (nI c)) 10 = 2 := by omega
  have P2 : PA ρ2 := ⟨fun c' hc' => by
    by_cases e : c' = c
    · rw [e]; omega
    · rw [p2o c' (by omega) e, p1o c' (by omega) e]
      exact hP.1 c' hc', fun q hq => by rw [b4 8 (by decide), a4 8 (by decide)]; exact hP.2 q hq⟩
  have hk1 : N 4 < N2 4 := by omega
  have e26a : ρ2 26 (N 4) = 0 := by rw [b4 26 (by decide), a4 26 (by decide)]; exact h.r16 26 (by decide) _ (Nat.le_refl _)
  have e34a : ρ2 34 (N 4) = 0 := by rw [b4 34 (by decide), a4 34 (by decide)]; exact h.r16 34 (by decide) _ (Nat.le_refl _)
  have e34b : ρ2 34 (N1 4) = 0 := by rw [b4 34 (by decide), a4 34 (by decide)]; exact h.r16 34 (by decide) _ (by omega)
  have e24a : ρ2 24 (N 4) = nI c := by rw [f2, br_old (by decide) (by decide) (by omega), f1]; exact br_new.2.2.1
  have e24b : ρ2 24 (N1 4) = nI c := by rw [f2]; exact br_new.2.2.1
  obtain ⟨V3, L3, N3, ρ3, c1, c3, c2, cP, c4, c5, c66, c6⟩ := cut_keep b3 ht hk1 e26a e34a j2 P2 e24a (show c < 40 by omega) q2
  have hne : N1 4 ≠ N 4 := by omega
  have hk2 : N1 4 < N3 4 := by rw [c5 4 (by decide)]; omega
  have hcl1 := nI_clamp (show N1 4 < 2 ^ 31 by omega)
  have e21 : V1 21 c = nI a := by rw [a3.c 21 21 (by decide), a4 21 (by decide)]; exact hhost
  have hcx : fc_openLeg V L N (nI a) (nI c) 0 = some ((V1, L1, N1), nI (N 4)) := by
    unfold fc_openLeg
    rw [if_pos rfl, nI_clamp (show a < 2 ^ 31 by omega), h.c 102 7 (by decide)]
    exact a1
  have hcy : fc_openLeg V1 L1 N1 (nI b) (nI c) hs = some ((V2, L2, N2), nI (N1 4)) := by
    unfold fc_openLeg
    rw [nI_clamp (show b < 2 ^ 31 by omega), hclc, e21, nI_clamp (show a < 2 ^ 31 by omega), a3.c 102 7 (by decide)]
    rw [ew] at b1
    by_cases e : hs = 0
    · rw [if_pos e] at b1 ⊢; exact b1
    · rw [if_neg e] at b1 ⊢; exact b1
  have e20 : ∀ (W : Rho) (L' : Lst) (N' : Cnt) (ρ' : Rho), Rel W L' N' ρ' t nw 0 → N' 1 = N 1 → W 20 c = nI c := fun W L' N' ρ' hr e => hr.r2 20 (by decide) c (by show c < N' 1; omega)
  have eN3 : N3 1 = N 1 := by rw [c5 1 (by decide), b5 1 (by decide) (by decide) (by decide), a5 1 (by decide) (by decide) (by decide)]
  have eN30 : N3 0 = N 0 := by rw [c5 0 (by decide), b5 0 (by decide) (by decide) (by decide), a5 0 (by decide) (by decide) (by decide)]
  have eN34 : N3 4 = N 4 + 2 := by rw [c5 4 (by decide)]; omega
  rw [hcx]
  simp only [po_b]
  rw [hcy]
  simp only [po_b]
  rw [c1]
  simp only [po_b]
  rw [hcl1, hclc, c3.c 87 26 (by decide)]
  by_cases hz : ρ3 26 (N1 4) = 0
  · have e24c : ρ3 24 (N1 4) = nI c := by
      have z := (c2.1 (N1 4) (by rw [c3.lgs]; exact hk2)).1.2.1
      have g : xg (xg γ (N 4) a c xa nw) (N 4 + 1) b c xb nw 1 (N1 4) = c := by
        rw [a6]
        exact if_pos rfl
      rw [z, g]
    obtain ⟨V4, L4, N4, ρ4, d1, d3, d2, dP, d4, d5, d66, d6⟩ := cut_keep c3 ht hk2 hz (c4 _ hne e34b) c2 cP e24c (show c < 40 by omega) rfl
    rw [if_pos hz, d1]
    simp only [po_b]
    rw [e20 V4 L4 N4 ρ4 d3 (by rw [d5 1 (by decide)]; exact eN3)]
    exact ⟨V4, L4, N4, ρ4, rfl, d3, d2, dP, by rw [d5 4 (by decide), eN34], by rw [d5 1 (by decide), eN3], by rw [d5 0 (by decide), eN30], by rw [d66, c66, b4 6 (by decide), a4 6 (by decide)]⟩
  · rw [if_neg hz, e20 V3 L3 N3 ρ3 c3 eN3]
    exact ⟨V3, L3, N3, ρ3, rfl, c3, c2, cP, eN34, eN3, eN30, by rw [c66, b4 6 (by decide), a4 6 (by decide)]⟩
theorem p_begin_same {a : Nat} {hs : Int32} (ha : a < 10) : fc_begin V L N (nI a) (nI a) hs = some (.inr 2) := by
  unfold fc_begin
  rw [phA_ok ha]
  simp only [po_b, Sum.elim_inl, if_true]
theorem p_begin (h : Rel V L N ρ t nw 0) (ht : t ≤ 512) {a b xa xb : Nat} {hs : Int32} (ha : a < 10) (hb : b < 10) (hab : a ≠ b) (hxa : xa < 8) (hxb : xb < 8) (exa : ρ 6 a = nI xa) (exb : ρ 6 b = nI xb) (hJ : PJ ρ γ ε M) (hP : PA ρ) :
    fc_begin V L N (nI a) (nI b) hs = some (.inr 3) ∨ (ρ 9 a = -1 ∧ ρ 9 b = -1 ∧ ∃ V' L' N' ρ', fc_begin V L N (nI a) (nI b) hs = some (.inl ((V', L', N'), nI (N 1))) ∧ Rel V' L' N' ρ' t nw 0 ∧ PJ ρ' (xg (xg γ (N 4) a (N 1) xa nw) (N 4 + 1) b (N 1) xb nw) (xe (xe ε (N 4) (evn (nI a) 0 (nI nw) (nI xa))) (N 4 + 1) (evn (nI b) 0 (nI nw) (nI xb))) M ∧ PA ρ' ∧ N' 4 = N 4 + 2 ∧ N' 1 = N 1 + 1 ∧ N' 0 = N 0 ∧ ρ' 6 = ρ 6) := by
  obtain ⟨B, -, hB⟩ := begin_pre (hs := hs) h ha hb
  rcases hB (fun z => hab (pn_inj (by omega) (by omega) z)) with ⟨-, e⟩ | ⟨-, h9a, h9b, h40, h80, e⟩
  · exact Or.inl e
  · refine Or.inr ⟨h9a, h9b, ?_⟩
    obtain ⟨r1, r2⟩ := op_call h ha h40
    have hch : chg [20, 21] ρ (cs (cs ρ 20 0 (nI (N 1 + 1))) 21 (N 1) (nI a)) := (chg.rf.st (by decide)).st (by decide)
    obtain ⟨V', L', N', ρ', z1, z2, z3, z4, z5, z6, z7, z8⟩ := two_keep (c := N 1) (hs := hs) r1 ht ha hb hab h9a h9b (by show N 1 < nup N 1 1; rw [nup_self]; omega) (by show N 4 + 2 ≤ 80; exact h80) r2 cs_at hxa hxb exa exb (hJ.congr (hch.agr (by decide))) (hP.congr (hch.agr (by decide)))
    exact ⟨V', L', N', ρ', e.trans z1, z2, z3, z4, z5, by rw [z6, nup_self], z7, by rw [z8, hch 6 (by decide)]⟩
theorem p_join (h : Rel V L N ρ t nw 0) (ht : t ≤ 512) {hs : Int32} (hp : p < 10) (hc : c < N 1) (hx : x < 8) (ex : ρ 6 p = nI x) (hJ : PJ ρ γ ε M) (hP : PA ρ) :
    fc_join V L N (nI p) (nI c) hs = some (.inr 3) ∨ (ρ 9 p = -1 ∧ ¬ cntN (ptR ρ (nI c)) 10 = 0 ∧ ¬ cntN (ptR ρ (nI c)) 10 = 4 ∧ ∃ V' L' N' ρ', fc_join V L N (nI p) (nI c) hs = some (.inl ((V', L', N'), nI (N 4))) ∧ Rel V' L' N' ρ' t nw 0 ∧ PJ ρ' (xg γ (N 4) p c x nw) (xe ε (N 4) (evn (nI p) 0 (nI nw) (nI x))) M ∧ PA ρ' ∧ N' 4 = N 4 + 1 ∧ N' 1 = N 1 ∧ N' 0 = N 0 ∧ ρ' 6 = ρ 6 ∧ ((ρ' 26 (N 4) = 0 ∧ cntN (ptR ρ' (nI c)) 10 = cntN (ptR ρ (nI c)) 10 + 1) ∨ (ρ' 26 (N 4) = 2 ∧ cntN (ptR ρ' (nI c)) 10 = cntN (ptR ρ (nI c)) 10))) := by
  have hn4 := h.n4
  have hn1 := h.r3.2.1.2.2.1
  have e13 : L 13 0 = iot (N 1) := h.r3.2.2.2.2.1
  have e14 : L 14 0 = iot (N 4) := h.r3.2.2.2.2.2
  have hclp := nI_clamp (show p < 2 ^ 31 by omega)
  have hclc := nI_clamp (show c < 2 ^ 31 by omega)
  obtain ⟨oa, p1, p2, -, -⟩ := h.chan hx
  have hm10 := cntN_le (ptR ρ (nI c)) 10
  have hm4 := h.r15 c hc
  have hcc : fc_join V L N (nI p) (nI c) hs = if ρ 9 p = -1 ∧ ¬ cntN (ptR ρ (nI c)) 10 = 0 ∧ ¬ cntN (ptR ρ (nI c)) 10 = 4 ∧ ¬ oa < 1 ∧ N 4 < 80 then (fc_openLeg V L N (nI p) (nI c) hs).bind fun o13 => (fc_takeSliceOrCut o13.1.1 o13.1.2.1 o13.1.2.2 o13.2).bind fun o16 => some (.inl ((o16.1, o16.2.1, o16.2.2), (o16.1 80 o13.2.toNatClampNeg))) else some (.inr 3) := by
    unfold fc_join
    rw [phA_ok hp]
    simp only [po_b, Sum.elim_inl]
    rw [caA_ok e13 (by omega) hc]
    simp only [po_b, Sum.elim_inl]
    rw [pc_count (v0 := nI c) (by rw [hclc, h.r10 c hc, List.length_map]; exact Nat.le_trans mem_len (by omega)), hclc, h.cnt hc]
    simp only [po_b]
    rw [hclp, h.c 104 9 (by decide), h.c 101 6 (by decide), ex, p1, e14, iot_len]
    simp only [po_b]
    by_cases h1 : ρ 9 p = -1
    · rw [if_pos h1]
      by_cases h2 : cntN (ptR ρ (nI c)) 10 = 0
      · rw [if_pos (show nI (cntN (ptR ρ (nI c)) 10) = 0 by rw [h2]; rfl), if_neg (fun z => z.2.1 h2)]
      · rw [if_neg (nI_ne0 (by omega) (by omega))]
        by_cases h3 : cntN (ptR ρ (nI c)) 10 = 4
        · rw [if_neg (show ¬ nI (cntN (ptR ρ (nI c)) 10) < 4 by rw [h3]; decide), if_neg (fun z => z.2.2.1 h3)]
        · rw [if_pos (show nI (cntN (ptR ρ (nI c)) 10) < 4 from nI_lt (b := 4) (by omega) (by omega))]
          by_cases h4 : oa < 1
          · rw [if_pos h4, if_neg (fun z => z.2.2.2.1 h4)]
          · rw [if_neg h4]
            by_cases h5 : N 4 < 80
            · rw [if_pos (show nI (N 4) < 80 from nI_lt (b := 80) h5 (by omega)), if_pos ⟨h1, h2, h3, h4, h5⟩]
            · rw [if_neg (show ¬ nI (N 4) < 80 from nI_nlt (b := 80) (by omega) (by omega)), if_neg (fun z => h5 z.2.2.2.2)]
    · rw [if_neg h1, if_neg (fun z => h1 z.1)]
  rw [hcc]
  by_cases hg : ρ 9 p = -1 ∧ ¬ cntN (ptR ρ (nI c)) 10 = 0 ∧ ¬ cntN (ptR ρ (nI c)) 10 = 4 ∧ ¬ oa < 1 ∧ N 4 < 80
  · rw [if_pos hg]
    obtain ⟨h1, h2, h3, h4, h5⟩ := hg
    refine Or.inr ⟨h1, h2, h3, ?_⟩
    obtain ⟨hh, hhh, hhh2, ehh⟩ := pn_of (h.r5.2.2.2.1 c hc)
    obtain ⟨w, ew⟩ : ∃ w : Int32, w = if hs = 0 then ρ 7 p else ρ 7 hh := ⟨_, rfl⟩
    have hw : vp_in w 4 := by
      rw [ew]
      split
      · exact (h.r5.2.1 p hp).2
      · exact (h.r5.2.1 hh hhh).2
    obtain ⟨V1, L1, N1, ρ1, a1, a2, a3, a4, a5, a6, a7, a8, a9⟩ := op_open h ht hp h1 hc h5 hw (by omega)
    have f1 : ρ1 = brR ρ N p c w nw := by
      have z := begins_eq (c := c) (w := w) h hp h5
      rw [a2] at z
      exact congrArg Prod.fst (Option.some.inj z)
    have j1 := open_keep (w := w) h hp h1 (show c < 40 by omega) h5 hx ex hJ
    obtain ⟨q1, q1o⟩ := br_pt (w := w) h hp h1 h5 (show c < 2 ^ 31 by omega)
    rw [← f1] at j1 q1 q1o
    have hp0 := hP.1 c (by omega)
    have P1 : PA ρ1 := ⟨fun c' hc' => by
      by_cases e : c' = c
      · rw [e]; omega
      · rw [q1o c' (by omega) e]
        exact hP.1 c' hc', fun q hq => by rw [a4 8 (by decide)]; exact hP.2 q hq⟩
    have e24 : ρ1 24 (N 4) = nI c := by rw [f1]; exact br_new.2.2.1
    obtain ⟨V2, L2, N2, ρ2, b1, b3, b2, bP, b4, b5, b66, b6⟩ := cut_keep a3 ht (k := N 4) (by omega) (by rw [a4 26 (by decide)]; exact h.r16 26 (by decide) _ (Nat.le_refl _)) (by rw [a4 34 (by decide)]; exact h.r16 34 (by decide) _ (Nat.le_refl _)) j1 P1 e24 (show c < 40 by omega) q1
    have hcl4 := nI_clamp (show N 4 < 2 ^ 31 by omega)
    refine ⟨V2, L2, N2, ρ2, ?_, b3, b2, bP, by rw [b5 4 (by decide), a6], by rw [b5 1 (by decide), a5 1 (by decide) (by decide) (by decide)], by rw [b5 0 (by decide), a5 0 (by decide) (by decide) (by decide)], by rw [b66, a4 6 (by decide)], ?_⟩
    · have ho : fc_openLeg V L N (nI p) (nI c) hs = some ((V1, L1, N1), nI (N 4)) := by
        unfold fc_openLeg
        rw [hclp, hclc, h.c 102 7 (by decide), h.c 21 21 (by decide), ehh, nI_clamp hhh2]
        rw [ew] at a1
        by_cases e : hs = 0
        · rw [if_pos e] at a1 ⊢; exact a1
        · rw [if_neg e] at a1 ⊢; exact a1
      rw [ho]
      simp only [po_b]
      rw [b1]
      simp only [po_b]
      rw [hcl4, b3.r2 80 (by decide) (N 4) (by show N 4 < N2 4; rw [b5 4 (by decide)]; omega)]
    · rcases b6 with ⟨e26, e5⟩ | ⟨e26, e5⟩
      · exact Or.inl ⟨by rw [e26, a4 26 (by decide)]; exact h.r16 26 (by decide) _ (Nat.le_refl _), e5⟩
      · exact Or.inr ⟨e26, by rw [e5, if_neg (by omega)]; omega⟩
  · rw [if_neg hg]
    exact Or.inl rfl
theorem p_leave0 (h : Rel V L N ρ t nw 0) (hp : p < 10) (h9 : ρ 9 p = -1) : fc_leave V L N (nI p) = some (.inr 3) := by
  unfold fc_leave
  rw [phA_ok hp]
  simp only [po_b, Sum.elim_inl]
  rw [nI_clamp (show p < 2 ^ 31 by omega), h.c 104 9 (by decide), if_pos h9]
theorem p_leave (h : Rel V L N ρ t nw 0) (ht : t ≤ 512) (hp : p < 10) (hk : k < N 4) (q : ρ 9 p = nI k) (qa : ρ 26 k = 0) (qp : ρ 23 k = nI p) (hc : c < N 1) (ec : ρ 24 k = nI c) (hJ : PJ ρ γ ε M) (hP : PA ρ) :
    ∃ V' L' N' ρ', fc_leave V L N (nI p) = some (.inl ((V', L', N'), nI (if cntN (ptR ρ (nI c)) 10 = 2 then 0 else cntN (ptR ρ (nI c)) 10 - 1))) ∧ Rel V' L' N' ρ' t nw 0 ∧ PJ ρ' γ ε M ∧ PA ρ' ∧ (∀ d, d ≠ 3 → N' d = N d) ∧ ρ' 26 k = 1 ∧ ρ' 9 p = -1 := by
  have hn4 := h.n4
  have hn1 := h.r3.2.1.2.2.1
  have hclp := nI_clamp (show p < 2 ^ 31 by omega)
  have hclk := nI_clamp (show k < 2 ^ 31 by omega)
  obtain ⟨V1, L1, N1, ρ1, a1, a2, a3, a4, a5, a6, a7, a8, aE⟩ := op_close h ht hk qa (st := 1) (by decide)
  obtain ⟨ρ2, k1, k2, k3, k4, k5, -⟩ := close_keep h ht hk qa (st := 1) (by decide) hJ hP (show c < 40 by omega) ec
  obtain rfl : ρ2 = ρ1 := Option.some.inj (k1.symm.trans a2)
  rw [qp, hclp] at a6
  have hk1 : k < N1 4 := by rw [a8 4 (by decide)]; exact hk
  have hc1 : c < N1 1 := by rw [a8 1 (by decide)]; exact hc
  have hcnt := a3.cnt hc1
  refine ⟨V1, L1, N1, ρ2, ?_, a3, k2, k3, a8, a5, a6⟩
  unfold fc_leave
  rw [phA_ok hp]
  simp only [po_b, Sum.elim_inl]
  rw [hclp, h.c 104 9 (by decide), q, if_neg (pn_m1 (by omega)), a1]
  simp only [po_b]
  rw [hclk, a3.c 82 24 (by decide), a4 24 (by decide), ec, pc_count (v0 := nI c) (by rw [nI_clamp (by omega), a3.r10 c hc1, List.length_map]; exact Nat.le_trans mem_len (by have := a3.n4; omega)), nI_clamp (by omega), hcnt, k5]
  simp only [po_b]
end FK
