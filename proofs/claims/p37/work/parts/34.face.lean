/-! begin, join, leave, move, pass: both sides answer alike -/
def cd3 (e : Nat) : Int32 := if e = 1 then 1 else if e = 2 then 2 else if e = 3 then 3 else 0
def cd13 (e : Nat) : Int32 := if e = 1 then 1 else if e = 3 then 2 else 0
def cd23 (e : Nat) : Int32 := if e = 2 then 1 else if e = 3 then 2 else 0
def cd12 (e : Nat) : Int32 := if e = 1 then 1 else if e = 2 then 2 else 0
def cd2 (e : Nat) : Int32 := if e = 2 then 1 else 0
def cd1 (e : Nat) : Int32 := if e = 1 then 1 else 0
section FA
variable {V V' : Rho} {L : Lst} {N : Cnt} {ρ ρ' : Rho} {t nw i k p c : Nat}
theorem Rel.err (h : Rel V L N ρ t nw 0) (e : Int32) : RelX (V, L, N) (cs ρ 39 0 e) t ∧ E26 ρ ≤ E26 (cs ρ 39 0 e) := ⟨⟨nw, h.can e⟩, Nat.le_of_eq (E26_eq rfl).symm⟩
/-- the legs of a new call, or of one that is joined -/
theorem two_legs (h : Rel V L N ρ t nw 0) (ht : t ≤ 512) {a b : Nat} {hs : Int32} (ha : a < 10) (hb : b < 10) (hab : a ≠ b) (h9a : ρ 9 a = -1) (h9b : ρ 9 b = -1) (hc : c < N 1) (h80 : N 4 + 2 ≤ 80) (hcnt : cntN (ptR ρ (nI c)) 10 = 0) (hhost : ρ 21 c = nI a) : ∃ W' ρ', ((fc_openLeg V L N (nI a) (nI c) 0).bind fun o19 => (fc_openLeg o19.1.1 o19.1.2.1 o19.1.2.2 (nI b) (nI c) hs).bind fun o22 => (fc_takeSliceOrCut o22.1.1 o22.1.2.1 o22.1.2.2 o19.2).bind fun o25 => (if (o25.1 87 o22.2.toNatClampNeg) = 0 then (fc_takeSliceOrCut o25.1 o25.2.1 o25.2.2 o22.2).bind fun o27 => some (Sum.inl ((o27.1, o27.2.1, o27.2.2), (o27.1 20 (nI c).toNatClampNeg))) else some (Sum.inl ((o25.1, o25.2.1, o25.2.2), (o25.1 20 (nI c).toNatClampNeg))))) = some (Sum.inl (W', nI c) : (CW × Int32) ⊕ Nat) ∧ ((fr_begins ρ (nI a) (nI c) (ρ 7 a)).bind fun o7 => (if hs = 0 then fr_begin_242 o7.1 (nI c) o7.2 (nI b) (nI c) (nI b) else fr_begin_242 o7.1 (nI c) o7.2 (nI b) (nI c) (nI a))) = some (ρ', nI c) ∧ (RelX W' ρ' t ∧ E26 ρ ≤ E26 ρ') ∧ ρ' 39 0 = ρ 39 0 := by
  have hn4 := h.n4
  have hclc := nI_clamp (show c < 2 ^ 31 by have := h.r3.2.1.2.2.1; omega)
  obtain ⟨V1, L1, N1, ρ1, a1, a2, a3, a4, a5, a6, a7, a8, a9⟩ := op_open h ht ha h9a hc (by omega) (h.r5.2.1 a ha).2 (by omega)
  have hc1 : c < N1 1 := by rw [a5 1 (by decide) (by decide) (by decide)]; exact hc
  obtain ⟨w, hw, ew⟩ : ∃ w : Int32, vp_in w 4 ∧ w = if hs = 0 then ρ1 7 b else ρ1 7 a := by
    by_cases e : hs = 0
    · rw [if_pos e]; exact ⟨_, (a3.r5.2.1 b hb).2, rfl⟩
    · rw [if_neg e]; exact ⟨_, (a3.r5.2.1 a ha).2, rfl⟩
  obtain ⟨V2, L2, N2, ρ2, b1, b2, b3, b4, b5, b6, b7, b8, b9⟩ := op_open a3 ht hb (by rw [a7, if_neg (fun z => hab z.symm)]; exact h9b) hc1 (by omega) hw (by omega)
  have hk1 : N 4 < N2 4 := by omega
  have e26a : ρ2 26 (N 4) = 0 := by rw [b4 26 (by decide), a4 26 (by decide)]; exact h.r16 26 (by decide) _ (Nat.le_refl _)
  have e34a : ρ2 34 (N 4) = 0 := by rw [b4 34 (by decide), a4 34 (by decide)]; exact h.r16 34 (by decide) _ (Nat.le_refl _)
  have e34b : ρ2 34 (N1 4) = 0 := by rw [b4 34 (by decide), a4 34 (by decide)]; exact h.r16 34 (by decide) _ (by omega)
  obtain ⟨V3, L3, N3, ρ3, c1, c2, c3, c4, c5, c6, cE⟩ := op_cut b3 ht hk1 e26a e34a
  have hne : N1 4 ≠ N 4 := by omega
  have hk2 : N1 4 < N3 4 := by rw [c5 4 (by decide)]; omega
  have e39 : ρ2 39 0 = ρ 39 0 := by rw [b4 39 (by decide), a4 39 (by decide)]
  have hcl1 := nI_clamp (show N1 4 < 2 ^ 31 by omega)
  have e21 : V1 21 c = nI a := by rw [a3.c 21 21 (by decide), a4 21 (by decide)]; exact hhost
  have hcx : fc_openLeg V L N (nI a) (nI c) 0 = some ((V1, L1, N1), nI (N 4)) := by
    unfold fc_openLeg
    rw [if_pos rfl, nI_clamp (show a < 2 ^ 31 by omega), h.c 102 7 (by decide)]
    exact a1
  have hcy : fc_openLeg V1 L1 N1 (nI b) (nI c) hs = some ((V2, L2, N2), nI (N1 4)) := by
    unfold fc_openLeg
    rw [nI_clamp (show b < 2 ^ 31 by omega), hclc, e21, nI_clamp (show a < 2 ^ 31 by omega), a3.c 102 7 (by decide)]
    rw [ew] at b1
    by_cases e : hs = 0
    · rw [if_pos e] at b1 ⊢; exact b1
    · rw [if_neg e] at b1 ⊢; exact b1
  have g10 : ∀ x, x < 10 → ¬ (nI x < 0 ∨ 10 ≤ x) := fun x hx => ng (n := 10) hx (by omega)
  have g80 := ng (n := 80) (show N1 4 < 80 by omega) (by omega)
  have hr242 : ∀ x, x < 10 → ρ1 7 x = w → fr_begin_242 ρ1 (nI c) (nI (N 4)) (nI b) (nI c) (nI x) = (if ρ3 26 (N1 4) = 0 then (fr_getsSlice ρ3 (nI (N1 4))).bind fun o6 => some (o6, nI c) else some (ρ3, nI c)) := fun x hx e => by
    unfold fr_begin_242
    rw [nI_clamp (show x < 2 ^ 31 by omega), if_neg (g10 x hx), e, b2]
    simp only [po_b]
    rw [c2]
    simp only [po_b]
    rw [hcl1, if_neg g80]
  have hrr : (if hs = 0 then fr_begin_242 ρ1 (nI c) (nI (N 4)) (nI b) (nI c) (nI b) else fr_begin_242 ρ1 (nI c) (nI (N 4)) (nI b) (nI c) (nI a)) = (if ρ3 26 (N1 4) = 0 then (fr_getsSlice ρ3 (nI (N1 4))).bind fun o6 => some (o6, nI c) else some (ρ3, nI c)) := by
    by_cases e : hs = 0
    · rw [if_pos e] at ew ⊢; exact hr242 b hb ew.symm
    · rw [if_neg e] at ew ⊢; exact hr242 a ha ew.symm
  have e20 : ∀ (W : Rho) (L' : Lst) (N' : Cnt) (ρ' : Rho), Rel W L' N' ρ' t nw 0 → N' 1 = N 1 → W 20 c = nI c := fun W L' N' ρ' hr e => hr.r2 20 (by decide) c (by show c < N' 1; omega)
  have eN3 : N3 1 = N 1 := by rw [c5 1 (by decide), b5 1 (by decide) (by decide) (by decide), a5 1 (by decide) (by decide) (by decide)]
  rw [hcx, a2]
  simp only [po_b]
  rw [hcy, hrr]
  simp only [po_b]
  rw [c1]
  simp only [po_b]
  rw [hcl1, hclc, c3.c 87 26 (by decide)]
  by_cases hz : ρ3 26 (N1 4) = 0
  · obtain ⟨V4, L4, N4, ρ4, d1, d2, d3, d4, d5, d6, dE⟩ := op_cut c3 ht hk2 hz (c4 _ hne e34b)
    rw [if_pos hz, if_pos hz, d1, d2]
    simp only [po_b]
    rw [e20 V4 L4 N4 ρ4 d3 (by rw [d5 1 (by decide)]; exact eN3)]
    exact ⟨_, ρ4, rfl, rfl, ⟨⟨nw, d3⟩, by rw [E26_eq (b4 26 (by decide)), E26_eq (a4 26 (by decide))] at cE; omega⟩, by rw [d6, c6, e39]⟩
  · rw [if_neg hz, if_neg hz, e20 V3 L3 N3 ρ3 c3 eN3]
    exact ⟨_, ρ3, rfl, rfl, ⟨⟨nw, c3⟩, by rw [E26_eq (b4 26 (by decide)), E26_eq (a4 26 (by decide))] at cE; omega⟩, by rw [c6, e39]⟩
/-- what the reference looks at before a call begins -/
theorem begin_pre (h : Rel V L N ρ t nw 0) {a b : Nat} {hs : Int32} (ha : a < 10) (hb : b < 10) : ∃ B : Int32, fr_begin_19 ρ (nI a) (nI b) hs 1 = fr_begin_147 ρ (nI a) (nI b) hs 1 B ∧ (¬ nI a = nI b → (¬ B = 0 ∧ fc_begin V L N (nI a) (nI b) hs = some (.inr 3)) ∨ (B = 0 ∧ ρ 9 a = -1 ∧ ρ 9 b = -1 ∧ N 1 < 40 ∧ N 4 + 2 ≤ 80 ∧ fc_begin V L N (nI a) (nI b) hs = ((fc_openLeg (cs (cs V 20 (N 1) (nI (N 1))) 21 (N 1) (nI a)) (lput (lput L 17 (N 1) []) 13 0 (iot (N 1) ++ [nI (N 1)])) (nup N 1) (nI a) (nI (N 1)) 0).bind fun o19 => (fc_openLeg o19.1.1 o19.1.2.1 o19.1.2.2 (nI b) (nI (N 1)) hs).bind fun o22 => (fc_takeSliceOrCut o22.1.1 o22.1.2.1 o22.1.2.2 o19.2).bind fun o25 => (if (o25.1 87 o22.2.toNatClampNeg) = 0 then (fc_takeSliceOrCut o25.1 o25.2.1 o25.2.2 o22.2).bind fun o27 => some (Sum.inl ((o27.1, o27.2.1, o27.2.2), (o27.1 20 (nI (N 1)).toNatClampNeg))) else some (Sum.inl ((o25.1, o25.2.1, o25.2.2), (o25.1 20 (nI (N 1)).toNatClampNeg))))))) := by
  have hn4 := h.n4
  have hn1 := h.r3.2.1.2.2.1
  have ga := ng (n := 10) ha (by omega)
  have gb := ng (n := 10) hb (by omega)
  have hcla := nI_clamp (show a < 2 ^ 31 by omega)
  have hclb := nI_clamp (show b < 2 ^ 31 by omega)
  have e20 : ρ 20 0 = nI (N 1) := h.r3.2.2.1.2.1
  have e22 : ρ 22 0 = nI (N 4) := h.r3.2.2.1.2.2
  obtain ⟨xa, hxa, hxa2, exa⟩ := pn_of (h.r5.2.1 a ha).1
  obtain ⟨xb, hxb, hxb2, exb⟩ := pn_of (h.r5.2.1 b hb).1
  obtain ⟨oa, p1, p2, p3, p4⟩ := h.chan hxa
  obtain ⟨ob, q1, q2, q3, q4⟩ := h.chan hxb
  have r142 : fr_begin_142 ρ (nI a) (nI b) hs 1 = fr_begin_147 ρ (nI a) (nI b) hs 1 1 := rfl
  have r66 : fr_begin_66 ρ (nI a) (nI b) hs 1 = fr_begin_147 ρ (nI a) (nI b) hs 1 1 := by
    unfold fr_begin_66 fr_begin_71 fr_begin_97 fr_begin_98
    rw [if_neg (by decide), hcla, hclb, if_neg ga, if_neg gb, if_neg (show ¬ (1 : Int32) = 0 by decide), if_neg (show ¬ (1 : Int32) = 0 by decide), ite_self]
    rfl
  have r19 : fr_begin_19 ρ (nI a) (nI b) hs 1 = if ρ 9 a = -1 ∧ ρ 9 b = -1 ∧ N 1 < 40 ∧ N 4 + 2 ≤ 80 then fr_begin_71 ρ (nI a) (nI b) hs 1 0 else fr_begin_147 ρ (nI a) (nI b) hs 1 1 := by
    unfold fr_begin_19
    rw [if_neg (by decide), r66, hcla, hclb, e20, e22, if_neg ga, if_neg gb, show nI (N 4) + 2 = nI (N 4 + 2) from nI_add _ 2]
    by_cases h1 : ρ 9 a = -1
    · rw [if_pos h1]
      by_cases h2 : ρ 9 b = -1
      · rw [if_pos h2]
        by_cases h3 : N 1 < 40
        · rw [if_neg (show ¬ nI (N 1) = 40 from fun z => by
            have := (nI_eq (a := N 1) (b := 40) (by omega) (by omega)).mp z
            omega)]
          by_cases h4 : N 4 + 2 ≤ 80
          · rw [if_pos (show nI (N 4 + 2) ≤ 80 from nI_le (b := 80) h4 (by omega)), if_pos ⟨h1, h2, h3, h4⟩]
          · rw [if_neg (show ¬ nI (N 4 + 2) ≤ 80 from nI_ge (a := 80) (by omega) (by omega)), if_neg (fun z => h4 z.2.2.2)]
        · rw [if_pos (show nI (N 1) = 40 by rw [show N 1 = 40 by omega]; rfl), if_neg (fun z => h3 z.2.2.1)]
      · rw [if_neg h2, if_neg (fun z => h2 z.2.1)]
    · rw [if_neg h1, if_neg (fun z => h1 z.1)]
  have r122 : ∀ m : Int32, ∀ v, fr_hasChannels ρ (nI xa) m = some v → fr_begin_122 ρ (nI a) (nI b) hs 1 (nI xa) m = if v = 0 then fr_begin_147 ρ (nI a) (nI b) hs 1 1 else if ob < 1 then fr_begin_147 ρ (nI a) (nI b) hs 1 1 else fr_begin_147 ρ (nI a) (nI b) hs 1 0 := fun m v e => by
    unfold fr_begin_122
    rw [e, hclb, if_neg gb, exb, q2, r142]
    simp only [po_b]
    by_cases v0 : v = 0
    · rw [if_pos v0, if_pos v0]
    · rw [if_neg v0, if_neg v0]
      by_cases z : ob < 1
      · rw [if_pos z, if_pos rfl, if_pos z]
      · rw [if_neg z, if_neg (show ¬ (1 : Int32) = 0 by decide), if_neg z]
  have r71 : fr_begin_71 ρ (nI a) (nI b) hs 1 0 = if xa = xb then (if oa < 2 then fr_begin_147 ρ (nI a) (nI b) hs 1 1 else if ob < 1 then fr_begin_147 ρ (nI a) (nI b) hs 1 1 else fr_begin_147 ρ (nI a) (nI b) hs 1 0) else (if oa < 1 then fr_begin_147 ρ (nI a) (nI b) hs 1 1 else if ob < 1 then fr_begin_147 ρ (nI a) (nI b) hs 1 1 else fr_begin_147 ρ (nI a) (nI b) hs 1 0) := by
    unfold fr_begin_71 fr_begin_97 fr_begin_98
    rw [if_neg (by decide), hcla, hclb, if_neg ga, if_neg gb, exa, exb]
    simp only [if_true]
    rw [if_neg ga, if_neg ga, if_neg (show ¬ (1 : Int32) = 0 by decide), r122 2 _ p3, r122 1 _ p2]
    by_cases e : xa = xb
    · rw [if_pos (by rw [e]), if_pos e]
      by_cases z : oa < 2
      · rw [if_pos z, if_pos rfl, if_pos z]
      · rw [if_neg z, if_neg (by decide), if_neg z]
    · rw [if_neg (fun y => e ((nI_eq hxa2 hxb2).mp y)), if_neg e]
      by_cases z : oa < 1
      · rw [if_pos z, if_pos rfl, if_pos z]
      · rw [if_neg z, if_neg (by decide), if_neg z]
  have c73 : ∀ m : Int32, fc_begin_73 V L N hs (nI a) (nI b) m = if oa < m then some (.inr 3) else if m ≤ ob then (if N 1 < 40 ∧ N 4 + 2 ≤ 80 then ((fc_openLeg (cs (cs V 20 (N 1) (nI (N 1))) 21 (N 1) (nI a)) (lput (lput L 17 (N 1) []) 13 0 (iot (N 1) ++ [nI (N 1)])) (nup N 1) (nI a) (nI (N 1)) 0).bind fun o19 => (fc_openLeg o19.1.1 o19.1.2.1 o19.1.2.2 (nI b) (nI (N 1)) hs).bind fun o22 => (fc_takeSliceOrCut o22.1.1 o22.1.2.1 o22.1.2.2 o19.2).bind fun o25 => (if (o25.1 87 o22.2.toNatClampNeg) = 0 then (fc_takeSliceOrCut o25.1 o25.2.1 o25.2.2 o22.2).bind fun o27 => some (Sum.inl ((o27.1, o27.2.1, o27.2.2), (o27.1 20 (nI (N 1)).toNatClampNeg))) else some (Sum.inl ((o25.1, o25.2.1, o25.2.2), (o25.1 20 (nI (N 1)).toNatClampNeg))))) else some (.inr 3)) else some (.inr 3) := fun m => by
    have e13 : L 13 0 = iot (N 1) := h.r3.2.2.2.2.1
    have e14 : L 14 0 = iot (N 4) := h.r3.2.2.2.2.2
    have g1 : ¬ 100000 ≤ N 1 := by omega
    have g2 : ¬ 1000 ≤ N 1 := by omega
    have e13' : lput L 17 (N 1) [] 13 0 = iot (N 1) := e13
    unfold fc_begin_73
    rw [hcla, hclb, h.c 101 6 (by decide), exa, exb, p1]
    simp only [po_b]
    rw [q1]
    simp only [po_b]
    rw [e13, e14, iot_len, iot_len, e13', iot_len, show nI (N 4) + 2 = nI (N 4 + 2) from nI_add _ 2]
    simp only [g1, g2, if_false]
    by_cases y1 : oa < m
    · rw [if_pos y1, if_pos y1]
    · rw [if_neg y1, if_neg y1]
      by_cases y2 : m ≤ ob
      · rw [if_pos y2, if_pos y2]
        by_cases h3 : N 1 < 40
        · rw [if_neg (show ¬ (40 : Int32) ≤ nI (N 1) from nI_ge (b := 40) h3 (by omega))]
          by_cases h4 : N 4 + 2 ≤ 80
          · rw [if_pos (show nI (N 4 + 2) ≤ 80 from nI_le (b := 80) h4 (by omega)), if_pos ⟨h3, h4⟩]
          · rw [if_neg (show ¬ nI (N 4 + 2) ≤ 80 from nI_ge (a := 80) (by omega) (by omega)), if_neg (fun z => h4 z.2)]
        · rw [if_pos (show (40 : Int32) ≤ nI (N 1) from nI_le (a := 40) (by omega) (by omega)), if_neg (fun z => h3 z.1)]
      · rw [if_neg y2, if_neg y2]
  have cb : ¬ nI a = nI b → fc_begin V L N (nI a) (nI b) hs = if ρ 9 a = -1 then (if ρ 9 b = -1 then (if xa = xb then fc_begin_73 V L N hs (nI a) (nI b) 2 else fc_begin_73 V L N hs (nI a) (nI b) 1) else some (.inr 3)) else some (.inr 3) := fun hab => by
    unfold fc_begin
    rw [phA_ok ha]
    simp only [po_b, Sum.elim_inl]
    rw [phA_ok hb]
    simp only [po_b, Sum.elim_inl]
    rw [if_neg hab, hcla, hclb, h.c 104 9 (by decide), h.c 101 6 (by decide), exa, exb]
    by_cases e : xa = xb
    · rw [if_pos (show nI xa = nI xb by rw [e]), if_pos e]
    · rw [if_neg (fun y => e ((nI_eq hxa2 hxb2).mp y)), if_neg e]
  rw [r19, r71]
  by_cases hg : ρ 9 a = -1 ∧ ρ 9 b = -1 ∧ N 1 < 40 ∧ N 4 + 2 ≤ 80
  · rw [if_pos hg]
    obtain ⟨g1, g2, g3, g4⟩ := hg
    by_cases e : xa = xb
    · rw [if_pos e]
      have eob : ob = oa := by
        rw [e, q1] at p1
        exact Option.some.inj p1
      by_cases z : oa < 2
      · rw [if_pos z]
        refine ⟨1, rfl, fun hab => Or.inl ⟨by decide, ?_⟩⟩
        rw [cb hab, if_pos g1, if_pos g2, if_pos e, c73, if_pos z]
      · have z1 : ¬ ob < 1 := fun y => z (by rw [← eob]; exact q4 y)
        rw [if_neg z, if_neg z1]
        refine ⟨0, rfl, fun hab => Or.inr ⟨rfl, g1, g2, g3, g4, ?_⟩⟩
        rw [cb hab, if_pos g1, if_pos g2, if_pos e, c73, if_neg z, if_pos (by rw [eob]; exact Int32.not_lt.mp z), if_pos ⟨g3, g4⟩]
    · rw [if_neg e]
      by_cases z : oa < 1
      · rw [if_pos z]
        refine ⟨1, rfl, fun hab => Or.inl ⟨by decide, ?_⟩⟩
        rw [cb hab, if_pos g1, if_pos g2, if_neg e, c73, if_pos z]
      · rw [if_neg z]
        by_cases z1 : ob < 1
        · rw [if_pos z1]
          refine ⟨1, rfl, fun hab => Or.inl ⟨by decide, ?_⟩⟩
          rw [cb hab, if_pos g1, if_pos g2, if_neg e, c73, if_neg z, if_neg (fun y => Int32.not_lt.mpr y z1)]
        · rw [if_neg z1]
          refine ⟨0, rfl, fun hab => Or.inr ⟨rfl, g1, g2, g3, g4, ?_⟩⟩
          rw [cb hab, if_pos g1, if_pos g2, if_neg e, c73, if_neg z, if_pos (Int32.not_lt.mp z1), if_pos ⟨g3, g4⟩]
  · rw [if_neg hg]
    refine ⟨1, rfl, fun hab => Or.inl ⟨by decide, ?_⟩⟩
    rw [cb hab]
    by_cases h1 : ρ 9 a = -1
    · rw [if_pos h1]
      by_cases h2 : ρ 9 b = -1
      · rw [if_pos h2, c73, c73, if_neg (fun z => hg ⟨h1, h2, z⟩)]
        split
        · split
          · rfl
          · split <;> rfl
        · split
          · rfl
          · split <;> rfl
      · rw [if_neg h2]
    · rw [if_neg h1]
theorem f_begin (h : Rel V L N ρ t nw 0) (ht : t ≤ 512) (x y hs : Int32) : OKW V L N (fc_begin V L N x y hs) (fr_begin ρ x y hs) cd3 t (E26 ρ) := by
  have bad1 : ∀ s0 : Int32, fr_begin_19 ρ x y hs 0 = some (cs ρ 39 0 1, 0) := fun _ => by
    unfold fr_begin_19 fr_begin_66 fr_begin_71 fr_begin_97 fr_begin_98 fr_begin_142 fr_begin_147
    simp only [if_true]
    rw [if_neg (show ¬ (1 : Int32) = 0 by decide)]
    unfold fr_begin_178
    rw [can_bad (by decide)]
  unfold fr_begin fr_begin_18
  rcases ix x (n := 10) (by decide) with ⟨a, ha, rfl⟩ | hx
  · rw [isP_ok ha]
    simp only [po_b]
    rw [if_neg (by decide)]
    rcases ix y (n := 10) (by decide) with ⟨b, hb, rfl⟩ | hy
    · rw [isP_ok hb]
      simp only [po_b]
      rw [if_neg (by decide)]
      obtain ⟨B, b1, b2⟩ := begin_pre (hs := hs) h ha hb
      rw [b1]
      by_cases hab : nI a = nI b
      · left
        refine ⟨2, cs ρ 39 0 2, 0, ?_, ?_, cs_at, by decide, h.err 2⟩
        · unfold fc_begin
          rw [phA_ok ha]
          simp only [po_b, Sum.elim_inl]
          rw [phA_ok hb]
          simp only [po_b, Sum.elim_inl]
          rw [if_pos hab]
        · unfold fr_begin_147
          rw [if_neg (by decide), if_pos hab]
          unfold fr_begin_178
          rw [can_bad (by decide)]
      · rcases b2 hab with ⟨c1, c2⟩ | ⟨c1, c2, c3, c4, c5, c6⟩
        · left
          refine ⟨3, cs ρ 39 0 3, 0, c2, ?_, cs_at, by decide, h.err 3⟩
          unfold fr_begin_147
          rw [if_neg (by decide), if_neg hab, if_neg c1]
          unfold fr_begin_178
          rw [can_bad (by decide)]
        · right
          have h0 := h.can 0
          obtain ⟨d1, d2⟩ := op_call h0 ha c4
          have hab' : a ≠ b := fun z => hab (by rw [z])
          obtain ⟨W', ρ', e1, e2, e3, e4⟩ := two_legs (hs := hs) (c := N 1) d1 ht ha hb hab' c2 c3 (by show N 1 < N 1 + 1; omega) c5 d2 cs_at
          refine ⟨W', nI (N 1), ρ', by rw [c6]; exact e1, ?_, by rw [e4]; rfl, e3⟩
          unfold fr_begin_147
          rw [if_neg (by decide), if_neg hab, if_pos c1]
          unfold fr_begin_178
          rw [can_ok]
          have g1 := ng (n := 40) c4 (by omega)
          have ga := ng (n := 10) ha (by omega)
          have e20 : cs ρ 39 0 0 20 0 = nI (N 1) := h.r3.2.2.1.2.1
          simp only [po_b]
          rw [e20, nI_clamp (show N 1 < 2 ^ 31 by omega), nI_clamp (show a < 2 ^ 31 by omega), nI_1, if_neg g1, if_neg ga]
          exact e2
    · rw [isP_bad hy]
      simp only [po_b, if_true]
      left
      refine ⟨1, cs ρ 39 0 1, 0, ?_, bad1 0, cs_at, by decide, h.err 1⟩
      unfold fc_begin
      rw [phA_ok ha]
      simp only [po_b, Sum.elim_inl]
      rw [phA_bad hy]
      simp only [po_b, Sum.elim_inr]
  · rw [isP_bad hx]
    simp only [po_b, if_true]
    left
    refine ⟨1, cs ρ 39 0 1, 0, ?_, bad1 0, cs_at, by decide, h.err 1⟩
    unfold fc_begin
    rw [phA_bad hx]
    simp only [po_b, Sum.elim_inr]
end FA
