/-! WHAT STAYS when legs begin -/
def xg (γ : Nat → Nat → Nat) (n a c cl s : Nat) : Nat → Nat → Nat := fun col k => if k = n then [a, c, cl, 0, s].getD col 0 else γ col k
def xe (ε : Nat → Int32) (n : Nat) (x : Int32) : Nat → Int32 := fun k => if k = n then x else ε k
def brR (ρ : Rho) (N : Cnt) (p c : Nat) (w : Int32) (nw : Nat) : Rho := cs (cs (noR ρ N p c w nw) 9 p (nI (N 4))) 31 (N 4) (evn (nI p) 0 (nI nw) (ρ 6 p))
section OK9
variable {V V' : Rho} {L : Lst} {N : Cnt} {ρ ρ' : Rho} {t nw i k p c x M : Nat} {γ : Nat → Nat → Nat} {ε : Nat → Int32} {w : Int32}
theorem begins_eq (h : Rel V L N ρ t nw 0) (hp : p < 10) (h80 : N 4 < 80) : fr_begins ρ (nI p) (nI c) w = some (brR ρ N p c w nw, nI (N 4)) := by
  have e22 : ρ 22 0 = nI (N 4) := h.r3.2.2.1.2.2
  have e00 := h.r5.2.2.2.2.2.2.1
  have hclp := nI_clamp (show p < 2 ^ 31 by omega)
  have hcl4 := nI_clamp (show N 4 < 2 ^ 31 by omega)
  have gp := ng (n := 10) hp (by omega)
  have g4 := ng (n := 80) h80 (by omega)
  unfold fr_begins fr_notes fr_turned
  rw [e22, hclp, nI_1]
  simp only [po_b, g4, gp, hcl4, if_false, rcs_col, cs_at, ne_eq, Nat.reduceEqDiff, not_false_eq_true]
  rw [e00]
  rfl
theorem br_old {d : Nat} (h1 : d ≠ 9) (h2 : d ≠ 22) {j : Nat} (hj : j < N 4) : brR ρ N p c w nw d j = ρ d j := by
  unfold brR
  rw [cs_nei (by omega), rcs_col h1, noR_old d h2 hj]
theorem br_9 {q : Nat} : brR ρ N p c w nw 9 q = if q = p then nI (N 4) else ρ 9 q := by
  unfold brR
  rw [rcs_col (by decide)]
  by_cases e : q = p
  · rw [e, cs_at, if_pos rfl]
  · rw [cs_nei e, if_neg e]
    rfl
theorem br_chg : chg [9, 22, 23, 24, 25, 30, 31, 32, 33] ρ (brR ρ N p c w nw) := by
  have hc : chg [9, 31] (noR ρ N p c w nw) (brR ρ N p c w nw) := (chg.rf.st (by decide)).st (by decide)
  exact ((noR_chg (ρ := ρ)).sub (C' := [9, 22, 23, 24, 25, 30, 31, 32, 33]) (by decide)).tr (hc.sub (C' := [9, 22, 23, 24, 25, 30, 31, 32, 33]) (by decide)) |>.sub (by decide)
theorem br_new : brR ρ N p c w nw 22 0 = nI (N 4 + 1) ∧ brR ρ N p c w nw 23 (N 4) = nI p ∧ brR ρ N p c w nw 24 (N 4) = nI c ∧ brR ρ N p c w nw 30 (N 4) = nI p ∧ brR ρ N p c w nw 32 (N 4) = nI nw ∧ brR ρ N p c w nw 33 (N 4) = -2 ∧ brR ρ N p c w nw 31 (N 4) = evn (nI p) 0 (nI nw) (ρ 6 p) := by
  unfold brR noR
  refine ⟨?_, ?_, ?_, ?_, ?_, ?_, ?_⟩ <;> simp only [rcs_col, cs_at, ne_eq, Nat.reduceEqDiff, not_false_eq_true]
/-- parties, when a phone without a leg gets one -/
theorem br_pt (h : Rel V L N ρ t nw 0) (hp : p < 10) (h9 : ρ 9 p = -1) (h80 : N 4 < 80) (hc : c < 2 ^ 31) : cntN (ptR (brR ρ N p c w nw) (nI c)) 10 = cntN (ptR ρ (nI c)) 10 + 1 ∧ ∀ c' : Nat, c' < 2 ^ 31 → c' ≠ c → cntN (ptR (brR ρ N p c w nw) (nI c')) 10 = cntN (ptR ρ (nI c')) 10 := by
  have hb := br_new (ρ := ρ) (N := N) (p := p) (c := c) (w := w) (nw := nw)
  have old : ∀ q, q < 10 → q ≠ p → ∀ y : Int32, ptR (brR ρ N p c w nw) y q = ptR ρ y q := fun q hq hne y => by
    unfold ptR
    rw [br_9, if_neg hne]
    rcases h.leg hq with z | ⟨j, hj, z, -, -⟩
    · rw [z]; simp
    · rw [z, nI_clamp (by omega), br_old (by decide) (by decide) hj]
  have h0 : ∀ y : Int32, ptR ρ y p = false := fun y => by
    unfold ptR
    rw [h9]
    simp
  constructor
  · refine cntN_ins hp (h0 _) ?_ (fun j hj hne => old j hj hne _)
    unfold ptR
    rw [br_9, if_pos rfl, nI_clamp (by omega), hb.2.2.1]
    simp [pn_m1 (show N 4 ≤ 100000 by omega)]
  · intro c' hc' hne
    refine cntN_congr (fun j hj => ?_)
    by_cases e : j = p
    · subst e
      rw [h0]
      unfold ptR
      rw [br_9, if_pos rfl, nI_clamp (by omega), hb.2.2.1, show decide (nI c = nI c') = false from decide_eq_false (fun q => hne ((nI_eq hc hc').mp q).symm)]
      simp
    · exact old j hj e _
theorem LG.more (hL : LG ρ γ ε k) {n a c cl s : Nat} {y : Int32} (hk : k ≠ n) : LG ρ (xg γ n a c cl s) (xe ε n y) k := by
  have e : ∀ col, xg γ n a c cl s col k = γ col k := fun col => if_neg hk
  have e2 : xe ε n y k = ε k := if_neg hk
  unfold LG
  rw [e 0, e 1, e 2, e 3, e 4, e2]
  exact hL
theorem open_keep (h : Rel V L N ρ t nw 0) (hp : p < 10) (h9 : ρ 9 p = -1) (hc : c < 40) (h80 : N 4 < 80) (hx : x < 8) (ex : ρ 6 p = nI x) (hJ : PJ ρ γ ε M) : PJ (brR ρ N p c w nw) (xg γ (N 4) p c x nw) (xe ε (N 4) (evn (nI p) 0 (nI nw) (nI x))) M := by
  have hb := br_new (ρ := ρ) (N := N) (p := p) (c := c) (w := w) (nw := nw)
  have hch := br_chg (ρ := ρ) (N := N) (p := p) (c := c) (w := w) (nw := nw)
  have hnw := h.r5.2.2.2.2.2.2.2
  have hl := h.lgs
  have hn : nlg (brR ρ N p c w nw) = N 4 + 1 := by unfold nlg; rw [hb.1, nI_clamp (by omega)]
  have fz : ∀ d ∈ [26, 27, 28, 29, 34, 35], brR ρ N p c w nw d (N 4) = 0 := fun d hd => by
    rw [hch d (by revert d; decide)]
    exact h.r16 d hd _ (Nat.le_refl _)
  refine ⟨fun j hj => ?_, ?_, ?_⟩
  · rw [hn] at hj
    by_cases e : j = N 4
    · subst e
      have g : ∀ col, xg γ (N 4) p c x nw col (N 4) = [p, c, x, 0, nw].getD col 0 := fun col => if_pos rfl
      unfold LG
      rw [g 0, g 1, g 2, g 3, g 4, fz 26 (by decide), fz 27 (by decide), fz 28 (by decide), fz 29 (by decide), hb.2.1, hb.2.2.1, hb.2.2.2.1, hb.2.2.2.2.1, hb.2.2.2.2.2.2, hch 6 (by decide), ex, show xe ε (N 4) (evn (nI p) 0 (nI nw) (nI x)) (N 4) = evn (nI p) 0 (nI nw) (nI x) from if_pos rfl]
      refine ⟨⟨rfl, rfl, hp, hc, hx, Nat.zero_lt_two, hnw⟩, Int32.zero_add _, ⟨nI p, (b8_id hp).symm⟩, fun _ => ⟨rfl, rfl, rfl⟩, fun z => absurd (show (0 : Nat) = 1 from z) (by decide), fun _ _ => ⟨rfl, ex⟩, fun _ z => absurd rfl z⟩
    · have hj4 : j < N 4 := by omega
      exact LG.more ((hJ.1 j (by omega)).congr (fun d hd => br_old (fun z => by rw [z] at hd; revert hd; decide) (fun z => by rw [z] at hd; revert hd; decide) hj4) (hch 6 (by decide))) e
  · obtain ⟨m1, m2, m3⟩ := hJ.2.1
    have e1 : fre (brR ρ N p c w nw) = fre ρ := by funext j; unfold fre; rw [hch 12 (by decide)]
    have e2 : spe (brR ρ N p c w nw) = spe ρ := by funext j; unfold spe; rw [hch 13 (by decide)]
    have e3 : sumN (mIn (brR ρ N p c w nw)) (N 4) = sumN (mIn ρ) (N 4) := sumN_congr (fun j hj => by
      unfold mIn
      rw [br_old (by decide) (by decide) hj, br_old (by decide) (by decide) hj, br_old (by decide) (by decide) hj])
    have e4 : sumN (cha (brR ρ N p c w nw)) (N 4) = sumN (cha ρ) (N 4) := sumN_congr (fun j hj => by
      unfold cha
      rw [br_old (by decide) (by decide) hj])
    have z1 : mIn (brR ρ N p c w nw) (N 4) = 0 := by
      unfold mIn
      rw [hb.2.2.2.2.2.1, if_neg (by decide)]
    have z2 : cha (brR ρ N p c w nw) (N 4) = 0 := by
      unfold cha
      rw [fz 28 (by decide)]
      decide
    rw [hl] at m1 m2
    unfold MQ9
    have s1 : sumN (mIn (brR ρ N p c w nw)) (N 4 + 1) = sumN (mIn ρ) (N 4) := by rw [sumN_succ, e3, z1, Nat.add_zero]
    have s2 : sumN (cha (brR ρ N p c w nw)) (N 4 + 1) = sumN (cha ρ) (N 4) := by rw [sumN_succ, e4, z2, Nat.add_zero]
    rw [hn, e1, e2, hch 13 (by decide), s1, s2]
    exact ⟨m1, m2, m3⟩
  · intro b hb9
    have hb0 : nbd (brR ρ N p c w nw) = nbd ρ := by unfold nbd; rw [hch 14 (by decide)]
    rw [hb0] at hb9
    obtain ⟨q1, q2⟩ := hJ.2.2 b hb9
    rw [hl] at q2
    have e3 : sumN (bsl (brR ρ N p c w nw) b) (N 4) = sumN (bsl ρ b) (N 4) := sumN_congr (fun j hj => by
      unfold bsl
      rw [br_old (by decide) (by decide) hj, br_old (by decide) (by decide) hj])
    have z1 : bsl (brR ρ N p c w nw) b (N 4) = 0 := by
      unfold bsl
      rw [fz 34 (by decide)]
      split <;> decide
    rw [hn, sumN_succ, e3, z1, hch 17 (by decide)]
    exact ⟨q1, q2⟩
/-- a slice for a leg that has just begun: class and reference -/
theorem cut_keep (h : Rel V L N ρ t nw 0) (ht : t ≤ 512) (hk : k < N 4) (ha : ρ 26 k = 0) (h34 : ρ 34 k = 0) (hJ : PJ ρ γ ε M) (hP : PA ρ) {q : Nat} (ec : ρ 24 k = nI c) (hc : c < 40) (hq : cntN (ptR ρ (nI c)) 10 = q) : ∃ V' L' N' ρ', fc_takeSliceOrCut V L N (nI k) = some (V', L', N') ∧ Rel V' L' N' ρ' t nw 0 ∧ PJ ρ' γ ε M ∧ PA ρ' ∧ (∀ j, j ≠ k → ρ 34 j = 0 → ρ' 34 j = 0) ∧ (∀ d, d ≠ 3 → N' d = N d) ∧ ρ' 6 = ρ 6 ∧ ((ρ' 26 = ρ 26 ∧ cntN (ptR ρ' (nI c)) 10 = q) ∨ (ρ' 26 k = 2 ∧ cntN (ptR ρ' (nI c)) 10 = (if q = 2 then 0 else q - 1))) := by
  obtain ⟨V3, L3, N3, ρ3, c1, c2, c3, c4, c5, -, -⟩ := op_cut h ht hk ha h34
  obtain ⟨ρ4, k1, k2, k3, k4⟩ := gets_keep h ht hk ha h34 hJ hP hc ec
  obtain rfl : ρ4 = ρ3 := Option.some.inj (k1.symm.trans c2)
  refine ⟨V3, L3, N3, ρ4, c1, c3, k2, k3, c4, c5, ?_, ?_⟩
  · rcases k4 with ⟨-, -, -, -, hch⟩ | ⟨-, -, -, hch, -, -⟩
    · exact hch 6 (by decide)
    · exact hch 6 (by decide)
  rcases k4 with ⟨e26, -, -, -, hch⟩ | ⟨e26, -, -, -, e5, -⟩
  · refine Or.inl ⟨e26, ?_⟩
    rw [← hq]
    refine cntN_congr (fun j _ => ?_)
    unfold ptR
    rw [hch 9 (by decide), hch 24 (by decide)]
  · exact Or.inr ⟨e26, by rw [e5, hq]⟩
end OK9
