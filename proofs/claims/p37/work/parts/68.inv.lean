/-! WHAT STAYS: legs beside what the law noted of them, money, bundles, parties -/
def nlg (ρ : Rho) : Nat := (ρ 22 0).toNatClampNeg
def nbd (ρ : Rho) : Nat := (ρ 14 0).toNatClampNeg
def spe (ρ : Rho) (w : Nat) : Nat := (ρ 13 w).toNatClampNeg
def cha (ρ : Rho) (k : Nat) : Nat := (ρ 28 k).toNatClampNeg
def evn (x kind sec cell : Int32) : Int32 := (trn x + 31 * sec) ^^^ (8 * kind + cell)
/-- a leg; γ: its phone, its call, its cell, whether its end is noted, its first second; ε: its events -/
def LG (ρ : Rho) (γ : Nat → Nat → Nat) (ε : Nat → Int32) (k : Nat) : Prop :=
  (ρ 23 k = nI (γ 0 k) ∧ ρ 24 k = nI (γ 1 k) ∧ γ 0 k < 10 ∧ γ 1 k < 40 ∧ γ 2 k < 8 ∧ γ 3 k < 2 ∧ γ 4 k ≤ 50000) ∧
  ρ 27 k + nI (γ 4 k) = ρ 32 k ∧ (∃ x : Int32, ρ 30 k = x.toInt8.toInt32) ∧
  (ρ 27 k = 0 → ρ 30 k = ρ 23 k ∧ ρ 28 k = 0 ∧ ρ 29 k = 0) ∧
  (γ 3 k = 1 → ¬ ρ 26 k = 0 ∧ ρ 31 k = ε k) ∧
  (γ 3 k = 0 → ρ 26 k = 0 → ρ 31 k = ε k ∧ ρ 6 (γ 0 k) = nI (γ 2 k)) ∧
  (γ 3 k = 0 → ¬ ρ 26 k = 0 → ρ 31 k = evn (ε k) 2 (ρ 32 k) (nI (γ 2 k)))
def MQ9 (ρ : Rho) (M : Nat) : Prop := sumN (fre ρ) 4 + sumN (mIn ρ) (nlg ρ) + sumN (spe ρ) 4 = M ∧ sumN (spe ρ) 4 = sumN (cha ρ) (nlg ρ) ∧ ∀ w, w < 4 → ¬ ρ 13 w < 0
def bsl (ρ : Rho) (b k : Nat) : Nat := if ρ 33 k = nI b then (ρ 34 k).toNatClampNeg else 0
def BQ (ρ : Rho) : Prop := ∀ b, b < nbd ρ → ¬ ρ 17 b < 0 ∧ (ρ 17 b).toNatClampNeg + sumN (bsl ρ b) (nlg ρ) ≤ 5000
def PA (ρ : Rho) : Prop := (∀ c : Nat, c < 40 → cntN (ptR ρ (nI c)) 10 ≠ 1) ∧ ∀ p : Nat, p < 10 → ¬ ρ 8 p < -1
/-- how many are CUT -/
def C2 (ρ : Rho) : Nat := cntN (fun k => decide (ρ 26 k = 2)) 80
def PJ (ρ : Rho) (γ : Nat → Nat → Nat) (ε : Nat → Int32) (M : Nat) : Prop := (∀ k, k < nlg ρ → LG ρ γ ε k) ∧ MQ9 ρ M ∧ BQ ρ
section IV
variable {V V' : Rho} {L : Lst} {N : Cnt} {ρ ρ' : Rho} {t nw i k M : Nat} {γ : Nat → Nat → Nat} {ε : Nat → Int32}
theorem Rel.lgs (h : Rel V L N ρ t nw i) : nlg ρ = N 4 := by
  have := h.n4
  unfold nlg
  rw [h.r3.2.2.1.2.2, nI_clamp (by omega)]
theorem Rel.bds (h : Rel V L N ρ t nw i) : nbd ρ = N 0 := by
  have := h.r3.2.1.2.1
  unfold nbd
  rw [h.r3.2.2.1.1, nI_clamp (by omega)]
theorem LG.congr (h : LG ρ γ ε k) (hr : ∀ c ∈ [23, 24, 26, 27, 28, 29, 30, 31, 32], ρ' c k = ρ c k) (h6 : ρ' 6 = ρ 6) : LG ρ' γ ε k := by
  unfold LG
  rw [hr 23 (by decide), hr 24 (by decide), hr 26 (by decide), hr 27 (by decide), hr 28 (by decide), hr 29 (by decide), hr 30 (by decide), hr 31 (by decide), hr 32 (by decide), h6]
  exact h
theorem MQ9.congr (h : MQ9 ρ M) (hr : agr [12, 13, 22, 28, 33, 34, 35] ρ ρ') : MQ9 ρ' M := by
  have e1 : fre ρ' = fre ρ := by funext w; unfold fre; rw [hr 12 (by decide)]
  have e2 : mIn ρ' = mIn ρ := by funext w; unfold mIn; rw [hr 33 (by decide), hr 34 (by decide), hr 35 (by decide)]
  have e3 : spe ρ' = spe ρ := by funext w; unfold spe; rw [hr 13 (by decide)]
  have e4 : cha ρ' = cha ρ := by funext w; unfold cha; rw [hr 28 (by decide)]
  have e5 : nlg ρ' = nlg ρ := by unfold nlg; rw [hr 22 (by decide)]
  unfold MQ9
  rw [e1, e2, e3, e4, e5, hr 13 (by decide)]
  exact h
theorem BQ.congr (h : BQ ρ) (hr : agr [14, 17, 22, 33, 34] ρ ρ') : BQ ρ' := by
  have e2 : bsl ρ' = bsl ρ := by funext b j; unfold bsl; rw [hr 33 (by decide), hr 34 (by decide)]
  have e5 : nlg ρ' = nlg ρ := by unfold nlg; rw [hr 22 (by decide)]
  have e6 : nbd ρ' = nbd ρ := by unfold nbd; rw [hr 14 (by decide)]
  unfold BQ
  rw [e2, e5, e6, hr 17 (by decide)]
  exact h
theorem PA.congr (h : PA ρ) (hr : agr [8, 9, 24] ρ ρ') : PA ρ' := by
  unfold PA ptR
  rw [hr 8 (by decide), hr 9 (by decide), hr 24 (by decide)]
  exact h
theorem C2.congr (hr : ρ' 26 = ρ 26) : C2 ρ' = C2 ρ := by unfold C2; rw [hr]
theorem PJ.congr (h : PJ ρ γ ε M) (hr : agr [6, 12, 13, 14, 17, 22, 23, 24, 26, 27, 28, 29, 30, 31, 32, 33, 34, 35] ρ ρ') : PJ ρ' γ ε M := by
  refine ⟨fun k hk => ?_, h.2.1.congr (fun c hc => hr c (by revert c; decide)), h.2.2.congr (fun c hc => hr c (by revert c; decide))⟩
  have e5 : nlg ρ' = nlg ρ := by unfold nlg; rw [hr 22 (by decide)]
  rw [e5] at hk
  exact (h.1 k hk).congr (fun c hc => by rw [hr c (by revert c; decide)]) (hr 6 (by decide))
theorem MQ9.mv (h : MQ9 ρ M) {w : Nat} (hw : w < 4) (hk : k < nlg ρ) (h13 : ρ' 13 = ρ 13) (h28 : ρ' 28 = ρ 28) (h22 : ρ' 22 = ρ 22) (hfo : ∀ w', w' < 4 → w' ≠ w → ρ' 12 w' = ρ 12 w') (hmo : ∀ j, j < nlg ρ → j ≠ k → mIn ρ' j = mIn ρ j) (hsum : fre ρ' w + mIn ρ' k = fre ρ w + mIn ρ k) : MQ9 ρ' M := by
  obtain ⟨h1, h2, h3⟩ := h
  have en : nlg ρ' = nlg ρ := by unfold nlg; rw [h22]
  have es : spe ρ' = spe ρ := by funext w; unfold spe; rw [h13]
  have ec : cha ρ' = cha ρ := by funext w; unfold cha; rw [h28]
  have e1 := sumN_at (f := fre ρ) (g := fre ρ') hw (fun i hi hne => by unfold fre; rw [hfo i hi hne])
  have e2 := sumN_at (f := mIn ρ) (g := mIn ρ') hk hmo
  unfold MQ9
  rw [en, es, ec, h13]
  exact ⟨by omega, h2, h3⟩
theorem BQ.at (h : BQ ρ) (hk : k < nlg ρ) (h14 : ρ' 14 = ρ 14) (h22 : ρ' 22 = ρ 22) (hlo : ∀ j, j < nlg ρ → j ≠ k → ρ' 33 j = ρ 33 j ∧ ρ' 34 j = ρ 34 j) (hle : ∀ b, b < nbd ρ → ¬ ρ 17 b < 0 → (ρ 17 b).toNatClampNeg + bsl ρ b k ≤ 5000 → ¬ ρ' 17 b < 0 ∧ (ρ' 17 b).toNatClampNeg + bsl ρ' b k ≤ (ρ 17 b).toNatClampNeg + bsl ρ b k) : BQ ρ' := by
  intro b hb
  have e5 : nlg ρ' = nlg ρ := by unfold nlg; rw [h22]
  have e6 : nbd ρ' = nbd ρ := by unfold nbd; rw [h14]
  rw [e6] at hb
  rw [e5]
  obtain ⟨h1, h2⟩ := h b hb
  have g := sumN_ge (f := bsl ρ b) hk
  obtain ⟨a1, a2⟩ := hle b hb h1 (by omega)
  have e := sumN_at (f := bsl ρ b) (g := bsl ρ' b) hk (fun j hj hne => by unfold bsl; rw [(hlo j hj hne).1, (hlo j hj hne).2])
  exact ⟨a1, by omega⟩
/-- the source of an empty slice -/
theorem MQ9.src (h : MQ9 ρ M) (hk : k < nlg ρ) (h34 : ρ 34 k = 0) {x : Int32} : MQ9 (cs ρ 33 k x) M := by
  refine h.mv (w := 0) (by decide) hk rfl rfl rfl (fun _ _ _ => rfl) (fun j _ hne => ?_) ?_
  · unfold mIn
    rw [cs_nei hne]
    rfl
  · have e1 : fre (cs ρ 33 k x) 0 = fre ρ 0 := rfl
    have e2 : mIn (cs ρ 33 k x) k = 0 := by
      unfold mIn
      rw [show cs ρ 33 k x 34 k = 0 from h34, show (0 : Int32).toNatClampNeg = 0 by decide, Nat.zero_mul]
      split <;> rfl
    have e3 : mIn ρ k = 0 := by
      unfold mIn
      rw [h34, show (0 : Int32).toNatClampNeg = 0 by decide, Nat.zero_mul]
      split <;> rfl
    rw [e1, e2, e3]
theorem BQ.src (h : BQ ρ) (hk : k < nlg ρ) (h34 : ρ 34 k = 0) {x : Int32} : BQ (cs ρ 33 k x) := by
  refine h.at hk rfl rfl (fun j _ hne => ⟨cs_nei hne, rfl⟩) (fun b hb h1 _ => ⟨h1, ?_⟩)
  have e2 : bsl (cs ρ 33 k x) b k = 0 := by
    unfold bsl
    rw [show cs ρ 33 k x 34 k = 0 from h34, show (0 : Int32).toNatClampNeg = 0 by decide]
    split <;> rfl
  rw [e2]
  exact Nat.le_add_right _ _
theorem gbk_34 {m : Int32} {j : Nat} : gbk ρ k m 34 j = if j = k then ρ 34 k - m else ρ 34 j := by
  unfold gbk
  split
  · rw [rcs_col (by decide)]
    by_cases e : j = k
    · subst e; rw [if_pos rfl, cs_at]
    · rw [if_neg e, cs_nei e]
  · split
    · by_cases e : j = k
      · subst e; rw [if_pos rfl, cs_at]
      · rw [if_neg e, cs_nei e]
    · rw [rcs_col (by decide)]
      by_cases e : j = k
      · subst e; rw [if_pos rfl, cs_at]
      · rw [if_neg e, cs_nei e]
theorem gbk_12 {m : Int32} (h33 : ρ 33 k = -1) {w : Nat} : gbk ρ k m 12 w = if w = (ρ 25 k).toNatClampNeg then ρ 12 (ρ 25 k).toNatClampNeg + m * ρ 35 k else ρ 12 w := by
  unfold gbk
  rw [if_pos h33]
  by_cases e : w = (ρ 25 k).toNatClampNeg
  · rw [if_pos e, e, cs_at]
  · rw [if_neg e, cs_nei e, rcs_col (by decide)]
theorem gbk_12n {m : Int32} (h33 : ¬ ρ 33 k = -1) : gbk ρ k m 12 = ρ 12 := by
  unfold gbk
  rw [if_neg h33]
  split
  · rw [rcs_col (by decide)]
  · rw [rcs_col (by decide), rcs_col (by decide)]
theorem gbk_17n {m : Int32} (h33 : ρ 33 k = -1 ∨ ρ 33 k < 0) : gbk ρ k m 17 = ρ 17 := by
  unfold gbk
  split
  · rw [rcs_col (by decide), rcs_col (by decide)]
  · rename_i z
    rw [if_pos (h33.resolve_left z), rcs_col (by decide)]
theorem gbk_17 {m : Int32} (h1 : ¬ ρ 33 k = -1) (h2 : ¬ ρ 33 k < 0) {b : Nat} : gbk ρ k m 17 b = if b = (ρ 33 k).toNatClampNeg then ρ 17 (ρ 33 k).toNatClampNeg + m else ρ 17 b := by
  unfold gbk
  rw [if_neg h1, if_neg h2]
  by_cases e : b = (ρ 33 k).toNatClampNeg
  · rw [if_pos e, e, cs_at]
  · rw [if_neg e, cs_nei e, rcs_col (by decide)]
/-- some seconds go back: money and bundles stay whole -/
theorem gbk_keep (h : Rel V L N ρ t nw i) (ht : t ≤ 512) (hk : k < N 4) {j : Nat} (hj : j ≤ (ρ 34 k).toNatClampNeg) (hM : MQ9 ρ M) (hB : BQ ρ) : MQ9 (gbk ρ k (nI j)) M ∧ BQ (gbk ρ k (nI j)) := by
  have hn4 := h.n4
  have hkl : k < nlg ρ := by rw [h.lgs]; exact hk
  obtain ⟨q1, q2, q3, q4, q5⟩ := h.r7 k hk
  obtain ⟨s, hs, hs2, es⟩ := pn_of q1
  obtain ⟨r, hr, hr2, er⟩ := pn_of q4
  have hw := vp_lt (h.r5.2.2.1 k hk).2.2
  rw [es, nI_clamp hs2] at hj
  have e34 : ρ 34 k - nI j = nI (s - j) := by rw [es, nI_sb hj]
  have c33 : gbk ρ k (nI j) 33 = ρ 33 := gbk_col (by decide) (by decide) (by decide)
  have c35 : gbk ρ k (nI j) 35 = ρ 35 := gbk_col (by decide) (by decide) (by decide)
  have lo : ∀ x, x < nlg ρ → x ≠ k → gbk ρ k (nI j) 33 x = ρ 33 x ∧ gbk ρ k (nI j) 34 x = ρ 34 x := fun x _ hne => ⟨by rw [c33], by rw [gbk_34, if_neg hne]⟩
  have mo : ∀ x, x < nlg ρ → x ≠ k → mIn (gbk ρ k (nI j)) x = mIn ρ x := fun x hx hne => by
    unfold mIn
    rw [(lo x hx hne).1, (lo x hx hne).2, c35]
  by_cases h1 : ρ 33 k = -1
  · constructor
    · have hfe := h.r14.eq hw
      have hle := h.r14.le hw hk
      have hmi : mIn ρ k = s * r := by
        unfold mIn
        rw [if_pos h1, es, er, nI_clamp hs2, nI_clamp hr2]
      have hsp : j * r + (s - j) * r = s * r := by
        rw [← Nat.add_mul]
        congr 1
        omega
      refine hM.mv hw hkl (gbk_col (by decide) (by decide) (by decide)) (gbk_col (by decide) (by decide) (by decide)) (gbk_col (by decide) (by decide) (by decide)) (fun w' _ hne => by rw [gbk_12 h1, if_neg hne]) mo ?_
      have y1 : fre (gbk ρ k (nI j)) (ρ 25 k).toNatClampNeg = fre ρ (ρ 25 k).toNatClampNeg + j * r := by
        show (gbk ρ k (nI j) 12 _).toNatClampNeg = _
        rw [gbk_12 h1, if_pos rfl, hfe, er, pk_mul, nI_add, nI_clamp (by omega)]
      have y2 : mIn (gbk ρ k (nI j)) k = (s - j) * r := by
        unfold mIn
        rw [c33, c35, if_pos h1, gbk_34, if_pos rfl, e34, er, nI_clamp hr2, nI_clamp (by omega)]
      omega
    · refine hB.at hkl (gbk_col (by decide) (by decide) (by decide)) (gbk_col (by decide) (by decide) (by decide)) lo (fun b hb z1 z2 => ?_)
      rw [gbk_17n (Or.inl h1)]
      refine ⟨z1, ?_⟩
      have e : ¬ ρ 33 k = nI b := by
        rw [h1]
        have := h.bds
        have := h.r3.2.1.2.1
        exact fun z => pn_m1 (k := b) (by omega) z.symm
      unfold bsl
      rw [c33, if_neg e, if_neg e]
      exact Nat.le_refl _
  · by_cases h2 : ρ 33 k < 0
    · constructor
      · refine hM.mv hw hkl (gbk_col (by decide) (by decide) (by decide)) (gbk_col (by decide) (by decide) (by decide)) (gbk_col (by decide) (by decide) (by decide)) (fun w' _ hne => by rw [gbk_12n h1]) mo ?_
        have y1 : fre (gbk ρ k (nI j)) (ρ 25 k).toNatClampNeg = fre ρ (ρ 25 k).toNatClampNeg := by unfold fre; rw [gbk_12n h1]
        have y2 : mIn (gbk ρ k (nI j)) k = mIn ρ k := by unfold mIn; rw [c33, if_neg h1, if_neg h1]
        omega
      · refine hB.at hkl (gbk_col (by decide) (by decide) (by decide)) (gbk_col (by decide) (by decide) (by decide)) lo (fun b hb z1 z2 => ?_)
        rw [gbk_17n (Or.inr h2)]
        refine ⟨z1, ?_⟩
        have e : ¬ ρ 33 k = nI b := fun z => by
          have := h.bds
          have := h.r3.2.1.2.1
          rw [z] at h2
          exact nI_pos (by omega) h2
        unfold bsl
        rw [c33, if_neg e, if_neg e]
        exact Nat.le_refl _
    · constructor
      · refine hM.mv hw hkl (gbk_col (by decide) (by decide) (by decide)) (gbk_col (by decide) (by decide) (by decide)) (gbk_col (by decide) (by decide) (by decide)) (fun w' _ hne => by rw [gbk_12n h1]) mo ?_
        have y1 : fre (gbk ρ k (nI j)) (ρ 25 k).toNatClampNeg = fre ρ (ρ 25 k).toNatClampNeg := by unfold fre; rw [gbk_12n h1]
        have y2 : mIn (gbk ρ k (nI j)) k = mIn ρ k := by unfold mIn; rw [c33, if_neg h1, if_neg h1]
        omega
      · refine hB.at hkl (gbk_col (by decide) (by decide) (by decide)) (gbk_col (by decide) (by decide) (by decide)) lo (fun b hb z1 z2 => ?_)
        have hb4 : b < 40 := by
          have := h.bds
          have := h.r3.2.1.2.1
          omega
        obtain ⟨y, hy, ey⟩ := nI_of h2
        rw [gbk_17 h1 h2, ey, nI_clamp hy]
        by_cases e : b = y
        · subst e
          rw [if_pos rfl]
          obtain ⟨x, hx, ex⟩ := nI_of z1
          unfold bsl at z2 ⊢
          rw [if_pos ey, ex, nI_clamp hx, es, nI_clamp hs2] at z2
          rw [c33, if_pos ey, if_pos ey, gbk_34, if_pos rfl, e34, ex, nI_add, nI_clamp hx, es, nI_clamp hs2, nI_clamp (by omega), nI_clamp (by omega)]
          exact ⟨nI_pos (by omega), by omega⟩
        · rw [if_neg e]
          refine ⟨z1, ?_⟩
          have e2 : ¬ ρ 33 k = nI b := fun z => e ((nI_eq (by omega) hy).mp (z.symm.trans ey))
          unfold bsl
          rw [c33, if_neg e2, if_neg e2]
          exact Nat.le_refl _
/-- all of a slice goes back -/
theorem all_keep (h : Rel V L N ρ t nw i) (ht : t ≤ 512) (hk : k < N 4) (hM : MQ9 ρ M) (hB : BQ ρ) : MQ9 (cs (gbk ρ k (ρ 34 k)) 33 k (-2)) M ∧ BQ (cs (gbk ρ k (ρ 34 k)) 33 k (-2)) := by
  have hkl : k < nlg ρ := by rw [h.lgs]; exact hk
  obtain ⟨q1, -⟩ := h.r7 k hk
  obtain ⟨s, hs, hs2, es⟩ := pn_of q1
  have g := gbk_keep h ht hk (j := s) (by rw [es, nI_clamp hs2]; exact Nat.le_refl _) hM hB
  rw [← es] at g
  have e0 : gbk ρ k (ρ 34 k) 34 k = 0 := by rw [gbk_34, if_pos rfl, Int32.sub_self]
  have en : nlg (gbk ρ k (ρ 34 k)) = nlg ρ := by unfold nlg; rw [gbk_col (by decide) (by decide) (by decide)]
  exact ⟨g.1.src (by rw [en]; exact hkl) e0, g.2.src (by rw [en]; exact hkl) e0⟩
end IV
