/-! A SLICE is set aside, or none is to be had -/
def tmV (V ρ : Rho) (w k M r : Nat) : Rho := cs (cs (cs (cs V 182 w (ρ 12 w - nI M * nI r)) 162 k (-1)) 161 k (nI r)) 160 k (nI M)
def tmR (ρ : Rho) (w k M r : Nat) : Rho := cs (cs (cs (cs ρ 12 w (ρ 12 w - nI M * nI r)) 33 k (-1)) 34 k (nI M)) 35 k (nI r)
section SL
variable {V V' : Rho} {L : Lst} {N : Cnt} {ρ ρ' : Rho} {t nw i k : Nat}
theorem i32_div_neg {x : Int32} {r : Nat} (hx : x < 0) (hr : r < 2 ^ 31) : x / nI r ≤ 0 := by
  have e : (nI r).toInt = r := nI_toInt hr
  have hne : nI r ≠ -1 := fun z => by
    rw [z] at e
    have : ((-1 : Int32)).toInt = -1 := by decide
    omega
  have hx2 : x.toInt < 0 := by rw [← Int32.toInt_zero]; exact Int32.lt_iff_toInt_lt.mp hx
  have h1 := Int.tdiv_nonneg (a := -x.toInt) (b := (r : Int)) (by omega) (by omega)
  rw [Int.neg_tdiv] at h1
  rw [Int32.le_iff_toInt_le, Int32.toInt_div_of_ne_right _ _ hne, e, Int32.toInt_zero]
  omega
theorem r14_tm (h : R14 N ρ t) {w M r : Nat} (hw : w < 4) (hk : k < N 4) (h34 : ρ 34 k = 0) (ht : t ≤ 512) (hM : M * r ≤ fre ρ w) (hMM : M ≤ 100) (hr : r ≤ 1000) : R14 N (tmR ρ w k M r) t := by
  have hle := h.le hw hk
  have hfe := h.eq hw
  have h0 : mIn ρ k = 0 := by
    unfold mIn
    rw [h34]
    split
    · exact Nat.zero_mul _
    · rfl
  have e12 : ∀ w', tmR ρ w k M r 12 w' = if w' = w then nI (fre ρ w - M * r) else ρ 12 w' := fun w' => by
    unfold tmR
    rw [rcs_col (by decide), rcs_col (by decide), rcs_col (by decide), pk_mul, hfe, pk_sub hM]
    split
    · rename_i e; rw [e, cs_at]
    · rename_i e; rw [cs_nei e]
  refine h.mv hw hk (fun w' _ hne => by rw [e12, if_neg hne]) (fun j _ hne => ?_) (by rw [e12, if_pos rfl]; exact nI_pos (by omega)) ?_
  · unfold mIn tmR
    rw [rcs_col (show (33 : Nat) ≠ 35 by decide), rcs_col (show (33 : Nat) ≠ 34 by decide), cs_nei hne, rcs_col (show (33 : Nat) ≠ 12 by decide), rcs_col (show (34 : Nat) ≠ 35 by decide), cs_nei hne, rcs_col (show (34 : Nat) ≠ 33 by decide), rcs_col (show (34 : Nat) ≠ 12 by decide), cs_nei hne]
    rfl
  · have y1 : fre (tmR ρ w k M r) w = fre ρ w - M * r := by
      show (tmR ρ w k M r 12 w).toNatClampNeg = _
      rw [e12, if_pos rfl, nI_clamp (by omega)]
    have y2 : mIn (tmR ρ w k M r) k = M * r := by
      unfold mIn tmR
      rw [rcs_col (show (33 : Nat) ≠ 35 by decide), rcs_col (show (33 : Nat) ≠ 34 by decide), cs_at, if_pos rfl, rcs_col (show (34 : Nat) ≠ 35 by decide), cs_at, cs_at, nI_clamp (by omega), nI_clamp (by omega)]
    omega
/-- money set aside -/
theorem op_tm (h : Rel V L N ρ t nw i) (ht : t ≤ 512) (hk : k < N 4) (ha : ρ 26 k = 0) (h34 : ρ 34 k = 0) {w M r : Nat} (hw : w < 4) (hM : M * r ≤ fre ρ w) (hMM : M ≤ 100) (hr : r ≤ 1000) : Rel (tmV V ρ w k M r) L N (tmR ρ w k M r) t nw i := by
  have hV : chg [160, 161, 162, 182] V (tmV V ρ w k M r) := (((chg.rf.st (by decide)).st (by decide)).st (by decide)).st (by decide)
  have hR : chg [12, 33, 34, 35] ρ (tmR ρ w k M r) := (((chg.rf.st (by decide)).st (by decide)).st (by decide)).st (by decide)
  refine h.sl (hV.sub (by decide)) (hR.sub (by decide)) ?_ (h.r7.at k ?_ (fun j _ hne => ⟨?_, ?_, rfl, ?_, ?_, ?_⟩)) (h.r8.congr (hV.agr (by decide)) (hR.agr (by decide))) (r14_tm h.r14 hw hk h34 ht hM hMM hr) ?_
  · unfold tmV tmR
    exact ((((h.r1.both (c := 182) (d := 12) (by decide)).left (by decide)).left (by decide)).right (by decide) |>.both (c := 160) (d := 34) (by decide)).right (by decide)
  · refine ⟨?_, Or.inr (Or.inl ?_), Or.inl ?_, ?_, Or.inr ⟨ha, Or.inl ⟨?_, ?_, ?_⟩⟩⟩
    · show vp_in (tmR ρ w k M r 34 k) 101
      unfold tmR
      rw [rcs_col (by decide), cs_at]
      exact vp_in_nI (by omega) (by omega)
    · unfold tmR
      rw [rcs_col (by decide), rcs_col (by decide), cs_at]
    · unfold tmV
      rw [rcs_col (by decide), rcs_col (by decide), cs_at]
    · show vp_in (tmR ρ w k M r 35 k) 1001
      unfold tmR
      rw [cs_at]
      exact vp_in_nI (by omega) (by omega)
    · unfold tmR
      rw [rcs_col (by decide), rcs_col (by decide), cs_at]
    · unfold tmV
      rw [rcs_col (by decide), rcs_col (by decide), cs_at]
    · unfold tmV tmR
      rw [rcs_col (by decide), cs_at, cs_at]
  · unfold tmV
    rw [rcs_col (by decide), cs_nei hne, rcs_col (by decide), rcs_col (by decide)]
  · unfold tmV
    rw [rcs_col (by decide), rcs_col (by decide), cs_nei hne, rcs_col (by decide)]
  · unfold tmR
    rw [rcs_col (by decide), rcs_col (by decide), cs_nei hne, rcs_col (by decide)]
  · unfold tmR
    rw [rcs_col (by decide), cs_nei hne, rcs_col (by decide), rcs_col (by decide)]
  · unfold tmR
    rw [cs_nei hne, rcs_col (by decide), rcs_col (by decide), rcs_col (by decide)]
  · exact (((h.r16.st2 (by decide)).st2 (by decide)).st hk).st hk
/-- no second is to be had -/
theorem op_tf (h : Rel V L N ρ t nw i) (ht : t ≤ 512) (hk : k < N 4) (h34 : ρ 34 k = 0) {w r : Nat} (hw : w < 4) (hr : r ≤ 1000) : Rel V L N (tmR ρ w k 0 r) t nw i := by
  have hR : chg [12, 33, 34, 35] ρ (tmR ρ w k 0 r) := (((chg.rf.st (by decide)).st (by decide)).st (by decide)).st (by decide)
  refine h.sl chg.rf (hR.sub (by decide)) ?_ (h.r7.at k ?_ (fun j _ hne => ⟨rfl, rfl, rfl, ?_, ?_, ?_⟩)) (h.r8.congr (fun _ _ => rfl) (hR.agr (by decide))) (r14_tm h.r14 hw hk h34 ht (by omega) (by omega) hr) ?_
  · unfold tmR
    rw [nI_0, Int32.zero_mul, Int32.sub_zero, cs_self]
    have e : cs (cs ρ 33 k (-1)) 34 k 0 = cs ρ 33 k (-1) := cs_same (by rw [rcs_col (by decide)]; exact h34)
    rw [e]
    exact (h.r1.right (by decide)).right (by decide)
  · obtain ⟨q1, q2, q3, q4, q5⟩ := h.r7 k hk
    have e34 : tmR ρ w k 0 r 34 k = 0 := by
      unfold tmR
      rw [rcs_col (by decide), cs_at, nI_0]
    refine ⟨?_, Or.inr (Or.inl ?_), q3, ?_, Or.inl e34⟩
    · rw [e34]
      exact vp_in_nI (n := 0) (by decide) (by decide)
    · unfold tmR
      rw [rcs_col (by decide), rcs_col (by decide), cs_at]
    · unfold tmR
      rw [cs_at]
      exact vp_in_nI (by omega) (by omega)
  · unfold tmR
    rw [rcs_col (by decide), rcs_col (by decide), cs_nei hne, rcs_col (by decide)]
  · unfold tmR
    rw [rcs_col (by decide), cs_nei hne, rcs_col (by decide), rcs_col (by decide)]
  · unfold tmR
    rw [cs_nei hne, rcs_col (by decide), rcs_col (by decide), rcs_col (by decide)]
  · exact (((h.r16.st2 (by decide)).st2 (by decide)).st hk).st hk
theorem sPh_le (h : Rel V L N ρ t nw i) : sPh ρ ≤ 1000 := by
  refine Nat.le_trans (sumN_le (B := 100) (fun p hp => ?_)) (by decide)
  rcases h.leg hp with q | ⟨x, hx, q, -, -⟩
  · rw [if_pos q]; omega
  · have hn4 := h.n4
    rw [q, if_neg (pn_m1 (by omega)), nI_clamp (by omega)]
    have := vp_lt (h.r7 x hx).1
    omega
theorem c119 (h : Rel V L N ρ t nw i) (hk : k < N 4) {M r : Nat} (hM : M ≤ 100) : fc_takeSlice_119 V L N (nI k) (nI r) (nI M) = if 1 ≤ M then some (tmV V ρ (ρ 25 k).toNatClampNeg k M r, 1) else some (V, 0) := by
  have hn4 := h.n4
  unfold fc_takeSlice_119 fc_Slice_takeFromMoney tmV
  rw [nI_clamp (show k < 2 ^ 31 by omega), h.c 83 25 (by decide), h.c 182 12 (by decide)]
  simp only [po_b]
  by_cases h1 : 1 ≤ M
  · rw [if_pos h1, if_pos (show (1 : Int32) ≤ nI M from nI_le (a := 1) h1 (by omega))]
  · rw [if_neg h1, if_neg (show ¬ (1 : Int32) ≤ nI M from nI_ge (b := 1) (by omega) (by omega))]
theorem c119_neg {x : Int32} {r : Nat} (hx : x ≤ 0) : fc_takeSlice_119 V L N (nI k) (nI r) x = some (V, 0) := by
  unfold fc_takeSlice_119
  rw [if_neg (fun z => by
    rw [Int32.le_iff_toInt_le] at hx z
    have e1 : (1 : Int32).toInt = 1 := by decide
    rw [Int32.toInt_zero] at hx
    omega)]
theorem c103 (h : Rel V L N ρ t nw i) (ht : t ≤ 512) (hk : k < N 4) {q r : Nat} (hr0 : 0 < r) (hr : r ≤ 1000) (hq : q ≤ 100) : fc_takeSlice_103 V L N (nI k) (nI r) (nI q) = fc_takeSlice_119 V L N (nI k) (nI r) (nI (min q (fre ρ (ρ 25 k).toNatClampNeg / r))) := by
  have hn4 := h.n4
  have hw := vp_lt (h.r5.2.2.1 k hk).2.2
  have hle := h.r14.le hw hk
  have hd : fre ρ (ρ 25 k).toNatClampNeg / r ≤ fre ρ (ρ 25 k).toNatClampNeg := Nat.div_le_self _ _
  unfold fc_takeSlice_103
  rw [nI_clamp (show k < 2 ^ 31 by omega), h.c 83 25 (by decide), h.c 182 12 (by decide), if_neg (nI_ne0 hr0 (by omega)), h.r14.eq hw, pk_div (by omega) hr0 (by omega), nI_min (by omega) (by omega), Nat.min_comm]
  rfl
theorem c103_neg (h : Rel V L N ρ t nw i) (ht : t ≤ 512) (hk : k < N 4) {x : Int32} {r : Nat} (hr0 : 0 < r) (hr : r ≤ 1000) (hx : x ≤ 0) : fc_takeSlice_103 V L N (nI k) (nI r) x = some (V, 0) := by
  unfold fc_takeSlice_103
  rw [if_neg (nI_ne0 hr0 (by omega))]
  simp only [po_b]
  refine c119_neg ?_
  split
  · rename_i q
    exact Int32.le_of_lt (Int32.lt_of_lt_of_le q hx)
  · exact hx
theorem r62_fin (h : Rel V L N ρ t nw i) (ht : t ≤ 512) (hk : k < N 4) {q r : Nat} (hr0 : 0 < r) (hr : r ≤ 1000) (hq : q < 2 ^ 31) : fr_moneyFor_62 (0 + 1) ρ (nI k) (nI r) (nI q) (-1) = some (cs ρ 12 (ρ 25 k).toNatClampNeg (ρ 12 (ρ 25 k).toNatClampNeg - nI (min q (min (ρ 1 0).toNatClampNeg (fre ρ (ρ 25 k).toNatClampNeg / r))) * nI r), nI (min q (min (ρ 1 0).toNatClampNeg (fre ρ (ρ 25 k).toNatClampNeg / r)))) := by
  have hn4 := h.n4
  have hw := vp_lt (h.r5.2.2.1 k hk).2.2
  have h25 : ¬ (ρ 25 k < 0 ∨ 4 ≤ (ρ 25 k).toNatClampNeg) := (h.r5.2.2.1 k hk).2.2
  have hle := h.r14.le hw hk
  have hd : fre ρ (ρ 25 k).toNatClampNeg / r ≤ fre ρ (ρ 25 k).toNatClampNeg := Nat.div_le_self _ _
  have gk := ng (n := 80) (show k < 80 by omega) (by omega)
  obtain ⟨ln, hl, hl2, el⟩ := pn_of h.r5.2.2.2.2.2.1.1
  have e159 : ∀ m : Nat, fr_moneyFor_159 ρ (nI k) (nI r) (nI m) = some (cs ρ 12 (ρ 25 k).toNatClampNeg (ρ 12 (ρ 25 k).toNatClampNeg - nI m * nI r), nI m) := fun m => by
    unfold fr_moneyFor_159
    rw [nI_clamp (show k < 2 ^ 31 by omega)]
    simp only [po_b, gk, h25, if_false]
  have e145 : ∀ m : Nat, m < 2 ^ 31 → fr_moneyFor_145 ρ (nI k) (nI r) (nI q) (nI m) = some (cs ρ 12 (ρ 25 k).toNatClampNeg (ρ 12 (ρ 25 k).toNatClampNeg - nI (min q m) * nI r), nI (min q m)) := fun m hm => by
    unfold fr_moneyFor_145
    rw [e159, e159]
    by_cases hc : m ≤ q
    · rw [if_pos (nI_le hc (by omega)), Nat.min_eq_right hc]
    · rw [if_neg (nI_ge (by omega) (by omega)), Nat.min_eq_left (by omega)]
  rw [fr_moneyFor_62, if_pos rfl, nI_clamp (show k < 2 ^ 31 by omega), if_neg (nI_ne0 hr0 (by omega)), h.r14.eq hw, pk_div (by omega) hr0 (by omega), el, nI_clamp hl2]
  simp only [po_b, gk, h25, if_false]
  rw [e145 _ (by omega), e145 _ (by omega), h.r14.eq hw]
  by_cases hc : ln ≤ fre ρ (ρ 25 k).toNatClampNeg / r
  · rw [if_pos (nI_le hc (by omega)), Nat.min_eq_left hc]
  · rw [if_neg (nI_ge (by omega) (by omega)), Nat.min_eq_right (a := ln) (by omega)]
/-- what the cap lets -/
theorem cap_eq (h : Rel V L N ρ t nw i) {p r : Nat} (hp : p < 10) (hr0 : 0 < r) (hr : r ≤ 1000) : ∃ (q : Nat) (o : Int32), q < 2 ^ 31 ∧ fr_lets ρ (nI p) (nI r) = some (nI q) ∧ fc_Phone_mostByCap V L N (nI p) (nI (nw / 2400)) = some o ∧ (((if o / nI r < ρ 1 0 then o / nI r else ρ 1 0) = nI (min q (ρ 1 0).toNatClampNeg)) ∨ (q = 0 ∧ (if o / nI r < ρ 1 0 then o / nI r else ρ 1 0) ≤ 0)) := by
  obtain ⟨ln, hl, hl2, el⟩ := pn_of h.r5.2.2.2.2.2.1.1
  have hl0 := h.r5.2.2.2.2.2.1.2
  have hnw := h.r5.2.2.2.2.2.2.2
  have gp := ng (n := 10) hp (by omega)
  rw [el, nI_clamp hl2] at hl0
  rw [el, nI_clamp hl2]
  unfold fr_lets fc_Phone_mostByCap fr_costToday fr_today
  rw [nI_clamp (show p < 2 ^ 31 by omega), h.c 103 8 (by decide), h.c 105 11 (by decide), h.c 106 10 (by decide), h.r5.2.2.2.2.2.2.1, day_eq hnw]
  simp only [po_b, gp, if_false]
  by_cases hc : ρ 8 p = -1
  · have h100 : (100000 : Int32) / nI r = nI (100000 / r) := by rw [show (100000 : Int32) = nI 100000 by decide, pk_div (by decide) hr0 (by omega)]
    have hge : 100 ≤ 100000 / r := by
      rw [Nat.le_div_iff_mul_le hr0]
      omega
    have hlt : 100000 / r ≤ 100000 := Nat.div_le_self _ _
    rw [if_pos hc, if_pos hc, el]
    exact ⟨ln, _, hl2, rfl, rfl, Or.inl (by rw [h100, nI_min (by omega) hl2, Nat.min_self, Nat.min_eq_right (by omega)])⟩
  · rw [if_neg hc, if_neg hc]
    have key : ∀ x : Int32, ∃ (q : Nat), q < 2 ^ 31 ∧ (if 0 ≤ x then (if nI r = 0 then none else some (x / nI r)) else some 0) = some (nI q) ∧ (((if x / nI r < nI ln then x / nI r else nI ln) = nI (min q ln)) ∨ (q = 0 ∧ (if x / nI r < nI ln then x / nI r else nI ln) ≤ 0)) := by
      intro x
      by_cases hx : 0 ≤ x
      · obtain ⟨f, hf, ef⟩ := nI_of (Int32.not_lt.mpr hx)
        have hfr : f / r ≤ f := Nat.div_le_self _ _
        rw [if_pos hx, if_neg (nI_ne0 hr0 (by omega)), ef, pk_div hf hr0 (by omega)]
        exact ⟨f / r, by omega, rfl, Or.inl (nI_min (by omega) hl2)⟩
      · have hx2 : x < 0 := Int32.not_le.mp hx
        have hd := i32_div_neg hx2 (show r < 2 ^ 31 by omega)
        rw [if_neg hx]
        refine ⟨0, by omega, rfl, Or.inr ⟨rfl, ?_⟩⟩
        split
        · exact hd
        · rename_i z
          refine absurd ?_ z
          rw [Int32.lt_iff_toInt_lt, nI_toInt hl2]
          rw [Int32.le_iff_toInt_le, Int32.toInt_zero] at hd
          omega
    by_cases hd : ρ 11 p = nI (nw / 2400)
    · rw [if_pos hd, if_pos hd]
      simp only [po_b]
      obtain ⟨q, k1, k2, k3⟩ := key (ρ 8 p - ρ 10 p)
      exact ⟨q, _, k1, k2, rfl, k3⟩
    · rw [if_neg hd, if_neg hd]
      simp only [po_b]
      obtain ⟨q, k1, k2, k3⟩ := key (ρ 8 p)
      refine ⟨q, _, k1, ?_, rfl, k3⟩
      rw [Int32.sub_zero]
      exact k2
theorem ob_s {α : Type} {x : Option α} : (x.bind fun o => some o) = x := by cases x <;> rfl
theorem mny (h : Rel V L N ρ t nw i) (ht : t ≤ 512) (hk : k < N 4) (h34 : ρ 34 k = 0) (hg : fc_Wallet_findBundle V L N (V 83 k) (V 41 (V 101 (V 81 k).toNatClampNeg).toNatClampNeg) (V 228 0 / 2400) = some (-1)) : ∃ (V1 ρ1 : Rho) (M r : Nat), r ≤ 1000 ∧ rnow ρ nw (ρ 23 k).toNatClampNeg = nI r ∧ Rel V1 L N ρ1 t nw i ∧ chg [160, 182] V V1 ∧ chg [12, 34] ρ ρ1 ∧ ρ1 34 k = 0 ∧ (∀ j, ρ 34 j = 0 → ρ1 34 j = 0) ∧ M ≤ 100 ∧ M * r ≤ fre ρ1 (ρ 25 k).toNatClampNeg ∧ fr_moneyFor ρ (nI k) = some (cs ρ1 12 (ρ 25 k).toNatClampNeg (ρ1 12 (ρ 25 k).toNatClampNeg - nI M * nI r), nI M) ∧ fc_takeSlice V L N (nI k) = if 1 ≤ M then some (tmV V1 ρ1 (ρ 25 k).toNatClampNeg k M r, 1) else some (V1, 0) := by
  have hn4 := h.n4
  obtain ⟨a23, a24, a25⟩ := h.r5.2.2.1 k hk
  have hw := vp_lt a25
  have hnw := h.r5.2.2.2.2.2.2.2
  have h25 : ¬ (ρ 25 k < 0 ∨ 4 ≤ (ρ 25 k).toNatClampNeg) := a25
  have gk := ng (n := 80) (show k < 80 by omega) (by omega)
  obtain ⟨p, hp, hp2, ep⟩ := pn_of a23
  obtain ⟨r, hr, hr2, er⟩ := pn_of (h.rate_in hp)
  obtain ⟨ln, hl, hl2, el⟩ := pn_of h.r5.2.2.2.2.2.1.1
  have hl0 := h.r5.2.2.2.2.2.1.2
  rw [el, nI_clamp hl2] at hl0
  have hle := h.r14.le hw hk
  rw [ep, nI_clamp hp2]
  -- the class, as far as the rate
  have hc : fc_takeSlice V L N (nI k) = if nI r ≤ 0 then fc_takeSlice_119 V L N (nI k) (nI r) (nI ln) else (fc_Phone_mostByCap V L N (nI p) (nI (nw / 2400))).bind fun o12 => (if (if (o12 / nI r) < nI ln then (o12 / nI r) else nI ln) ≤ 0 then fc_takeSlice_103 V L N (nI k) (nI r) (if (o12 / nI r) < nI ln then (o12 / nI r) else nI ln) else (fc_raiseMoney V L N (nI k) (nI r)).bind fun o15 => fc_takeSlice_103 o15 L N (nI k) (nI r) (if (o12 / nI r) < nI ln then (o12 / nI r) else nI ln)) := by
    have e81 : V 81 k = nI p := by rw [h.c 81 23 (by decide), ep]
    unfold fc_takeSlice fc_dayOf
    rw [nI_clamp (show k < 2 ^ 31 by omega)]
    simp only [po_b]
    rw [hg]
    simp only [po_b, if_true]
    rw [e81, h.crate hp, er]
    simp only [po_b]
    rw [h.c 227 1 (by decide), el, h.c 228 0 (by decide), h.r5.2.2.2.2.2.2.1, day_eq hnw]
    by_cases hr0 : r = 0
    · subst hr0
      rw [if_pos (show nI 0 ≤ 0 by decide), if_pos (show nI 0 ≤ 0 by decide)]
    · have hne : ¬ nI r = 0 := nI_ne0 (by omega) hr2
      rw [if_neg (nI_nle (by omega) hr2), if_neg (nI_nle (by omega) hr2)]
      simp only [hne, if_false]
  have hr9 : fr_moneyFor ρ (nI k) = if nI r = 0 then some (ρ, nI ln) else (fr_lets ρ (nI p) (nI r)).bind fun o4 => (if o4 ≤ 0 then fr_moneyFor_62 FU ρ (nI k) (nI r) o4 (-1) else (if nI r ≤ ρ 12 (ρ 25 k).toNatClampNeg then fr_moneyFor_62 FU ρ (nI k) (nI r) o4 (-1) else (fr_giverTo ρ (nI k)).bind fun o7 => fr_moneyFor_62 FU ρ (nI k) (nI r) o4 o7)) := by
    unfold fr_moneyFor fr_moneyFor_59 fr_moneyFor_60
    rw [nI_clamp (show k < 2 ^ 31 by omega), ep, h.rrate hp, er]
    simp only [po_b, gk, h25, if_false]
    rw [el]
  have sub9 : ∀ M : Nat, M * r ≤ fre ρ (ρ 25 k).toNatClampNeg → True := fun _ _ => trivial
  by_cases hr0 : r = 0
  · subst hr0
    refine ⟨V, ρ, ln, 0, by omega, er, h, chg.rf, chg.rf, h34, fun _ z => z, by omega, by omega, ?_, ?_⟩
    · rw [hr9, if_pos (show nI 0 = 0 by decide), nI_0, Int32.mul_zero, Int32.sub_zero, cs_self]
    · rw [hc, if_pos (show nI 0 ≤ 0 by decide), c119 h hk (by omega)]
  · have hr1 : 0 < r := by omega
    obtain ⟨q, o, hq, l1, l2, l3⟩ := cap_eq h hp hr1 (show r ≤ 1000 by omega)
    rw [el, nI_clamp hl2] at l3
    rw [if_neg (nI_nle hr1 hr2), l2] at hc
    rw [if_neg (nI_ne0 hr1 hr2), l1] at hr9
    simp only [po_b] at hc hr9
    by_cases hq0 : q = 0
    · -- the cap lets none
      have hx : (if (o / nI r) < nI ln then (o / nI r) else nI ln) ≤ 0 := by
        rcases l3 with z | z
        · rw [z, hq0, Nat.zero_min]
          decide
        · exact z.2
      rw [if_pos hx, c103_neg h ht hk hr1 (by omega) hx] at hc
      rw [hq0, if_pos (show nI 0 ≤ 0 by decide), show FU = 2999 + 1 from rfl, r62_end, r62_fin h ht hk hr1 (by omega) (by omega), Nat.zero_min] at hr9
      exact ⟨V, ρ, 0, r, by omega, er, h, chg.rf, chg.rf, h34, fun _ z => z, by omega, by omega, hr9, by rw [hc, if_neg (by omega)]⟩
    · have hx : (if (o / nI r) < nI ln then (o / nI r) else nI ln) = nI (min q ln) := l3.resolve_right (fun z => hq0 z.1)
      have hg2 : ∃ g : Int32, (nI r ≤ ρ 12 (ρ 25 k).toNatClampNeg → g = -1) ∧ (¬ nI r ≤ ρ 12 (ρ 25 k).toNatClampNeg → fr_giverTo ρ (nI k) = some g) := by
        by_cases y : nI r ≤ ρ 12 (ρ 25 k).toNatClampNeg
        · exact ⟨-1, fun _ => rfl, fun z => absurd y z⟩
        · obtain ⟨g2, -, z, -⟩ := h.giver hk
          exact ⟨g2, fun z => absurd z y, fun _ => z⟩
      obtain ⟨g, y1, y2⟩ := hg2
      obtain ⟨V1, ρ1, z1, z2, z3, z4, z5, z6, z7⟩ := raise_loop (L := L) (N := N) (t := t) (nw := nw) (i := i) ht hk (r := r) (may := nI q) 2999 V ρ 0 g h (by omega) (by have := sPh_le h; omega) y1 y2
      have e25 : ρ1 25 k = ρ 25 k := by rw [z5 25 (by decide)]
      have e1 : ρ1 1 0 = nI ln := by rw [z5 1 (by decide), el]
      have hfin := r62_fin z3 ht hk hr1 (show r ≤ 1000 by omega) hq
      rw [e25, e1, nI_clamp hl2] at hfin
      have hcl := c103 z3 ht hk (q := min q ln) hr1 (show r ≤ 1000 by omega) (by omega)
      rw [e25] at hcl
      rw [hx, if_neg (nI_nle (by omega) (by omega)), show fc_raiseMoney V L N (nI k) (nI r) = some V1 from z1] at hc
      simp only [po_b] at hc
      rw [hcl, c119 z3 hk (by omega), e25] at hc
      have hM : min q (min ln (fre ρ1 (ρ 25 k).toNatClampNeg / r)) = min (min q ln) (fre ρ1 (ρ 25 k).toNatClampNeg / r) := by omega
      have hr10 : fr_moneyFor ρ (nI k) = fr_moneyFor_62 (2999 + 1) ρ (nI k) (nI r) (nI q) g := by
        rw [hr9, if_neg (nI_nle (by omega) hq)]
        by_cases y : nI r ≤ ρ 12 (ρ 25 k).toNatClampNeg
        · rw [if_pos y, y1 y]
          rfl
        · rw [if_neg y, y2 y]
          rfl
      rw [z2, hfin, hM] at hr10
      refine ⟨V1, ρ1, _, r, by omega, er, z3, z4, z5, z6.trans h34, z7, by omega, ?_, hr10, hc⟩
      exact Nat.le_trans (Nat.mul_le_mul_right r (Nat.min_le_right _ _)) (Nat.div_mul_le_self _ _)
/-- a slice from a bundle -/
theorem op_tb (h : Rel V L N ρ t nw i) (hk : k < N 4) (ha : ρ 26 k = 0) (h34 : ρ 34 k = 0) {b M : Nat} (hb : b < N 0) (hd : ρ 0 0 / 2400 < ρ 18 b) (hM : M ≤ 100) : Rel (cs (cs (cs (cs V 3 b (ρ 17 b - nI M)) 162 k (nI b)) 161 k 0) 160 k (nI M)) L N (cs (cs (cs ρ 17 b (ρ 17 b - nI M)) 33 k (nI b)) 34 k (nI M)) t nw i := by
  have hn0 := h.r3.2.1.2.1
  have hV : chg [3, 160, 161, 162] V (cs (cs (cs (cs V 3 b (ρ 17 b - nI M)) 162 k (nI b)) 161 k 0) 160 k (nI M)) := (((chg.rf.st (by decide)).st (by decide)).st (by decide)).st (by decide)
  have hR : chg [17, 33, 34] ρ (cs (cs (cs ρ 17 b (ρ 17 b - nI M)) 33 k (nI b)) 34 k (nI M)) := ((chg.rf.st (by decide)).st (by decide)).st (by decide)
  refine h.sl (hV.sub (by decide)) (hR.sub (by decide)) ?_ (h.r7.at k ?_ (fun j _ hne => ⟨?_, ?_, rfl, ?_, ?_, rfl⟩)) (fun b' hb' hd' => ?_) (h.r14.mv (w := 0) (by decide) hk (fun _ _ _ => rfl) (fun j _ hne => ?_) (h.r14.1 0 (by decide)) ?_) (((h.r16.st2 (by decide)).st2 (by decide)).st hk)
  · exact ((((h.r1.left (by decide)).left (by decide)).left (by decide)).right (by decide) |>.right (by decide)).both (c := 160) (d := 34) (by decide)
  · obtain ⟨q1, q2, q3, q4, q5⟩ := h.r7 k hk
    have e33 : cs (cs (cs ρ 17 b (ρ 17 b - nI M)) 33 k (nI b)) 34 k (nI M) 33 k = nI b := by rw [rcs_col (by decide), cs_at]
    have e162 : cs (cs (cs (cs V 3 b (ρ 17 b - nI M)) 162 k (nI b)) 161 k 0) 160 k (nI M) 162 k = nI b := by rw [rcs_col (by decide), rcs_col (by decide), cs_at]
    refine ⟨?_, Or.inr (Or.inr ?_), Or.inr ?_, q4, Or.inr ⟨ha, Or.inr ⟨?_, ?_⟩⟩⟩
    · rw [cs_at]
      exact vp_in_nI (by omega) (by omega)
    · rw [e33]; exact vp_in_nI hb (by omega)
    · rw [e162]; exact vp_in_nI hb (by omega)
    · rw [e33]; exact vp_in_nI hb (by omega)
    · rw [e33, e162]
  · rw [rcs_col (by decide), cs_nei hne, rcs_col (by decide), rcs_col (by decide)]
  · rw [rcs_col (by decide), rcs_col (by decide), cs_nei hne, rcs_col (by decide)]
  · rw [rcs_col (by decide), cs_nei hne, rcs_col (by decide)]
  · rw [cs_nei hne, rcs_col (by decide), rcs_col (by decide)]
  · rw [rcs_col (by decide), rcs_col (by decide), rcs_col (by decide), rcs_col (show (17 : Nat) ≠ 34 by decide), rcs_col (show (17 : Nat) ≠ 33 by decide)]
    by_cases e : b' = b
    · subst e
      rw [cs_at, cs_at]
    · rw [cs_nei e, cs_nei e]
      exact h.r8 b' hb' hd'
  · unfold mIn
    rw [rcs_col (show (33 : Nat) ≠ 34 by decide), cs_nei hne, rcs_col (show (33 : Nat) ≠ 17 by decide), cs_nei hne]
    rfl
  · have y2 : mIn (cs (cs (cs ρ 17 b (ρ 17 b - nI M)) 33 k (nI b)) 34 k (nI M)) k = 0 := by
      unfold mIn
      rw [rcs_col (show (33 : Nat) ≠ 34 by decide), cs_at]
      exact if_neg (pn_m1 (by omega))
    rw [y2]
    show fre ρ 0 + 0 ≤ _
    omega
/-- a leg gets a slice, or none is to be had -/
theorem op_slice (h : Rel V L N ρ t nw i) (ht : t ≤ 512) (hk : k < N 4) (ha : ρ 26 k = 0) (h34 : ρ 34 k = 0) : (∃ V' ρ', fc_takeSlice V L N (nI k) = some (V', 1) ∧ fr_getsSlice ρ (nI k) = some ρ' ∧ Rel V' L N ρ' t nw i ∧ chg [3, 160, 161, 162, 182] V V' ∧ chg [12, 17, 33, 34, 35] ρ ρ' ∧ ¬ ρ' 34 k = 0 ∧ ∀ j, j ≠ k → ρ 34 j = 0 → ρ' 34 j = 0) ∨ (∃ V' ρ', fc_takeSlice V L N (nI k) = some (V', 0) ∧ fr_getsSlice ρ (nI k) = fr_closes ρ' (nI k) 2 (ρ' 6 (ρ' 23 k).toNatClampNeg) ∧ Rel V' L N ρ' t nw i ∧ chg [160, 182] V V' ∧ chg [12, 33, 34, 35, 36] ρ ρ' ∧ ρ' 36 0 = ρ 36 0 + 1 ∧ ∀ j, j ≠ k → ρ 34 j = 0 → ρ' 34 j = 0) := by
  have hn4 := h.n4
  have hn0 := h.r3.2.1.2.1
  obtain ⟨a23, a24, a25⟩ := h.r5.2.2.1 k hk
  have hw := vp_lt a25
  have gk := ng (n := 80) (show k < 80 by omega) (by omega)
  obtain ⟨ln, hl, hl2, el⟩ := pn_of h.r5.2.2.2.2.2.1.1
  have hl0 := h.r5.2.2.2.2.2.1.2
  rw [el, nI_clamp hl2] at hl0
  obtain ⟨g, g1, g2, g3⟩ := h.bundle hk
  rcases g3 with g3 | ⟨b, hb, g3, o1, o2, o3⟩
  · -- from money
    subst g3
    obtain ⟨V1, ρ1, M, r, hr, er, z3, z4, z5, z6, z7, hMM, hM, hm, hc⟩ := mny h ht hk h34 g1
    obtain ⟨p, hp, hp2, ep⟩ := pn_of a23
    rw [ep, nI_clamp hp2] at er
    have gp := ng (n := 10) hp (by omega)
    have e23 : ρ1 23 k = nI p := by rw [z5 23 (by decide), ep]
    have e26 : ρ1 26 k = 0 := by rw [z5 26 (by decide), ha]
    have hrate : ∀ x y : Int32, fr_rateNow (cs (cs (cs ρ1 12 (ρ 25 k).toNatClampNeg x) 33 k (-1)) 34 k y) (nI p) = some (nI r) := fun x y => by
      have := rx_rate (ρ := cs (cs (cs ρ1 12 (ρ 25 k).toNatClampNeg x) 33 k (-1)) 34 k y) (nw := nw) hp z3.r5.2.2.2.2.2.2.1 z3.r5.2.2.2.2.2.2.2 (z3.zone hp).1 (z3.zone hp).2
      rw [this, ← er]
      unfold rnow
      show some (ρ1 5 ((if pkh nw then 3 else 0) + (ρ1 2 (ρ1 6 p).toNatClampNeg).toNatClampNeg)) = _
      rw [z5 5 (by decide), z5 2 (by decide), z5 6 (by decide)]
    have hgs : fr_getsSlice ρ (nI k) = if nI M = 0 then fr_closes (cs (tmR ρ1 (ρ 25 k).toNatClampNeg k M r) 36 0 (ρ1 36 0 + 1)) (nI k) 2 (ρ1 6 p) else some (tmR ρ1 (ρ 25 k).toNatClampNeg k M r) := by
      unfold fr_getsSlice
      rw [g2]
      simp only [po_b, if_true]
      rw [hm, nI_clamp (show k < 2 ^ 31 by omega)]
      simp only [po_b, gk, if_false]
      rw [show cs (cs (cs ρ1 12 (ρ 25 k).toNatClampNeg (ρ1 12 (ρ 25 k).toNatClampNeg - nI M * nI r)) 33 k (-1)) 34 k (nI M) 23 k = nI p from e23, hrate]
      simp only [po_b, ob_s]
      rw [show cs (cs (cs (cs (cs ρ1 12 (ρ 25 k).toNatClampNeg (ρ1 12 (ρ 25 k).toNatClampNeg - nI M * nI r)) 33 k (-1)) 34 k (nI M)) 35 k (nI r)) 36 0 (cs (cs (cs (cs ρ1 12 (ρ 25 k).toNatClampNeg (ρ1 12 (ρ 25 k).toNatClampNeg - nI M * nI r)) 33 k (-1)) 34 k (nI M)) 35 k (nI r) 36 0 + 1) 23 k = nI p from e23, nI_clamp hp2, if_neg gp]
      rfl
    by_cases h1 : 1 ≤ M
    · left
      rw [if_pos h1] at hc
      rw [if_neg (nI_ne0 (by omega) (by omega))] at hgs
      refine ⟨_, _, hc, hgs, op_tm z3 ht hk e26 z6 hw hM hMM hr, ?_, ?_, ?_, fun j hj z => ?_⟩
      · exact (z4.sub (C' := [3, 160, 161, 162, 182]) (by decide)).tr ((((chg.rf.st (C := [3, 160, 161, 162, 182]) (by decide)).st (by decide)).st (by decide)).st (by decide)) |>.sub (by decide)
      · exact (z5.sub (C' := [12, 17, 33, 34, 35]) (by decide)).tr ((((chg.rf.st (C := [12, 17, 33, 34, 35]) (by decide)).st (by decide)).st (by decide)).st (by decide)) |>.sub (by decide)
      · unfold tmR
        rw [rcs_col (by decide), cs_at]
        exact nI_ne0 (by omega) (by omega)
      · unfold tmR
        rw [rcs_col (by decide), cs_nei hj, rcs_col (by decide), rcs_col (by decide)]
        exact z7 j z
    · right
      obtain rfl : M = 0 := by omega
      rw [if_neg h1] at hc
      rw [if_pos (show nI 0 = 0 by decide)] at hgs
      have hrel := op_tf z3 ht hk z6 hw hr
      refine ⟨_, _, hc, ?_, hrel.idle (ρ' := cs (tmR ρ1 (ρ 25 k).toNatClampNeg k 0 r) 36 0 (ρ1 36 0 + 1)) (chg.rf.st (by decide)), z4, ?_, ?_, fun j hj z => ?_⟩
      · rw [hgs, show cs (tmR ρ1 (ρ 25 k).toNatClampNeg k 0 r) 36 0 (ρ1 36 0 + 1) 23 k = nI p from e23, nI_clamp hp2]
        rfl
      · exact (z5.sub (C' := [12, 33, 34, 35, 36]) (by decide)).tr (((((chg.rf.st (C := [12, 33, 34, 35, 36]) (by decide)).st (by decide)).st (by decide)).st (by decide)).st (by decide)) |>.sub (by decide)
      · rw [cs_at, z5 36 (by decide)]
      · unfold tmR
        rw [rcs_col (by decide), rcs_col (by decide), cs_nei hj, rcs_col (by decide), rcs_col (by decide)]
        exact z7 j z
  · -- from a bundle
    left
    have gb := ng (n := 40) (show b < 40 by omega) (by omega)
    have h3 : V 3 b = ρ 17 b := h.r8 b hb o2
    have hx : ∃ M : Nat, 1 ≤ M ∧ M ≤ 100 ∧ (if V 3 b < V 227 0 then V 3 b else V 227 0) = nI M ∧ (if ρ 1 0 ≤ ρ 17 b then ρ 1 0 else ρ 17 b) = nI M := by
      have hpos : 0 < (ρ 17 b).toInt := by
        rw [Int32.le_iff_toInt_le, Int32.toInt_zero] at o3
        omega
      have hlI : (nI ln).toInt = ln := nI_toInt hl2
      rw [h3, h.c 227 1 (by decide), el]
      by_cases hc : nI ln ≤ ρ 17 b
      · refine ⟨ln, by omega, by omega, if_neg (fun z => ?_), if_pos hc⟩
        rw [Int32.le_iff_toInt_le] at hc
        rw [Int32.lt_iff_toInt_lt] at z
        omega
      · obtain ⟨M, hM, eM⟩ := nI_of (x := ρ 17 b) (fun z => by
          rw [Int32.lt_iff_toInt_lt, Int32.toInt_zero] at z
          omega)
        have hlt : ρ 17 b < nI ln := Int32.not_le.mp hc
        refine ⟨M, ?_, ?_, by rw [if_pos hlt, eM], by rw [if_neg hc, eM]⟩
        · rw [eM, nI_toInt hM] at hpos
          omega
        · rw [eM, nI_ltI hM hl2] at hlt
          omega
    obtain ⟨M, hM1, hM2, x1, x2⟩ := hx
    have hc : fc_takeSlice V L N (nI k) = some (cs (cs (cs (cs V 3 b (ρ 17 b - nI M)) 162 k (nI b)) 161 k 0) 160 k (nI M), 1) := by
      unfold fc_takeSlice fc_dayOf
      rw [nI_clamp (show k < 2 ^ 31 by omega)]
      simp only [po_b]
      rw [g1, g3]
      simp only [po_b]
      rw [if_neg (pn_m1 (by omega)), nI_clamp (show b < 2 ^ 31 by omega), x1]
      unfold fc_Slice_takeFromBundle
      rw [nI_clamp (show k < 2 ^ 31 by omega), nI_clamp (show b < 2 ^ 31 by omega), h3]
      simp only [po_b]
    have hf : fr_getsSlice ρ (nI k) = some (cs (cs (cs ρ 17 b (ρ 17 b - nI M)) 33 k (nI b)) 34 k (nI M)) := by
      unfold fr_getsSlice
      rw [g2, g3]
      simp only [po_b]
      have e37 : ∀ s0, fr_getsSlice_37 ρ (nI k) (nI b) s0 = some (cs (cs (cs ρ 17 b (ρ 17 b - s0)) 33 k (nI b)) 34 k s0) := fun s0 => by
        unfold fr_getsSlice_37
        rw [nI_clamp (show k < 2 ^ 31 by omega), nI_clamp (show b < 2 ^ 31 by omega)]
        simp only [po_b, gk, gb, if_false]
      rw [if_neg (pn_m1 (by omega)), nI_clamp (show b < 2 ^ 31 by omega), e37, e37]
      simp only [gb, if_false]
      by_cases hcc : ρ 1 0 ≤ ρ 17 b
      · rw [if_pos hcc] at x2 ⊢
        rw [x2]
      · rw [if_neg hcc] at x2 ⊢
        rw [x2]
    refine ⟨_, _, hc, hf, op_tb h hk ha h34 hb o2 hM2, (((chg.rf.st (by decide)).st (by decide)).st (by decide)).st (by decide), ((chg.rf.st (by decide)).st (by decide)).st (by decide), ?_, fun j hj z => ?_⟩
    · rw [cs_at]
      exact nI_ne0 (by omega) (by omega)
    · rw [cs_nei hj, rcs_col (by decide), rcs_col (by decide)]
      exact z
end SL
