/-! THE FACE, told with what stays: what is set -/
section FS
variable {V V' : Rho} {L L' : Lst} {N N' : Cnt} {ρ ρ' : Rho} {t t' nw i i' k p c b z M e0 : Nat} {γ : Nat → Nat → Nat} {ε : Nat → Int32} {a w : Int32} {cd : Nat → Int32} {y : Option (Rho × Int32)}
theorem RelX.at {W : CW} (h : RelX W ρ t) (e : ρ 0 0 = nI nw) (hnw : nw ≤ 50000) : Rel W.1 W.2.1 W.2.2 ρ t nw 0 := by
  obtain ⟨n, h⟩ := h
  have e2 := h.r5.2.2.2.2.2.2.1
  have h2 := h.r5.2.2.2.2.2.2.2
  have : n = nw := pn_inj (by omega) (by omega) (e2.symm.trans e)
  subst this
  exact h
theorem OKR.get {x : Option ((Rho × Int32) ⊕ Nat)} (h : OKR V L N x y cd t e0) (hy : y = some (ρ', a)) (h39 : ρ' 39 0 = 0) : ∃ V', x = some (.inl (V', a)) ∧ RelX (V', L, N) ρ' t := by
  rcases h with ⟨e, ρ1, a1, h1, h2, h3, h4, h5, h6⟩ | ⟨V1, a1, ρ1, h1, h2, h3, h5, h6⟩
  · have z := Option.some.inj (h2.symm.trans hy)
    have zz : ρ1 = ρ' := congrArg Prod.fst z
    rw [zz] at h3
    exact absurd (h3.symm.trans h39) h4
  · have z := Option.some.inj (h2.symm.trans hy)
    obtain rfl : ρ1 = ρ' := congrArg Prod.fst z
    obtain rfl : a1 = a := congrArg Prod.snd z
    exact ⟨V1, h1, h5⟩
theorem OKR.no {x : Option ((Rho × Int32) ⊕ Nat)} (h : OKR V L N x y cd t e0) (hy : y = some (ρ', a)) (h39 : ¬ ρ' 39 0 = 0) : ∃ e, x = some (.inr e) ∧ cd e = ρ' 39 0 := by
  rcases h with ⟨e, ρ1, a1, h1, h2, h3, h4, h5, h6⟩ | ⟨V1, a1, ρ1, h1, h2, h3, h5, h6⟩
  · have z := Option.some.inj (h2.symm.trans hy)
    have zz : ρ1 = ρ' := congrArg Prod.fst z
    rw [zz] at h3
    exact ⟨e, h1, h3.symm⟩
  · have z := Option.some.inj (h2.symm.trans hy)
    have zz : ρ1 = ρ' := congrArg Prod.fst z
    rw [zz] at h3
    exact absurd h3 h39
theorem OKW.get {x : Option ((CW × Int32) ⊕ Nat)} (h : OKW V L N x y cd t e0) (hy : y = some (ρ', a)) (h39 : ρ' 39 0 = 0) : ∃ W, x = some (.inl (W, a)) ∧ RelX W ρ' t := by
  rcases h with ⟨e, ρ1, a1, h1, h2, h3, h4, h5, h6⟩ | ⟨V1, a1, ρ1, h1, h2, h3, h5, h6⟩
  · have z := Option.some.inj (h2.symm.trans hy)
    have zz : ρ1 = ρ' := congrArg Prod.fst z
    rw [zz] at h3
    exact absurd (h3.symm.trans h39) h4
  · have z := Option.some.inj (h2.symm.trans hy)
    obtain rfl : ρ1 = ρ' := congrArg Prod.fst z
    obtain rfl : a1 = a := congrArg Prod.snd z
    exact ⟨V1, h1, h5⟩
theorem OKW.no {x : Option ((CW × Int32) ⊕ Nat)} (h : OKW V L N x y cd t e0) (hy : y = some (ρ', a)) (h39 : ¬ ρ' 39 0 = 0) : ∃ e, x = some (.inr e) ∧ cd e = ρ' 39 0 := by
  rcases h with ⟨e, ρ1, a1, h1, h2, h3, h4, h5, h6⟩ | ⟨V1, a1, ρ1, h1, h2, h3, h5, h6⟩
  · have z := Option.some.inj (h2.symm.trans hy)
    have zz : ρ1 = ρ' := congrArg Prod.fst z
    rw [zz] at h3
    exact ⟨e, h1, h3.symm⟩
  · have z := Option.some.inj (h2.symm.trans hy)
    have zz : ρ1 = ρ' := congrArg Prod.fst z
    rw [zz] at h3
    exact absurd h3 h39
theorem cd3_3 {e : Nat} (h : cd3 e = 3) : e = 3 := by
  unfold cd3 at h
  split at h
  · exact absurd h (by decide)
  · split at h
    · exact absurd h (by decide)
    · split at h
      · assumption
      · exact absurd h (by decide)
theorem cd3_2 {e : Nat} (h : cd3 e = 2) : e = 2 := by
  unfold cd3 at h
  split at h
  · exact absurd h (by decide)
  · split at h
    · assumption
    · split at h
      · exact absurd h (by decide)
      · exact absurd h (by decide)
theorem cd13_2 {e : Nat} (h : cd13 e = 2) : e = 3 := by
  unfold cd13 at h
  split at h
  · exact absurd h (by decide)
  · split at h
    · assumption
    · exact absurd h (by decide)
theorem p_setRate (h : Rel V L N ρ t nw 0) (ht : t + 1 ≤ 512) {r : Nat} {pk : Int32} (hz : z < 3) (hr : r ≤ 1000) (hJ : PJ ρ γ ε M) (hP : PA ρ) : ∃ at9, at9 < 6 ∧ at9 = (if pk = 0 then 0 else 3) + z ∧ ∃ V' L' N' ρ', fc_setRate V L N (nI z) pk (nI r) = some (.inl ((V', L', N'), ρ 5 at9)) ∧ Rel V' L' N' ρ' (t + 1) nw 0 ∧ PJ ρ' γ ε M ∧ PA ρ' ∧ N' 4 = N 4 ∧ N' 1 = N 1 ∧ N' 0 = N 0 ∧ ρ' 5 at9 = nI r := by
  refine ⟨(if pk = 0 then 0 else 3) + z, by split <;> omega, rfl, ?_⟩
  have hclz := nI_clamp (show z < 2 ^ 31 by omega)
  have h41 : ∀ (R : Rho) (s : Int32) (q : Nat), q < 6 → s + nI z = nI q → fr_setRate_41 R (nI z) (nI r) s = some (cs R 5 q (nI r), R 5 q) := fun R s q hq e => by
    have gq := ng (n := 6) hq (by omega)
    unfold fr_setRate_41
    rw [e]
    simp only [po_b]
    rw [nI_clamp (show q < 2 ^ 31 by omega)]
    simp only [gq, if_false, po_b]
  have hf : fr_setRate ρ (nI z) pk (nI r) = some (cs (cs ρ 39 0 0) 5 ((if pk = 0 then 0 else 3) + z) (nI r), ρ 5 ((if pk = 0 then 0 else 3) + z)) := by
    unfold fr_setRate
    rw [isZ_ok hz]
    simp only [po_b]
    rw [if_neg (by decide), in_ok (n := 1001) (by decide) (by omega) (by decide)]
    simp only [po_b]
    rw [if_neg (by decide)]
    unfold fr_setRate_24
    rw [can_ok]
    by_cases e : pk = 0
    · rw [if_pos e, if_pos e, h41 _ 0 (0 + z) (by omega) (by rw [Nat.zero_add, Int32.zero_add])]
      rfl
    · rw [if_neg e, if_neg e, h41 _ 3 (3 + z) (by omega) (nI_add 3 z)]
      rfl
  have hch : chg [5, 39] ρ (cs (cs ρ 39 0 0) 5 ((if pk = 0 then 0 else 3) + z) (nI r)) := (chg.rf.st (by decide)).st (by decide)
  obtain ⟨W, w1, w2⟩ := (f_setRate h ht (nI z) pk (nI r)).get hf (by rw [rcs_col (by decide), cs_at])
  have w3 := w2.at (nw := nw) (by rw [hch 0 (by decide)]; exact h.r5.2.2.2.2.2.2.1) h.r5.2.2.2.2.2.2.2
  obtain ⟨n1, n2, n3⟩ := h.nn w3 (hch.agr (by decide))
  exact ⟨W.1, W.2.1, W.2.2, _, w1, w3, hJ.congr (hch.agr (by decide)), hP.congr (hch.agr (by decide)), n1, n2, n3, cs_at⟩
theorem p_setChannels (h : Rel V L N ρ t nw 0) {ch g : Nat} (hc : c < 8) (hch10 : ch ≤ 10) (hg : g ≤ ch) (hJ : PJ ρ γ ε M) (hP : PA ρ) : ∃ V' ρ', fc_setChannels V L N (nI c) (nI ch) (nI g) = some (.inl (V', nI (cntN (lgR ρ (nI c)) 10))) ∧ Rel V' L N ρ' t nw 0 ∧ PJ ρ' γ ε M ∧ PA ρ' := by
  have hclc := nI_clamp (show c < 2 ^ 31 by omega)
  have gc := ng (n := 8) hc (by omega)
  have hf : fr_setChannels ρ (nI c) (nI ch) (nI g) = some (cs (cs (cs ρ 39 0 0) 3 c (nI ch)) 4 c (nI g), nI (cntN (lgR ρ (nI c)) 10)) := by
    unfold fr_setChannels
    rw [in_ok (n := 11) (by decide) (by omega) (by decide)]
    simp only [po_b]
    rw [if_neg (by decide), inr_ok (nI_pos (by omega)) (nI_le hg (by omega))]
    simp only [po_b]
    rw [if_neg (by decide)]
    unfold fr_setChannels_24
    rw [isC_ok hc]
    simp only [po_b]
    rw [if_neg (by decide), if_neg (by decide)]
    unfold fr_setChannels_48
    rw [can_ok, hclc]
    simp only [po_b, gc, if_false, pr_legsIn]
    rfl
  have hcg : chg [3, 4, 39] ρ (cs (cs (cs ρ 39 0 0) 3 c (nI ch)) 4 c (nI g)) := ((chg.rf.st (by decide)).st (by decide)).st (by decide)
  obtain ⟨W, w1, w2⟩ := (f_setChannels h (nI c) (nI ch) (nI g)).get hf (by rw [rcs_col (by decide), rcs_col (by decide), cs_at])
  exact ⟨W, _, w1, w2.at (nw := nw) (by rw [hcg 0 (by decide)]; exact h.r5.2.2.2.2.2.2.1) h.r5.2.2.2.2.2.2.2, hJ.congr (hcg.agr (by decide)), hP.congr (hcg.agr (by decide))⟩
theorem p_setSlice (h : Rel V L N ρ t nw 0) {m : Nat} (h1 : 1 ≤ m) (hm : m ≤ 100) (hJ : PJ ρ γ ε M) (hP : PA ρ) : ∃ V' ρ', fc_setSlice V L N (nI m) = some (.inl (V', ρ 1 0)) ∧ Rel V' L N ρ' t nw 0 ∧ PJ ρ' γ ε M ∧ PA ρ' ∧ ρ' 1 0 = nI m := by
  have hf : fr_setSlice ρ (nI m) = some (cs (cs ρ 39 0 0) 1 0 (nI m), ρ 1 0) := by
    unfold fr_setSlice
    rw [inr_ok (show ¬ nI m < 1 from nI_nlt (b := 1) h1 (by omega)) (show nI m ≤ 100 from nI_le (b := 100) hm (by omega))]
    simp only [po_b]
    rw [if_neg (by decide)]
    unfold fr_setSlice_16
    rw [can_ok]
    rfl
  have hcg : chg [1, 39] ρ (cs (cs ρ 39 0 0) 1 0 (nI m)) := (chg.rf.st (by decide)).st (by decide)
  obtain ⟨W, w1, w2⟩ := (f_setSlice h (nI m)).get hf (by rw [rcs_col (by decide), cs_at])
  exact ⟨W, _, w1, w2.at (nw := nw) (by rw [hcg 0 (by decide)]; exact h.r5.2.2.2.2.2.2.1) h.r5.2.2.2.2.2.2.2, hJ.congr (hcg.agr (by decide)), hP.congr (hcg.agr (by decide)), cs_at⟩
theorem p_setCap (h : Rel V L N ρ t nw 0) {x : Int32} (hp : p < 10) (h1 : ¬ x < -1) (h2 : x ≤ 1000000) (hJ : PJ ρ γ ε M) (hP : PA ρ) : ∃ V' ρ', fc_setCap V L N (nI p) x = some (.inl (V', ρ 8 p)) ∧ Rel V' L N ρ' t nw 0 ∧ PJ ρ' γ ε M ∧ PA ρ' ∧ ρ' 8 = upd (ρ 8) p x := by
  have hclp := nI_clamp (show p < 2 ^ 31 by omega)
  have gp := ng (n := 10) hp (by omega)
  have hf : fr_setCap ρ (nI p) x = some (cs (cs ρ 39 0 0) 8 p x, ρ 8 p) := by
    unfold fr_setCap
    rw [isP_ok hp]
    simp only [po_b]
    rw [if_neg (by decide), inr_ok h1 h2]
    simp only [po_b]
    rw [if_neg (by decide)]
    unfold fr_setCap_27
    rw [can_ok, hclp]
    simp only [po_b, gp, if_false]
    rfl
  have hcg : chg [8, 39] ρ (cs (cs ρ 39 0 0) 8 p x) := (chg.rf.st (by decide)).st (by decide)
  obtain ⟨W, w1, w2⟩ := (f_setCap h (nI p) x).get hf (by rw [rcs_col (by decide), cs_at])
  refine ⟨W, _, w1, w2.at (nw := nw) (by rw [hcg 0 (by decide)]; exact h.r5.2.2.2.2.2.2.1) h.r5.2.2.2.2.2.2.2, hJ.congr (hcg.agr (by decide)), ⟨fun c hc => by unfold ptR; rw [hcg 9 (by decide), hcg 24 (by decide)]; exact hP.1 c hc, fun q hq => ?_⟩, by rw [rcs_upd, rcs_col (by decide)]⟩
  by_cases e : q = p
  · rw [e, cs_at]; exact h1
  · rw [cs_nei e, rcs_col (by decide)]; exact hP.2 q hq
theorem p_setWallet (h : Rel V L N ρ t nw 0) {w : Nat} (hp : p < 10) (hw : w < 4) (hJ : PJ ρ γ ε M) (hP : PA ρ) : (¬ ρ 9 p = -1 ∧ fc_setWallet V L N (nI p) (nI w) = some (.inr 3)) ∨ (ρ 9 p = -1 ∧ ∃ V' ρ', fc_setWallet V L N (nI p) (nI w) = some (.inl (V', ρ 7 p)) ∧ Rel V' L N ρ' t nw 0 ∧ PJ ρ' γ ε M ∧ PA ρ' ∧ ρ' 7 p = nI w ∧ ρ' 9 = ρ 9) := by
  have hclp := nI_clamp (show p < 2 ^ 31 by omega)
  have gp := ng (n := 10) hp (by omega)
  have hpre : fr_setWallet ρ (nI p) (nI w) = if ρ 9 p = -1 then fr_setWallet_44 ρ (nI p) (nI w) 0 else fr_setWallet_44 ρ (nI p) (nI w) 2 := by
    unfold fr_setWallet
    rw [isP_ok hp]
    simp only [po_b]
    rw [if_neg (by decide), isW_ok hw]
    simp only [po_b]
    rw [if_neg (by decide)]
    unfold fr_setWallet_19
    rw [if_neg (by decide), hclp, if_neg gp]
  by_cases h9 : ρ 9 p = -1
  · refine Or.inr ⟨h9, ?_⟩
    have hf : fr_setWallet ρ (nI p) (nI w) = some (cs (cs ρ 39 0 0) 7 p (nI w), ρ 7 p) := by
      rw [hpre, if_pos h9]
      unfold fr_setWallet_44
      rw [can_ok, hclp]
      simp only [po_b, gp, if_false]
      rfl
    have hcg : chg [7, 39] ρ (cs (cs ρ 39 0 0) 7 p (nI w)) := (chg.rf.st (by decide)).st (by decide)
    obtain ⟨W, w1, w2⟩ := (f_setWallet h (nI p) (nI w)).get hf (by rw [rcs_col (by decide), cs_at])
    exact ⟨W, _, w1, w2.at (nw := nw) (by rw [hcg 0 (by decide)]; exact h.r5.2.2.2.2.2.2.1) h.r5.2.2.2.2.2.2.2, hJ.congr (hcg.agr (by decide)), hP.congr (hcg.agr (by decide)), cs_at, rfl⟩
  · refine Or.inl ⟨h9, ?_⟩
    have hf : fr_setWallet ρ (nI p) (nI w) = some (cs ρ 39 0 2, 0) := by
      rw [hpre, if_neg h9]
      unfold fr_setWallet_44
      rw [can_bad (by decide)]
    obtain ⟨e, e1, e2⟩ := (f_setWallet h (nI p) (nI w)).no hf (by rw [cs_at]; decide)
    rw [cs_at] at e2
    rw [e1, cd13_2 e2]
theorem p_setZone (h : Rel V L N ρ t nw 0) (hc : c < 8) (hz : z < 3) (hJ : PJ ρ γ ε M) (hP : PA ρ) : (0 < N 1 ∧ fc_setZone V L N (nI c) (nI z) = some (.inr 3)) ∨ (N 1 = 0 ∧ ∃ V' ρ', fc_setZone V L N (nI c) (nI z) = some (.inl (V', ρ 2 c)) ∧ Rel V' L N ρ' t nw 0 ∧ PJ ρ' γ ε M ∧ PA ρ' ∧ ρ' 2 c = nI z) := by
  have hn1 := h.r3.2.1.2.2.1
  have e20 : ρ 20 0 = nI (N 1) := h.r3.2.2.1.2.1
  have hclc := nI_clamp (show c < 2 ^ 31 by omega)
  have gc := ng (n := 8) hc (by omega)
  have hpre : fr_setZone ρ (nI c) (nI z) = if nI (N 1) ≤ 0 then fr_setZone_35 ρ (nI c) (nI z) 0 else fr_setZone_35 ρ (nI c) (nI z) 3 := by
    unfold fr_setZone
    rw [isC_ok hc]
    simp only [po_b]
    rw [if_neg (by decide), isZ_ok hz]
    simp only [po_b]
    rw [if_neg (by decide), e20]
  by_cases h0 : N 1 = 0
  · refine Or.inr ⟨h0, ?_⟩
    have hf : fr_setZone ρ (nI c) (nI z) = some (cs (cs ρ 39 0 0) 2 c (nI z), ρ 2 c) := by
      rw [hpre, h0, if_pos (by decide)]
      unfold fr_setZone_35
      rw [can_ok, hclc]
      simp only [po_b, gc, if_false]
      rfl
    have hcg : chg [2, 39] ρ (cs (cs ρ 39 0 0) 2 c (nI z)) := (chg.rf.st (by decide)).st (by decide)
    obtain ⟨W, w1, w2⟩ := (f_setZone h (nI c) (nI z)).get hf (by rw [rcs_col (by decide), cs_at])
    exact ⟨W, _, w1, w2.at (nw := nw) (by rw [hcg 0 (by decide)]; exact h.r5.2.2.2.2.2.2.1) h.r5.2.2.2.2.2.2.2, hJ.congr (hcg.agr (by decide)), hP.congr (hcg.agr (by decide)), cs_at⟩
  · refine Or.inl ⟨by omega, ?_⟩
    have hf : fr_setZone ρ (nI c) (nI z) = some (cs ρ 39 0 3, 0) := by
      rw [hpre, if_neg (nI_nle (by omega) (by omega))]
      unfold fr_setZone_35
      rw [can_bad (by decide)]
    obtain ⟨e, e1, e2⟩ := (f_setZone h (nI c) (nI z)).no hf (by rw [cs_at]; decide)
    rw [cs_at] at e2
    rw [e1, cd3_3 e2]
/-- free money changes: the whole goes with it -/
theorem MQ9.fre (h : MQ9 ρ M) {M' : Nat} (hr : chg [12, 39] ρ ρ') (hs : sumN (fre ρ') 4 + M = sumN (fre ρ) 4 + M') : MQ9 ρ' M' := by
  obtain ⟨h1, h2, h3⟩ := h
  have e2 : mIn ρ' = mIn ρ := by funext j; unfold mIn; rw [hr 33 (by decide), hr 34 (by decide), hr 35 (by decide)]
  have e3 : spe ρ' = spe ρ := by funext j; unfold spe; rw [hr 13 (by decide)]
  have e4 : cha ρ' = cha ρ := by funext j; unfold cha; rw [hr 28 (by decide)]
  have e5 : nlg ρ' = nlg ρ := by unfold nlg; rw [hr 22 (by decide)]
  unfold MQ9
  rw [e2, e3, e4, e5, hr 13 (by decide)]
  exact ⟨by omega, h2, h3⟩
theorem PJ.fre (hJ : PJ ρ γ ε M) {M' : Nat} (hr : chg [12, 39] ρ ρ') (hs : sumN (fre ρ') 4 + M = sumN (fre ρ) 4 + M') : PJ ρ' γ ε M' := by
  have e5 : nlg ρ' = nlg ρ := by unfold nlg; rw [hr 22 (by decide)]
  refine ⟨fun j hj => ?_, hJ.2.1.fre hr hs, hJ.2.2.congr (hr.agr (by decide))⟩
  rw [e5] at hj
  exact (hJ.1 j hj).congr (fun d hd => by rw [hr d (fun z => by
    simp only [List.mem_cons, List.not_mem_nil, or_false] at hd z
    omega)]) (hr 6 (by decide))
theorem fre_le (hM : MQ9 ρ M) {w : Nat} (hw : w < 4) : fre ρ w ≤ M := by
  obtain ⟨h1, -, -⟩ := hM
  have := sumN_ge (f := fre ρ) hw
  omega
theorem p_top (h : Rel V L N ρ t nw 0) (ht : t + 1 ≤ 512) {w m : Nat} (hw : w < 4) (h1 : 1 ≤ m) (hm : m ≤ 1000000) (hJ : PJ ρ γ ε M) (hP : PA ρ) (hM9 : M ≤ 1000000000) : ∃ V' ρ', fc_top V L N (nI w) (nI m) = some (.inl (V', nI (fre ρ w + m))) ∧ Rel V' L N ρ' (t + 1) nw 0 ∧ PJ ρ' γ ε (M + m) ∧ PA ρ' := by
  have hclw := nI_clamp (show w < 2 ^ 31 by omega)
  have gw9 := ng (n := 4) hw (by omega)
  have hfe := h.r14.eq hw
  have hfl := fre_le hJ.2.1 hw
  have hf : fr_top ρ (nI w) (nI m) = some (cs (cs ρ 39 0 0) 12 w (nI (fre ρ w + m)), nI (fre ρ w + m)) := by
    unfold fr_top
    rw [isW_ok hw]
    simp only [po_b]
    rw [if_neg (by decide), inr_ok (show ¬ nI m < 1 from nI_nlt (b := 1) h1 (by omega)) (show nI m ≤ 1000000 from nI_le (b := 1000000) hm (by omega))]
    simp only [po_b]
    rw [if_neg (by decide)]
    unfold fr_top_27
    rw [can_ok, hclw]
    simp only [po_b, gw9, if_false]
    rw [cs_at, show cs ρ 39 0 0 12 w = ρ 12 w from rfl, hfe, nI_add]
  have hcg : chg [12, 39] ρ (cs (cs ρ 39 0 0) 12 w (nI (fre ρ w + m))) := (chg.rf.st (by decide)).st (by decide)
  obtain ⟨W, w1, w2⟩ := (f_top h ht (nI w) (nI m)).get hf (by rw [rcs_col (by decide), cs_at])
  refine ⟨W, _, w1, w2.at (nw := nw) (by rw [hcg 0 (by decide)]; exact h.r5.2.2.2.2.2.2.1) h.r5.2.2.2.2.2.2.2, hJ.fre hcg ?_, hP.congr (hcg.agr (by decide))⟩
  have e1 := sumN_at (f := fre ρ) (g := fre (cs (cs ρ 39 0 0) 12 w (nI (fre ρ w + m)))) hw (fun j _ hne => by
    show (cs (cs ρ 39 0 0) 12 w (nI (fre ρ w + m)) 12 j).toNatClampNeg = _
    rw [cs_nei hne]
    rfl)
  have e2 : fre (cs (cs ρ 39 0 0) 12 w (nI (fre ρ w + m))) w = fre ρ w + m := by
    show (cs (cs ρ 39 0 0) 12 w (nI (fre ρ w + m)) 12 w).toNatClampNeg = _
    rw [cs_at, nI_clamp (by omega)]
  omega
theorem p_give (h : Rel V L N ρ t nw 0) (ht : t ≤ 512) {w o m : Nat} (hw : w < 4) (ho : o < 4) (h1 : 1 ≤ m) (hm : m ≤ 1000000) (hJ : PJ ρ γ ε M) (hP : PA ρ) (hM9 : M ≤ 1000000000) :
    (w = o ∧ fc_give V L N (nI w) (nI o) (nI m) = some (.inr 2)) ∨ (w ≠ o ∧ fre ρ w < m ∧ fc_give V L N (nI w) (nI o) (nI m) = some (.inr 3)) ∨ (w ≠ o ∧ m ≤ fre ρ w ∧ ∃ V' ρ', fc_give V L N (nI w) (nI o) (nI m) = some (.inl (V', nI (fre ρ w - m))) ∧ Rel V' L N ρ' t nw 0 ∧ PJ ρ' γ ε M ∧ PA ρ') := by
  have hclw := nI_clamp (show w < 2 ^ 31 by omega)
  have hclo := nI_clamp (show o < 2 ^ 31 by omega)
  have gw9 := ng (n := 4) hw (by omega)
  have go9 := ng (n := 4) ho (by omega)
  have hfe := h.r14.eq hw
  have hfo := h.r14.eq ho
  have hfl := fre_le hJ.2.1 hw
  have hfl2 := fre_le hJ.2.1 ho
  have hpre : fr_give ρ (nI w) (nI o) (nI m) = fr_give_19 ρ (nI w) (nI o) (nI m) 1 := by
    unfold fr_give
    rw [isW_ok hw]
    simp only [po_b]
    rw [if_neg (by decide), isW_ok ho]
    simp only [po_b]
    rw [if_neg (by decide)]
  by_cases hwo : w = o
  · refine Or.inl ⟨hwo, ?_⟩
    have hf : fr_give ρ (nI w) (nI o) (nI m) = some (cs ρ 39 0 2, 0) := by
      rw [hpre, hwo]
      unfold fr_give_19
      rw [if_pos rfl]
      unfold fr_give_40 fr_give_41
      rw [if_neg (by decide), if_pos rfl]
      unfold fr_give_77
      rw [can_bad (by decide)]
    obtain ⟨e, e1, e2⟩ := (f_give h ht (nI w) (nI o) (nI m)).no hf (by rw [cs_at]; decide)
    rw [cs_at] at e2
    rw [e1, cd3_2 e2]
  · have hne : ¬ nI w = nI o := fun z => hwo (pn_inj (by omega) (by omega) z)
    have hpre2 : fr_give ρ (nI w) (nI o) (nI m) = if nI m ≤ ρ 12 w then fr_give_77 ρ (nI w) (nI o) (nI m) 0 else fr_give_77 ρ (nI w) (nI o) (nI m) 3 := by
      rw [hpre]
      unfold fr_give_19
      rw [if_neg hne, inr_ok (show ¬ nI m < 1 from nI_nlt (b := 1) h1 (by omega)) (show nI m ≤ 1000000 from nI_le (b := 1000000) hm (by omega))]
      simp only [po_b]
      rw [if_neg (by decide)]
      unfold fr_give_41
      rw [if_neg (by decide), if_neg (by decide), hclw, if_neg gw9]
    by_cases hlt : fre ρ w < m
    · refine Or.inr (Or.inl ⟨hwo, hlt, ?_⟩)
      have hf : fr_give ρ (nI w) (nI o) (nI m) = some (cs ρ 39 0 3, 0) := by
        rw [hpre2, hfe, if_neg (nI_ge hlt (by omega))]
        unfold fr_give_77
        rw [can_bad (by decide)]
      obtain ⟨e, e1, e2⟩ := (f_give h ht (nI w) (nI o) (nI m)).no hf (by rw [cs_at]; decide)
      rw [cs_at] at e2
      rw [e1, cd3_3 e2]
    · refine Or.inr (Or.inr ⟨hwo, by omega, ?_⟩)
      have how : o ≠ w := fun z => hwo z.symm
      have hf : fr_give ρ (nI w) (nI o) (nI m) = some (cs (cs (cs ρ 39 0 0) 12 w (nI (fre ρ w - m))) 12 o (nI (fre ρ o + m)), nI (fre ρ w - m)) := by
        rw [hpre2, hfe, if_pos (nI_le (by omega) (by omega))]
        unfold fr_give_77
        rw [can_ok, hclw, hclo]
        simp only [po_b, gw9, go9, if_false]
        rw [cs_nei (fun z => hwo z), cs_at, cs_nei (fun z => hwo z.symm), show cs ρ 39 0 0 12 w = ρ 12 w from rfl, show cs ρ 39 0 0 12 o = ρ 12 o from rfl, hfe, hfo, nI_sb (by omega), nI_add]
      have hcg : chg [12, 39] ρ (cs (cs (cs ρ 39 0 0) 12 w (nI (fre ρ w - m))) 12 o (nI (fre ρ o + m))) := ((chg.rf.st (by decide)).st (by decide)).st (by decide)
      obtain ⟨W, w1, w2⟩ := (f_give h ht (nI w) (nI o) (nI m)).get hf (by rw [rcs_col (by decide), rcs_col (by decide), cs_at])
      refine ⟨W, _, w1, w2.at (nw := nw) (by rw [hcg 0 (by decide)]; exact h.r5.2.2.2.2.2.2.1) h.r5.2.2.2.2.2.2.2, hJ.fre hcg ?_, hP.congr (hcg.agr (by decide))⟩
      have e1 := sumN_at (f := fre ρ) (g := fre (cs (cs ρ 39 0 0) 12 w (nI (fre ρ w - m)))) hw (fun j _ hne => by
        show (cs (cs ρ 39 0 0) 12 w (nI (fre ρ w - m)) 12 j).toNatClampNeg = _
        rw [cs_nei hne]
        rfl)
      have e2 : fre (cs (cs ρ 39 0 0) 12 w (nI (fre ρ w - m))) w = fre ρ w - m := by
        show (cs (cs ρ 39 0 0) 12 w (nI (fre ρ w - m)) 12 w).toNatClampNeg = _
        rw [cs_at, nI_clamp (by omega)]
      have e3 := sumN_at (f := fre (cs (cs ρ 39 0 0) 12 w (nI (fre ρ w - m)))) (g := fre (cs (cs (cs ρ 39 0 0) 12 w (nI (fre ρ w - m))) 12 o (nI (fre ρ o + m)))) ho (fun j _ hne => by
        show (cs (cs (cs ρ 39 0 0) 12 w (nI (fre ρ w - m))) 12 o (nI (fre ρ o + m)) 12 j).toNatClampNeg = _
        rw [cs_nei hne]
        rfl)
      have e4 : fre (cs (cs (cs ρ 39 0 0) 12 w (nI (fre ρ w - m))) 12 o (nI (fre ρ o + m))) o = fre ρ o + m := by
        show (cs (cs (cs ρ 39 0 0) 12 w (nI (fre ρ w - m))) 12 o (nI (fre ρ o + m)) 12 o).toNatClampNeg = _
        rw [cs_at, nI_clamp (by omega)]
      have e5 : fre (cs (cs ρ 39 0 0) 12 w (nI (fre ρ w - m))) o = fre ρ o := by
        show (cs (cs ρ 39 0 0) 12 w (nI (fre ρ w - m)) 12 o).toNatClampNeg = _
        rw [cs_nei how]
        rfl
      omega
end FS
