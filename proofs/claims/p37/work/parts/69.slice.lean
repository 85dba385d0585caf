/-! WHAT STAYS when a slice is set aside -/
section GS9
variable {V V' : Rho} {L : Lst} {N : Cnt} {ρ ρ' : Rho} {t nw i k M : Nat} {γ : Nat → Nat → Nat} {ε : Nat → Int32}
theorem gets_shape {P : Rho → Prop} (hP : ∀ (V ρ : Rho) (x : Nat), Rel V L N ρ t nw i → gv ρ N k x → P ρ → P (hfR ρ (ρ 25 k).toNatClampNeg x)) (hp0 : P ρ) (h : Rel V L N ρ t nw i) (ht : t ≤ 512) (hk : k < N 4) (ha : ρ 26 k = 0) (h34 : ρ 34 k = 0) :
    (∃ (V1 ρ1 : Rho) (M r : Nat), P ρ1 ∧ Rel V1 L N ρ1 t nw i ∧ chg [12, 34] ρ ρ1 ∧ ρ1 34 k = 0 ∧ r ≤ 1000 ∧ rnow ρ nw (ρ 23 k).toNatClampNeg = nI r ∧ 1 ≤ M ∧ M ≤ 100 ∧ M * r ≤ fre ρ1 (ρ 25 k).toNatClampNeg ∧ fr_getsSlice ρ (nI k) = some (tmR ρ1 (ρ 25 k).toNatClampNeg k M r)) ∨
    (∃ (V1 ρ1 : Rho) (r : Nat), P ρ1 ∧ Rel V1 L N ρ1 t nw i ∧ chg [12, 34] ρ ρ1 ∧ ρ1 34 k = 0 ∧ r ≤ 1000 ∧ Rel V1 L N (cs (tmR ρ1 (ρ 25 k).toNatClampNeg k 0 r) 36 0 (ρ1 36 0 + 1)) t nw i ∧ fr_getsSlice ρ (nI k) = fr_closes (cs (tmR ρ1 (ρ 25 k).toNatClampNeg k 0 r) 36 0 (ρ1 36 0 + 1)) (nI k) 2 ((cs (tmR ρ1 (ρ 25 k).toNatClampNeg k 0 r) 36 0 (ρ1 36 0 + 1)) 6 ((cs (tmR ρ1 (ρ 25 k).toNatClampNeg k 0 r) 36 0 (ρ1 36 0 + 1)) 23 k).toNatClampNeg)) ∨
    (∃ (b M : Nat), b < N 0 ∧ 1 ≤ M ∧ M ≤ 100 ∧ nI M ≤ ρ 17 b ∧ fr_getsSlice ρ (nI k) = some (cs (cs (cs ρ 17 b (ρ 17 b - nI M)) 33 k (nI b)) 34 k (nI M))) := by
  have hn4 := h.n4
  have hn0 := h.r3.2.1.2.1
  obtain ⟨a23, a24, a25⟩ := h.r5.2.2.1 k hk
  have hw := vp_lt a25
  have gk := ng (n := 80) (show k < 80 by omega) (by omega)
  obtain ⟨ln, hl, hl2, el⟩ := pn_of h.r5.2.2.2.2.2.1.1
  have hl0 := h.r5.2.2.2.2.2.1.2
  rw [el, nI_clamp hl2] at hl0
  obtain ⟨g, g1, g2, g3⟩ := h.bundle hk
  rcases g3 with g3 | ⟨b, hb, g3, o1, o2, o3⟩
  · -- from money
    subst g3
    obtain ⟨V1, ρ1, M, r, hp1, hr, er, z3, z4, z5, z6, z7, hMM, hM, hm, hc⟩ := mny_P hP hp0 h ht hk h34 g1
    have er0 := er
    obtain ⟨p, hp, hp2, ep⟩ := pn_of a23
    rw [ep, nI_clamp hp2] at er
    have gp := ng (n := 10) hp (by omega)
    have e23 : ρ1 23 k = nI p := by rw [z5 23 (by decide), ep]
    have e26 : ρ1 26 k = 0 := by rw [z5 26 (by decide), ha]
    have hrate : ∀ x y : Int32, fr_rateNow (cs (cs (cs ρ1 12 (ρ 25 k).toNatClampNeg x) 33 k (-1)) 34 k y) (nI p) = some (nI r) := fun x y => by
      have := rx_rate (ρ := cs (cs (cs ρ1 12 (ρ 25 k).toNatClampNeg x) 33 k (-1)) 34 k y) (nw := nw) hp z3.r5.2.2.2.2.2.2.1 z3.r5.2.2.2.2.2.2.2 (z3.zone hp).1 (z3.zone hp).2
      rw [this, ← er]
      unfold rnow
      show some (ρ1 5 ((if pkh nw then 3 else 0) + (ρ1 2 (ρ1 6 p).toNatClampNeg).toNatClampNeg)) = _
      rw [z5 5 (by decide), z5 2 (by decide), z5 6 (by decide)]
    have hgs : fr_getsSlice ρ (nI k) = if nI M = 0 then fr_closes (cs (tmR ρ1 (ρ 25 k).toNatClampNeg k M r) 36 0 (ρ1 36 0 + 1)) (nI k) 2 (ρ1 6 p) else some (tmR ρ1 (ρ 25 k).toNatClampNeg k M r) := by
      unfold fr_getsSlice
      rw [g2]
      simp only [po_b, if_true]
      rw [hm, nI_clamp (show k < 2 ^ 31 by omega)]
      simp only [po_b, gk, if_false]
      rw [show cs (cs (cs ρ1 12 (ρ 25 k).toNatClampNeg (ρ1 12 (ρ 25 k).toNatClampNeg - nI M * nI r)) 33 k (-1)) 34 k (nI M) 23 k = nI p from e23, hrate]
      simp only [po_b, ob_s]
      rw [show cs (cs (cs (cs (cs ρ1 12 (ρ 25 k).toNatClampNeg (ρ1 12 (ρ 25 k).toNatClampNeg - nI M * nI r)) 33 k (-1)) 34 k (nI M)) 35 k (nI r)) 36 0 (cs (cs (cs (cs ρ1 12 (ρ 25 k).toNatClampNeg (ρ1 12 (ρ 25 k).toNatClampNeg - nI M * nI r)) 33 k (-1)) 34 k (nI M)) 35 k (nI r) 36 0 + 1) 23 k = nI p from e23, nI_clamp hp2, if_neg gp]
      rfl
    by_cases h1 : 1 ≤ M
    · rw [if_neg (nI_ne0 (by omega) (by omega))] at hgs
      exact Or.inl ⟨V1, ρ1, M, r, hp1, z3, z5, z6, hr, er0, h1, hMM, hM, hgs⟩
    · obtain rfl : M = 0 := by omega
      rw [if_pos (show nI 0 = 0 by decide)] at hgs
      have hrel := op_tf z3 ht hk z6 hw hr
      refine Or.inr (Or.inl ⟨V1, ρ1, r, hp1, z3, z5, z6, hr, hrel.idle (ρ' := cs (tmR ρ1 (ρ 25 k).toNatClampNeg k 0 r) 36 0 (ρ1 36 0 + 1)) (chg.rf.st (by decide)), ?_⟩)
      rw [hgs, show cs (tmR ρ1 (ρ 25 k).toNatClampNeg k 0 r) 36 0 (ρ1 36 0 + 1) 23 k = nI p from e23, nI_clamp hp2]
      rfl
  · -- from a bundle
    have gb := ng (n := 40) (show b < 40 by omega) (by omega)
    have h3 : V 3 b = ρ 17 b := h.r8 b hb o2
    have hx : ∃ M : Nat, 1 ≤ M ∧ M ≤ 100 ∧ (if V 3 b < V 227 0 then V 3 b else V 227 0) = nI M ∧ (if ρ 1 0 ≤ ρ 17 b then ρ 1 0 else ρ 17 b) = nI M := by
      have hpos : 0 < (ρ 17 b).toInt := by
        rw [Int32.le_iff_toInt_le, Int32.toInt_zero] at o3
        omega
      have hlI : (nI ln).toInt = ln := nI_toInt hl2
      rw [h3, h.c 227 1 (by decide), el]
      by_cases hc : nI ln ≤ ρ 17 b
      · refine ⟨ln, by omega, by omega, if_neg (fun z => ?_), if_pos hc⟩
        rw [Int32.le_iff_toInt_le] at hc
        rw [Int32.lt_iff_toInt_lt] at z
        omega
      · obtain ⟨M, hM, eM⟩ := nI_of (x := ρ 17 b) (fun z => by
          rw [Int32.lt_iff_toInt_lt, Int32.toInt_zero] at z
          omega)
        have hlt : ρ 17 b < nI ln := Int32.not_le.mp hc
        refine ⟨M, ?_, ?_, by rw [if_pos hlt, eM], by rw [if_neg hc, eM]⟩
        · rw [eM, nI_toInt hM] at hpos
          omega
        · rw [eM, nI_ltI hM hl2] at hlt
          omega
    obtain ⟨M, hM1, hM2, x1, x2⟩ := hx
    have hf : fr_getsSlice ρ (nI k) = some (cs (cs (cs ρ 17 b (ρ 17 b - nI M)) 33 k (nI b)) 34 k (nI M)) := by
      unfold fr_getsSlice
      rw [g2, g3]
      simp only [po_b]
      have e37 : ∀ s0, fr_getsSlice_37 ρ (nI k) (nI b) s0 = some (cs (cs (cs ρ 17 b (ρ 17 b - s0)) 33 k (nI b)) 34 k s0) := fun s0 => by
        unfold fr_getsSlice_37
        rw [nI_clamp (show k < 2 ^ 31 by omega), nI_clamp (show b < 2 ^ 31 by omega)]
        simp only [po_b, gk, gb, if_false]
      rw [if_neg (pn_m1 (by omega)), nI_clamp (show b < 2 ^ 31 by omega), e37, e37]
      simp only [gb, if_false]
      by_cases hcc : ρ 1 0 ≤ ρ 17 b
      · rw [if_pos hcc] at x2 ⊢
        rw [x2]
      · rw [if_neg hcc] at x2 ⊢
        rw [x2]
    refine Or.inr (Or.inr ⟨b, M, hb, hM1, hM2, ?_, hf⟩)
    rw [← x2]
    by_cases q : ρ 1 0 ≤ ρ 17 b
    · rw [if_pos q]; exact q
    · rw [if_neg q]; exact Int32.le_refl _
/-- half of a slice goes back -/
theorem half_keep (h : Rel V L N ρ t nw i) (ht : t ≤ 512) {x : Nat} (hx : gv ρ N k x) (hM : MQ9 ρ M ∧ BQ ρ) : MQ9 (hfR ρ (ρ 25 k).toNatClampNeg x) M ∧ BQ (hfR ρ (ρ 25 k).toNatClampNeg x) := by
  obtain ⟨hx1, -, -, hpay, h33, -, -⟩ := hx
  obtain ⟨q1, -⟩ := h.r7 x hx1
  obtain ⟨s, hs, hs2, es⟩ := pn_of q1
  have hd : ρ 34 x / 2 = nI (s / 2) := by rw [es, show (2 : Int32) = nI 2 by decide, pk_div hs2 (by decide) (by decide)]
  have e : hfR ρ (ρ 25 k).toNatClampNeg x = gbk ρ x (nI (s / 2)) := by
    unfold gbk hfR
    rw [if_pos h33, hpay, hd]
  rw [e]
  exact gbk_keep h ht hx1 (by rw [es, nI_clamp hs2]; omega) hM.1 hM.2
theorem tm_keep (h : Rel V L N ρ t nw i) (ht : t ≤ 512) (hk : k < N 4) (h34 : ρ 34 k = 0) {w m r : Nat} (hw : w < 4) (hm : m * r ≤ fre ρ w) (hmm : m ≤ 100) (hr : r ≤ 1000) (hM : MQ9 ρ M ∧ BQ ρ) : MQ9 (tmR ρ w k m r) M ∧ BQ (tmR ρ w k m r) := by
  have hkl : k < nlg ρ := by rw [h.lgs]; exact hk
  have hfe := h.r14.eq hw
  have hle := h.r14.le hw hk
  have e33 : tmR ρ w k m r 33 k = -1 := by unfold tmR; rw [rcs_col (by decide), rcs_col (by decide), cs_at]
  have e34 : tmR ρ w k m r 34 k = nI m := by unfold tmR; rw [rcs_col (by decide), cs_at]
  have e35 : tmR ρ w k m r 35 k = nI r := by unfold tmR; rw [cs_at]
  have lo : ∀ j, j ≠ k → tmR ρ w k m r 33 j = ρ 33 j ∧ tmR ρ w k m r 34 j = ρ 34 j ∧ tmR ρ w k m r 35 j = ρ 35 j := fun j hne => by
    refine ⟨?_, ?_, ?_⟩
    · unfold tmR; rw [rcs_col (by decide), rcs_col (by decide), cs_nei hne, rcs_col (by decide)]
    · unfold tmR; rw [rcs_col (by decide), cs_nei hne, rcs_col (by decide), rcs_col (by decide)]
    · unfold tmR; rw [cs_nei hne, rcs_col (by decide), rcs_col (by decide), rcs_col (by decide)]
  have e12 : ∀ w', tmR ρ w k m r 12 w' = if w' = w then nI (fre ρ w - m * r) else ρ 12 w' := fun w' => by
    unfold tmR
    rw [rcs_col (by decide), rcs_col (by decide), rcs_col (by decide)]
    by_cases e : w' = w
    · rw [e, cs_at, if_pos rfl, hfe, pk_mul, nI_sb hm]
    · rw [cs_nei e, if_neg e]
  constructor
  · refine hM.1.mv hw hkl rfl rfl rfl (fun w' _ hne => by rw [e12, if_neg hne]) (fun j _ hne => ?_) ?_
    · obtain ⟨a, b, c⟩ := lo j hne
      unfold mIn
      rw [a, b, c]
    · have y1 : fre (tmR ρ w k m r) w = fre ρ w - m * r := by
        show (tmR ρ w k m r 12 w).toNatClampNeg = _
        rw [e12, if_pos rfl, nI_clamp (by omega)]
      have y2 : mIn (tmR ρ w k m r) k = m * r := by
        unfold mIn
        rw [e33, if_pos rfl, e34, e35, nI_clamp (by omega), nI_clamp (by omega)]
      have y3 : mIn ρ k = 0 := by
        unfold mIn
        rw [h34, show (0 : Int32).toNatClampNeg = 0 by decide, Nat.zero_mul]
        split <;> rfl
      omega
  · refine hM.2.at hkl rfl rfl (fun j _ hne => ⟨(lo j hne).1, (lo j hne).2.1⟩) (fun b hb z1 z2 => ⟨z1, ?_⟩)
    have hb4 : b < 40 := by
      have := h.bds
      have := h.r3.2.1.2.1
      omega
    have e : ¬ tmR ρ w k m r 33 k = nI b := by
      rw [e33]
      exact fun z => pn_m1 (k := b) (by omega) z.symm
    unfold bsl
    rw [if_neg e]
    exact Nat.le_add_right _ _
theorem tb_keep (h : Rel V L N ρ t nw i) (hk : k < N 4) (h34 : ρ 34 k = 0) {b m : Nat} (hb : b < 40) (hm : m ≤ 100) (hle : nI m ≤ ρ 17 b) (hM : MQ9 ρ M ∧ BQ ρ) : MQ9 (cs (cs (cs ρ 17 b (ρ 17 b - nI m)) 33 k (nI b)) 34 k (nI m)) M ∧ BQ (cs (cs (cs ρ 17 b (ρ 17 b - nI m)) 33 k (nI b)) 34 k (nI m)) := by
  have hkl : k < nlg ρ := by rw [h.lgs]; exact hk
  have y3 : mIn ρ k = 0 := by
    unfold mIn
    rw [h34, show (0 : Int32).toNatClampNeg = 0 by decide, Nat.zero_mul]
    split <;> rfl
  have e33 : cs (cs (cs ρ 17 b (ρ 17 b - nI m)) 33 k (nI b)) 34 k (nI m) 33 k = nI b := by rw [rcs_col (by decide), cs_at]
  have e34 : cs (cs (cs ρ 17 b (ρ 17 b - nI m)) 33 k (nI b)) 34 k (nI m) 34 k = nI m := by rw [cs_at]
  have e17 : ∀ b', cs (cs (cs ρ 17 b (ρ 17 b - nI m)) 33 k (nI b)) 34 k (nI m) 17 b' = if b' = b then ρ 17 b - nI m else ρ 17 b' := fun b' => by
    rw [rcs_col (by decide), rcs_col (by decide)]
    by_cases e : b' = b
    · rw [e, cs_at, if_pos rfl]
    · rw [cs_nei e, if_neg e]
  have lo : ∀ j, j ≠ k → cs (cs (cs ρ 17 b (ρ 17 b - nI m)) 33 k (nI b)) 34 k (nI m) 33 j = ρ 33 j ∧ cs (cs (cs ρ 17 b (ρ 17 b - nI m)) 33 k (nI b)) 34 k (nI m) 34 j = ρ 34 j := fun j hne => by
    refine ⟨?_, ?_⟩
    · rw [rcs_col (by decide), cs_nei hne, rcs_col (by decide)]
    · rw [cs_nei hne, rcs_col (by decide), rcs_col (by decide)]
  constructor
  · refine hM.1.mv (w := 0) (by decide) hkl rfl rfl rfl (fun w' _ hne => rfl) (fun j _ hne => ?_) ?_
    · obtain ⟨a, c⟩ := lo j hne
      unfold mIn
      rw [a, c]
      rfl
    · have y1 : fre (cs (cs (cs ρ 17 b (ρ 17 b - nI m)) 33 k (nI b)) 34 k (nI m)) 0 = fre ρ 0 := rfl
      have y2 : mIn (cs (cs (cs ρ 17 b (ρ 17 b - nI m)) 33 k (nI b)) 34 k (nI m)) k = 0 := by
        unfold mIn
        rw [e33, if_neg (pn_m1 (by omega))]
      omega
  · refine hM.2.at hkl rfl rfl (fun j _ hne => lo j hne) (fun b' hb' z1 z2 => ?_)
    have hb4 : b' < 40 := by
      have := h.bds
      have := h.r3.2.1.2.1
      omega
    rw [e17]
    by_cases e : b' = b
    · subst e
      obtain ⟨x, hx, ex⟩ := nI_of z1
      rw [ex, nI_leI (by omega) hx] at hle
      unfold bsl
      rw [if_pos rfl, e33, if_pos rfl, e34, ex, nI_sb hle, nI_clamp hx, nI_clamp (by omega), nI_clamp (by omega)]
      exact ⟨nI_pos (by omega), by omega⟩
    · rw [if_neg e]
      refine ⟨z1, ?_⟩
      unfold bsl
      rw [e33, if_neg (fun z => e (pn_inj (by omega) (by omega) z).symm)]
      exact Nat.le_add_right _ _
/-- a leg without seconds gets a slice, or is CUT -/
theorem gets_keep (h : Rel V L N ρ t nw i) (ht : t ≤ 512) (hk : k < N 4) (ha : ρ 26 k = 0) (h34 : ρ 34 k = 0) (hJ : PJ ρ γ ε M) (hP : PA ρ) {c : Nat} (hc40 : c < 40) (ec : ρ 24 k = nI c) : ∃ ρ', fr_getsSlice ρ (nI k) = some ρ' ∧ PJ ρ' γ ε M ∧ PA ρ' ∧
    ((ρ' 26 = ρ 26 ∧ ¬ ρ' 34 k = 0 ∧ (ρ' 33 k = -1 → ρ' 35 k = rnow ρ nw (ρ 23 k).toNatClampNeg) ∧ ρ' 36 = ρ 36 ∧ chg [12, 17, 33, 34, 35] ρ ρ') ∨
     (ρ' 26 k = 2 ∧ C2 ρ' = C2 ρ + 1 ∧ ρ' 36 0 = ρ 36 0 + 1 ∧ chg [9, 12, 17, 26, 31, 33, 34, 35, 36] ρ ρ' ∧ cntN (ptR ρ' (nI c)) 10 = (if cntN (ptR ρ (nI c)) 10 = 2 then 0 else cntN (ptR ρ (nI c)) 10 - 1) ∧ ∀ c' : Nat, c' < 40 → c' ≠ c → cntN (ptR ρ' (nI c')) 10 = cntN (ptR ρ (nI c')) 10)) := by
  have hn4 := h.n4
  have hw := vp_lt (h.r5.2.2.1 k hk).2.2
  rcases gets_shape (P := fun ρ => MQ9 ρ M ∧ BQ ρ) (fun V ρ x hR hx hp => half_keep hR ht hx hp) hJ.2 h ht hk ha h34 with ⟨V1, ρ1, m, r, hp1, z3, z5, z6, hr, er, h1, hmm, hm, hg⟩ | ⟨V1, ρ1, r, hp1, z3, z5, z6, hr, hrel, hg⟩ | ⟨b, m, hb, hm1, hm2, hle, hg⟩
  · have hq := tm_keep z3 ht hk z6 hw hm hmm hr hp1
    have hch : chg [12, 17, 33, 34, 35] ρ (tmR ρ1 (ρ 25 k).toNatClampNeg k m r) := (((((z5.sub (C' := [12, 17, 33, 34, 35]) (by decide)).st (c := 12) (by decide)).st (c := 33) (by decide)).st (c := 34) (by decide)).st (c := 35) (by decide))
    have en : nlg (tmR ρ1 (ρ 25 k).toNatClampNeg k m r) = nlg ρ := by unfold nlg; rw [hch 22 (by decide)]
    refine ⟨_, hg, ⟨fun j hj => (hJ.1 j (by rw [← en]; exact hj)).congr (fun d hd => by rw [hch d (fun z => by
        simp only [List.mem_cons, List.not_mem_nil, or_false] at hd z
        omega)]) (hch 6 (by decide)), hq⟩, hP.congr (hch.agr (by decide)), Or.inl ⟨hch 26 (by decide), ?_, fun _ => ?_, hch 36 (by decide), hch⟩⟩
    · unfold tmR
      rw [rcs_col (by decide), cs_at]
      exact nI_ne0 (by omega) (by omega)
    · rw [er]
      unfold tmR
      rw [cs_at]
  · have hq := tm_keep z3 ht hk z6 (m := 0) hw (by omega) (by omega) hr hp1
    have hch : chg [12, 33, 34, 35, 36] ρ (cs (tmR ρ1 (ρ 25 k).toNatClampNeg k 0 r) 36 0 (ρ1 36 0 + 1)) := ((((((z5.sub (C' := [12, 33, 34, 35, 36]) (by decide)).st (c := 12) (by decide)).st (c := 33) (by decide)).st (c := 34) (by decide)).st (c := 35) (by decide)).st (c := 36) (by decide))
    have h36 : chg [36] (tmR ρ1 (ρ 25 k).toNatClampNeg k 0 r) (cs (tmR ρ1 (ρ 25 k).toNatClampNeg k 0 r) 36 0 (ρ1 36 0 + 1)) := chg.rf.st (by decide)
    have en : nlg (cs (tmR ρ1 (ρ 25 k).toNatClampNeg k 0 r) 36 0 (ρ1 36 0 + 1)) = nlg ρ := by unfold nlg; rw [hch 22 (by decide)]
    have hJ2 : PJ (cs (tmR ρ1 (ρ 25 k).toNatClampNeg k 0 r) 36 0 (ρ1 36 0 + 1)) γ ε M := ⟨fun j hj => (hJ.1 j (by rw [← en]; exact hj)).congr (fun d hd => by rw [hch d (fun z => by
        simp only [List.mem_cons, List.not_mem_nil, or_false] at hd z
        omega)]) (hch 6 (by decide)), hq.1.congr (h36.agr (by decide)), hq.2.congr (h36.agr (by decide))⟩
    have hP2 : PA (cs (tmR ρ1 (ρ 25 k).toNatClampNeg k 0 r) 36 0 (ρ1 36 0 + 1)) := hP.congr (hch.agr (by decide))
    have e26 := hch 26 (by decide)
    have e24 := hch 24 (by decide)
    have e9 := hch 9 (by decide)
    have hpt : ∀ x : Int32, ptR (cs (tmR ρ1 (ρ 25 k).toNatClampNeg k 0 r) 36 0 (ρ1 36 0 + 1)) x = ptR ρ x := fun x => by unfold ptR; rw [e9, e24]
    have hC : C2 (cs (tmR ρ1 (ρ 25 k).toNatClampNeg k 0 r) 36 0 (ρ1 36 0 + 1)) = C2 ρ := C2.congr e26
    have e36 : cs (tmR ρ1 (ρ 25 k).toNatClampNeg k 0 r) 36 0 (ρ1 36 0 + 1) 36 0 = ρ 36 0 + 1 := by rw [cs_at, z5 36 (by decide)]
    generalize hR2 : cs (tmR ρ1 (ρ 25 k).toNatClampNeg k 0 r) 36 0 (ρ1 36 0 + 1) = R2 at hg hrel hch hJ2 hP2 e26 e24 e9 hpt hC e36
    obtain ⟨ρ', k1, k2, k3, k4, k5, k6⟩ := close_keep hrel ht hk (by rw [e26]; exact ha) (st := 2) (by decide) hJ2 hP2 hc40 (by rw [e24]; exact ec)
    obtain ⟨_, _, _, ρ'', _, l2, -, l4, l5, -⟩ := op_close hrel ht hk (by rw [e26]; exact ha) (st := 2) (by decide)
    obtain rfl : ρ'' = ρ' := Option.some.inj (l2.symm.trans k1)
    refine ⟨ρ'', hg.trans k1, k2, k3, Or.inr ⟨l5, by rw [k4, hC, if_pos rfl], by rw [l4 36 (by decide), e36], (hch.tr l4).sub (by decide), by rw [k5, hpt], fun c' h1 h2 => by rw [k6 c' h1 h2, hpt]⟩⟩
  · have hn0 := h.r3.2.1.2.1
    have hq := tb_keep h hk h34 (show b < 40 by omega) hm2 hle hJ.2
    have hch : chg [12, 17, 33, 34, 35] ρ (cs (cs (cs ρ 17 b (ρ 17 b - nI m)) 33 k (nI b)) 34 k (nI m)) := ((chg.rf.st (c := 17) (by decide)).st (c := 33) (by decide)).st (c := 34) (by decide)
    refine ⟨_, hg, ⟨fun j hj => (hJ.1 j hj).congr (fun d hd => by rw [hch d (fun z => by
        simp only [List.mem_cons, List.not_mem_nil, or_false] at hd z
        omega)]) (hch 6 (by decide)), hq⟩, hP.congr (hch.agr (by decide)), Or.inl ⟨hch 26 (by decide), ?_, fun z => ?_, hch 36 (by decide), hch⟩⟩
    · rw [cs_at]
      exact nI_ne0 (by omega) (by omega)
    · rw [rcs_col (by decide), cs_at] at z
      exact absurd z (pn_m1 (by omega))
end GS9
