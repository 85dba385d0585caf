/-! CALLS OF THE FACE: begin, join, leave, move, pass -/
def RelX (W : CW) (ρ : Rho) (t : Nat) : Prop := ∃ nw, Rel W.1 W.2.1 W.2.2 ρ t nw 0
/-- what a call that may change all answers, beside the reference's answer -/
def OKW (V : Rho) (L : Lst) (N : Cnt) (x : Option ((CW × Int32) ⊕ Nat)) (y : Option (Rho × Int32)) (cd : Nat → Int32) (t e0 : Nat) : Prop := (∃ e ρ' a, x = some (.inr e) ∧ y = some (ρ', a) ∧ ρ' 39 0 = cd e ∧ ¬ cd e = 0 ∧ RelX (V, L, N) ρ' t ∧ e0 ≤ E26 ρ') ∨ (∃ W a ρ', x = some (.inl (W, a)) ∧ y = some (ρ', a) ∧ ρ' 39 0 = 0 ∧ RelX W ρ' t ∧ e0 ≤ E26 ρ')
def OKR (V : Rho) (L : Lst) (N : Cnt) (x : Option ((Rho × Int32) ⊕ Nat)) (y : Option (Rho × Int32)) (cd : Nat → Int32) (t e0 : Nat) : Prop := (∃ e ρ' a, x = some (.inr e) ∧ y = some (ρ', a) ∧ ρ' 39 0 = cd e ∧ ¬ cd e = 0 ∧ RelX (V, L, N) ρ' t ∧ e0 ≤ E26 ρ') ∨ (∃ V' a ρ', x = some (.inl (V', a)) ∧ y = some (ρ', a) ∧ ρ' 39 0 = 0 ∧ RelX (V', L, N) ρ' t ∧ e0 ≤ E26 ρ')
def OKQ (V : Rho) (L : Lst) (N : Cnt) (x : Option (Int32 ⊕ Nat)) (y : Option (Rho × Int32)) (cd : Nat → Int32) (t e0 : Nat) : Prop := (∃ e ρ' a, x = some (.inr e) ∧ y = some (ρ', a) ∧ ρ' 39 0 = cd e ∧ ¬ cd e = 0 ∧ RelX (V, L, N) ρ' t ∧ e0 ≤ E26 ρ') ∨ (∃ a ρ', x = some (.inl a) ∧ y = some (ρ', a) ∧ ρ' 39 0 = 0 ∧ RelX (V, L, N) ρ' t ∧ e0 ≤ E26 ρ')
section FC
variable {V V' : Rho} {L : Lst} {N : Cnt} {ρ ρ' : Rho} {t nw i k p c : Nat}
theorem can_bad {e : Int32} (he : ¬ e = 0) {F : Rho × Int32 → Option (Rho × Int32)} : ((fr_can ρ e).bind fun o1 => if o1.2 = 0 then some (o1.1, 0) else F o1) = some (cs ρ 39 0 e, 0) := by
  unfold fr_can
  simp only [po_b]
  rw [if_neg he]
  simp only [po_b, if_true]
theorem can_ok {F : Rho × Int32 → Option (Rho × Int32)} : ((fr_can ρ 0).bind fun o1 => if o1.2 = 0 then some (o1.1, 0) else F o1) = F (cs ρ 39 0 0, 1) := by
  unfold fr_can
  simp only [po_b, if_true]
  rw [if_neg (by decide)]
theorem Rel.can (h : Rel V L N ρ t nw i) (e : Int32) : Rel V L N (cs ρ 39 0 e) t nw i := h.idle (chg.rf.st (by decide))
theorem in_ok {M : Int32} {n : Nat} (hM : M.toInt = (n : Int) - 1) (hk : k < n) (hn : n < 2 ^ 31) : fr_isIn ρ (nI k) 0 M = some 1 := by
  rw [rx_isIn, if_neg (nI_pos (by omega)), if_neg (by rw [Int32.lt_iff_toInt_lt, hM, nI_toInt (by omega)]; omega)]
theorem in_bad {M a : Int32} {n : Nat} (hM : M.toInt = (n : Int) - 1) (hn : n < 2 ^ 31) (h : a < 0 ∨ nI n ≤ a) : fr_isIn ρ a 0 M = some 0 := by
  rw [rx_isIn]
  rcases h with h | h
  · rw [if_pos h]
  · by_cases h1 : a < 0
    · rw [if_pos h1]
    · rw [if_neg h1, if_pos (by
        rw [Int32.lt_iff_toInt_lt, hM]
        rw [Int32.le_iff_toInt_le, nI_toInt hn] at h
        omega)]
theorem isP_ok (hk : k < 10) : fr_isPhone ρ (nI k) = some 1 := by
  unfold fr_isPhone
  rw [in_ok (n := 10) (by decide) hk (by decide)]
  simp only [po_b]
  rw [if_pos (by decide)]
theorem isP_bad {a : Int32} (h : a < 0 ∨ nI 10 ≤ a) : fr_isPhone ρ a = some 0 := by
  unfold fr_isPhone
  rw [in_bad (n := 10) (by decide) (by decide) h]
  simp only [po_b]
  rw [if_pos (by decide)]
theorem isC_ok (hk : k < 8) : fr_isCell ρ (nI k) = some 1 := by
  unfold fr_isCell
  rw [in_ok (n := 8) (by decide) hk (by decide)]
  simp only [po_b]
  rw [if_pos (by decide)]
theorem isC_bad {a : Int32} (h : a < 0 ∨ nI 8 ≤ a) : fr_isCell ρ a = some 0 := by
  unfold fr_isCell
  rw [in_bad (n := 8) (by decide) (by decide) h]
  simp only [po_b]
  rw [if_pos (by decide)]
theorem isW_ok (hk : k < 4) : fr_isWallet ρ (nI k) = some 1 := by
  unfold fr_isWallet
  rw [in_ok (n := 4) (by decide) hk (by decide)]
  simp only [po_b]
  rw [if_pos (by decide)]
theorem isW_bad {a : Int32} (h : a < 0 ∨ nI 4 ≤ a) : fr_isWallet ρ a = some 0 := by
  unfold fr_isWallet
  rw [in_bad (n := 4) (by decide) (by decide) h]
  simp only [po_b]
  rw [if_pos (by decide)]
theorem isZ_ok (hk : k < 3) : fr_isZone ρ (nI k) = some 1 := by
  unfold fr_isZone
  rw [in_ok (n := 3) (by decide) hk (by decide)]
  simp only [po_b]
  rw [if_pos (by decide)]
theorem isZ_bad {a : Int32} (h : a < 0 ∨ nI 3 ≤ a) : fr_isZone ρ a = some 0 := by
  unfold fr_isZone
  rw [in_bad (n := 3) (by decide) (by decide) h]
  simp only [po_b]
  rw [if_pos (by decide)]
theorem m1_toInt {n : Nat} (hn : n < 2 ^ 30) : (nI n - 1).toInt = (n : Int) - 1 := pk_sub_toInt (b := 1) hn (by decide)
theorem isCall_ok (h : ρ 20 0 = nI p) (hp : p < 2 ^ 30) (hk : k < p) : fr_isCall ρ (nI k) = some 1 := by
  unfold fr_isCall
  rw [h, in_ok (n := p) (m1_toInt hp) hk (by omega)]
  simp only [po_b]
  rw [if_pos (by decide)]
theorem isCall_bad {a : Int32} (h : ρ 20 0 = nI p) (hp : p < 2 ^ 30) (ha : a < 0 ∨ nI p ≤ a) : fr_isCall ρ a = some 0 := by
  unfold fr_isCall
  rw [h, in_bad (n := p) (m1_toInt hp) (by omega) ha]
  simp only [po_b]
  rw [if_pos (by decide)]
theorem isLeg_ok (h : ρ 22 0 = nI p) (hp : p < 2 ^ 30) (hk : k < p) : fr_isLeg ρ (nI k) = some 1 := by
  unfold fr_isLeg
  rw [h, in_ok (n := p) (m1_toInt hp) hk (by omega)]
  simp only [po_b]
  rw [if_pos (by decide)]
theorem isLeg_bad {a : Int32} (h : ρ 22 0 = nI p) (hp : p < 2 ^ 30) (ha : a < 0 ∨ nI p ≤ a) : fr_isLeg ρ a = some 0 := by
  unfold fr_isLeg
  rw [h, in_bad (n := p) (m1_toInt hp) (by omega) ha]
  simp only [po_b]
  rw [if_pos (by decide)]
/-- an index, or none -/
theorem ix (a : Int32) {n : Nat} (hn : n < 2 ^ 31) : (∃ k, k < n ∧ a = nI k) ∨ (a < 0 ∨ nI n ≤ a) := by
  rcases pk_ix a hn with q | q | q
  · exact Or.inr (Or.inl q)
  · exact Or.inr (Or.inr q)
  · exact Or.inl q
theorem phA_ok (hk : k < 10) : fc_phoneAt V L N (nI k) = some (.inl (nI k)) := by
  unfold fc_phoneAt
  rw [if_neg (nI_pos (by omega)), if_pos (show nI k < 10 from nI_lt (b := 10) hk (by decide)), if_neg (nI_in hk (by omega))]
theorem phA_bad {a : Int32} (h : a < 0 ∨ nI 10 ≤ a) : fc_phoneAt V L N a = some (.inr 1) := by
  unfold fc_phoneAt
  by_cases h1 : a < 0
  · rw [if_pos h1]
  · rw [if_neg h1, if_neg (show ¬ a < 10 from Int32.not_lt.mpr (h.resolve_left h1))]
theorem ceA_ok (hk : k < 8) : fc_cellAt V L N (nI k) = some (.inl (nI k)) := by
  unfold fc_cellAt
  rw [if_neg (nI_pos (by omega)), if_pos (show nI k < 8 from nI_lt (b := 8) hk (by decide)), if_neg (nI_in hk (by omega))]
theorem ceA_bad {a : Int32} (h : a < 0 ∨ nI 8 ≤ a) : fc_cellAt V L N a = some (.inr 1) := by
  unfold fc_cellAt
  by_cases h1 : a < 0
  · rw [if_pos h1]
  · rw [if_neg h1, if_neg (show ¬ a < 8 from Int32.not_lt.mpr (h.resolve_left h1))]
theorem waA_ok (hk : k < 4) : fc_walletAt V L N (nI k) = some (.inl (nI k)) := by
  unfold fc_walletAt
  rw [if_neg (nI_pos (by omega)), if_pos (show nI k < 4 from nI_lt (b := 4) hk (by decide)), if_neg (nI_in hk (by omega))]
theorem waA_bad {a : Int32} (h : a < 0 ∨ nI 4 ≤ a) : fc_walletAt V L N a = some (.inr 1) := by
  unfold fc_walletAt
  by_cases h1 : a < 0
  · rw [if_pos h1]
  · rw [if_neg h1, if_neg (show ¬ a < 4 from Int32.not_lt.mpr (h.resolve_left h1))]
theorem caA_ok (h : L 13 0 = iot p) (hp : p < 2 ^ 30) (hk : k < p) : fc_callAt V L N (nI k) = some (.inl (nI k)) := by
  unfold fc_callAt
  rw [if_neg (nI_pos (by omega)), h, iot_len]
  simp only [po_b]
  rw [if_pos (nI_lt hk (by omega)), if_neg (nI_in hk (by omega)), nI_clamp (by omega), iot_get hk]
theorem caA_bad {a : Int32} (h : L 13 0 = iot p) (ha : a < 0 ∨ nI p ≤ a) : fc_callAt V L N a = some (.inr 1) := by
  unfold fc_callAt
  by_cases h1 : a < 0
  · rw [if_pos h1]
  · rw [if_neg h1, h, iot_len]
    simp only [po_b]
    rw [if_neg (Int32.not_lt.mpr (ha.resolve_left h1))]
theorem leA_ok (h : L 14 0 = iot p) (hp : p < 2 ^ 30) (hk : k < p) : fc_legAt V L N (nI k) = some (.inl (nI k)) := by
  unfold fc_legAt
  rw [if_neg (nI_pos (by omega)), h, iot_len]
  simp only [po_b]
  rw [if_pos (nI_lt hk (by omega)), if_neg (nI_in hk (by omega)), nI_clamp (by omega), iot_get hk]
theorem leA_bad {a : Int32} (h : L 14 0 = iot p) (ha : a < 0 ∨ nI p ≤ a) : fc_legAt V L N a = some (.inr 1) := by
  unfold fc_legAt
  by_cases h1 : a < 0
  · rw [if_pos h1]
  · rw [if_neg h1, h, iot_len]
    simp only [po_b]
    rw [if_neg (Int32.not_lt.mpr (ha.resolve_left h1))]
/-- a new call -/
theorem op_call (h : Rel V L N ρ t nw 0) (hp : p < 10) (hN : N 1 < 40) : Rel (cs (cs V 20 (N 1) (nI (N 1))) 21 (N 1) (nI p)) (lput (lput L 17 (N 1) []) 13 0 (iot (N 1) ++ [nI (N 1)])) (nup N 1) (cs (cs ρ 20 0 (nI (N 1 + 1))) 21 (N 1) (nI p)) t nw 0 ∧ cntN (ptR (cs (cs ρ 20 0 (nI (N 1 + 1))) 21 (N 1) (nI p)) (nI (N 1))) 10 = 0 := by
  have hn4 := h.n4
  have hV : chg [20, 21] V (cs (cs V 20 (N 1) (nI (N 1))) 21 (N 1) (nI p)) := (chg.rf.st (by decide)).st (by decide)
  have hR : chg [20, 21] ρ (cs (cs ρ 20 0 (nI (N 1 + 1))) 21 (N 1) (nI p)) := (chg.rf.st (by decide)).st (by decide)
  have h24 : ∀ j, j < N 4 → ¬ ρ 24 j = nI (N 1) := fun j hj z => by
    have := vp_lt (h.r5.2.2.1 j hj).2.1
    rw [z, nI_clamp (by omega)] at this
    omega
  have hc0 : cntN (ptR (cs (cs ρ 20 0 (nI (N 1 + 1))) 21 (N 1) (nI p)) (nI (N 1))) 10 = 0 := by
    refine Nat.le_zero.mp (Nat.le_trans (cntN_mono (Q := fun _ => false) (fun q hq z => ?_)) (by decide))
    unfold ptR at z
    rw [hR 9 (by decide), hR 24 (by decide)] at z
    rcases h.leg hq with y | ⟨x, hx, y, -, -⟩
    · rw [y] at z; simp at z
    · rw [y, nI_clamp (by omega)] at z
      have := h24 x hx
      simp [this] at z
  refine ⟨⟨?_, ?_, ?_, h.r4.congr (hV.agr (by decide)) (hR.agr (by decide)), ?_, h.r6.congr (hR.agr (by decide)), h.r7.congr (hV.agr (by decide)) (hR.agr (by decide)), h.r8.congr (hV.agr (by decide)) (hR.agr (by decide)), h.r9.congr (hR.agr (by decide)), ?_, h.r11.congr (hV.agr (by decide)) (hR.agr (by decide)), h.r12.congr (hV.agr (by decide)) (hR.agr (by decide)), h.r13.congr (hV.agr (by decide)) (hR.agr (by decide)), h.r14.congr (hR.agr (by decide)), ?_, h.r16.congr (hR.agr (by decide)), h.r17.congr (hR.agr (by decide))⟩, hc0⟩
  · exact ((h.r1.left (by decide)).right (by decide)).both (c := 21) (d := 21) (by decide)
  · intro d hd j hj
    have hd3 : ∀ d ∈ idT, d ≠ 21 ∧ (d / 20 = 1 → d = 20) ∧ (¬ d / 20 = 1 → d ≠ 20) := by decide
    obtain ⟨k1, k2, k3⟩ := hd3 d hd
    rw [rcs_col k1]
    by_cases e : d / 20 = 1
    · have := k2 e
      subst this
      have hj : j < N 1 + 1 := hj
      by_cases e2 : j = N 1
      · subst e2; exact cs_at
      · rw [cs_nei e2]
        exact h.r2 20 (by decide) j (by show j < N 1; omega)
    · rw [rcs_col (k3 e)]
      rw [nup_ne e] at hj
      exact h.r2 d hd j hj
  · refine ⟨h.r3.1, ⟨h.r3.2.1.1, h.r3.2.1.2.1, ?_, h.r3.2.1.2.2.2⟩, ⟨h.r3.2.2.1.1, ?_, h.r3.2.2.1.2.2⟩, ⟨h.r3.2.2.2.1, ?_, h.r3.2.2.2.2.2⟩⟩
    · show N 1 + 1 ≤ 40
      omega
    · show _ = nI (N 1 + 1)
      rw [rcs_col (by decide), cs_at]
    · show iot (N 1) ++ [nI (N 1)] = iot (N 1 + 1)
      exact iot_succ.symm
  · have h5 := h.r5
    refine ⟨h5.1, h5.2.1, fun j hj => ⟨(h5.2.2.1 j hj).1, vp_mono (h5.2.2.1 j hj).2.1 (Nat.le_succ _), (h5.2.2.1 j hj).2.2⟩, fun d hd => ?_, h5.2.2.2.2.1, h5.2.2.2.2.2.1, h5.2.2.2.2.2.2.1, h5.2.2.2.2.2.2.2⟩
    have hd : d < N 1 + 1 := hd
    by_cases e : d = N 1
    · subst e
      rw [cs_at]
      exact vp_in_nI hp (by omega)
    · rw [cs_nei e, rcs_col (by decide)]
      exact h5.2.2.2.1 d (by omega)
  · intro d hd
    have hd : d < N 1 + 1 := hd
    show lput L 17 (N 1) [] 17 d = (mem (cs (cs ρ 20 0 (nI (N 1 + 1))) 21 (N 1) (nI p)) (N 4) d).map nI
    rw [mem_congr (ρ := ρ) (ρ' := cs (cs ρ 20 0 (nI (N 1 + 1))) 21 (N 1) (nI p)) (fun j hj => rfl)]
    unfold lput
    by_cases e : d = N 1
    · subst e
      rw [if_pos ⟨rfl, rfl⟩]
      have : mem ρ (N 4) (N 1) = [] := by
        refine List.eq_nil_iff_forall_not_mem.mpr fun j hj => ?_
        obtain ⟨z1, z2⟩ := mem_in.mp hj
        exact h24 j z1 z2
      rw [this]
      rfl
    · rw [if_neg (fun z => e z.2)]
      exact h.r10 d (by omega)
  · intro d hd
    have hd : d < N 1 + 1 := hd
    by_cases e : d = N 1
    · subst e
      omega
    · have : ptR (cs (cs ρ 20 0 (nI (N 1 + 1))) 21 (N 1) (nI p)) (nI d) = ptR ρ (nI d) := rfl
      rw [this]
      exact h.r15 d (by omega)
/-- a slice, or the leg is cut -/
theorem op_cut (h : Rel V L N ρ t nw i) (ht : t ≤ 512) (hk : k < N 4) (ha : ρ 26 k = 0) (h34 : ρ 34 k = 0) : ∃ V' L' N' ρ', fc_takeSliceOrCut V L N (nI k) = some (V', L', N') ∧ fr_getsSlice ρ (nI k) = some ρ' ∧ Rel V' L' N' ρ' t nw i ∧ (∀ j, j ≠ k → ρ 34 j = 0 → ρ' 34 j = 0) ∧ (∀ c, c ≠ 3 → N' c = N c) ∧ ρ' 39 0 = ρ 39 0 ∧ E26 ρ ≤ E26 ρ' := by
  rcases op_slice h ht hk ha h34 with ⟨V1, ρ1, a1, a2, a3, a4, a5, a6, a7⟩ | ⟨V1, ρ1, a1, a2, a3, a4, a5, a6, a7⟩
  · refine ⟨V1, L, N, ρ1, ?_, a2, a3, a7, fun _ _ => rfl, by rw [a5 39 (by decide)], by rw [E26_eq (a5 26 (by decide))]; exact Nat.le_refl _⟩
    unfold fc_takeSliceOrCut
    rw [a1]
    simp only [po_b]
    rw [if_neg (by decide)]
  · have e26 : ρ1 26 k = 0 := by rw [a5 26 (by decide), ha]
    obtain ⟨V2, L2, N2, ρ2, b1, b2, b3, b4, b5, b6, b7, b8, bE⟩ := op_close a3 ht hk e26 (st := 2) (by decide)
    refine ⟨V2, L2, N2, ρ2, ?_, by rw [a2, b2], b3, fun j hj z => b7 j (a7 j hj z), b8, by rw [b4 39 (by decide), a5 39 (by decide)], by rw [E26_eq (a5 26 (by decide))] at bE; omega⟩
    unfold fc_takeSliceOrCut
    rw [a1]
    simp only [po_b]
    rw [if_pos trivial, b1]
    rfl
theorem lg_eq (h : Rel V L N ρ t nw i) {x : Int32} : cntN (lgF V x) 10 = cntN (lgR ρ x) 10 := by
  unfold lgF lgR
  rw [h.c 104 9 (by decide), h.c 101 6 (by decide)]
theorem chn : ∀ a, a < 11 → ∀ b, b < 11 → ∀ l, l < 11 → ((nI a - nI b < nI l + 1 ↔ nI a - nI b - nI l < 1) ∧ (nI a - nI b < nI l + 2 ↔ nI a - nI b - nI l < 2) ∧ (nI a - nI b - nI l < 1 → nI a - nI b - nI l < 2)) := by decide +kernel
/-- channels: the class's count beside the reference's -/
theorem Rel.chan (h : Rel V L N ρ t nw i) (hc : c < 8) : ∃ o, fc_openChannels V L N (nI c) = some o ∧ fr_hasChannels ρ (nI c) 1 = some (if o < 1 then 0 else 1) ∧ fr_hasChannels ρ (nI c) 2 = some (if o < 2 then 0 else 1) ∧ (o < 1 → o < 2) := by
  obtain ⟨-, h3, h4⟩ := h.r5.1 c hc
  obtain ⟨a, ha, ha2, ea⟩ := pn_of h3
  obtain ⟨b, hb, hb2, eb⟩ := pn_of h4
  have hl := cntN_le (lgR ρ (nI c)) 10
  obtain ⟨k1, k2, k3⟩ := chn a ha b hb (cntN (lgR ρ (nI c)) 10) (by omega)
  have gc := ng (n := 8) hc (by omega)
  refine ⟨nI a - nI b - nI (cntN (lgR ρ (nI c)) 10), ?_, ?_, ?_, k3⟩
  · unfold fc_openChannels
    rw [pc_legsIn, lg_eq h]
    simp only [po_b]
    rw [nI_clamp (show c < 2 ^ 31 by omega), h.c 42 3 (by decide), h.c 43 4 (by decide), ea, eb]
  · unfold fr_hasChannels
    rw [pr_legsIn, nI_clamp (show c < 2 ^ 31 by omega)]
    simp only [po_b, gc, if_false]
    rw [ea, eb]
    by_cases z : nI a - nI b - nI (cntN (lgR ρ (nI c)) 10) < 1
    · rw [if_pos (k1.mpr z), if_pos z]
    · rw [if_neg (fun y => z (k1.mp y)), if_neg z]
  · unfold fr_hasChannels
    rw [pr_legsIn, nI_clamp (show c < 2 ^ 31 by omega)]
    simp only [po_b, gc, if_false]
    rw [ea, eb]
    by_cases z : nI a - nI b - nI (cntN (lgR ρ (nI c)) 10) < 2
    · rw [if_pos (k2.mpr z), if_pos z]
    · rw [if_neg (fun y => z (k2.mp y)), if_neg z]
end FC
