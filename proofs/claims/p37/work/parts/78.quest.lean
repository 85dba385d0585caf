/-! WHAT THE LAW ASKS, told by the reference state beside the class -/
section QS
variable {V V' : Rho} {L L' : Lst} {N N' : Cnt} {ρ ρ' : Rho} {t nw i k p c b w j M e0 : Nat} {a : Int32} {cd : Nat → Int32} {y : Option (Rho × Int32)}
theorem OKQ.get {x : Option (Int32 ⊕ Nat)} (h : OKQ V L N x y cd t e0) (hy : y = some (ρ', a)) (h39 : ρ' 39 0 = 0) : qo x = some a := by
  rcases h with ⟨e, ρ1, a1, h1, h2, h3, h4, h5, h6⟩ | ⟨a1, ρ1, h1, h2, h3, h5, h6⟩
  · have z := Option.some.inj (h2.symm.trans hy)
    have zz : ρ1 = ρ' := congrArg Prod.fst z
    rw [zz] at h3
    exact absurd (h3.symm.trans h39) h4
  · have z := Option.some.inj (h2.symm.trans hy)
    have z2 : a1 = a := congrArg Prod.snd z
    rw [h1, z2]
    rfl
theorem q_free (h : Rel V L N ρ t nw 0) (hw : w < 4) : aq_free (V, L, N) (nI w) = some (ρ 12 w) := by
  refine (f_free h (nI w)).get (ρ' := cs ρ 39 0 0) ?_ cs_at
  unfold fr_free fr_free_13
  rw [isW_ok hw]
  simp only [po_b]
  rw [if_neg (show ¬ (1 : Int32) = 0 by decide), can_ok, nI_clamp (by omega), if_neg (ng (n := 4) hw (by omega))]
  rfl
theorem q_spent (h : Rel V L N ρ t nw 0) (hw : w < 4) : aq_spent (V, L, N) (nI w) = some (ρ 13 w) := by
  refine (f_spent h (nI w)).get (ρ' := cs ρ 39 0 0) ?_ cs_at
  unfold fr_spent fr_spent_13
  rw [isW_ok hw]
  simp only [po_b]
  rw [if_neg (show ¬ (1 : Int32) = 0 by decide), can_ok, nI_clamp (by omega), if_neg (ng (n := 4) hw (by omega))]
  rfl
/-- money set aside for a wallet -/
def asN (ρ : Rho) (w k : Nat) : Nat := if ρ 25 k = nI w then mIn ρ k else 0
theorem sumI_nI {f : Nat → Nat} {n : Nat} : sumI (fun k => nI (f k)) n = nI (sumN f n) := by
  induction n with
  | zero => rfl
  | succ n ih => rw [sumI, ih, nI_add, sumN]
theorem q_aside (h : Rel V L N ρ t nw 0) (hw : w < 4) : aq_aside (V, L, N) (nI w) = some (nI (sumN (asN ρ w) (N 4))) := by
  refine (f_aside h (nI w)).get (ρ' := cs ρ 39 0 0) ?_ cs_at
  have hn4 := h.n4
  have a2 := asideR h (w := nI w) 2999 0 (by omega) (Nat.zero_le _)
  unfold fr_aside
  rw [show fr_aside_4 FU ρ (nI w) 0 0 = fr_aside_4 (2999 + 1) ρ (nI w) (sumI (fun k => if ρ 25 k = nI w then nI (mIn ρ k) else 0) 0) (nI 0) from rfl, a2, isW_ok hw]
  simp only [po_b]
  rw [if_neg (show ¬ (1 : Int32) = 0 by decide), ← sumI_nI]
  congr 2
  refine sumI_congr fun j _ => ?_
  unfold asN
  split <;> rfl
theorem sum_asN {n : Nat} (h25 : ∀ k, k < n → vp_in (ρ 25 k) 4) : sumN (asN ρ 0) n + sumN (asN ρ 1) n + sumN (asN ρ 2) n + sumN (asN ρ 3) n = sumN (mIn ρ) n := by
  induction n with
  | zero => rfl
  | succ n ih =>
    have i1 := ih (fun k hk => h25 k (by omega))
    have e : asN ρ 0 n + asN ρ 1 n + asN ρ 2 n + asN ρ 3 n = mIn ρ n := by
      obtain ⟨w, hw, -, ew⟩ := pn_of (h25 n (by omega))
      unfold asN
      rw [ew]
      rcases (show w = 0 ∨ w = 1 ∨ w = 2 ∨ w = 3 by omega) with rfl | rfl | rfl | rfl
      · rw [if_pos rfl, if_neg (by decide), if_neg (by decide), if_neg (by decide)]; omega
      · rw [if_neg (by decide), if_pos rfl, if_neg (by decide), if_neg (by decide)]; omega
      · rw [if_neg (by decide), if_neg (by decide), if_pos rfl, if_neg (by decide)]; omega
      · rw [if_neg (by decide), if_neg (by decide), if_neg (by decide), if_pos rfl]; omega
    simp only [sumN]
    omega
theorem q_left (h : Rel V L N ρ t nw 0) (hb : b < N 0) : aq_left (V, L, N) (nI b) = some (if ρ 0 0 / 2400 < ρ 18 b then ρ 17 b else 0) := by
  have hn0 := h.r3.2.1.2.1
  have e14 : ρ 14 0 = nI (N 0) := h.r3.2.2.1.1
  have hm1 : (ρ 14 0 - 1).toInt = (N 0 : Int) - 1 := by rw [e14]; exact m1_toInt (by omega)
  refine (f_left h (nI b)).get (ρ' := cs ρ 39 0 0) ?_ cs_at
  unfold fr_left fr_left_20
  rw [in_ok hm1 hb (by omega)]
  simp only [po_b]
  rw [if_neg (show ¬ (1 : Int32) = 0 by decide), can_ok]
  dsimp only
  rw [rb_isOver (by omega), show cs ρ 39 0 0 0 0 = ρ 0 0 from rfl, show cs ρ 39 0 0 18 b = ρ 18 b from rfl]
  simp only [po_b]
  by_cases hd : ρ 0 0 / 2400 < ρ 18 b
  · rw [if_pos hd, if_pos hd, if_pos rfl, nI_clamp (by omega), if_neg (ng (n := 40) (by omega) (by omega))]
    rfl
  · rw [if_neg hd, if_neg hd, if_neg (by decide)]
theorem q_cellOf (h : Rel V L N ρ t nw 0) (hp : p < 10) : aq_cellOf (V, L, N) (nI p) = some (ρ 6 p) := by
  refine (f_cellOf h (nI p)).get (ρ' := cs ρ 39 0 0) ?_ cs_at
  unfold fr_cellOf
  rw [askP_ok hp]
  simp only [po_b]
  rw [if_neg (show ¬ (1 : Int32) = 0 by decide), nI_clamp (by omega), if_neg (ng (n := 10) hp (by omega))]
  rfl
theorem q_legOf (h : Rel V L N ρ t nw 0) (hp : p < 10) : aq_legOf (V, L, N) (nI p) = some (ρ 9 p) := by
  refine (f_legOf h (nI p)).get (ρ' := cs ρ 39 0 0) ?_ cs_at
  unfold fr_legOf
  rw [askP_ok hp]
  simp only [po_b]
  rw [if_neg (show ¬ (1 : Int32) = 0 by decide), nI_clamp (by omega), if_neg (ng (n := 10) hp (by omega))]
  rfl
theorem q_sliceOf (h : Rel V L N ρ t nw 0) (hp : p < 10) : aq_sliceOf (V, L, N) (nI p) = some (if ρ 9 p = -1 then 0 else ρ 34 (ρ 9 p).toNatClampNeg) := by
  have hn4 := h.n4
  refine (f_sliceOf h (nI p)).get (ρ' := cs ρ 39 0 0) ?_ cs_at
  unfold fr_sliceOf
  rw [askP_ok hp]
  simp only [po_b]
  rw [if_neg (show ¬ (1 : Int32) = 0 by decide), nI_clamp (show p < 2 ^ 31 by omega), if_neg (ng (n := 10) hp (by omega)), show cs ρ 39 0 0 9 p = ρ 9 p from rfl]
  rcases h.leg hp with q | ⟨x, hx, q, -, -⟩
  · rw [if_pos q, if_pos q]
  · rw [q, if_neg (pn_m1 (by omega)), if_neg (pn_m1 (by omega)), if_neg (ng (n := 10) hp (by omega)), nI_clamp (show x < 2 ^ 31 by omega), if_neg (ng (n := 80) (show x < 80 by omega) (by omega))]
    rfl
theorem q_parties (h : Rel V L N ρ t nw 0) (hc : c < N 1) : aq_parties (V, L, N) (nI c) = some (nI (cntN (ptR ρ (nI c)) 10)) := by
  have hn1 := h.r3.2.1.2.2.1
  have e20 : ρ 20 0 = nI (N 1) := h.r3.2.2.1.2.1
  refine (f_parties h (nI c)).get (ρ' := cs ρ 39 0 0) ?_ cs_at
  unfold fr_parties fr_parties_14
  rw [isCall_ok e20 (by omega) hc]
  simp only [po_b]
  rw [if_neg (show ¬ (1 : Int32) = 0 by decide), can_ok]
  dsimp only
  rw [pr_parties (h.can 0).p80]
  rfl
theorem q_stateOf (h : Rel V L N ρ t nw 0) (hk : k < N 4) : aq_stateOf (V, L, N) (nI k) = some (ρ 26 k) := by
  have hn4 := h.n4
  refine (f_stateOf h (nI k)).get (ρ' := cs ρ 39 0 0) ?_ cs_at
  unfold fr_stateOf
  rw [askL_ok h.r3.2.2.1.2.2 (by omega) hk]
  simp only [po_b]
  rw [if_neg (show ¬ (1 : Int32) = 0 by decide), nI_clamp (by omega), if_neg (ng (n := 80) (by omega) (by omega))]
  rfl
theorem q_seconds (h : Rel V L N ρ t nw 0) (hk : k < N 4) : aq_seconds (V, L, N) (nI k) = some (ρ 27 k) := by
  have hn4 := h.n4
  refine (f_seconds h (nI k)).get (ρ' := cs ρ 39 0 0) ?_ cs_at
  unfold fr_seconds
  rw [askL_ok h.r3.2.2.1.2.2 (by omega) hk]
  simp only [po_b]
  rw [if_neg (show ¬ (1 : Int32) = 0 by decide), nI_clamp (by omega), if_neg (ng (n := 80) (by omega) (by omega))]
  rfl
theorem q_charged (h : Rel V L N ρ t nw 0) (hk : k < N 4) : aq_charged (V, L, N) (nI k) = some (ρ 28 k) := by
  have hn4 := h.n4
  refine (f_charged h (nI k)).get (ρ' := cs ρ 39 0 0) ?_ cs_at
  unfold fr_charged
  rw [askL_ok h.r3.2.2.1.2.2 (by omega) hk]
  simp only [po_b]
  rw [if_neg (show ¬ (1 : Int32) = 0 by decide), nI_clamp (by omega), if_neg (ng (n := 80) (by omega) (by omega))]
  rfl
theorem q_covered (h : Rel V L N ρ t nw 0) (hk : k < N 4) : aq_covered (V, L, N) (nI k) = some (ρ 29 k) := by
  have hn4 := h.n4
  refine (f_covered h (nI k)).get (ρ' := cs ρ 39 0 0) ?_ cs_at
  unfold fr_covered
  rw [askL_ok h.r3.2.2.1.2.2 (by omega) hk]
  simp only [po_b]
  rw [if_neg (show ¬ (1 : Int32) = 0 by decide), nI_clamp (by omega), if_neg (ng (n := 80) (by omega) (by omega))]
  rfl
theorem q_tag (h : Rel V L N ρ t nw 0) (hk : k < N 4) : aq_tag (V, L, N) (nI k) = some (ρ 30 k) := by
  have hn4 := h.n4
  refine (f_tag h (nI k)).get (ρ' := cs ρ 39 0 0) ?_ cs_at
  unfold fr_tag
  rw [askL_ok h.r3.2.2.1.2.2 (by omega) hk]
  simp only [po_b]
  rw [if_neg (show ¬ (1 : Int32) = 0 by decide), nI_clamp (by omega), if_neg (ng (n := 80) (by omega) (by omega))]
  rfl
theorem q_ratedByEvents (h : Rel V L N ρ t nw 0) (ht : t ≤ 512) (hk : k < N 4) : aq_ratedByEvents (V, L, N) (nI k) = some (ρ 28 k + ρ 29 k) := by
  have hn4 := h.n4
  refine (f_ratedByEvents h ht (nI k)).get (ρ' := cs ρ 39 0 0) ?_ cs_at
  unfold fr_ratedByEvents
  rw [askL_ok h.r3.2.2.1.2.2 (by omega) hk]
  simp only [po_b]
  rw [if_neg (show ¬ (1 : Int32) = 0 by decide), nI_clamp (by omega), if_neg (ng (n := 80) (by omega) (by omega)), if_neg (ng (n := 80) (by omega) (by omega))]
  rfl
theorem q_seal (h : Rel V L N ρ t nw 0) (ht : t ≤ 512) (hk : k < N 4) : aq_seal (V, L, N) (nI k) = some (sl (ρ 31 k)) := by
  have hn4 := h.n4
  refine (f_seal h ht (nI k)).get (ρ' := cs ρ 39 0 0) ?_ cs_at
  unfold fr_seal
  rw [askL_ok h.r3.2.2.1.2.2 (by omega) hk]
  simp only [po_b]
  rw [if_neg (show ¬ (1 : Int32) = 0 by decide), r_seal (ρ := cs ρ 39 0 0) (by omega)]
  rfl
/-- a stamp, of 64 bits -/
def st6 (u : Int64) : Int32 := (((u >>> ((32 : Int32).toInt64 &&& 63)) : Int64).toInt32 ^^^ u.toInt32)
theorem q_stamp (h : Rel V L N ρ t nw 0) (ht : t ≤ 512) (hc : c < N 1) : aq_stamp (V, L, N) (nI c) = some (st6 ((mem ρ (N 4) c).foldl (stF ρ) ((nI c).toInt64 + 1))) := by
  have hn4 := h.n4
  have hn1 := h.r3.2.1.2.2.1
  have e20 : ρ 20 0 = nI (N 1) := h.r3.2.2.1.2.1
  refine (f_stamp h ht (nI c)).get (ρ' := cs ρ 39 0 0) ?_ cs_at
  unfold fr_stamp fr_stamp_14
  rw [isCall_ok e20 (by omega) hc]
  simp only [po_b]
  rw [if_neg (show ¬ (1 : Int32) = 0 by decide), can_ok]
  exact stampR (ρ := cs ρ 39 0 0) (c := c) (m := N 4) h.r3.2.2.1.2.2 hn4 ((nI c).toInt64 + 1) 2999 0 (by omega) (Nat.zero_le _)
theorem q_now (h : Rel V L N ρ t nw 0) : aq_now (V, L, N) = some (nI nw) := by
  show fc_now V L N = _
  unfold fc_now
  rw [h.c 228 0 (by decide), h.r5.2.2.2.2.2.2.1]
theorem q_legs (h : Rel V L N ρ t nw 0) : aq_legs (V, L, N) = some (nI (N 4)) := by
  show fc_legs V L N = _
  unfold fc_legs
  rw [h.r3.2.2.2.2.2, iot_len]
  rfl
/-- the numbers of a leg -/
theorem leg_nums (h : Rel V L N ρ t nw 0) (hk : k < N 4) : ∃ vp vc vs vh vo, ρ 23 k = nI vp ∧ ρ 24 k = nI vc ∧ ρ 27 k = nI vs ∧ ρ 28 k = nI vh ∧ ρ 29 k = nI vo ∧ vp < 10 ∧ vc < N 1 ∧ vs < 100000 ∧ vh < 50000002 ∧ vo < 50000002 ∧ vp_in (ρ 26 k) 4 := by
  have hn4 := h.n4
  have hnw := h.r5.2.2.2.2.2.2.2
  obtain ⟨a23, a24, -⟩ := h.r5.2.2.1 k hk
  obtain ⟨vp, wp, -, e23⟩ := pn_of a23
  obtain ⟨vc, wc, -, e24⟩ := pn_of a24
  have hN1 : N 1 ≤ 40 := h.r3.2.1.2.2.1
  obtain ⟨w26, b27, b28, b29⟩ := h.r17 k
  obtain ⟨u, hu, -, e32⟩ := pn_of (h.r11 k hk).1
  have hu : u ≤ nw := by rw [if_pos rfl] at hu; omega
  have hu5 : u ≤ 50000 := by omega
  rw [e32] at b27 b28 b29
  obtain ⟨vs, ws, ws2, e27⟩ := pn_of (bdd_in b27 hu5 (by decide))
  obtain ⟨vh, wh, wh2, e28⟩ := pn_of (bdd_in b28 hu5 (by decide))
  obtain ⟨vo, wo, wo2, e29⟩ := pn_of (bdd_in b29 hu5 (by decide))
  have ws3 : vs < 100000 := by
    have := b27.2
    rw [e27, nI_clamp ws2, nI_clamp (by omega)] at this
    omega
  exact ⟨vp, vc, vs, vh, vo, e23, e24, e27, e28, e29, wp, wc, ws3, by omega, by omega, w26⟩
theorem q_lineAt (h : Rel V L N ρ t nw 0) (hk : k < N 4) (hj : j < 2 ^ 31) {vp vc vs vh vo : Nat} (e23 : ρ 23 k = nI vp) (e24 : ρ 24 k = nI vc) (e27 : ρ 27 k = nI vs) (e28 : ρ 28 k = nI vh) (e29 : ρ 29 k = nI vo) (wp : vp < 10) (wc : vc < 100) (ws : vs < 100000) (wh : vh < 50000002) (wo : vo < 50000002) (e26 : vp_in (ρ 26 k) 4) : aq_lineAt (V, L, N) (nI k) (nI j) = some (lnA (lineT vp vc vs vh vo (ρ 26 k)) (nI j)) := by
  have hn4 := h.n4
  refine (f_lineAt h (nI k) (nI j)).get (ρ' := SL (cs ρ 39 0 0) (lineT vp vc vs vh vo (ρ 26 k)) (nI j)) ?_ ((SL_at (by decide) (by decide)).trans cs_at)
  unfold fr_lineAt
  rw [isLeg_ok h.r3.2.2.1.2.2 (by omega) hk]
  simp only [po_b]
  rw [if_neg (show ¬ (1 : Int32) = 0 by decide), if_neg (nI_pos hj), line_ref (by omega) hj e23 e24 e27 e28 e29 wp wc ws wh wo e26]
end QS
