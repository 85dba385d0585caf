/-! THE LAW'S SETS -/
section WE
variable {V V' : Rho} {L L' : Lst} {N N' : Cnt} {ρ ρ' : Rho} {t nw i k p c b w j M : Nat} {γ : Nat → Nat → Nat} {ε : Nat → Int32} {a : Rho} {x y : Nat}
theorem bd_setRate {a1 a2 a3 : Int32} {q : CW × Int32} (h : fc_setRate V L N a1 a2 a3 = some (.inl q)) : da_setRate (V, L, N) a1 a2 a3 = some q := by
  unfold da_setRate
  dsimp only
  rw [h]
  rfl
theorem bd_setChannels {a1 a2 a3 : Int32} {q : Rho × Int32} (h : fc_setChannels V L N a1 a2 a3 = some (.inl q)) : dv_setChannels (V, L, N) a1 a2 a3 = some ((q.1, L, N), q.2) := by
  unfold dv_setChannels
  dsimp only
  rw [h]
  rfl
theorem bd_setSlice {a1 : Int32} {q : Rho × Int32} (h : fc_setSlice V L N a1 = some (.inl q)) : dv_setSlice (V, L, N) a1 = some ((q.1, L, N), q.2) := by
  unfold dv_setSlice
  dsimp only
  rw [h]
  rfl
theorem bd_setCap {a1 a2 : Int32} {q : Rho × Int32} (h : fc_setCap V L N a1 a2 = some (.inl q)) : dv_setCap (V, L, N) a1 a2 = some ((q.1, L, N), q.2) := by
  unfold dv_setCap
  dsimp only
  rw [h]
  rfl
theorem bd_setWallet {a1 a2 : Int32} {q : Rho × Int32} (h : fc_setWallet V L N a1 a2 = some (.inl q)) : dv_setWallet (V, L, N) a1 a2 = some ((q.1, L, N), q.2) := by
  unfold dv_setWallet
  dsimp only
  rw [h]
  rfl
theorem bd_setZone {a1 a2 : Int32} {q : Rho × Int32} (h : fc_setZone V L N a1 a2 = some (.inl q)) : dv_setZone (V, L, N) a1 a2 = some ((q.1, L, N), q.2) := by
  unfold dv_setZone
  dsimp only
  rw [h]
  rfl
theorem bk_setWallet {a1 a2 a3 : Int32} {q : (Rho × Int32) ⊕ Nat} (h : fc_setWallet V L N a1 a2 = some q) : ak_setWallet (V, L, N) a1 a2 a3 = Sum.elim (fun u => some ((u.1, L, N), u.2)) (ex2 (V, L, N)) q := by
  unfold ak_setWallet
  dsimp only
  rw [h]
  rfl
theorem bk_setZone {a1 a2 a3 : Int32} {q : (Rho × Int32) ⊕ Nat} (h : fc_setZone V L N a1 a2 = some q) : ak_setZone (V, L, N) a1 a2 a3 = Sum.elim (fun u => some ((u.1, L, N), u.2)) (ex2 (V, L, N)) q := by
  unfold ak_setZone
  dsimp only
  rw [h]
  rfl
/-- a rate set twice -/
theorem w_rate (h : JJ ((V, L, N), a) ρ γ ε M t nw) (ht : t + 2 ≤ 500) (hx : x < 2 ^ 30) {z r : Nat} (hz : z < 3) (hr : r ≤ 1000) : ∃ σ' ρ', fl_sets_25 ((V, L, N), a) (nI x) (nI z) (nI r) = some (σ', 1) ∧ JJ σ' ρ' γ ε M (t + 2) nw ∧ E26 ρ ≤ E26 ρ' := by
  obtain ⟨⟨hR, hJ, hP⟩, -⟩ := id h
  have hR : Rel V L N ρ t nw 0 := hR
  have key : ∀ pk : Int32, ∃ σ' ρ', (∃ W u, da_setRate (V, L, N) (nI z) pk (nI r) = some (W, u) ∧ ¬ u < 0 ∧ ¬ 1000 < u ∧ da_setRate W (nI z) pk (nI r) = some (σ'.1, nI r) ∧ σ'.2 = a) ∧ JJ σ' ρ' γ ε M (t + 2) nw ∧ E26 ρ ≤ E26 ρ' := fun pk => by
    obtain ⟨q1, hq1, e1, V1, L1, N1, ρ1, z1, z2, z3, z4, z5, z6, z7, z8⟩ := p_setRate (pk := pk) hR (by omega) hz hr hJ hP
    obtain ⟨q2, hq2, e2, V2, L2, N2, ρ2, y1, y2, y3, y4, y5, y6, y7, y8⟩ := p_setRate (pk := pk) z2 (by omega) hz hr z3 z4
    have hE1 := (f_setRate hR (by omega) (nI z) pk (nI r)).e26 z1 z2
    have hE2 := (f_setRate z2 (by omega) (nI z) pk (nI r)).e26 y1 y2
    obtain ⟨v, hv, hv2, ev⟩ := pn_of (hR.r4.2 q1 hq1)
    refine ⟨((V2, L2, N2), a), ρ2, ⟨(V1, L1, N1), ρ 5 q1, bd_setRate z1, ?_, ?_, ?_, rfl⟩, h.mk y2 y3 y4 (y5.trans z5) (y6.trans z6) (y7.trans z7), Nat.le_trans hE1 hE2⟩
    · rw [ev]; exact nI_pos hv2
    · rw [ev]; exact nI_nlt (a := 1000) (by omega) (by omega)
    · rw [bd_setRate y1, show q2 = q1 from e2.trans e1.symm, z8]
  have fin : ∀ pk : Int32, (((nI x / 3) - (nI x / 3) / 2 * 2) = 0 → pk = 1) → (¬ ((nI x / 3) - (nI x / 3) / 2 * 2) = 0 → pk = 0) → ∃ σ' ρ', fl_sets_25 ((V, L, N), a) (nI x) (nI z) (nI r) = some (σ', 1) ∧ JJ σ' ρ' γ ε M (t + 2) nw ∧ E26 ρ ≤ E26 ρ' := fun pk h1 h0 => by
    obtain ⟨σ', ρ', ⟨W, u, k1, k2, k3, k4, k5⟩, k6, k7⟩ := key pk
    refine ⟨σ', ρ', ?_, k6, k7⟩
    obtain ⟨W', a'⟩ := σ'
    obtain rfl : a' = a := k5
    unfold fl_sets_25 fl_sets_43 fl_sets_79
    dsimp only
    by_cases hc : ((nI x / 3) - (nI x / 3) / 2 * 2) = 0
    · rw [if_pos hc]
      rw [h1 hc] at k1 k4
      rw [k1]
      simp only [po_b]
      rw [if_neg k2, if_neg k3, if_pos hc, k4]
      simp only [po_b]
      rw [if_pos (by first | rfl | trivial)]
    · rw [if_neg hc]
      rw [h0 hc] at k1 k4
      rw [k1]
      simp only [po_b]
      rw [if_neg k2, if_neg k3, if_neg hc, k4]
      simp only [po_b]
      rw [if_pos (by first | rfl | trivial)]
  by_cases hc : ((nI x / 3) - (nI x / 3) / 2 * 2) = 0
  · exact fin 1 (fun _ => rfl) (fun z => absurd hc z)
  · exact fin 0 (fun z => absurd z hc) (fun _ => rfl)
/-- channels: phones with a leg in the cell -/
theorem w_chan (h : JJ ((V, L, N), a) ρ γ ε M t nw) (ht : t ≤ 500) (hy : y < 2 ^ 30) (hc : c < 8) (n : Nat) : ∀ j, 10 ≤ j + n → j ≤ 10 → ∃ σ' ρ', fl_sets_112 (n + 1) ((V, L, N), a) (nI y) (nI c) (nI (cntN (lgR ρ (nI c)) j)) (nI j) = some (σ', 1) ∧ JJ σ' ρ' γ ε M t nw ∧ E26 ρ ≤ E26 ρ' := by
  obtain ⟨⟨hR, hJ, hP⟩, -⟩ := id h
  have hR : Rel V L N ρ t nw 0 := hR
  have hend : ∀ n, ∃ σ' ρ', fl_sets_112 (n + 1) ((V, L, N), a) (nI y) (nI c) (nI (cntN (lgR ρ (nI c)) 10)) (nI 10) = some (σ', 1) ∧ JJ σ' ρ' γ ε M t nw ∧ E26 ρ ≤ E26 ρ' := fun n => by
    have one : ∀ g, g ≤ y % 6 → ∃ σ' ρ', fl_sets_186 ((V, L, N), a) (nI (cntN (lgR ρ (nI c)) 10)) (nI c) (nI (y % 6)) (nI g) = some (σ', 1) ∧ JJ σ' ρ' γ ε M t nw ∧ E26 ρ ≤ E26 ρ' := fun g hg => by
      obtain ⟨V', ρ', z1, z2, z3, z4⟩ := p_setChannels hR hc (show y % 6 ≤ 10 by omega) hg hJ hP
      have hE := (f_setChannels hR (nI c) (nI (y % 6)) (nI g)).e26 z1 z2
      refine ⟨((V', L, N), a), ρ', ?_, h.mk z2 z3 z4 rfl rfl rfl, hE⟩
      unfold fl_sets_186
      dsimp only
      rw [bd_setChannels z1]
      simp only [po_b]
      rw [if_pos (by first | rfl | trivial)]
    have e6 : nI y - nI y / 6 * 6 = nI (y % 6) := rmd 6 (by omega) (by decide) (by decide)
    rw [fl_sets_112, if_pos (show (10 : Int32) ≤ nI 10 by decide), e6]
    simp only [po_b]
    unfold fl_sets_185
    by_cases h1 : y % 6 ≤ 1
    · rw [if_pos (show nI (y % 6) ≤ 1 from nI_le (b := 1) h1 (by decide))]
      exact one 0 (Nat.zero_le _)
    · rw [if_neg (show ¬ nI (y % 6) ≤ 1 from nI_ge (a := 1) (by omega) (by omega))]
      split
      · exact one 1 (by omega)
      · exact one 0 (Nat.zero_le _)
  induction n with
  | zero =>
    intro j h1 h2
    obtain rfl : j = 10 := by omega
    exact hend 0
  | succ n ih =>
    intro j h1 h2
    by_cases hj : j = 10
    · subst hj
      exact hend (n + 1)
    · have hj : j < 10 := by omega
      have i1 := ih (j + 1) (by omega) (by omega)
      have ec : cntN (lgR ρ (nI c)) (j + 1) = cntN (lgR ρ (nI c)) j + (if lgR ρ (nI c) j = true then 1 else 0) := rfl
      have f : fl_sets_112 (n + 1 + 1) ((V, L, N), a) (nI y) (nI c) (nI (cntN (lgR ρ (nI c)) j)) (nI j) = fl_sets_112 (n + 1) ((V, L, N), a) (nI y) (nI c) (nI (cntN (lgR ρ (nI c)) (j + 1))) (nI (j + 1)) := by
        rw [fl_sets_112, if_neg (show ¬ (10 : Int32) ≤ nI j from nI_ge (b := 10) hj (by decide))]
        dsimp only
        rw [q_legOf hR hj]
        simp only [po_b]
        unfold fl_sets_145 fl_sets_146
        simp only [po_b]
        rw [nI_1, ec]
        have el : lgR ρ (nI c) j = (decide (¬ ρ 9 j = -1) && decide (ρ 6 j = nI c)) := rfl
        rcases hR.leg hj with q | ⟨k, hk, q, -, -⟩
        · rw [q, if_pos (by decide), Int32.add_zero, el, q, if_neg (by rw [show decide (¬ (-1 : Int32) = -1) = false by decide, Bool.false_and]; decide), Nat.add_zero (cntN (lgR ρ (nI c)) j)]
        · have hn4 := hR.n4
          rw [q, if_neg (nI_pos (by omega)), q_cellOf hR hj]
          simp only [po_b]
          rw [el, q]
          by_cases e : ρ 6 j = nI c
          · rw [if_pos e, nI_1, if_pos (by rw [decide_eq_true (pn_m1 (show k ≤ 100000 by omega)), decide_eq_true e]; rfl)]
          · rw [if_neg e, Int32.add_zero, if_neg (by rw [decide_eq_false e, Bool.and_false]; decide), Nat.add_zero (cntN (lgR ρ (nI c)) j)]
      rw [f]
      exact i1
theorem w_slice (h : JJ ((V, L, N), a) ρ γ ε M t nw) (hy : y < 2 ^ 30) {d : Nat} {D : Int32} (hD : D = nI d) (hd0 : 0 < d) (hd : d ≤ 100) : ∃ σ' ρ', fl_sets_220 ((V, L, N), a) 1 (nI y) D = some (σ', 1) ∧ JJ σ' ρ' γ ε M t nw ∧ E26 ρ ≤ E26 ρ' := by
  subst hD
  obtain ⟨⟨hR, hJ, hP⟩, -⟩ := id h
  have hR : Rel V L N ρ t nw 0 := hR
  have hyd := Nat.mod_lt y hd0
  obtain ⟨V1, ρ1, z1, z2, z3, z4, z5⟩ := p_setSlice hR (show 1 ≤ 1 + y % d by omega) (show 1 + y % d ≤ 100 by omega) hJ hP
  obtain ⟨V2, ρ2, y1, y2, y3, y4, y5⟩ := p_setSlice z2 (show 1 ≤ 1 + y % d by omega) (show 1 + y % d ≤ 100 by omega) z3 z4
  have hE1 := (f_setSlice hR (nI (1 + y % d))).e26 z1 z2
  have hE2 := (f_setSlice z2 (nI (1 + y % d))).e26 y1 y2
  obtain ⟨g1, g2⟩ := hR.r5.2.2.2.2.2.1
  obtain ⟨v, hv, hv2, ev⟩ := pn_of g1
  rw [ev, nI_clamp hv2] at g2
  refine ⟨((V2, L, N), a), ρ2, ?_, h.mk y2 y3 y4 rfl rfl rfl, Nat.le_trans hE1 hE2⟩
  unfold fl_sets_220
  rw [if_neg (nI_ne0 hd0 (by omega)), pk_rem (by omega) hd0 (by omega), show (1 : Int32) + nI (y % d) = nI (1 + y % d) from nI_add 1 (y % d)]
  simp only [po_b]
  rw [bd_setSlice z1]
  simp only [po_b]
  rw [ev, if_neg (nI_nle g2 hv2), if_neg (show ¬ (100 : Int32) < nI v from nI_nlt (a := 100) (by omega) (by decide)), bd_setSlice y1]
  simp only [po_b]
  rw [z5, if_pos (by first | rfl | trivial)]
theorem w_cap (h : JJ ((V, L, N), a) ρ γ ε M t nw) (hx : x < 2 ^ 30) {u : Int32} (h1 : ¬ u < -1) (h2 : u ≤ 1000000) : ∃ σ' ρ', fl_sets_283 ((V, L, N), a) (nI x) u = some (σ', 1) ∧ JJ σ' ρ' γ ε M t nw ∧ E26 ρ ≤ E26 ρ' := by
  obtain ⟨⟨hR, hJ, hP⟩, -⟩ := id h
  have hR : Rel V L N ρ t nw 0 := hR
  have hp : x % 10 < 10 := by omega
  obtain ⟨V1, ρ1, z1, z2, z3, z4, z5⟩ := p_setCap hR hp h1 h2 hJ hP
  obtain ⟨V2, ρ2, y1, y2, y3, y4, y5⟩ := p_setCap z2 hp h1 h2 z3 z4
  have hE1 := (f_setCap hR (nI (x % 10)) u).e26 z1 z2
  have hE2 := (f_setCap z2 (nI (x % 10)) u).e26 y1 y2
  refine ⟨((V2, L, N), a), ρ2, ?_, h.mk y2 y3 y4 rfl rfl rfl, Nat.le_trans hE1 hE2⟩
  unfold fl_sets_283
  dsimp only
  rw [rmd 10 (show x < 2 ^ 31 by omega) (by decide) (by decide), bd_setCap z1]
  simp only [po_b]
  rw [if_neg (hP.2 _ hp), bd_setCap y1]
  simp only [po_b]
  rw [z5, if_pos (pk_us)]
theorem w_sets (h : JJ ((V, L, N), a) ρ γ ε M t nw) (ht : t + 2 ≤ 500) (hx : x < 2 ^ 30) (hy : y < 2 ^ 30) {z : Nat} (hz : z < 6) : ∃ σ' ρ' t', t' ≤ t + 2 ∧ fl_sets ((V, L, N), a) (nI z) (nI x) (nI y) = some (σ', 1) ∧ JJ σ' ρ' γ ε M t' nw ∧ E26 ρ ≤ E26 ρ' := by
  obtain ⟨⟨hR, hJ, hP⟩, hN, ⟨c0, c1, c2, c3, c4⟩, n64⟩ := id h
  have hR : Rel V L N ρ t nw 0 := hR
  have c1 : a 2 1 = nI (N 1) := c1
  have hn1 := hR.r3.2.1.2.2.1
  have x3 : nI x - nI x / 3 * 3 = nI (x % 3) := rmd 3 (by omega) (by decide) (by decide)
  have x8 : nI x - nI x / 8 * 8 = nI (x % 8) := rmd 8 (by omega) (by decide) (by decide)
  have x10 : nI x - nI x / 10 * 10 = nI (x % 10) := rmd 10 (by omega) (by decide) (by decide)
  have y3 : nI y - nI y / 3 * 3 = nI (y % 3) := rmd 3 (by omega) (by decide) (by decide)
  have y4 : nI y - nI y / 4 * 4 = nI (y % 4) := rmd 4 (by omega) (by decide) (by decide)
  have y90 : nI y / 4 - nI y / 4 / 90 * 90 = nI (y / 4 % 90) := by rw [dvd9 4 (show y < 2 ^ 31 by omega) (by decide) (by decide), rmd 90 (show y / 4 < 2 ^ 31 by omega) (by decide) (by decide)]
  have y800 : nI y / 3 - nI y / 3 / 800 * 800 = nI (y / 3 % 800) := by rw [dvd9 3 (show y < 2 ^ 31 by omega) (by decide) (by decide), rmd 800 (show y / 3 < 2 ^ 31 by omega) (by decide) (by decide)]
  rcases (show z = 0 ∨ z = 1 ∨ z = 2 ∨ z = 3 ∨ z = 4 ∨ z = 5 by omega) with rfl | rfl | rfl | rfl | rfl | rfl
  · unfold fl_sets
    rw [if_pos (show nI 0 = 0 by decide), x3, y4, y90]
    simp only [po_b]
    split
    · obtain ⟨σ', ρ', k1, k2, k3⟩ := w_rate h ht hx (z := x % 3) (r := 0) (by omega) (by omega)
      exact ⟨σ', ρ', t + 2, Nat.le_refl _, k1, k2, k3⟩
    · obtain ⟨σ', ρ', k1, k2, k3⟩ := w_rate h ht hx (z := x % 3) (r := y / 4 % 90) (by omega) (by omega)
      exact ⟨σ', ρ', t + 2, Nat.le_refl _, k1, k2, k3⟩
  · obtain ⟨σ', ρ', k1, k2, k3⟩ := w_chan (c := x % 8) h (by omega) hy (by omega) 2999 0 (by omega) (by omega)
    refine ⟨σ', ρ', t, by omega, ?_, k2, k3⟩
    unfold fl_sets
    rw [if_neg (show ¬ nI 1 = 0 by decide), if_pos (show nI 1 = 1 by decide), x8]
    simp only [po_b]
    exact k1
  · unfold fl_sets
    rw [if_neg (show ¬ nI 2 = 0 by decide), if_neg (show ¬ nI 2 = 1 by decide), if_pos (show nI 2 = 2 by decide)]
    split
    · obtain ⟨σ', ρ', k1, k2, k3⟩ := w_slice (D := 100) h hy rfl (by decide) (by decide)
      exact ⟨σ', ρ', t, by omega, k1, k2, k3⟩
    · obtain ⟨σ', ρ', k1, k2, k3⟩ := w_slice (D := 9) h hy rfl (by decide) (by decide)
      exact ⟨σ', ρ', t, by omega, k1, k2, k3⟩
  · unfold fl_sets
    rw [if_neg (show ¬ nI 3 = 0 by decide), if_neg (show ¬ nI 3 = 1 by decide), if_neg (show ¬ nI 3 = 2 by decide), if_pos (show nI 3 = 3 by decide), y800]
    split
    · obtain ⟨σ', ρ', k1, k2, k3⟩ := w_cap (u := -1) h hx (by decide) (by decide)
      exact ⟨σ', ρ', t, by omega, k1, k2, k3⟩
    · obtain ⟨σ', ρ', k1, k2, k3⟩ := w_cap (u := nI (y / 3 % 800)) h hx (fun z => nI_pos (show y / 3 % 800 < 2 ^ 31 by omega) (Int32.lt_trans z (by decide))) (nI_le (b := 1000000) (by omega) (by decide))
      exact ⟨σ', ρ', t, by omega, k1, k2, k3⟩
  · have hp : x % 10 < 10 := by omega
    have hw : y % 4 < 4 := by omega
    have pre : fl_sets ((V, L, N), a) (nI 4) (nI x) (nI y) = (ak_setWallet (V, L, N) (nI (x % 10)) (nI (y % 4)) 0).bind fun o3 => (aq_legOf o3.1 (nI (x % 10))).bind fun o6 => if o6 < 0 then (if o3.2 < 0 then some ((o3.1, a), 0) else if 4 ≤ o3.2 then some ((o3.1, a), 0) else (dv_setWallet o3.1 (nI (x % 10)) (nI (y % 4))).bind fun o7 => if o7.2 = nI (y % 4) then some ((o7.1, a), 1) else some ((o7.1, a), 0)) else if o3.2 = -108 then some ((o3.1, a), 1) else some ((o3.1, a), 0) := by
      unfold fl_sets
      rw [if_neg (show ¬ nI 4 = 0 by decide), if_neg (show ¬ nI 4 = 1 by decide), if_neg (show ¬ nI 4 = 2 by decide), if_neg (show ¬ nI 4 = 3 by decide), if_pos (show nI 4 = 4 by decide), x10, y4]
      simp only [po_b]
    rcases p_setWallet hR hp hw hJ hP with ⟨h9, z1⟩ | ⟨h9, V1, ρ1, z1, z2, z3, z4, z5, z6⟩
    · refine ⟨((V, L, N), a), ρ, t, by omega, ?_, h, Nat.le_refl _⟩
      rw [pre, bk_setWallet z1, Sum.elim_inr, ex2_3]
      simp only [po_b]
      rw [q_legOf hR hp]
      simp only [po_b]
      rcases hR.leg hp with q | ⟨k, hk, q, -, -⟩
      · exact absurd q h9
      · have hn4 := hR.n4
        rw [q, if_neg (nI_pos (by omega)), if_pos (by first | rfl | trivial)]
    · rcases p_setWallet z2 hp hw z3 z4 with ⟨u9, u1⟩ | ⟨u9, V2, ρ2, u1, u2, u3, u4, u5, u6⟩
      · exact absurd (by rw [z6]; exact h9) u9
      · have hE1 := (f_setWallet hR (nI (x % 10)) (nI (y % 4))).e26 z1 z2
        have hE2 := (f_setWallet z2 (nI (x % 10)) (nI (y % 4))).e26 u1 u2
        obtain ⟨v, hv, hv2, ev⟩ := pn_of (hR.r5.2.1 _ hp).2
        refine ⟨((V2, L, N), a), ρ2, t, by omega, ?_, h.mk u2 u3 u4 rfl rfl rfl, Nat.le_trans hE1 hE2⟩
        rw [pre, bk_setWallet z1, Sum.elim_inl]
        simp only [po_b]
        rw [q_legOf z2 hp, u9]
        simp only [po_b]
        rw [if_pos (by decide), ev, if_neg (nI_pos hv2), if_neg (show ¬ (4 : Int32) ≤ nI v from nI_ge (b := 4) hv (by decide)), bd_setWallet u1]
        simp only [po_b]
        rw [z5, if_pos (by first | rfl | trivial)]
  · have hc : x % 8 < 8 := by omega
    have hz3 : y % 3 < 3 := by omega
    have pre : fl_sets ((V, L, N), a) (nI 5) (nI x) (nI y) = (ak_setZone (V, L, N) (nI (x % 8)) (nI (y % 3)) 0).bind fun o10 => if nI (N 1) ≤ 0 then (if o10.2 < 0 then some ((o10.1, a), 0) else if 3 ≤ o10.2 then some ((o10.1, a), 0) else (dv_setZone o10.1 (nI (x % 8)) (nI (y % 3))).bind fun o13 => if o13.2 = nI (y % 3) then some ((o13.1, a), 1) else some ((o13.1, a), 0)) else if o10.2 = -108 then some ((o10.1, a), 1) else some ((o10.1, a), 0) := by
      unfold fl_sets
      rw [if_neg (show ¬ nI 5 = 0 by decide), if_neg (show ¬ nI 5 = 1 by decide), if_neg (show ¬ nI 5 = 2 by decide), if_neg (show ¬ nI 5 = 3 by decide), if_neg (show ¬ nI 5 = 4 by decide), x8, y3]
      simp only [po_b, cn1]
      rw [c1]
    rcases p_setZone hR hc hz3 hJ hP with ⟨h9, z1⟩ | ⟨h9, V1, ρ1, z1, z2, z3, z4, z5⟩
    · refine ⟨((V, L, N), a), ρ, t, by omega, ?_, h, Nat.le_refl _⟩
      rw [pre, bk_setZone z1, Sum.elim_inr, ex2_3]
      simp only [po_b]
      rw [if_neg (nI_nle h9 (by omega)), if_pos (by first | rfl | trivial)]
    · rcases p_setZone z2 hc hz3 z3 z4 with ⟨u9, u1⟩ | ⟨u9, V2, ρ2, u1, u2, u3, u4, u5⟩
      · exact absurd h9 (by omega)
      · have hE1 := (f_setZone hR (nI (x % 8)) (nI (y % 3))).e26 z1 z2
        have hE2 := (f_setZone z2 (nI (x % 8)) (nI (y % 3))).e26 u1 u2
        obtain ⟨v, hv, hv2, ev⟩ := pn_of (hR.r5.1 _ hc).1
        refine ⟨((V2, L, N), a), ρ2, t, by omega, ?_, h.mk u2 u3 u4 rfl rfl rfl, Nat.le_trans hE1 hE2⟩
        rw [pre, bk_setZone z1, Sum.elim_inl]
        simp only [po_b]
        rw [h9, if_pos (show nI 0 ≤ 0 by decide), ev, if_neg (nI_pos hv2), if_neg (show ¬ (3 : Int32) ≤ nI v from nI_ge (b := 3) hv (by decide)), bd_setZone u1]
        simp only [po_b]
        rw [z5, if_pos (by first | rfl | trivial)]
end WE
