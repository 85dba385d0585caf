/-! THE LAW'S SUMS: money is whole; calls have their phones and stamps -/
def wtN (ρ : Rho) (N : Cnt) (w : Nat) : Nat := fre ρ w + sumN (asN ρ w) (N 4) + spe ρ w
def mbP (ρ : Rho) (c k : Nat) : Bool := decide (ρ 24 k = nI c) && decide (ρ 26 k = 0)
section WH
variable {V : Rho} {L : Lst} {N : Cnt} {ρ : Rho} {t nw i k p c b w j M m : Nat} {γ : Nat → Nat → Nat} {ε : Nat → Int32} {a : Rho} {kk : GS → Int32 → Int32 → Option Int32} {u : Int64}
theorem sumN_mono {f : Nat → Nat} {m n : Nat} (h : m ≤ n) : sumN f m ≤ sumN f n := by
  induction n with
  | zero =>
    obtain rfl : m = 0 := by omega
    exact Nat.le_refl _
  | succ n ih =>
    by_cases e : m = n + 1
    · rw [e]; exact Nat.le_refl _
    · have := ih (by omega)
      show sumN f m ≤ sumN f n + f n
      omega
theorem as_le (h : Rel V L N ρ t nw i) (hM : MQ9 ρ M) (hw : w < 4) : sumN (asN ρ w) (N 4) ≤ M := by
  have e := sum_asN (ρ := ρ) (n := N 4) (fun k hk => (h.r5.2.2.1 k hk).2.2)
  obtain ⟨h1, -, -⟩ := hM
  rw [h.lgs] at h1
  rcases (show w = 0 ∨ w = 1 ∨ w = 2 ∨ w = 3 by omega) with rfl | rfl | rfl | rfl <;> omega
theorem wt_sum (h : Rel V L N ρ t nw i) (hM : MQ9 ρ M) : sumN (wtN ρ N) 4 = M := by
  have e := sum_asN (ρ := ρ) (n := N 4) (fun k hk => (h.r5.2.2.1 k hk).2.2)
  obtain ⟨h1, -, -⟩ := hM
  rw [h.lgs] at h1
  have f4 : ∀ f : Nat → Nat, sumN f 4 = f 0 + f 1 + f 2 + f 3 := fun f => by
    show 0 + f 0 + f 1 + f 2 + f 3 = _
    omega
  rw [f4, f4] at h1
  rw [f4]
  unfold wtN
  omega
theorem whole3 (h : JJ ((V, L, N), a) ρ γ ε M t nw) (hM : M ≤ 5000000) (n : Nat) : ∀ b, N 0 ≤ b + n → b ≤ N 0 → fl_isWhole_184 (n + 1) ((V, L, N), a) 1 (nI b) (lN M) 0 = some 1 := by
  obtain ⟨⟨hR, hJ, hP⟩, hN, ⟨c0, c1, c2, c3, c4⟩, n64⟩ := id h
  have hR : Rel V L N ρ t nw 0 := hR
  have c3 : a 2 3 = nI (N 0) := c3
  have c4 : a 2 4 = nI M := c4
  have hn0 := hR.r3.2.1.2.1
  have hend : ∀ n, fl_isWhole_184 (n + 1) ((V, L, N), a) 1 (nI (N 0)) (lN M) 0 = some 1 := fun n => by
    rw [fl_isWhole_184]
    simp only [cn3, c3, cn4, c4]
    rw [if_pos (nI_le (Nat.le_refl _) (by omega)), if_neg (show ¬ (1 : Int32) = 0 by decide), nI_l (by omega), cmp_self, if_pos (by first | rfl | trivial), cmp_self, if_pos (by first | rfl | trivial)]
  induction n with
  | zero =>
    intro b h1 h2
    obtain rfl : b = N 0 := by omega
    exact hend 0
  | succ n ih =>
    intro b h1 h2
    by_cases hb : b = N 0
    · subst hb; exact hend (n + 1)
    · have hb : b < N 0 := by omega
      have i1 := ih (b + 1) (by omega) (by omega)
      obtain ⟨q1, q2⟩ := hJ.2.2 b (by rw [hR.bds]; exact hb)
      have q2 : (ρ 17 b).toNatClampNeg ≤ 5000 := by omega
      obtain ⟨v, hv, ev⟩ := nI_of q1
      rw [ev, nI_clamp hv] at q2
      have key : ∃ z, z ≤ 5000 ∧ aq_left (V, L, N) (nI b) = some (nI z) := by
        rw [q_left hR hb]
        split
        · exact ⟨v, q2, by rw [ev]⟩
        · exact ⟨0, by omega, rfl⟩
      obtain ⟨z, hz, ez⟩ := key
      rw [fl_isWhole_184]
      simp only [cn3, c3]
      rw [if_neg (nI_ge hb (by omega)), if_neg (show ¬ (1 : Int32) = 0 by decide), ez]
      simp only [po_b]
      rw [if_neg (nI_pos (by omega)), if_neg (show ¬ (5000 : Int32) < nI z from nI_nlt (a := 5000) hz (by decide))]
      unfold fl_isWhole_223
      simp only [po_b]
      rw [nI_1]
      exact i1
theorem whole2 (h : JJ ((V, L, N), a) ρ γ ε M t nw) (ht : t ≤ 500) (hM : M ≤ 5000000) (n : Nat) : ∀ j, N 4 ≤ j + n → j ≤ N 4 → fl_isWhole_103 (n + 1) ((V, L, N), a) 1 (nI j) (lN M) (lN (sumN (cha ρ) (N 4) - sumN (cha ρ) j)) = some 1 := by
  obtain ⟨⟨hR, hJ, hP⟩, hN, ⟨c0, c1, c2, c3, c4⟩, n64⟩ := id h
  have hR : Rel V L N ρ t nw 0 := hR
  have c2 : a 2 2 = nI (N 4) := c2
  have hn4 := hR.n4
  have hn0 := hR.r3.2.1.2.1
  have hend : ∀ n, fl_isWhole_103 (n + 1) ((V, L, N), a) 1 (nI (N 4)) (lN M) (lN (sumN (cha ρ) (N 4) - sumN (cha ρ) (N 4))) = some 1 := fun n => by
    rw [fl_isWhole_103, Nat.sub_self]
    simp only [cn2, c2]
    rw [if_pos (nI_le (Nat.le_refl _) (by omega))]
    exact whole3 h hM 2999 0 (by omega) (Nat.zero_le _)
  induction n with
  | zero =>
    intro j h1 h2
    obtain rfl : j = N 4 := by omega
    exact hend 0
  | succ n ih =>
    intro j h1 h2
    by_cases hj : j = N 4
    · subst hj; exact hend (n + 1)
    · have hj : j < N 4 := by omega
      have i1 := ih (j + 1) (by omega) (by omega)
      obtain ⟨d1, d2⟩ := cha_le hR hJ.2.1 hj
      obtain ⟨vp, vc, vs, vh, vo, -, -, -, -, e29, -, -, -, -, wo, -⟩ := leg_nums hR hj
      have hs : sumN (cha ρ) j + cha ρ j ≤ sumN (cha ρ) (N 4) := sumN_mono (m := j + 1) (by omega)
      rw [fl_isWhole_103]
      simp only [cn2, c2]
      rw [if_neg (nI_ge hj (by omega)), q_charged hR hj, d2]
      simp only [po_b]
      rw [nI_l (by omega), lN_sub (by omega), if_neg (show ¬ (1 : Int32) = 0 by decide), if_neg (nI_pos (by omega)), q_covered hR hj, e29]
      simp only [po_b]
      rw [if_neg (nI_pos (by omega)), q_ratedByEvents hR (by omega) hj, d2, e29]
      simp only [po_b, if_true]
      unfold fl_isWhole_173
      simp only [po_b]
      rw [nI_1, show sumN (cha ρ) (N 4) - sumN (cha ρ) j - cha ρ j = sumN (cha ρ) (N 4) - sumN (cha ρ) (j + 1) by
        show _ = _ - (sumN (cha ρ) j + cha ρ j)
        omega]
      exact i1
theorem whole1 (h : JJ ((V, L, N), a) ρ γ ε M t nw) (ht : t ≤ 500) (hM : M ≤ 5000000) (n : Nat) : ∀ w, 4 ≤ w + n → w ≤ 4 → fl_isWhole_11 (n + 1) ((V, L, N), a) 1 (nI w) (lN (sumN (wtN ρ N) w)) (lN (sumN (spe ρ) w)) = some 1 := by
  obtain ⟨⟨hR, hJ, hP⟩, hN, -, n64⟩ := id h
  have hR : Rel V L N ρ t nw 0 := hR
  have hn4 := hR.n4
  have hend : ∀ n, fl_isWhole_11 (n + 1) ((V, L, N), a) 1 (nI 4) (lN (sumN (wtN ρ N) 4)) (lN (sumN (spe ρ) 4)) = some 1 := fun n => by
    have k := whole2 h ht hM 2999 0 (by omega) (Nat.zero_le _)
    have e : sumN (spe ρ) 4 = sumN (cha ρ) (N 4) := by
      have z := hJ.2.1.2.1
      rw [hR.lgs] at z
      exact z
    rw [fl_isWhole_11, if_pos (show (4 : Int32) ≤ nI 4 by decide), wt_sum hR hJ.2.1, e]
    exact k
  induction n with
  | zero =>
    intro w h1 h2
    obtain rfl : w = 4 := by omega
    exact hend 0
  | succ n ih =>
    intro w h1 h2
    by_cases hw : w = 4
    · subst hw; exact hend (n + 1)
    · have hw : w < 4 := by omega
      have i1 := ih (w + 1) (by omega) (by omega)
      have f1 := hR.r14.eq hw
      have f2 := fre_le hJ.2.1 hw
      have f3 := as_le hR hJ.2.1 hw
      obtain ⟨f4, f5⟩ := spe_le hJ.2.1 hw
      rw [fl_isWhole_11, if_neg (show ¬ (4 : Int32) ≤ nI w from nI_ge (b := 4) hw (by decide))]
      dsimp only
      rw [q_free hR hw, f1, q_aside hR hw, q_spent hR hw, f5]
      simp only [po_b]
      rw [nI_l (by omega), nI_l (by omega), nI_l (by omega), lN_add, lN_add, lN_add, lN_add, if_neg (show ¬ (1 : Int32) = 0 by decide), if_neg (nI_pos (by omega)), if_neg (nI_pos (by omega)), if_neg (nI_pos (by omega))]
      unfold fl_isWhole_92
      simp only [po_b]
      rw [nI_1]
      exact i1
theorem w_isWhole (h : JJ ((V, L, N), a) ρ γ ε M t nw) (ht : t ≤ 500) (hM : M ≤ 5000000) : fl_isWhole ((V, L, N), a) = some 1 := whole1 h ht hM 2999 0 (by omega) (Nat.zero_le _)
/-- phones in a call, counted by its legs -/
theorem mb_cnt (h : Rel V L N ρ t nw i) : cntN (ptR ρ (nI c)) 10 = cntN (mbP ρ c) (N 4) := by
  have hn4 := h.n4
  have e1 := h.r6.sum hn4 (fun k hk => (h.r5.2.2.1 k hk).1) (fun k => if ρ 24 k = nI c then 1 else 0)
  have h1 := cntN_le (ptR ρ (nI c)) 10
  have h2 := cntN_le (mbP ρ c) (N 4)
  refine pn_inj (by omega) (by omega) ?_
  rw [nI_cnt, nI_cnt]
  refine Eq.trans (sumI_congr fun p _ => ?_) (e1.trans (sumI_congr fun k _ => ?_))
  · unfold ptR
    by_cases q : ρ 9 p = -1
    · rw [if_pos q, show decide (¬ ρ 9 p = -1) = false from decide_eq_false (fun z => z q), Bool.false_and]
      rfl
    · rw [if_neg q, decide_eq_true q, Bool.true_and]
      by_cases q2 : ρ 24 (ρ 9 p).toNatClampNeg = nI c
      · rw [if_pos q2, decide_eq_true q2, if_pos rfl]
      · rw [if_neg q2, decide_eq_false q2, if_neg (by decide)]
  · unfold mbP
    by_cases q : ρ 26 k = 0
    · rw [if_pos q, decide_eq_true q, Bool.and_true]
      by_cases q2 : ρ 24 k = nI c
      · rw [if_pos q2, decide_eq_true q2, if_pos rfl]
      · rw [if_neg q2, decide_eq_false q2, if_neg (by decide)]
    · rw [if_neg q, decide_eq_false q, Bool.and_false]
      rfl
theorem call_loop (h : JJ ((V, L, N), a) ρ γ ε M t nw) (ht : t ≤ 500) (hc : c < N 1) (n : Nat) : ∀ j, N 4 ≤ j + n → j ≤ N 4 → fl_areCalls_30 kk (n + 1) ((V, L, N), a) (nI c) (nI (cntN (mbP ρ c) j)) (nI j) ((mem ρ j c).foldl (stF ρ) ((nI c).toInt64 + 1)) = kk ((V, L, N), a) 1 (nI (c + 1)) := by
  obtain ⟨⟨hR, hJ, hP⟩, hN, ⟨c0, c1, c2, c3, c4⟩, n64⟩ := id h
  have hR : Rel V L N ρ t nw 0 := hR
  have c2 : a 2 2 = nI (N 4) := c2
  have n64 : N 4 ≤ 64 := n64
  have hn1 := hR.r3.2.1.2.2.1
  have hend : ∀ n, fl_areCalls_30 kk (n + 1) ((V, L, N), a) (nI c) (nI (cntN (mbP ρ c) (N 4))) (nI (N 4)) ((mem ρ (N 4) c).foldl (stF ρ) ((nI c).toInt64 + 1)) = kk ((V, L, N), a) 1 (nI (c + 1)) := fun n => by
    have h2 := cntN_le (mbP ρ c) (N 4)
    have p1 := hP.1 c (by omega)
    have p2 := hR.r15 c hc
    rw [mb_cnt hR] at p1 p2
    rw [fl_areCalls_30]
    simp only [cn2, c2]
    rw [if_pos (nI_le (Nat.le_refl _) (by omega)), q_parties hR hc, mb_cnt hR]
    simp only [po_b, if_true]
    rw [if_neg (show ¬ nI (cntN (mbP ρ c) (N 4)) = 1 from fun z => p1 (pn_inj (b := 1) (by omega) (by omega) z)), if_neg (show ¬ (5 : Int32) ≤ nI (cntN (mbP ρ c) (N 4)) from nI_ge (b := 5) (by omega) (by decide)), q_stamp hR (by omega) hc]
    simp only [po_b]
    rw [if_pos (by first | rfl | trivial)]
    unfold fl_areCalls_146
    simp only [po_b]
    rw [nI_1]
  induction n with
  | zero =>
    intro j h1 h2
    obtain rfl : j = N 4 := by omega
    exact hend 0
  | succ n ih =>
    intro j h1 h2
    by_cases hj : j = N 4
    · subst hj; exact hend (n + 1)
    · have hj : j < N 4 := by omega
      have i1 := ih (j + 1) (by omega) (by omega)
      have hcl := nI_clamp (show j < 2 ^ 31 by omega)
      have g64 := ng (n := 64) (show j < 64 by omega) (by omega)
      obtain ⟨⟨a1, a2, a3, a4, a5, a6, a7⟩, -⟩ := h.lg hj
      have n0 : a 0 j = nI (gP γ j) := (hN j hj).1
      have ec : cntN (mbP ρ c) (j + 1) = cntN (mbP ρ c) j + (if mbP ρ c j = true then 1 else 0) := rfl
      rw [mem_succ] at i1
      rw [fl_areCalls_30]
      simp only [cn2, c2]
      rw [if_neg (nI_ge hj (by omega)), hcl, if_neg g64, n0, pt_call a3 a4 a5 a6 a7]
      simp only [po_b]
      rw [← a2]
      unfold fl_areCalls_69 fl_areCalls_93
      simp only [po_b]
      rw [nI_1 j]
      by_cases e : ρ 24 j = nI c
      · rw [if_pos e, List.foldl_append] at i1
        rw [if_pos e, q_stateOf hR hj, q_seal hR (by omega) hj]
        simp only [po_b]
        by_cases e2 : ρ 26 j = 0
        · rw [if_pos e2, nI_1]
          rw [ec, show mbP ρ c j = true by unfold mbP; rw [decide_eq_true e, decide_eq_true e2]; rfl, if_pos rfl] at i1
          exact i1
        · rw [if_neg e2, Int32.add_zero]
          rw [ec, show mbP ρ c j = false by unfold mbP; rw [decide_eq_false e2, Bool.and_false], if_neg (by decide), Nat.add_zero (cntN (mbP ρ c) j)] at i1
          exact i1
      · rw [if_neg e] at i1
        rw [if_neg e]
        rw [ec, show mbP ρ c j = false by unfold mbP; rw [decide_eq_false e, Bool.false_and], if_neg (by decide), Nat.add_zero (cntN (mbP ρ c) j)] at i1
        exact i1
theorem calls_loop (h : JJ ((V, L, N), a) ρ γ ε M t nw) (ht : t ≤ 500) (n : Nat) : ∀ c, N 1 ≤ c + n → c ≤ N 1 → fl_areCalls_5 (n + 1) ((V, L, N), a) 1 (nI c) = some 1 := by
  obtain ⟨⟨hR, hJ, hP⟩, hN, ⟨c0, c1, c2, c3, c4⟩, n64⟩ := id h
  have hR : Rel V L N ρ t nw 0 := hR
  have c1 : a 2 1 = nI (N 1) := c1
  have hn4 := hR.n4
  have hn1 := hR.r3.2.1.2.2.1
  have hend : ∀ n, fl_areCalls_5 (n + 1) ((V, L, N), a) 1 (nI (N 1)) = some 1 := fun n => by
    rw [fl_areCalls_5]
    simp only [cn1, c1]
    rw [if_pos (nI_le (Nat.le_refl _) (by omega)), if_pos (Or.inr (by first | rfl | trivial))]
  induction n with
  | zero =>
    intro c h1 h2
    obtain rfl : c = N 1 := by omega
    exact hend 0
  | succ n ih =>
    intro c h1 h2
    by_cases hc : c = N 1
    · subst hc; exact hend (n + 1)
    · have hc : c < N 1 := by omega
      have i1 := ih (c + 1) (by omega) (by omega)
      rw [fl_areCalls_5]
      simp only [cn1, c1]
      rw [if_neg (nI_ge hc (by omega)), if_neg (show ¬ (1 : Int32) = 0 by decide)]
      simp only [po_b]
      exact (call_loop (kk := fl_areCalls_5 (n + 1)) h ht hc 2999 0 (by omega) (Nat.zero_le _)).trans i1
theorem w_areCalls (h : JJ ((V, L, N), a) ρ γ ε M t nw) (ht : t ≤ 500) : fl_areCalls ((V, L, N), a) = some 1 := by
  have hn1 : N 1 ≤ 40 := h.rel.r3.2.1.2.2.1
  exact calls_loop h ht 2999 0 (by omega) (Nat.zero_le _)
end WH
