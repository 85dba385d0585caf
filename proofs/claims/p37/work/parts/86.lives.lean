/-! THE LAW'S LIVES AND STEP -/
def P2 (ρ : Rho) (k : Nat) : Bool := decide (ρ 26 k = 2)
section WL
variable {V V' : Rho} {L L' : Lst} {N N' : Cnt} {ρ ρ' : Rho} {t nw i k p c b w j M d : Nat} {γ : Nat → Nat → Nat} {ε : Nat → Int32} {a : Rho} {x y : Nat} {v3 v5 : Int32}
theorem cnt_cut {P : Nat → Bool} {m n : Nat} (h : m ≤ n) (hz : ∀ k, m ≤ k → k < n → P k = false) : cntN P n = cntN P m := by
  induction n with
  | zero =>
    obtain rfl : m = 0 := by omega
    rfl
  | succ n ih =>
    by_cases e : m = n + 1
    · rw [e]
    · have i1 := ih (by omega) (fun k h1 h2 => hz k h1 (by omega))
      show cntN P n + (if P n = true then 1 else 0) = cntN P m
      rw [hz n (by omega) (Nat.lt_succ_self n), i1]
      rfl
theorem C2_at (h : Rel V L N ρ t nw i) : C2 ρ = cntN (P2 ρ) (N 4) := by
  have hn4 := h.n4
  refine cnt_cut hn4 (fun k h1 _ => ?_)
  rw [h.r16 26 (by decide) k h1]
  decide
theorem bd_pass {a1 a2 a3 : Int32} {q : CW × Int32} (h : fc_pass V L N a1 = some (.inl q)) : ak_pass (V, L, N) a1 a2 a3 = some q := by
  unfold ak_pass
  dsimp only
  rw [h]
  rfl
theorem lv1 (hR : Rel V L N ρ t nw 0) (c2 : a 2 2 = nI (N 4)) (n : Nat) : ∀ (j : Nat) (z : Int32), N 4 ≤ j + n → j ≤ N 4 → z + nI (cntN (P2 ρ) j) = 0 → ∃ z' : Int32, z' + nI (cntN (P2 ρ) (N 4)) = 0 ∧ fl_lives_25 d (n + 1) ((V, L, N), a) v3 z (nI j) = (ak_pass (V, L, N) v3 0 0).bind fun o1 => if ¬ (o1.2 = nI d ∧ d ≤ 9000000) then none else fl_lives_73 d FU (o1.1, a) v3 z' o1.2 0 := by
  have hn4 := hR.n4
  have hend : ∀ (n : Nat) (z : Int32), z + nI (cntN (P2 ρ) (N 4)) = 0 → ∃ z' : Int32, z' + nI (cntN (P2 ρ) (N 4)) = 0 ∧ fl_lives_25 d (n + 1) ((V, L, N), a) v3 z (nI (N 4)) = (ak_pass (V, L, N) v3 0 0).bind fun o1 => if ¬ (o1.2 = nI d ∧ d ≤ 9000000) then none else fl_lives_73 d FU (o1.1, a) v3 z' o1.2 0 := fun n z hz => by
    refine ⟨z, hz, ?_⟩
    rw [fl_lives_25]
    simp only [cn2, c2, cn0]
    rw [if_pos (nI_le (Nat.le_refl _) (by omega))]
    simp only [po_b]
  induction n with
  | zero =>
    intro j z h1 h2 hz
    obtain rfl : j = N 4 := by omega
    exact hend 0 z hz
  | succ n ih =>
    intro j z h1 h2 hz
    by_cases hj : j = N 4
    · subst hj; exact hend (n + 1) z hz
    · have hj : j < N 4 := by omega
      have ec : cntN (P2 ρ) (j + 1) = cntN (P2 ρ) j + (if P2 ρ j = true then 1 else 0) := rfl
      rw [fl_lives_25]
      simp only [cn2, c2, cn0]
      rw [if_neg (nI_ge hj (by omega)), q_stateOf hR hj]
      simp only [po_b]
      unfold fl_lives_50
      simp only [po_b]
      rw [nI_1]
      by_cases e : ρ 26 j = 2
      · rw [if_pos e]
        refine ih (j + 1) _ (by omega) (by omega) ?_
        rw [ec, if_pos (show P2 ρ j = true from decide_eq_true e), ← nI_1, Int32.add_comm (nI _) 1, ← Int32.add_assoc, Int32.sub_add_cancel]
        exact hz
      · rw [if_neg e]
        refine ih (j + 1) _ (by omega) (by omega) ?_
        rw [ec, if_neg (show ¬ P2 ρ j = true from fun z => e (of_decide_eq_true z)), Int32.sub_zero, Nat.add_zero (cntN (P2 ρ) j)]
        exact hz
theorem lv2 (hR : Rel V L N ρ t nw 0) (c2 : a 2 2 = nI (N 4)) (z : Int32) (n : Nat) : ∀ (j : Nat), N 4 ≤ j + n → j ≤ N 4 → fl_lives_73 d (n + 1) ((V, L, N), a) v3 (z + nI (cntN (P2 ρ) j)) v5 (nI j) = if v5 = z + nI (cntN (P2 ρ) (N 4)) then some (((V, L, N), cs a 2 0 (a 2 0 + v3)), 1) else some (((V, L, N), cs a 2 0 (a 2 0 + v3)), 0) := by
  have hn4 := hR.n4
  have hend : ∀ (n : Nat), fl_lives_73 d (n + 1) ((V, L, N), a) v3 (z + nI (cntN (P2 ρ) (N 4))) v5 (nI (N 4)) = if v5 = z + nI (cntN (P2 ρ) (N 4)) then some (((V, L, N), cs a 2 0 (a 2 0 + v3)), 1) else some (((V, L, N), cs a 2 0 (a 2 0 + v3)), 0) := fun n => by
    rw [fl_lives_73]
    simp only [cn2, c2, cn0]
    rw [if_pos (nI_le (Nat.le_refl _) (by omega)), if_neg (by decide)]
    simp only [po_b]
  induction n with
  | zero =>
    intro j h1 h2
    obtain rfl : j = N 4 := by omega
    exact hend 0
  | succ n ih =>
    intro j h1 h2
    by_cases hj : j = N 4
    · subst hj; exact hend (n + 1)
    · have hj : j < N 4 := by omega
      have ec : cntN (P2 ρ) (j + 1) = cntN (P2 ρ) j + (if P2 ρ j = true then 1 else 0) := rfl
      have i1 := ih (j + 1) (by omega) (by omega)
      rw [fl_lives_73]
      simp only [cn2, c2, cn0]
      rw [if_neg (nI_ge hj (by omega)), q_stateOf hR hj]
      simp only [po_b]
      unfold fl_lives_98
      simp only [po_b]
      rw [nI_1]
      by_cases e : ρ 26 j = 2
      · rw [if_pos e]
        rw [ec, if_pos (show P2 ρ j = true from decide_eq_true e), ← nI_1, ← Int32.add_assoc] at i1
        exact i1
      · rw [if_neg e, Int32.add_zero]
        rw [ec, if_neg (show ¬ P2 ρ j = true from fun z => e (of_decide_eq_true z)), Nat.add_zero (cntN (P2 ρ) j)] at i1
        exact i1
theorem w_lives (h : JJ ((V, L, N), a) ρ γ ε M t nw) (ht : t ≤ 500) (hnw : nw ≤ 16000) (hM : M ≤ 5000000) (hy : y < 2 ^ 30) : ∃ d σ' ρ' nw', nw' ≤ nw + 200 ∧ fl_lives d ((V, L, N), a) (nI y) = some (σ', 1) ∧ JJ σ' ρ' γ ε M t nw' ∧ E26 ρ + d ≤ E26 ρ' := by
  obtain ⟨⟨hR, hJ, hP⟩, hN, ⟨c0, c1, c2, c3, c4⟩, n64⟩ := id h
  have hR : Rel V L N ρ t nw 0 := hR
  have c0 : a 2 0 = nI nw := c0
  have c2 : a 2 2 = nI (N 4) := c2
  have hn4 := hR.n4
  have main : ∀ (D : Int32) (q : Nat), D = nI q → 0 < q → q ≤ 200 → ∃ d σ' ρ' nw', nw' ≤ nw + 200 ∧ fl_lives_16 d ((V, L, N), a) 1 (nI y) D = some (σ', 1) ∧ JJ σ' ρ' γ ε M t nw' ∧ E26 ρ + d ≤ E26 ρ' := fun D q hD hq0 hq => by
    subst hD
    have hyd := Nat.mod_lt y hq0
    obtain ⟨m, hm⟩ : ∃ m, m = 1 + y % q := ⟨_, rfl⟩
    obtain ⟨V', L', N', ρ', d, z1, z2, z3, z4, z5, z6, z7, z8⟩ := p_pass hR (by omega) (show M ≤ 1000000000 by omega) (show 1 ≤ m by omega) (show m ≤ 500 by omega) (by omega) hJ hP
    have hd80 : d ≤ 80 := by
      have : C2 ρ' ≤ 80 := cntN_le _ _
      omega
    have hE : E26 ρ + d ≤ E26 ρ' := by
      rcases f_pass hR (by omega) (nI m) with ⟨e, ρ1, a1, h1, -⟩ | ⟨W, d2, ρ1, h1, h2, h3, ⟨n1, h4⟩, h5⟩
      · exact nomatch h1.symm.trans z1
      · have zz := Sum.inl.inj (Option.some.inj (h1.symm.trans z1))
        have e1 : W = (V', L', N') := congrArg Prod.fst zz
        have e2 : nI d2 = nI d := congrArg Prod.snd zz
        subst e1
        have e80 : E26 ρ1 ≤ 80 := E26_le
        have e3 : d2 = d := pn_inj (by omega) (by omega) e2
        rw [E26.of h4 z2, ← e3]
        exact h5
    refine ⟨d, ((V', L', N'), cs a 2 0 (nI (nw + m))), ρ', nw + m, by omega, ?_, ⟨⟨z2, z3, z4⟩, fun k hk => hN k (show k < N 4 by rw [← z6]; exact hk), ⟨show cs a 2 0 (nI (nw + m)) 2 0 = _ from cs_at, ?_, ?_, ?_, c4⟩, ?_⟩, hE⟩
    · obtain ⟨z, g1, g2⟩ := lv1 (d := d) (v3 := nI m) hR c2 2999 0 0 (by omega) (Nat.zero_le _) (by show (0 : Int32) + nI 0 = 0; decide)
      have g3 := lv2 (d := d) (v3 := nI m) (v5 := nI d) z2 (show a 2 2 = nI (N' 4) by rw [z6]; exact c2) z 2999 0 (by omega) (Nat.zero_le _)
      rw [← C2_at z2, z5, C2_at hR, ← nI_add, ← Int32.add_assoc, g1, Int32.zero_add, if_pos (by first | rfl | trivial), c0, nI_add] at g3
      have g4 : z + nI (cntN (P2 ρ') 0) = z := by
        show z + nI 0 = z
        rw [nI_0, Int32.add_zero]
      rw [g4] at g3
      unfold fl_lives_16
      rw [if_neg (nI_ne0 hq0 (by omega)), pk_rem (by omega) hq0 (by omega), show (1 : Int32) + nI (y % q) = nI m by rw [hm]; exact nI_add 1 (y % q)]
      simp only [po_b]
      refine Eq.trans g2 ?_
      rw [bd_pass z1]
      simp only [po_b]
      rw [if_neg (fun z => z ⟨trivial, by omega⟩)]
      exact g3
    · show a 2 1 = nI (N' 1)
      rw [z7]
      exact c1
    · show a 2 2 = nI (N' 4)
      rw [z6]
      exact c2
    · show a 2 3 = nI (N' 0)
      rw [z8]
      exact c3
    · show N' 4 ≤ 64
      rw [z6]
      exact n64
  by_cases e : (nI y - nI y / 5 * 5) = 0
  · obtain ⟨d, σ', ρ', nw', k1, k2, k3⟩ := main 200 200 rfl (by decide) (by decide)
    refine ⟨d, σ', ρ', nw', k1, ?_, k3⟩
    unfold fl_lives
    rw [if_pos e]
    exact k2
  · obtain ⟨d, σ', ρ', nw', k1, k2, k3⟩ := main 9 9 rfl (by decide) (by decide)
    refine ⟨d, σ', ρ', nw', k1, ?_, k3⟩
    unfold fl_lives
    rw [if_neg e]
    exact k2
theorem st_bool {σ' : GS} {q : Option (GS × Int32)} (h : q = some (σ', 1)) : (q.bind fun o1 => if o1.2 = 0 ∨ o1.2 = 1 then some (o1.1, o1.2) else none) = some (σ', 1) := by
  rw [h]
  rfl
theorem w_step (h : JJ ((V, L, N), a) ρ γ ε M t nw) (ht : t + 2 ≤ 500) (hnw : nw ≤ 16000) (hM : M ≤ 5000000) {s : Nat} (hs : s < 30) (hx : x < 2 ^ 30) (hy : y < 2 ^ 30) : ∃ d σ' ρ' γ' ε' M' t' nw', (t' ≤ t + 2 ∧ nw' ≤ nw + 200 ∧ M' ≤ M + 20000) ∧ fl_step d ((V, L, N), a) (nI s) (nI x) (nI y) = some (σ', 1) ∧ JJ σ' ρ' γ' ε' M' t' nw' ∧ E26 ρ + d ≤ E26 ρ' := by
  obtain ⟨⟨hR, hJ, hP⟩, hN, ⟨c0, c1, c2, c3, c4⟩, n64⟩ := id h
  have hR : Rel V L N ρ t nw 0 := hR
  have c1 : a 2 1 = nI (N 1) := c1
  have c2 : a 2 2 = nI (N 4) := c2
  have n64 : N 4 ≤ 64 := n64
  have hn1 := hR.r3.2.1.2.2.1
  have le : ∀ {q : Nat} {Q : Int32}, Q = nI q → q ≤ 100 → ((Q ≤ nI s) ↔ q ≤ s) := fun hQ hq => by
    rw [hQ]
    exact nI_leI (by omega) (by omega)
  -- from 66 on
  have h66 : (7 ≤ s ∨ 62 ≤ N 4) → ∃ d σ' ρ' γ' ε' M' t' nw', (t' ≤ t + 2 ∧ nw' ≤ nw + 200 ∧ M' ≤ M + 20000) ∧ fl_step_66 d ((V, L, N), a) (nI s) (nI x) (nI y) = some (σ', 1) ∧ JJ σ' ρ' γ' ε' M' t' nw' ∧ E26 ρ + d ≤ E26 ρ' := fun _ => by
    by_cases h12 : 12 ≤ s
    · by_cases h17 : 17 ≤ s
      · by_cases h23 : 23 ≤ s
        · obtain ⟨d, σ', ρ', nw', k1, k2, k3, k4⟩ := w_lives h (by omega) hnw hM hy
          refine ⟨d, σ', ρ', γ, ε, M, t, nw', ⟨by omega, k1, by omega⟩, ?_, k3, k4⟩
          unfold fl_step_66
          rw [if_pos ((le (Q := 12) (q := 12) rfl (by decide)).mpr h12), if_pos ((le (Q := 17) (q := 17) rfl (by decide)).mpr h17), if_pos ((le (Q := 23) (q := 23) rfl (by decide)).mpr h23)]
          exact st_bool k2
        · obtain ⟨σ', ρ', t', k1, k2, k3, k4⟩ := w_sets (z := s - 17) h ht hx hy (by omega)
          refine ⟨0, σ', ρ', γ, ε, M, t', nw, ⟨k1, by omega, by omega⟩, ?_, k3, by omega⟩
          unfold fl_step_66
          rw [if_pos ((le (Q := 12) (q := 12) rfl (by decide)).mpr h12), if_pos ((le (Q := 17) (q := 17) rfl (by decide)).mpr h17), if_neg (fun z => h23 ((le (Q := 23) (q := 23) rfl (by decide)).mp z)), show nI s - 17 = nI (s - 17) from nI_sb (b := 17) h17]
          exact st_bool k2
      · have wl : ∀ z : Int32, (z = 0 ∨ z = 1 ∨ z = 2) → (fl_step_66 0 ((V, L, N), a) (nI s) (nI x) (nI y) = (fl_wallets ((V, L, N), a) z (nI x) (nI y)).bind fun o1 => if o1.2 = 0 ∨ o1.2 = 1 then some (o1.1, o1.2) else none) → ∃ d σ' ρ' γ' ε' M' t' nw', (t' ≤ t + 2 ∧ nw' ≤ nw + 200 ∧ M' ≤ M + 20000) ∧ fl_step_66 d ((V, L, N), a) (nI s) (nI x) (nI y) = some (σ', 1) ∧ JJ σ' ρ' γ' ε' M' t' nw' ∧ E26 ρ + d ≤ E26 ρ' := fun z hz hf => by
          obtain ⟨σ', ρ', M', t', k1, k2, k3, k4, k5⟩ := w_wallets h (by omega) hM hx hy hz
          exact ⟨0, σ', ρ', γ, ε, M', t', nw, ⟨by omega, by omega, k2⟩, hf.trans (st_bool k3), k4, by omega⟩
        by_cases h14 : 14 ≤ s
        · by_cases h16 : 16 ≤ s
          · refine wl 2 (by decide) ?_
            unfold fl_step_66
            rw [if_pos ((le (Q := 12) (q := 12) rfl (by decide)).mpr h12), if_neg (fun z => h17 ((le (Q := 17) (q := 17) rfl (by decide)).mp z)), if_pos ((le (Q := 14) (q := 14) rfl (by decide)).mpr h14), show nI s - 13 = nI (s - 13) from nI_sb (b := 13) (by omega), if_pos (show (3 : Int32) ≤ nI (s - 13) from nI_le (a := 3) (by omega) (by omega))]
          · refine wl (nI (s - 13)) (by
              rcases (show s - 13 = 1 ∨ s - 13 = 2 by omega) with e | e
              · rw [e]; decide
              · rw [e]; decide) ?_
            unfold fl_step_66
            rw [if_pos ((le (Q := 12) (q := 12) rfl (by decide)).mpr h12), if_neg (fun z => h17 ((le (Q := 17) (q := 17) rfl (by decide)).mp z)), if_pos ((le (Q := 14) (q := 14) rfl (by decide)).mpr h14), show nI s - 13 = nI (s - 13) from nI_sb (b := 13) (by omega), if_neg (show ¬ (3 : Int32) ≤ nI (s - 13) from nI_ge (b := 3) (by omega) (by omega))]
        · refine wl 0 (by decide) ?_
          unfold fl_step_66
          rw [if_pos ((le (Q := 12) (q := 12) rfl (by decide)).mpr h12), if_neg (fun z => h17 ((le (Q := 17) (q := 17) rfl (by decide)).mp z)), if_neg (fun z => h14 ((le (Q := 14) (q := 14) rfl (by decide)).mp z))]
    · by_cases h8 : 8 ≤ s
      · obtain ⟨σ', ρ', γ', ε', t', k0, k1, k2, k3, k4⟩ := w_calls3 h (by omega) hnw hx hy
        refine ⟨0, σ', ρ', γ', ε', M, t', nw, ⟨by omega, by omega, by omega⟩, ?_, k3, by omega⟩
        unfold fl_step_66 fl_step_84
        rw [if_neg (fun z => h12 ((le (Q := 12) (q := 12) rfl (by decide)).mp z)), if_pos ((le (Q := 8) (q := 8) rfl (by decide)).mpr h8)]
        exact st_bool k2
      · obtain ⟨σ', ρ', γ', ε', k2, k3, k4⟩ := w_calls2 (y := nI y) h (by omega) hnw hx
        refine ⟨0, σ', ρ', γ', ε', M, t, nw, ⟨by omega, by omega, by omega⟩, ?_, k3, by omega⟩
        unfold fl_step_66 fl_step_84
        rw [if_neg (fun z => h12 ((le (Q := 12) (q := 12) rfl (by decide)).mp z)), if_neg (fun z => h8 ((le (Q := 8) (q := 8) rfl (by decide)).mp z))]
        exact st_bool k2
  have h37 : ∃ d σ' ρ' γ' ε' M' t' nw', (t' ≤ t + 2 ∧ nw' ≤ nw + 200 ∧ M' ≤ M + 20000) ∧ fl_step_37 d ((V, L, N), a) (nI s) (nI x) (nI y) = some (σ', 1) ∧ JJ σ' ρ' γ' ε' M' t' nw' ∧ E26 ρ + d ≤ E26 ρ' := by
    by_cases h7 : 7 ≤ s
    · obtain ⟨d, σ', ρ', γ', ε', M', t', nw', k1, k2, k3⟩ := h66 (Or.inl h7)
      refine ⟨d, σ', ρ', γ', ε', M', t', nw', k1, ?_, k3⟩
      unfold fl_step_37
      rw [if_pos ((le (Q := 7) (q := 7) rfl (by decide)).mpr h7)]
      exact k2
    · by_cases h62 : 62 ≤ N 4
      · obtain ⟨d, σ', ρ', γ', ε', M', t', nw', k1, k2, k3⟩ := h66 (Or.inr h62)
        refine ⟨d, σ', ρ', γ', ε', M', t', nw', k1, ?_, k3⟩
        unfold fl_step_37
        simp only [cn2, c2]
        rw [if_neg (fun z => h7 ((le (Q := 7) (q := 7) rfl (by decide)).mp z)), if_pos (show (62 : Int32) ≤ nI (N 4) from nI_le (a := 62) h62 (by omega))]
        exact k2
      · obtain ⟨σ', ρ', γ', ε', k2, k3, k4⟩ := w_calls1 h (by omega) hnw (by omega) hx hy
        refine ⟨0, σ', ρ', γ', ε', M, t, nw, ⟨by omega, by omega, by omega⟩, ?_, k3, by omega⟩
        unfold fl_step_37
        simp only [cn2, c2]
        rw [if_neg (fun z => h7 ((le (Q := 7) (q := 7) rfl (by decide)).mp z)), if_neg (show ¬ (62 : Int32) ≤ nI (N 4) from nI_ge (b := 62) (by omega) (by omega))]
        exact st_bool k2
  obtain ⟨d, σ', ρ', γ', ε', M', t', nw', k1, k2, k3⟩ := h37
  by_cases h4 : 4 ≤ s
  · refine ⟨d, σ', ρ', γ', ε', M', t', nw', k1, ?_, k3⟩
    unfold fl_step
    rw [if_pos ((le (Q := 4) (q := 4) rfl (by decide)).mpr h4)]
    exact k2
  · by_cases h62 : 62 ≤ N 4
    · refine ⟨d, σ', ρ', γ', ε', M', t', nw', k1, ?_, k3⟩
      unfold fl_step
      simp only [cn2, c2]
      rw [if_neg (fun z => h4 ((le (Q := 4) (q := 4) rfl (by decide)).mp z)), if_pos (show (62 : Int32) ≤ nI (N 4) from nI_le (a := 62) h62 (by omega))]
      exact k2
    · by_cases h40 : 40 ≤ N 1
      · refine ⟨d, σ', ρ', γ', ε', M', t', nw', k1, ?_, k3⟩
        unfold fl_step
        simp only [cn2, c2, cn1, c1]
        rw [if_neg (fun z => h4 ((le (Q := 4) (q := 4) rfl (by decide)).mp z)), if_neg (show ¬ (62 : Int32) ≤ nI (N 4) from nI_ge (b := 62) (by omega) (by omega)), if_pos (show (40 : Int32) ≤ nI (N 1) from nI_le (a := 40) h40 (by omega))]
        exact k2
      · obtain ⟨σ', ρ', γ', ε', k2, k3, k4⟩ := w_calls0 h (by omega) hnw (by omega) (by omega) hx hy
        refine ⟨0, σ', ρ', γ', ε', M, t, nw, ⟨by omega, by omega, by omega⟩, ?_, k3, by omega⟩
        unfold fl_step
        simp only [cn2, c2, cn1, c1]
        rw [if_neg (fun z => h4 ((le (Q := 4) (q := 4) rfl (by decide)).mp z)), if_neg (show ¬ (62 : Int32) ≤ nI (N 4) from nI_ge (b := 62) (by omega) (by omega)), if_neg (show ¬ (40 : Int32) ≤ nI (N 1) from nI_ge (b := 40) (by omega) (by omega))]
        exact st_bool k2
end WL
