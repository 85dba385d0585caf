/-! THE LAW'S CALLS: join, leave, move -/
section WB
variable {V V' : Rho} {L L' : Lst} {N N' : Cnt} {ρ ρ' : Rho} {t nw i k p c b w j M : Nat} {γ : Nat → Nat → Nat} {ε : Nat → Int32} {a : Rho} {x y : Nat}
theorem cnt_pos {P : Nat → Bool} {n q : Nat} (hq : q < n) (h : P q = true) : 1 ≤ cntN P n := by
  induction n with
  | zero => exact absurd hq (Nat.not_lt_zero _)
  | succ n ih =>
    show 1 ≤ cntN P n + (if P n = true then 1 else 0)
    by_cases e : q = n
    · subst e
      rw [if_pos h]
      omega
    · have := ih (by omega)
      omega
theorem bd_join {a1 a2 a3 : Int32} {q : (CW × Int32) ⊕ Nat} (h : fc_join V L N a1 a2 (if a3 ≤ 0 then 0 else 1) = some q) : ak_join (V, L, N) a1 a2 a3 = Sum.elim (fun u => some u) (ex2 (V, L, N)) q := by
  unfold ak_join
  dsimp only
  rw [h]
  rfl
theorem bd_leave {a1 a2 a3 : Int32} {q : (CW × Int32) ⊕ Nat} (h : fc_leave V L N a1 = some q) : ak_leave (V, L, N) a1 a2 a3 = Sum.elim (fun u => some u) (ex2 (V, L, N)) q := by
  unfold ak_leave
  dsimp only
  rw [h]
  rfl
theorem bd_move {a1 a2 : Int32} {q : CW × Int32} (h : fc_move V L N a1 a2 = some (.inl q)) : da_move (V, L, N) a1 a2 = some q := by
  unfold da_move
  dsimp only
  rw [h]
  rfl
/-- one leg noted -/
theorem one_nt (hN : ∀ k, k < N 4 → a 0 k = nI (gP γ k) ∧ a 1 k = ε k) (h4 : N' 4 = N 4 + 1) {c pa xa s : Nat} : ∀ k, k < N' 4 → jn a (N 4) pa c xa s 0 k = nI (gP (xg γ (N 4) pa c xa s) k) ∧ jn a (N 4) pa c xa s 1 k = xe ε (N 4) (evn (nI pa) 0 (nI s) (nI xa)) k := by
  intro k hk
  unfold jn xe
  simp only [rcs_col, ne_eq, Nat.reduceEqDiff, not_false_eq_true]
  by_cases e2 : k = N 4
  · subst e2
    have g : ∀ col, xg γ (N 4) pa c xa s col (N 4) = [pa, c, xa, 0, s].getD col 0 := fun col => if_pos rfl
    rw [cs_at, cs_at, if_pos (by first | rfl | trivial)]
    unfold gP
    rw [g 0, g 1, g 2, g 3, g 4]
    exact ⟨rfl, rfl⟩
  · have g : ∀ col, xg γ (N 4) pa c xa s col k = γ col k := fun col => if_neg e2
    rw [cs_nei e2, cs_nei e2, if_neg e2]
    unfold gP
    rw [g 0, g 1, g 2, g 3, g 4]
    exact hN k (by omega)
theorem w_calls1 (h : JJ ((V, L, N), a) ρ γ ε M t nw) (ht : t ≤ 500) (hnw : nw ≤ 16000) (h62 : N 4 < 62) (hx : x < 2 ^ 30) (hy : y < 2 ^ 30) : ∃ σ' ρ' γ' ε', fl_calls ((V, L, N), a) 1 (nI x) (nI y) = some (σ', 1) ∧ JJ σ' ρ' γ' ε' M t nw ∧ E26 ρ ≤ E26 ρ' := by
  obtain ⟨⟨hR, hJ, hP⟩, hN, ⟨c0, c1, c2, c3, c4⟩, n64⟩ := id h
  have hR : Rel V L N ρ t nw 0 := hR
  have c0 : a 2 0 = nI nw := c0
  have c1 : a 2 1 = nI (N 1) := c1
  have c2 : a 2 2 = nI (N 4) := c2
  have c3 : a 2 3 = nI (N 0) := c3
  have c4 : a 2 4 = nI M := c4
  have hn1 : N 1 ≤ 40 := hR.r3.2.1.2.2.1
  obtain ⟨p, hp9⟩ : ∃ p, p = x % 10 := ⟨_, rfl⟩
  have hp : p < 10 := by omega
  by_cases h0 : N 1 = 0
  · refine ⟨((V, L, N), a), ρ, γ, ε, ?_, h, Nat.le_refl _⟩
    unfold fl_calls
    simp only [po_b, cn1]
    rw [if_neg (show ¬ (1 : Int32) = 0 by decide), if_pos (by first | rfl | trivial), c1, h0, if_pos (by decide)]
  · obtain ⟨q, hq0, hq4, hqd⟩ : ∃ q, 0 < q ∧ q ≤ 4 ∧ q = if 4 ≤ N 1 then 4 else N 1 := ⟨if 4 ≤ N 1 then 4 else N 1, by split <;> omega, by split <;> omega, rfl⟩
    have hqn : q ≤ N 1 := by rw [hqd]; split <;> omega
    have hyq := Nat.mod_lt y hq0
    obtain ⟨c, hc9⟩ : ∃ c, c = N 1 - 1 - y % q := ⟨_, rfl⟩
    have hc : c < N 1 := by omega
    have e10 : nI (N 1) - 1 = nI (N 1 - 1) := by
      obtain ⟨z, hz⟩ : ∃ z, N 1 = z + 1 := ⟨N 1 - 1, by omega⟩
      rw [hz, nI_pred]
      rfl
    have pre : fl_calls ((V, L, N), a) 1 (nI x) (nI y) = fl_calls_204 ((V, L, N), a) (nI y) (nI p) (nI (N 1 - 1)) (nI y) (nI q) := by
      unfold fl_calls
      simp only [po_b, cn1]
      rw [if_neg (show ¬ (1 : Int32) = 0 by decide), if_pos (by first | rfl | trivial), c1, if_neg (nI_ne0 (by omega) (by omega)), rmd 10 (show x < 2 ^ 31 by omega) (by decide) (by decide), ← hp9, e10]
      by_cases e4 : 4 ≤ N 1
      · rw [if_pos (show (4 : Int32) ≤ nI (N 1) from nI_le (a := 4) e4 (by omega)), hqd, if_pos e4]
        rfl
      · rw [if_neg (show ¬ (4 : Int32) ≤ nI (N 1) from nI_ge (b := 4) (by omega) (by omega)), hqd, if_neg e4]
    have pre2 : fl_calls ((V, L, N), a) 1 (nI x) (nI y) = if 0 ≤ ρ 9 p then fl_calls_241 ((V, L, N), a) (nI y) (nI p) (nI c) (nI (cntN (ptR ρ (nI c)) 10)) 1 else if nI (cntN (ptR ρ (nI c)) 10) = 0 then fl_calls_241 ((V, L, N), a) (nI y) (nI p) (nI c) (nI (cntN (ptR ρ (nI c)) 10)) 1 else if nI (cntN (ptR ρ (nI c)) 10) = 4 then fl_calls_241 ((V, L, N), a) (nI y) (nI p) (nI c) (nI (cntN (ptR ρ (nI c)) 10)) 1 else fl_calls_241 ((V, L, N), a) (nI y) (nI p) (nI c) (nI (cntN (ptR ρ (nI c)) 10)) 0 := by
      rw [pre]
      unfold fl_calls_204 fl_calls_236
      rw [if_neg (nI_ne0 hq0 (by omega)), pk_rem (by omega) hq0 (by omega), nI_sb (by omega), ← hc9]
      simp only [po_b]
      rw [q_parties hR hc]
      simp only [po_b]
      rw [q_legOf hR hp]
      simp only [po_b]
    have hcnt := cntN_le (ptR ρ (nI c)) 10
    have bad : ∀ s0 : Int32, fc_join V L N (nI p) (nI c) (if (nI y / 4 - nI y / 4 / 2 * 2) ≤ 0 then 0 else 1) = some (.inr 3) → fl_calls_241 ((V, L, N), a) (nI y) (nI p) (nI c) (nI (cntN (ptR ρ (nI c)) 10)) s0 = some (((V, L, N), a), 1) := fun s0 hb => by
      unfold fl_calls_241
      dsimp only
      rw [bd_join hb, Sum.elim_inr, ex2_3]
      simp only [po_b]
      rw [if_neg (show ¬ (0 : Int32) ≤ -108 by decide), if_pos (by first | rfl | trivial), q_parties hR hc]
      simp only [po_b]
      rw [if_pos (by first | rfl | trivial)]
    obtain ⟨xa, hxa, -, exa⟩ := pn_of (hR.r5.2.1 p hp).1
    rcases p_join (hs := if (nI y / 4 - nI y / 4 / 2 * 2) ≤ 0 then 0 else 1) hR (by omega) hp hc hxa exa hJ hP with z | ⟨h9, h5, h6, V', L', N', ρ', z1, z2, z3, z4, z5, z6, z7, z8, z9⟩
    · refine ⟨((V, L, N), a), ρ, γ, ε, ?_, h, Nat.le_refl _⟩
      rw [pre2, bad 1 z, bad 0 z]
      split
      · rfl
      · split
        · rfl
        · split <;> rfl
    · have hE := (f_join hR (by omega) (nI p) (nI c) (if (nI y / 4 - nI y / 4 / 2 * 2) ≤ 0 then 0 else 1)).e26 z1 z2
      have i1 : fl_joins ((V', L', N'), a) (nI p) (nI c) (nI xa) = some ((V', L', N'), jn a (N 4) p c xa nw) := w_joins c2 c0 (by omega) (by omega) (by omega) hxa
      refine ⟨((V', L', N'), jn a (N 4) p c xa nw), ρ', _, _, ?_, ⟨⟨z2, z3, z4⟩, one_nt hN z5, ⟨c0, ?_, ?_, ?_, c4⟩, ?_⟩, hE⟩
      · rw [pre2, h9, if_neg (by decide), if_neg (nI_ne0 (by omega) (by omega)), if_neg (show ¬ nI (cntN (ptR ρ (nI c)) 10) = 4 from fun z => h6 (pn_inj (b := 4) (by omega) (by omega) z))]
        unfold fl_calls_241 fl_calls_345
        dsimp only
        rw [bd_join z1, Sum.elim_inl]
        simp only [po_b]
        rw [if_pos (nI_pos' (by omega)), q_cellOf z2 hp, z8, exa]
        simp only [po_b]
        rw [i1]
        simp only [po_b, cn2]
        rw [if_pos (by first | rfl | trivial), show jn a (N 4) p c xa nw 2 2 = nI (N 4 + 1) from cs_at, nI_pred, if_pos (by first | rfl | trivial), q_parties z2 (by omega)]
        simp only [po_b]
        rw [q_stateOf z2 (show N 4 < N' 4 by omega)]
        simp only [po_b]
        rcases z9 with ⟨e1, e2⟩ | ⟨e1, e2⟩
        · rw [e1, if_pos (by first | rfl | trivial), e2, nI_1, if_pos (by first | rfl | trivial), if_pos (by first | rfl | trivial)]
        · rw [e1, if_neg (show ¬ (2 : Int32) = 0 by decide), e2, Int32.add_zero, if_pos (by first | rfl | trivial), if_neg (show ¬ (2 : Int32) = 0 by decide), if_pos (by first | rfl | trivial)]
      · show a 2 1 = nI (N' 1)
        rw [z6]
        exact c1
      · show nI (N 4 + 1) = nI (N' 4)
        rw [z5]
      · show a 2 3 = nI (N' 0)
        rw [z7]
        exact c3
      · show N' 4 ≤ 64
        omega
theorem w_calls2 (h : JJ ((V, L, N), a) ρ γ ε M t nw) (ht : t ≤ 500) (hnw : nw ≤ 16000) (hx : x < 2 ^ 30) {y : Int32} : ∃ σ' ρ' γ' ε', fl_calls ((V, L, N), a) 2 (nI x) y = some (σ', 1) ∧ JJ σ' ρ' γ' ε' M t nw ∧ E26 ρ ≤ E26 ρ' := by
  obtain ⟨⟨hR, hJ, hP⟩, hN, ⟨c0, c1, c2, c3, c4⟩, n64⟩ := id h
  have hR : Rel V L N ρ t nw 0 := hR
  have n64 : N 4 ≤ 64 := n64
  have hn1 : N 1 ≤ 40 := hR.r3.2.1.2.2.1
  obtain ⟨p, hp9⟩ : ∃ p, p = x % 10 := ⟨_, rfl⟩
  have hp : p < 10 := by omega
  have pre : fl_calls ((V, L, N), a) 2 (nI x) y = if 0 ≤ ρ 9 p then (if ρ 9 p < 0 ∨ 64 ≤ (ρ 9 p).toNatClampNeg then none else (fl_part ((V, L, N), a) (a 0 (ρ 9 p).toNatClampNeg) 4 6).bind fun o7 => fl_calls_407 ((V, L, N), a) (nI p) (ρ 9 p) o7) else fl_calls_407 ((V, L, N), a) (nI p) (ρ 9 p) (-1) := by
    unfold fl_calls
    simp only [po_b]
    rw [if_neg (show ¬ (2 : Int32) = 0 by decide), if_neg (show ¬ (2 : Int32) = 1 by decide), rmd 10 (show x < 2 ^ 31 by omega) (by decide) (by decide), ← hp9, q_legOf hR hp]
    simp only [po_b, if_true]
  rcases hR.leg hp with h9 | ⟨k, hk, q, qa, qp⟩
  · refine ⟨((V, L, N), a), ρ, γ, ε, ?_, h, Nat.le_refl _⟩
    rw [pre, h9, if_neg (by decide)]
    unfold fl_calls_407 fl_calls_424
    dsimp only
    rw [if_neg (by decide), bd_leave (p_leave0 hR hp h9), Sum.elim_inr, ex2_3]
    simp only [po_b]
    rw [if_neg (by decide), if_pos (by first | rfl | trivial)]
  · have hcl := nI_clamp (show k < 2 ^ 31 by omega)
    obtain ⟨⟨a1, a2, a3, a4, a5, a6, a7⟩, -, -, -, -, -, -⟩ := hJ.1 k (by rw [hR.lgs]; exact hk)
    have hc : γ 1 k < N 1 := by
      have z := vp_lt (hR.r5.2.2.1 k hk).2.1
      rw [a2, nI_clamp (by omega)] at z
      exact z
    have hpt : ptR ρ (nI (γ 1 k)) p = true := by
      unfold ptR
      rw [q, hcl, a2, decide_eq_true (pn_m1 (show k ≤ 100000 by omega)), decide_eq_true rfl]
      rfl
    have h1 := cnt_pos hp hpt
    have hcnt := cntN_le (ptR ρ (nI (γ 1 k))) 10
    obtain ⟨V', L', N', ρ', z1, z2, z3, z4, z5, z6, z7⟩ := p_leave hR (by omega) hp hk q qa qp hc a2 hJ hP
    have hE := (f_leave hR (by omega) (nI p)).e26 z1 z2
    refine ⟨((V', L', N'), a), ρ', γ, ε, ?_, h.mk z2 z3 z4 (z5 4 (by decide)) (z5 1 (by decide)) (z5 0 (by decide)), hE⟩
    rw [pre, q, if_pos (nI_pos' (by omega)), hcl, if_neg (ng (n := 64) (show k < 64 by omega) (by omega)), show a 0 k = nI (gP γ k) from (hN k hk).1, pt_call a3 a4 a5 a6 a7]
    simp only [po_b]
    unfold fl_calls_407 fl_calls_424 fl_calls_473
    dsimp only
    rw [if_pos (nI_pos' (by omega)), q_parties hR hc]
    simp only [po_b]
    rw [bd_leave z1, Sum.elim_inl]
    simp only [po_b]
    rw [if_pos (nI_pos' (show k < 2 ^ 31 by omega)), q_stateOf z2 (by rw [z5 4 (by decide)]; exact hk), z6]
    simp only [po_b, if_true]
    rw [q_legOf z2 hp, z7]
    simp only [po_b, if_true]
    by_cases e2 : cntN (ptR ρ (nI (γ 1 k))) 10 = 2
    · rw [e2, if_pos (by decide), if_pos (by first | rfl | trivial)]
    · rw [if_neg (show ¬ nI (cntN (ptR ρ (nI (γ 1 k))) 10) = 2 from fun z => e2 (pn_inj (b := 2) (by omega) (by omega) z)), if_neg e2]
      obtain ⟨z, hz⟩ : ∃ z, cntN (ptR ρ (nI (γ 1 k))) 10 = z + 1 := ⟨_, (Nat.succ_pred_eq_of_pos h1).symm⟩
      rw [hz, nI_pred, Nat.add_sub_cancel, if_pos (by first | rfl | trivial)]
end WB
