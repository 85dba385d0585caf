/-! THE LAW'S CALLS: begin -/
section WA
variable {V V' : Rho} {L L' : Lst} {N N' : Cnt} {ρ ρ' : Rho} {t nw i k p c b w j M : Nat} {γ : Nat → Nat → Nat} {ε : Nat → Int32} {a : Rho} {x y : Nat} {w9 : Int32}
theorem bd_begin {a1 a2 a3 : Int32} {q : (CW × Int32) ⊕ Nat} (h : fc_begin V L N a1 a2 (if a3 ≤ 0 then 0 else 1) = some q) : ak_begin (V, L, N) a1 a2 a3 = Sum.elim (fun u => some u) (ex2 (V, L, N)) q := by
  unfold ak_begin
  dsimp only
  rw [h]
  rfl
theorem ex2_2 {W : CW} : ex2 W 2 = some (W, -109) := rfl
theorem ex2_3 {W : CW} : ex2 W 3 = some (W, -108) := rfl
/-- two legs noted -/
theorem two_nt (hN : ∀ k, k < N 4 → a 0 k = nI (gP γ k) ∧ a 1 k = ε k) (h4 : N' 4 = N 4 + 2) {c pa xa pb xb s : Nat} : ∀ k, k < N' 4 → cs (jn (jn a (N 4) pa c xa s) (N 4 + 1) pb c xb s) 2 1 w9 0 k = nI (gP (xg (xg γ (N 4) pa c xa s) (N 4 + 1) pb c xb s) k) ∧ cs (jn (jn a (N 4) pa c xa s) (N 4 + 1) pb c xb s) 2 1 w9 1 k = xe (xe ε (N 4) (evn (nI pa) 0 (nI s) (nI xa))) (N 4 + 1) (evn (nI pb) 0 (nI s) (nI xb)) k := by
  intro k hk
  rw [rcs_col (by decide), rcs_col (by decide)]
  unfold jn xe
  simp only [rcs_col, ne_eq, Nat.reduceEqDiff, not_false_eq_true]
  by_cases e1 : k = N 4 + 1
  · subst e1
    rw [cs_at, cs_at, if_pos rfl]
    have g : ∀ col, xg (xg γ (N 4) pa c xa s) (N 4 + 1) pb c xb s col (N 4 + 1) = [pb, c, xb, 0, s].getD col 0 := fun col => if_pos rfl
    unfold gP
    rw [g 0, g 1, g 2, g 3, g 4]
    exact ⟨rfl, rfl⟩
  · have g1 : ∀ col, xg (xg γ (N 4) pa c xa s) (N 4 + 1) pb c xb s col k = xg γ (N 4) pa c xa s col k := fun col => if_neg e1
    rw [cs_nei e1, if_neg e1, cs_nei e1]
    by_cases e2 : k = N 4
    · subst e2
      have g : ∀ col, xg γ (N 4) pa c xa s col (N 4) = [pa, c, xa, 0, s].getD col 0 := fun col => if_pos rfl
      simp only [rcs_col, ne_eq, Nat.reduceEqDiff, not_false_eq_true]
      rw [cs_at, cs_at, if_pos trivial]
      unfold gP
      rw [g1 0, g1 1, g1 2, g1 3, g1 4, g 0, g 1, g 2, g 3, g 4]
      exact ⟨rfl, rfl⟩
    · have g : ∀ col, xg γ (N 4) pa c xa s col k = γ col k := fun col => if_neg e2
      simp only [rcs_col, ne_eq, Nat.reduceEqDiff, not_false_eq_true]
      rw [cs_nei e2, cs_nei e2, if_neg e2]
      unfold gP
      rw [g1 0, g1 1, g1 2, g1 3, g1 4, g 0, g 1, g 2, g 3, g 4]
      exact hN k (by omega)
theorem w_calls0 (h : JJ ((V, L, N), a) ρ γ ε M t nw) (ht : t ≤ 500) (hnw : nw ≤ 16000) (h62 : N 4 < 62) (h40 : N 1 < 40) (hx : x < 2 ^ 30) (hy : y < 2 ^ 30) : ∃ σ' ρ' γ' ε', fl_calls ((V, L, N), a) 0 (nI x) (nI y) = some (σ', 1) ∧ JJ σ' ρ' γ' ε' M t nw ∧ E26 ρ ≤ E26 ρ' := by
  obtain ⟨⟨hR, hJ, hP⟩, hN, ⟨c0, c1, c2, c3, c4⟩, n64⟩ := id h
  have hR : Rel V L N ρ t nw 0 := hR
  have c0 : a 2 0 = nI nw := c0
  have c1 : a 2 1 = nI (N 1) := c1
  have c2 : a 2 2 = nI (N 4) := c2
  have c3 : a 2 3 = nI (N 0) := c3
  have c4 : a 2 4 = nI M := c4
  obtain ⟨p, hp9⟩ : ∃ p, p = x % 10 := ⟨_, rfl⟩
  obtain ⟨o, ho9⟩ : ∃ o, o = y % 10 := ⟨_, rfl⟩
  have hp : p < 10 := by omega
  have ho : o < 10 := by omega
  have pre : fl_calls ((V, L, N), a) 0 (nI x) (nI y) = if 0 ≤ ρ 9 p then fl_calls_39 ((V, L, N), a) (nI y) (nI p) (nI o) 1 else if ρ 9 o < 0 then fl_calls_39 ((V, L, N), a) (nI y) (nI p) (nI o) 0 else fl_calls_39 ((V, L, N), a) (nI y) (nI p) (nI o) 1 := by
    unfold fl_calls fl_calls_34
    simp only [po_b, if_true]
    rw [rmd 10 (show x < 2 ^ 31 by omega) (by decide) (by decide), rmd 10 (show y < 2 ^ 31 by omega) (by decide) (by decide), ← hp9, ← ho9, q_legOf hR hp]
    simp only [po_b]
    rw [q_legOf hR ho]
    simp only [po_b]
  have bad : ∀ s0 : Int32, (p ≠ o → fc_begin V L N (nI p) (nI o) (if (nI y / 10 - nI y / 10 / 2 * 2) ≤ 0 then 0 else 1) = some (.inr 3)) → fl_calls_39 ((V, L, N), a) (nI y) (nI p) (nI o) s0 = some (((V, L, N), a), 1) := fun s0 hb => by
    unfold fl_calls_39 fl_calls_75
    dsimp only
    by_cases e : p = o
    · subst e
      rw [bd_begin (p_begin_same hp), Sum.elim_inr, ex2_2]
      simp only [po_b, if_true]
    · have ne : ¬ nI p = nI o := fun z => e (pn_inj (by omega) (by omega) z)
      rw [bd_begin (hb e), Sum.elim_inr, ex2_3]
      simp only [po_b]
      rw [if_neg ne, if_neg (show ¬ (0 : Int32) ≤ -108 by decide)]
      simp only [if_neg ne, if_true]
      split <;> rfl
  by_cases hb : p ≠ o → fc_begin V L N (nI p) (nI o) (if (nI y / 10 - nI y / 10 / 2 * 2) ≤ 0 then 0 else 1) = some (.inr 3)
  · refine ⟨((V, L, N), a), ρ, γ, ε, ?_, h, Nat.le_refl _⟩
    rw [pre, bad 1 hb, bad 0 hb]
    split
    · rfl
    · split <;> rfl
  · have hpo : p ≠ o := fun z => hb (fun q => absurd z q)
    obtain ⟨xa, hxa, -, exa⟩ := pn_of (hR.r5.2.1 p hp).1
    obtain ⟨xb, hxb, -, exb⟩ := pn_of (hR.r5.2.1 o ho).1
    rcases p_begin (hs := if (nI y / 10 - nI y / 10 / 2 * 2) ≤ 0 then 0 else 1) hR (by omega) hp ho hpo hxa hxb exa exb hJ hP with z | ⟨h9a, h9b, V', L', N', ρ', z1, z2, z3, z4, z5, z6, z7, z8⟩
    · exact absurd (fun _ => z) hb
    · have ne : ¬ nI p = nI o := fun z => hpo (pn_inj (by omega) (by omega) z)
      have hE := (f_begin hR (by omega) (nI p) (nI o) (if (nI y / 10 - nI y / 10 / 2 * 2) ≤ 0 then 0 else 1)).e26 z1 z2
      have i1 : fl_joins ((V', L', N'), a) (nI p) (nI (N 1)) (nI xa) = some ((V', L', N'), jn a (N 4) p (N 1) xa nw) := w_joins c2 c0 (by omega) (by omega) (by omega) hxa
      have i2 : fl_joins ((V', L', N'), jn a (N 4) p (N 1) xa nw) (nI o) (nI (N 1)) (nI xb) = some ((V', L', N'), jn (jn a (N 4) p (N 1) xa nw) (N 4 + 1) o (N 1) xb nw) := w_joins (show jn a (N 4) p (N 1) xa nw 2 2 = nI (N 4 + 1) from cs_at) c0 (by omega) (by omega) (by omega) hxb
      refine ⟨((V', L', N'), cs (jn (jn a (N 4) p (N 1) xa nw) (N 4 + 1) o (N 1) xb nw) 2 1 (nI (N 1 + 1))), ρ', _, _, ?_, ⟨⟨z2, z3, z4⟩, two_nt (w9 := nI (N 1 + 1)) (N := N) (a := a) hN z5, ⟨c0, ?_, ?_, ?_, c4⟩, ?_⟩, hE⟩
      · rw [pre, h9a, if_neg (by decide), h9b, if_pos (by decide)]
        unfold fl_calls_39
        dsimp only
        rw [bd_begin z1, Sum.elim_inl]
        simp only [po_b]
        rw [if_neg ne, if_pos trivial, if_pos (nI_pos' (by omega)), q_cellOf z2 hp, z8, exa]
        simp only [po_b, cn1]
        rw [c1, i1]
        simp only [po_b]
        rw [q_cellOf z2 ho, z8, exb]
        simp only [po_b]
        rw [show jn a (N 4) p (N 1) xa nw 2 1 = a 2 1 from rfl, c1, i2]
        simp only [po_b]
        rw [if_neg (by decide), show jn (jn a (N 4) p (N 1) xa nw) (N 4 + 1) o (N 1) xb nw 2 1 = a 2 1 from rfl, c1, nI_1, cs_at, nI_pred, if_pos rfl]
      · show nI (N 1 + 1) = nI (N' 1)
        rw [z6]
      · show nI (N 4 + 1 + 1) = nI (N' 4)
        rw [z5]
      · show a 2 3 = nI (N' 0)
        rw [z7]
        exact c3
      · show N' 4 ≤ 64
        omega
end WA
