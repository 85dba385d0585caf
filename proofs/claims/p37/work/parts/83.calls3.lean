/-! THE LAW'S CALLS: move -/
section WC
variable {V V' : Rho} {L L' : Lst} {N N' : Cnt} {ρ ρ' : Rho} {t nw i k p c b w j M : Nat} {γ : Nat → Nat → Nat} {ε : Nat → Int32} {a : Rho} {x y : Nat}
theorem gP_cell {k c : Nat} (h0 : γ 0 k < 10) (h1 : γ 1 k < 40) (h2 : γ 2 k < 8) (h3 : γ 3 k < 2) (hc : c < 8) : gP γ k - 1024 * (gP γ k / 1024 % 8) + 1024 * c = gP (xc γ k c) k := by
  have x0 : ∀ col, col ≠ 2 → xc γ k c col k = γ col k := fun col hc => if_neg (fun z => hc z.1)
  have x2 : xc γ k c 2 k = c := if_pos ⟨rfl, rfl⟩
  unfold gP
  rw [x0 0 (by decide), x0 1 (by decide), x2, x0 3 (by decide), x0 4 (by decide)]
  omega
theorem w_calls3 (h : JJ ((V, L, N), a) ρ γ ε M t nw) (ht : t + 1 ≤ 500) (hnw : nw ≤ 16000) (hx : x < 2 ^ 30) (hy : y < 2 ^ 30) : ∃ σ' ρ' γ' ε' t', t ≤ t' ∧ t' ≤ t + 1 ∧ fl_calls ((V, L, N), a) 3 (nI x) (nI y) = some (σ', 1) ∧ JJ σ' ρ' γ' ε' M t' nw ∧ E26 ρ ≤ E26 ρ' := by
  obtain ⟨⟨hR, hJ, hP⟩, hN, ⟨c0, c1, c2, c3, c4⟩, n64⟩ := id h
  have hR : Rel V L N ρ t nw 0 := hR
  have n64 : N 4 ≤ 64 := n64
  have c0 : a 2 0 = nI nw := c0
  obtain ⟨p, hp9⟩ : ∃ p, p = x % 10 := ⟨_, rfl⟩
  have hp : p < 10 := by omega
  obtain ⟨b, hb, -, eb⟩ := pn_of (hR.r5.2.1 p hp).1
  obtain ⟨c, hc, pre⟩ : ∃ c, c < 8 ∧ fl_calls ((V, L, N), a) 3 (nI x) (nI y) = fl_calls_544 ((V, L, N), a) (nI p) (ρ 9 p) (nI b) (nI c) := by
    have f : fl_calls ((V, L, N), a) 3 (nI x) (nI y) = if nI (y % 3) = 0 then fl_calls_544 ((V, L, N), a) (nI p) (ρ 9 p) (nI b) (nI (y / 3 % 8)) else if nI (y % 3) = 1 then fl_calls_544 ((V, L, N), a) (nI p) (ρ 9 p) (nI b) (nI ((b + 1) % 8)) else fl_calls_544 ((V, L, N), a) (nI p) (ρ 9 p) (nI b) (nI ((b + 7) % 8)) := by
      have hy3 : y / 3 < 2 ^ 31 := by omega
      unfold fl_calls fl_calls_540
      simp only [po_b]
      rw [if_neg (show ¬ (3 : Int32) = 0 by decide), if_neg (show ¬ (3 : Int32) = 1 by decide), rmd 10 (show x < 2 ^ 31 by omega) (by decide) (by decide), ← hp9, q_legOf hR hp]
      simp only [po_b]
      rw [if_neg (show ¬ (3 : Int32) = 2 by decide), q_cellOf hR hp, eb]
      simp only [po_b]
      rw [rmd 3 (show y < 2 ^ 31 by omega) (by decide) (by decide), dvd9 3 (show y < 2 ^ 31 by omega) (by decide) (by decide), rmd 8 hy3 (by decide) (by decide), show nI b + 1 = nI (b + 1) from nI_1 b, show nI b + 7 = nI (b + 7) from nI_add b 7, rmd 8 (show b + 1 < 2 ^ 31 by omega) (by decide) (by decide), rmd 8 (show b + 7 < 2 ^ 31 by omega) (by decide) (by decide)]
    by_cases e0 : nI (y % 3) = 0
    · exact ⟨y / 3 % 8, by omega, by rw [f, if_pos e0]⟩
    · by_cases e1 : nI (y % 3) = 1
      · exact ⟨(b + 1) % 8, by omega, by rw [f, if_neg e0, if_pos e1]⟩
      · exact ⟨(b + 7) % 8, by omega, by rw [f, if_neg e0, if_neg e1]⟩
  by_cases hbc : b = c
  · subst hbc
    refine ⟨((V, L, N), a), ρ, γ, ε, t, Nat.le_refl _, by omega, ?_, h, Nat.le_refl _⟩
    rw [pre]
    unfold fl_calls_544 fl_calls_568 fl_calls_580
    dsimp only
    rw [bd_move (p_move_same hR hp hb eb)]
    simp only [po_b]
    rw [q_cellOf hR hp, eb]
    simp only [po_b, if_true]
    rw [q_legOf hR hp]
    simp only [po_b, if_true]
    rcases hR.leg hp with q | ⟨k, hk, q, qa, qp⟩
    · rw [q, if_pos (by decide), if_pos (by decide), if_pos (by first | rfl | trivial)]
    · rw [q, if_neg (pn_m1 (by omega)), if_neg (nI_pos (by omega)), if_neg (nI_pos (by omega)), if_pos (by first | rfl | trivial)]
  · have ncb : ¬ nI c = nI b := fun z => hbc (pn_inj (by omega) (by omega) z.symm)
    have near : ∀ (σ2 : GS) (l on : Int32), (((nI b + 1) - (nI b + 1) / 8 * 8 = nI c ∨ (nI c + 1) - (nI c + 1) / 8 * 8 = nI b) → ∀ r, fl_calls_640 σ2 (nI p) l (nI c) on 1 = r → (if ((nI b + 1) - (nI b + 1) / 8 * 8) = nI c then fl_calls_635 σ2 (nI p) l (nI c) on else if ((nI c + 1) - (nI c + 1) / 8 * 8) = nI b then fl_calls_635 σ2 (nI p) l (nI c) on else fl_calls_640 σ2 (nI p) l (nI c) on 0) = r) := fun σ2 l on hn r hr => by
      unfold fl_calls_635
      by_cases e1 : ((nI b + 1) - (nI b + 1) / 8 * 8) = nI c
      · rw [if_pos e1, hr]
      · rw [if_neg e1, if_pos (hn.resolve_left e1), hr]
    have both : ∀ (σ2 : GS) (l on : Int32) (r : Option (GS × Int32)), fl_calls_640 σ2 (nI p) l (nI c) on 1 = r → fl_calls_640 σ2 (nI p) l (nI c) on 0 = r → (if ((nI b + 1) - (nI b + 1) / 8 * 8) = nI c then fl_calls_635 σ2 (nI p) l (nI c) on else if ((nI c + 1) - (nI c + 1) / 8 * 8) = nI b then fl_calls_635 σ2 (nI p) l (nI c) on else fl_calls_640 σ2 (nI p) l (nI c) on 0) = r := fun σ2 l on r h1 h0 => by
      unfold fl_calls_635
      rw [h1, h0]
      split
      · rfl
      · split <;> rfl
    have hE : ∀ V' L' N' ρ' (u : Int32) t', fc_move V L N (nI p) (nI c) = some (.inl ((V', L', N'), u)) → Rel V' L' N' ρ' t' nw 0 → E26 ρ ≤ E26 ρ' := fun V' L' N' ρ' u t' z1 z2 => (f_move hR (by omega) (nI p) (nI c)).e26 z1 z2
    rcases p_move hR (by omega) hp hc hb eb hbc hJ hP with ⟨h9, V', L', N', ρ', z1, z2, z3, z4, z5, z6, z7⟩ | ⟨k, hk, q, qa, qp, ⟨hn, V', L', N', ρ', z1, z2, z3, z4, z5, z6, z7, z8⟩ | ⟨V', L', N', ρ', z1, z2, z3, z4, z5, z6, z7, z8⟩⟩
    · refine ⟨((V', L', N'), a), ρ', γ, ε, t + 1, by omega, Nat.le_refl _, ?_, h.mk z2 z3 z4 (z5 4 (by decide)) (z5 1 (by decide)) (z5 0 (by decide)), hE _ _ _ _ _ _ z1 z2⟩
      rw [pre, h9]
      unfold fl_calls_544 fl_calls_568 fl_calls_580
      dsimp only
      rw [bd_move z1]
      simp only [po_b]
      rw [if_pos (by decide), if_pos (by decide), if_pos (by first | rfl | trivial), q_cellOf z2 hp, z6]
      simp only [po_b, if_true]
      rw [q_legOf z2 hp, z7]
      simp only [po_b, if_true]
    · have hcl := nI_clamp (show k < 2 ^ 31 by omega)
      have gk := ng (n := 64) (show k < 64 by omega) (by omega)
      obtain ⟨⟨a1, a2, a3, a4, a5, a6, a7⟩, -, -, -, -, -, -⟩ := hJ.1 k (by rw [hR.lgs]; exact hk)
      obtain ⟨n0, n1⟩ := hN k hk
      have n0 : a 0 k = nI (gP γ k) := n0
      have n1 : a 1 k = ε k := n1
      have hk' : k < N' 4 := by rw [z5 4 (by decide)]; exact hk
      refine ⟨((V', L', N'), cs (cs a 1 k (evn (ε k) 1 (nI nw) (nI c))) 0 k (nI (gP (xc γ k c) k))), ρ', xc γ k c, xe ε k (evn (ε k) 1 (nI nw) (nI c)), t + 1, by omega, Nat.le_refl _, ?_, ⟨⟨z2, z3, z4⟩, fun j hj => ?_, ⟨c0, ?_, ?_, ?_, c4⟩, ?_⟩, hE _ _ _ _ _ _ z1 z2⟩
      · have f40 : fl_calls_640 ((V', L', N'), a) (nI p) (nI k) (nI c) 1 1 = some (((V', L', N'), cs (cs a 1 k (evn (ε k) 1 (nI nw) (nI c))) 0 k (nI (gP (xc γ k c) k))), 1) := by
          unfold fl_calls_640 fl_event
          rw [if_neg (show ¬ (1 : Int32) = 0 by decide), hcl, if_neg gk]
          simp only [po_b, cn0, gk, if_false]
          rw [rcs_col (show (0 : Nat) ≠ 1 by decide), n0, pk_cell hc (gP_lt a3 a4 a5 a6 a7), gP_cell a3 a4 a5 a6 hc, n1, c0]
          unfold fl_calls_687 fl_calls_697 fl_calls_724
          rw [if_neg (show ¬ (1 : Int32) = 0 by decide)]
          dsimp only
          rw [q_cellOf z2 hp, z6]
          simp only [po_b, if_true]
          rw [q_stateOf z2 hk', z8]
          simp only [po_b]
          rw [if_neg (show ¬ (1 : Int32) = 0 by decide), if_pos (by first | rfl | trivial), q_legOf z2 hp, z7]
          simp only [po_b]
          rw [if_neg (show ¬ (1 : Int32) = 0 by decide), if_pos (by first | rfl | trivial)]
          rfl
        rw [pre, q]
        unfold fl_calls_544
        dsimp only
        rw [bd_move z1]
        simp only [po_b]
        rw [if_neg (nI_pos (by omega)), if_neg ncb]
        exact near _ _ _ hn _ f40
      · have hj : j < N 4 := by rw [← z5 4 (by decide)]; exact hj
        show cs (cs a 1 k (evn (ε k) 1 (nI nw) (nI c))) 0 k (nI (gP (xc γ k c) k)) 0 j = _ ∧ cs (cs a 1 k (evn (ε k) 1 (nI nw) (nI c))) 0 k (nI (gP (xc γ k c) k)) 1 j = _
        by_cases e : j = k
        · subst e
          rw [cs_at, rcs_col (by decide), cs_at]
          exact ⟨rfl, (if_pos rfl).symm⟩
        · rw [cs_nei e, rcs_col (by decide), rcs_col (by decide), cs_nei e]
          have g : ∀ col, xc γ k c col j = γ col j := fun col => if_neg (fun z => e z.2)
          unfold gP
          rw [g, g, g, g, g]
          exact ⟨(hN j hj).1, (hN j hj).2.trans (if_neg e).symm⟩
      · show a 2 1 = nI (N' 1)
        rw [z5 1 (by decide)]
        exact c1
      · show a 2 2 = nI (N' 4)
        rw [z5 4 (by decide)]
        exact c2
      · show a 2 3 = nI (N' 0)
        rw [z5 0 (by decide)]
        exact c3
      · show N' 4 ≤ 64
        rw [z5 4 (by decide)]
        exact n64
    · have hk' : k < N' 4 := by rw [z5 4 (by decide)]; exact hk
      refine ⟨((V', L', N'), a), ρ', γ, ε, t + 1, by omega, Nat.le_refl _, ?_, h.mk z2 z3 z4 (z5 4 (by decide)) (z5 1 (by decide)) (z5 0 (by decide)), hE _ _ _ _ _ _ z1 z2⟩
      have f97 : fl_calls_697 ((V', L', N'), a) (nI p) (nI k) (nI c) 0 = some (((V', L', N'), a), 1) := by
        unfold fl_calls_697 fl_calls_724
        dsimp only
        rw [q_cellOf z2 hp, z6]
        simp only [po_b, if_true]
        rw [q_stateOf z2 hk', z8]
        simp only [po_b, if_true]
        rw [q_legOf z2 hp, z7]
        simp only [po_b, if_true]
      have f40 : ∀ s0 : Int32, fl_calls_640 ((V', L', N'), a) (nI p) (nI k) (nI c) 0 s0 = some (((V', L', N'), a), 1) := fun s0 => by
        unfold fl_calls_640 fl_calls_687
        rw [if_pos (by first | rfl | trivial), f97]
        split <;> rfl
      rw [pre, q]
      unfold fl_calls_544
      dsimp only
      rw [bd_move z1]
      simp only [po_b]
      rw [if_neg (nI_pos (by omega)), if_neg ncb]
      exact both _ _ _ _ (f40 1) (f40 0)
end WC
