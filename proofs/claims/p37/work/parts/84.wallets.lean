/-! THE LAW'S WALLETS -/
section WD
variable {V V' : Rho} {L L' : Lst} {N N' : Cnt} {ρ ρ' : Rho} {t nw i k p c b w j M : Nat} {γ : Nat → Nat → Nat} {ε : Nat → Int32} {a : Rho} {x y : Nat}
theorem bd_give {a1 a2 a3 : Int32} {q : (Rho × Int32) ⊕ Nat} (h : fc_give V L N a1 a2 a3 = some q) : ak_give (V, L, N) a1 a2 a3 = Sum.elim (fun u => some ((u.1, L, N), u.2)) (ex2 (V, L, N)) q := by
  unfold ak_give
  dsimp only
  rw [h]
  rfl
theorem bd_buy {a1 a2 a3 a4 a5 a6 : Int32} {q : (CW × Int32) ⊕ Nat} (h : fc_buy V L N a1 a2 a3 a4 a5 a6 = some q) : ak_buy (V, L, N) a1 a2 a3 a4 a5 a6 = Sum.elim some (ex3 (V, L, N)) q := by
  unfold ak_buy
  dsimp only
  rw [h]
  rfl
theorem ex3_3 {W : CW} : ex3 W 3 = some (W, -108) := rfl
theorem bd_top {a1 a2 : Int32} {q : Rho × Int32} (h : fc_top V L N a1 a2 = some (.inl q)) : dv_top (V, L, N) a1 a2 = some ((q.1, L, N), q.2) := by
  unfold dv_top
  dsimp only
  rw [h]
  rfl
theorem w_topup (h : JJ ((V, L, N), a) ρ γ ε M t nw) (ht : t + 1 ≤ 500) (hM : M ≤ 5000000) (hw : w < 4) (hy : y < 2 ^ 30) {d : Nat} {D : Int32} (hD : D = nI d) (hd0 : 0 < d) (hd : d ≤ 20000) : ∃ σ' ρ' M', M' ≤ M + 20000 ∧ fl_wallets_34 ((V, L, N), a) (nI w) (nI (fre ρ w)) 1 (nI y) D = some (σ', 1) ∧ JJ σ' ρ' γ ε M' (t + 1) nw ∧ E26 ρ ≤ E26 ρ' := by
  subst hD
  obtain ⟨⟨hR, hJ, hP⟩, hN, ⟨c0, c1, c2, c3, c4⟩, n64⟩ := id h
  have hR : Rel V L N ρ t nw 0 := hR
  have c4 : a 2 4 = nI M := c4
  have hyd := Nat.mod_lt y hd0
  obtain ⟨V', ρ', z1, z2, z3, z4⟩ := p_top hR (by omega) hw (show 1 ≤ 1 + y % d by omega) (show 1 + y % d ≤ 1000000 by omega) hJ hP (by omega)
  have hE := (f_top hR (by omega) (nI w) (nI (1 + y % d))).e26 z1 z2
  refine ⟨((V', L, N), cs a 2 4 (nI (M + (1 + y % d)))), ρ', M + (1 + y % d), by omega, ?_, ⟨⟨z2, z3, z4⟩, hN, ⟨c0, c1, c2, c3, show cs a 2 4 (nI (M + (1 + y % d))) 2 4 = _ from cs_at⟩, n64⟩, hE⟩
  unfold fl_wallets_34
  rw [if_neg (nI_ne0 hd0 (by omega)), pk_rem (by omega) hd0 (by omega), show (1 : Int32) + nI (y % d) = nI (1 + y % d) from nI_add 1 (y % d)]
  simp only [po_b, cn4]
  rw [if_neg (by decide), c4, nI_add, bd_top z1]
  simp only [po_b]
  rw [nI_add, if_pos (by first | rfl | trivial)]
theorem w_buys (h : JJ ((V, L, N), a) ρ γ ε M t nw) (ht : t ≤ 500) (hM : M ≤ 5000000) (hw : w < 4) (hx : x < 2 ^ 30) (hy : y < 2 ^ 30) {m : Nat} (hm : m ≤ 1000000) : ∃ σ' ρ' M', M' ≤ M + 20000 ∧ fl_wallets_165 ((V, L, N), a) (nI x) (nI y) (nI w) (nI (fre ρ w)) (nI m) = some (σ', 1) ∧ JJ σ' ρ' γ ε M' t nw ∧ E26 ρ ≤ E26 ρ' := by
  obtain ⟨⟨hR, hJ, hP⟩, hN, ⟨c0, c1, c2, c3, c4⟩, n64⟩ := id h
  have hR : Rel V L N ρ t nw 0 := hR
  have c3 : a 2 3 = nI (N 0) := c3
  have c4 : a 2 4 = nI M := c4
  have hn0 := hR.r3.2.1.2.1
  have hfl := fre_le hJ.2.1 hw
  have hfe := hR.r14.eq hw
  obtain ⟨s, hs⟩ : ∃ s, s = 1 + x / 4 % 60 := ⟨_, rfl⟩
  have e1 : (1 : Int32) + (nI x / 4 - nI x / 4 / 60 * 60) = nI s := by
    rw [dvd9 4 (show x < 2 ^ 31 by omega) (by decide) (by decide), rmd 60 (show x / 4 < 2 ^ 31 by omega) (by decide) (by decide), hs]
    exact nI_add 1 _
  have e2 : (1 : Int32) + (nI y / 900 - nI y / 900 / 7 * 7) = nI (1 + y / 900 % 7) := by
    rw [dvd9 900 (show y < 2 ^ 31 by omega) (by decide) (by decide), rmd 7 (show y / 900 < 2 ^ 31 by omega) (by decide) (by decide)]
    exact nI_add 1 _
  have e3 : (1 : Int32) + (nI x / 240 - nI x / 240 / 3 * 3) = nI (1 + x / 240 % 3) := by
    rw [dvd9 240 (show x < 2 ^ 31 by omega) (by decide) (by decide), rmd 3 (show x / 240 < 2 ^ 31 by omega) (by decide) (by decide)]
    exact nI_add 1 _
  have e4 : nI y - nI y / 10 * 10 = nI (y % 10) := rmd 10 (by omega) (by decide) (by decide)
  rcases p_buy hR (by omega) (w := w) (m := m) (s := s) (z := 1 + y / 900 % 7) (d := 1 + x / 240 % 3) (r := y % 10) hw (by omega) (by omega) (by omega) (by omega) (by omega) (by omega) (by omega) hm hJ hP (by omega) with ⟨z0, z1⟩ | ⟨z0, z00, V', L', N', ρ', z1, z2, z3, z4, z5, z6, z7, z8, z9, z10⟩
  · refine ⟨((V, L, N), a), ρ, M, by omega, ?_, h, Nat.le_refl _⟩
    have f28 : fl_wallets_228 ((V, L, N), a) (nI w) (nI (fre ρ w)) (-108) = some (((V, L, N), a), 1) := by
      unfold fl_wallets_228
      dsimp only
      rw [if_pos (by first | rfl | trivial), q_free hR hw, hfe]
      simp only [po_b, if_true]
    unfold fl_wallets_165
    dsimp only
    rw [e1, e2, e3, e4]
    simp only [po_b]
    rw [bd_buy z1, Sum.elim_inr, ex3_3]
    simp only [po_b, cn3]
    rcases z0 with z0 | z0
    · rw [if_pos (nI_lt z0 (by omega)), f28]
    · rw [c3, z0, f28, if_pos (show nI 40 = 40 by decide)]
      split <;> rfl
  · have hE := (f_buy hR (by omega) (nI w) (nI (1 + y / 900 % 7)) (nI s) (nI (1 + x / 240 % 3)) (nI (y % 10)) (nI m)).e26 z1 z2
    refine ⟨((V', L', N'), cs (cs a 2 3 (nI (N 0 + 1))) 2 4 (nI (M - m))), ρ', M - m, by omega, ?_, ⟨⟨z2, z3, z4⟩, fun k hk => hN k (show k < N 4 by rw [← z5]; exact hk), ⟨c0, ?_, ?_, ?_, show cs (cs a 2 3 (nI (N 0 + 1))) 2 4 (nI (M - m)) 2 4 = _ from cs_at⟩, ?_⟩, hE⟩
    · unfold fl_wallets_165
      dsimp only
      rw [e1, e2, e3, e4]
      simp only [po_b]
      rw [bd_buy z1, Sum.elim_inl]
      simp only [po_b, cn3, cn4]
      rw [if_neg (nI_nlt z0 (by omega)), c3, if_neg (show ¬ nI (N 0) = 40 from fun z => by
        have := pn_inj (b := 40) (by omega) (by omega) z
        omega), if_neg (by decide), if_neg (by decide), nI_1, cs_nei (show (4 : Nat) ≠ 3 by decide), c4, pk_sub (by omega), cs_nei (show (3 : Nat) ≠ 4 by decide), cs_at, nI_pred, if_pos (by first | rfl | trivial), q_left z2 (show N 0 < N' 0 by omega)]
      simp only [po_b]
      rw [if_pos z10, z9, if_pos (by first | rfl | trivial), q_free z2 hw, z8]
      simp only [po_b]
      rw [pk_sub z0, if_pos (by first | rfl | trivial)]
    · show cs (cs a 2 3 (nI (N 0 + 1))) 2 4 (nI (M - m)) 2 1 = nI (N' 1)
      rw [cs_nei (by decide), cs_nei (by decide), z6]
      exact c1
    · show cs (cs a 2 3 (nI (N 0 + 1))) 2 4 (nI (M - m)) 2 2 = nI (N' 4)
      rw [cs_nei (by decide), cs_nei (by decide), z5]
      exact c2
    · show cs (cs a 2 3 (nI (N 0 + 1))) 2 4 (nI (M - m)) 2 3 = nI (N' 0)
      rw [cs_nei (by decide), cs_at, z7]
    · show N' 4 ≤ 64
      rw [z5]
      exact n64
theorem w_wallets (h : JJ ((V, L, N), a) ρ γ ε M t nw) (ht : t + 1 ≤ 500) (hM : M ≤ 5000000) (hx : x < 2 ^ 30) (hy : y < 2 ^ 30) {z : Int32} (hz : z = 0 ∨ z = 1 ∨ z = 2) : ∃ σ' ρ' M' t', t' ≤ t + 1 ∧ M' ≤ M + 20000 ∧ fl_wallets ((V, L, N), a) z (nI x) (nI y) = some (σ', 1) ∧ JJ σ' ρ' γ ε M' t' nw ∧ E26 ρ ≤ E26 ρ' := by
  obtain ⟨⟨hR, hJ, hP⟩, -⟩ := id h
  have hR : Rel V L N ρ t nw 0 := hR
  obtain ⟨w, hw9⟩ : ∃ w, w = x % 4 := ⟨_, rfl⟩
  have hw : w < 4 := by omega
  have hfe := hR.r14.eq hw
  have hfl := fre_le hJ.2.1 hw
  have e4 : nI x - nI x / 4 * 4 = nI w := by rw [rmd 4 (show x < 2 ^ 31 by omega) (by decide) (by decide), hw9]
  have f4 : nI y - nI y / 4 * 4 = nI (y % 4) := rmd 4 (by omega) (by decide) (by decide)
  rcases hz with rfl | rfl | rfl
  · have pre : fl_wallets ((V, L, N), a) 0 (nI x) (nI y) = if nI (y % 4) = 0 then fl_wallets_34 ((V, L, N), a) (nI w) (nI (fre ρ w)) 1 (nI y) 20000 else fl_wallets_34 ((V, L, N), a) (nI w) (nI (fre ρ w)) 1 (nI y) 900 := by
      unfold fl_wallets
      dsimp only
      rw [e4, f4]
      simp only [po_b]
      rw [q_free hR hw, hfe]
      simp only [po_b, if_true]
    rw [pre]
    split
    · obtain ⟨σ', ρ', M', h1, h2, h3, h4⟩ := w_topup h ht hM hw hy (show (20000 : Int32) = nI 20000 by rfl) (by decide) (by decide)
      exact ⟨σ', ρ', M', t + 1, Nat.le_refl _, h1, h2, h3, h4⟩
    · obtain ⟨σ', ρ', M', h1, h2, h3, h4⟩ := w_topup h ht hM hw hy (show (900 : Int32) = nI 900 by rfl) (by decide) (by decide)
      exact ⟨σ', ρ', M', t + 1, Nat.le_refl _, h1, h2, h3, h4⟩
  · obtain ⟨o, ho9⟩ : ∃ o, o = y % 4 := ⟨_, rfl⟩
    have ho : o < 4 := by omega
    obtain ⟨m, hm9⟩ : ∃ m, m = 1 + y / 4 % 500 := ⟨_, rfl⟩
    have em : (1 : Int32) + (nI y / 4 - nI y / 4 / 500 * 500) = nI m := by
      rw [dvd9 4 (show y < 2 ^ 31 by omega) (by decide) (by decide), rmd 500 (show y / 4 < 2 ^ 31 by omega) (by decide) (by decide), hm9]
      exact nI_add 1 _
    have pre : fl_wallets ((V, L, N), a) 1 (nI x) (nI y) = (ak_give (V, L, N) (nI w) (nI o) (nI m)).bind fun o5 => if nI w = nI o then (if o5.2 = -109 then some ((o5.1, a), 1) else some ((o5.1, a), 0)) else if nI m ≤ nI (fre ρ w) then (if o5.2 = nI (fre ρ w) - nI m then some ((o5.1, a), 1) else some ((o5.1, a), 0)) else (if o5.2 = -108 then some ((o5.1, a), 1) else some ((o5.1, a), 0)) := by
      unfold fl_wallets
      dsimp only
      rw [e4, f4, em, ← ho9]
      simp only [po_b]
      rw [q_free hR hw, hfe]
      simp only [po_b]
      rw [if_neg (by decide), if_pos (by first | rfl | trivial)]
    rcases p_give hR (by omega) hw ho (show 1 ≤ m by omega) (show m ≤ 1000000 by omega) hJ hP (by omega) with ⟨z0, z1⟩ | ⟨z0, z00, z1⟩ | ⟨z0, z00, V', ρ', z1, z2, z3, z4⟩
    · refine ⟨((V, L, N), a), ρ, M, t, by omega, by omega, ?_, h, Nat.le_refl _⟩
      rw [pre, bd_give z1, Sum.elim_inr, ex2_2]
      simp only [po_b]
      rw [z0, if_pos (by first | rfl | trivial), if_pos (by first | rfl | trivial)]
    · refine ⟨((V, L, N), a), ρ, M, t, by omega, by omega, ?_, h, Nat.le_refl _⟩
      rw [pre, bd_give z1, Sum.elim_inr, ex2_3]
      simp only [po_b]
      rw [if_neg (fun z => z0 (pn_inj (by omega) (by omega) z)), if_neg (nI_ge z00 (by omega)), if_pos (by first | rfl | trivial)]
    · have hE := (f_give hR (by omega) (nI w) (nI o) (nI m)).e26 z1 z2
      refine ⟨((V', L, N), a), ρ', M, t, by omega, by omega, ?_, h.mk z2 z3 z4 rfl rfl rfl, hE⟩
      rw [pre, bd_give z1, Sum.elim_inl]
      simp only [po_b]
      rw [if_neg (fun z => z0 (pn_inj (by omega) (by omega) z)), if_pos (nI_le z00 (by omega)), pk_sub z00, if_pos (by first | rfl | trivial)]
  · have pre : fl_wallets ((V, L, N), a) 2 (nI x) (nI y) = if nI (y % 3) = 0 then fl_wallets_165 ((V, L, N), a) (nI x) (nI y) (nI w) (nI (fre ρ w)) (nI (y / 3 % 300)) else fl_wallets_165 ((V, L, N), a) (nI x) (nI y) (nI w) (nI (fre ρ w)) (nI (y / 3 % 20)) := by
      unfold fl_wallets
      dsimp only
      rw [e4]
      simp only [po_b]
      rw [q_free hR hw, hfe]
      simp only [po_b]
      rw [if_neg (by decide), if_neg (by decide), rmd 3 (show y < 2 ^ 31 by omega) (by decide) (by decide), dvd9 3 (show y < 2 ^ 31 by omega) (by decide) (by decide), rmd 300 (show y / 3 < 2 ^ 31 by omega) (by decide) (by decide), rmd 20 (show y / 3 < 2 ^ 31 by omega) (by decide) (by decide)]
    rw [pre]
    split
    · obtain ⟨σ', ρ', M', h1, h2, h3, h4⟩ := w_buys h (by omega) hM hw hx hy (m := y / 3 % 300) (by omega)
      exact ⟨σ', ρ', M', t, by omega, h1, h2, h3, h4⟩
    · obtain ⟨σ', ρ', M', h1, h2, h3, h4⟩ := w_buys h (by omega) hM hw hx hy (m := y / 3 % 20) (by omega)
      exact ⟨σ', ρ', M', t, by omega, h1, h2, h3, h4⟩
end WD
