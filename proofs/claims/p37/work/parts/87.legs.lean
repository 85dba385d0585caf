/-! THE LAW'S LEGS: each answers as noted, and those that are over are noted -/
/-- phones with a leg among the first j -/
def PB (ρ : Rho) (j m : Nat) : Prop := m < 1024 ∧ ∀ p, p < 10 → (m.testBit p = true ↔ ∃ k, k < j ∧ ρ 26 k = 0 ∧ ρ 23 k = nI p)
/-- another leg's end is noted -/
def xn (γ : Nat → Nat → Nat) (k : Nat) : Nat → Nat → Nat := fun col j => if col = 3 ∧ j = k then 1 else γ col j
section WG
variable {V : Rho} {L : Lst} {N : Cnt} {ρ : Rho} {t nw i k p c b w j M m : Nat} {γ : Nat → Nat → Nat} {ε : Nat → Int32} {a : Rho} {kk : GS → Int32 → Int32 → Int64 → Option (GS × Int32)} {u : Int64}
theorem cmp_self (x : Int64) : lg_cmp x x = 0 := by
  unfold lg_cmp
  rw [if_neg (by rw [gt_iff_lt, Int64.lt_iff_toInt_lt]; omega), if_pos rfl]
theorem gP_noted (h : γ 3 k = 0) : gP (xn γ k) k = gP γ k + 8192 := by
  have x0 : ∀ col, col ≠ 3 → xn γ k col k = γ col k := fun col hc => if_neg (fun z => hc z.1)
  have x3 : xn γ k 3 k = 1 := if_pos ⟨rfl, rfl⟩
  unfold gP
  rw [x0 0 (by decide), x0 1 (by decide), x0 2 (by decide), x3, x0 4 (by decide), h]
  omega
theorem tag_lo : ∀ z : Int8, ¬ z.toInt32 < -128 ∧ ¬ 127 < z.toInt32 := fun z => by
  have h1 := Int8.toInt_lt z
  have h2 := Int8.le_toInt z
  constructor
  · rw [Int32.lt_iff_toInt_lt, Int8.toInt_toInt32]
    show ¬ z.toInt < -128
    omega
  · rw [Int32.lt_iff_toInt_lt, Int8.toInt_toInt32]
    show ¬ 127 < z.toInt
    omega
/-- the last of what is asked of a leg -/
theorem lg281 (h : JJ ((V, L, N), a) ρ γ ε M t nw) (ht : t ≤ 500) (hj : j < N 4) (hseal : ρ 31 j = ε j) : fl_areLegs_281 kk ((V, L, N), a) 1 (nI j) (nI (γ 0 j)) u = kk ((V, L, N), a) 1 (nI (j + 1)) u := by
  obtain ⟨⟨hR, hJ, hP⟩, hN, -, n64⟩ := id h
  have hR : Rel V L N ρ t nw 0 := hR
  have n64 : N 4 ≤ 64 := n64
  have hcl := nI_clamp (show j < 2 ^ 31 by omega)
  have g64 := ng (n := 64) (show j < 64 by omega) (by omega)
  obtain ⟨⟨a1, a2, a3, a4, a5, a6, a7⟩, b1, ⟨z, b2⟩, b3, -, -, -⟩ := h.lg hj
  have n1 : a 1 j = ε j := (hN j hj).2
  obtain ⟨t1, t2⟩ := tag_lo z.toInt8
  obtain ⟨w26, b27, b28, b29⟩ := hR.r17 j
  unfold fl_areLegs_281 fl_areLegs_362 fl_areLegs_358 fl_areLegs_363
  simp only [po_b]
  rw [if_neg (show ¬ (1 : Int32) = 0 by decide), q_seal hR (by omega) hj, hcl]
  simp only [po_b]
  rw [if_neg g64, if_neg g64, n1, hseal, if_pos (by first | rfl | trivial), q_tag hR hj, b2]
  simp only [po_b]
  rw [if_neg t1, if_neg t2, q_seconds hR hj]
  simp only [po_b]
  rw [nI_1]
  by_cases e : 0 < ρ 27 j
  · rw [if_pos e]
  · have e0 : ρ 27 j = 0 := by
      obtain ⟨v, hv, ev⟩ := nI_of b27.1
      rw [ev] at e ⊢
      by_cases hv0 : v = 0
      · rw [hv0]; rfl
      · exact absurd (show nI 0 < nI v from nI_lt (by omega) hv) e
    obtain ⟨d1, d2, d3⟩ := b3 e0
    rw [if_neg e, ← b2, d1, a1, if_pos rfl, q_ratedByEvents hR (by omega) hj, d2, d3]
    simp only [po_b]
    rw [if_pos (by decide)]
theorem legs_loop (hR : Rel V L N ρ t nw 0) (hP : PA ρ) (ht : t ≤ 500) (hnw : nw ≤ 20000) (n : Nat) : ∀ (j : Nat) (a : Rho) (γ : Nat → Nat → Nat) (ε : Nat → Int32) (m : Nat), JJ ((V, L, N), a) ρ γ ε M t nw → PB ρ j m → N 4 ≤ j + n → j ≤ N 4 → ∃ a' γ' ε' m', JJ ((V, L, N), a') ρ γ' ε' M t nw ∧ PB ρ (N 4) m' ∧ fl_areLegs_33 (n + 1) ((V, L, N), a) 1 (nI j) (Int64.ofNat m) = fl_areLegs_374 FU ((V, L, N), a') 1 0 (Int64.ofNat m') := by
  have hend : ∀ (n : Nat) (a : Rho) (γ : Nat → Nat → Nat) (ε : Nat → Int32) (m : Nat), JJ ((V, L, N), a) ρ γ ε M t nw → PB ρ (N 4) m → ∃ a' γ' ε' m', JJ ((V, L, N), a') ρ γ' ε' M t nw ∧ PB ρ (N 4) m' ∧ fl_areLegs_33 (n + 1) ((V, L, N), a) 1 (nI (N 4)) (Int64.ofNat m) = fl_areLegs_374 FU ((V, L, N), a') 1 0 (Int64.ofNat m') := fun n a γ ε m h hm => by
    have hn4 := hR.n4
    refine ⟨a, γ, ε, m, h, hm, ?_⟩
    have c2 : a 2 2 = nI (N 4) := h.2.2.1.2.2.1
    rw [fl_areLegs_33]
    simp only [cn2, c2]
    rw [if_pos (nI_le (Nat.le_refl _) (by omega))]
    rfl
  induction n with
  | zero =>
    intro j a γ ε m h hm h1 h2
    obtain rfl : j = N 4 := by omega
    exact hend 0 a γ ε m h hm
  | succ n ih =>
    intro j a γ ε m h hm h1 h2
    by_cases hj : j = N 4
    · subst hj; exact hend (n + 1) a γ ε m h hm
    · have hj : j < N 4 := by omega
      obtain ⟨-, hN, ⟨c0, c1, c2, c3, c4⟩, n64⟩ := id h
      have c0 : a 2 0 = nI nw := c0
      have c2 : a 2 2 = nI (N 4) := c2
      have n64 : N 4 ≤ 64 := n64
      have hcl := nI_clamp (show j < 2 ^ 31 by omega)
      have g64 := ng (n := 64) (show j < 64 by omega) (by omega)
      obtain ⟨⟨a1, a2, a3, a4, a5, a6, a7⟩, b1, b2, b3, b4, b5, b6⟩ := h.lg hj
      have n0 : a 0 j = nI (gP γ j) := (hN j hj).1
      have n1 : a 1 j = ε j := (hN j hj).2
      have pre : fl_areLegs_33 (n + 1 + 1) ((V, L, N), a) 1 (nI j) (Int64.ofNat m) = if ρ 26 j ≤ 0 then fl_areLegs_84 (fl_areLegs_33 (n + 1)) ((V, L, N), a) (nI j) (nI (γ 0 j)) (ρ 26 j) (nI (γ 4 j)) (Int64.ofNat m) 0 else fl_areLegs_84 (fl_areLegs_33 (n + 1)) ((V, L, N), a) (nI j) (nI (γ 0 j)) (ρ 26 j) (nI (γ 4 j)) (Int64.ofNat m) 1 := by
        rw [fl_areLegs_33]
        simp only [cn2, c2]
        rw [if_neg (nI_ge hj (by omega)), if_neg (show ¬ (1 : Int32) = 0 by decide), hcl, if_neg g64, n0, pt_phone a3 a4 a5 a6 a7]
        simp only [po_b]
        rw [q_stateOf hR hj]
        simp only [po_b]
        rw [if_neg g64, pt_since a3 a4 a5 a6 a7]
      have hpn : fl_part ((V, L, N), a) (nI (gP γ j)) 13 1 = some (nI (γ 3 j)) := pt_noted a3 a4 a5 a6 a7
      have hpc : fl_part ((V, L, N), a) (nI (gP γ j)) 10 3 = some (nI (γ 2 j)) := pt_cell a3 a4 a5 a6 a7
      by_cases ha : ρ 26 j = 0
      · -- a leg that goes on
        have g0 : γ 3 j = 0 := by
          rcases (show γ 3 j = 0 ∨ γ 3 j = 1 by omega) with z | z
          · exact z
          · exact absurd ha (b4 z).1
        obtain ⟨f1, f2⟩ := b5 g0 ha
        have f9 : ρ 9 (γ 0 j) = nI j := by
          have q := hR.r6.2 j hj ha
          rw [a1, nI_clamp (by omega)] at q
          exact q
        have e32 : ρ 32 j = nI nw := by
          have q := ((hR.r11 j hj).2 ha).2
          rw [if_neg (Nat.not_lt_zero _), Nat.add_zero] at q
          exact q
        have e27 : ρ 27 j = nI nw - nI (γ 4 j) := by rw [← e32, ← b1, Int32.add_sub_cancel]
        have hbit : m.testBit (γ 0 j) = false := by
          cases hb : m.testBit (γ 0 j) with
          | false => rfl
          | true =>
            obtain ⟨k, hk, k1, k2⟩ := (hm.2 _ a3).mp hb
            have q := hR.r6.2 k (by omega) k1
            rw [k2, nI_clamp (by omega), f9] at q
            have := pn_inj (by omega) (by omega) q
            omega
        obtain ⟨s1, s2⟩ := bt_set m hm.1 (γ 0 j) a3
        have hm' : PB ρ (j + 1) (m ||| 2 ^ γ 0 j) := by
          refine ⟨s2, fun p hp => ?_⟩
          rw [Nat.testBit_or, Nat.testBit_two_pow, Bool.or_eq_true, hm.2 p hp, decide_eq_true_eq]
          constructor
          · rintro (⟨k, hk, k1, k2⟩ | e)
            · exact ⟨k, by omega, k1, k2⟩
            · exact ⟨j, by omega, ha, by rw [a1, e]⟩
          · rintro ⟨k, hk, k1, k2⟩
            by_cases e : k = j
            · subst e
              exact Or.inr (pn_inj (by omega) (by omega) (a1.symm.trans k2))
            · exact Or.inl ⟨k, by omega, k1, k2⟩
        obtain ⟨a', γ', ε', m', k1, k2, k3⟩ := ih (j + 1) a γ ε _ h hm' (by omega) (by omega)
        refine ⟨a', γ', ε', m', k1, k2, ?_⟩
        rw [pre, ha, if_pos (by decide)]
        unfold fl_areLegs_84 fl_areLegs_159 fl_areLegs_179
        simp only [po_b, if_true, cn0, c0]
        rw [if_neg (show ¬ (0 : Int32) < 0 by decide), if_neg (show ¬ (4 : Int32) ≤ 0 by decide), q_seconds hR hj]
        simp only [po_b]
        rw [if_pos e27, q_legOf hR a3, f9]
        simp only [po_b, if_true]
        rw [q_cellOf hR a3, f2]
        simp only [po_b, hcl]
        rw [if_neg g64, n0, hpc]
        simp only [po_b, if_true]
        rw [bt_get m hm.1 _ a3, hbit, if_neg (show ¬ false = true by decide), cmp_self, if_pos rfl, if_neg g64, hpn, g0]
        simp only [po_b]
        rw [if_pos (by decide)]
        unfold fl_areLegs_197 fl_areLegs_202 fl_areLegs_219
        simp only [po_b, if_true]
        rw [s1, lg281 h ht hj f1]
        exact k3
      · -- a leg that is over
        obtain ⟨s, hs, -, es⟩ := pn_of (hR.r17 j).1
        have hs0 : 0 < s := by
          by_cases e : s = 0
          · exact absurd (by rw [es, e]; rfl) ha
          · omega
        obtain ⟨vp, vc, vs, vh, vo, -, -, e27, -, -, -, -, ws, -, -, -⟩ := leg_nums hR hj
        obtain ⟨u, hu, -, e32⟩ := pn_of (hR.r11 j hj).1
        rw [if_pos rfl] at hu
        have hle : vs + γ 4 j = u := by
          have q := b1
          rw [e27, e32, nI_add] at q
          exact (nI_eq (by omega) (by omega)).mp q
        have hm' : PB ρ (j + 1) m := by
          refine ⟨hm.1, fun p hp => ?_⟩
          rw [hm.2 p hp]
          constructor
          · rintro ⟨k, hk, k1, k2⟩
            exact ⟨k, by omega, k1, k2⟩
          · rintro ⟨k, hk, k1, k2⟩
            have e : k ≠ j := fun z => ha (by rw [← z]; exact k1)
            exact ⟨k, by omega, k1, k2⟩
        have mid : fl_areLegs_33 (n + 1 + 1) ((V, L, N), a) 1 (nI j) (Int64.ofNat m) = fl_areLegs_219 (fl_areLegs_33 (n + 1)) ((V, L, N), a) 1 (nI j) (nI (γ 0 j)) (nI (γ 4 j)) 1 (Int64.ofNat m) 0 := by
          rw [pre, es, if_neg (nI_nle hs0 (by omega))]
          unfold fl_areLegs_84 fl_areLegs_159 fl_areLegs_179 fl_areLegs_197 fl_areLegs_202
          simp only [po_b, cn0, c0]
          rw [if_neg (nI_pos (by omega)), if_neg (show ¬ (4 : Int32) ≤ nI s from nI_ge (b := 4) hs (by decide)), if_neg (show ¬ (1 : Int32) = 0 by decide), if_neg (show ¬ (1 : Int32) = 0 by decide), q_seconds hR hj, e27]
          simp only [po_b]
          rw [if_neg (show ¬ nI nw - nI (γ 4 j) < nI vs by rw [pk_sub (by omega)]; exact nI_nlt (by omega) (by omega)), hcl, if_neg g64, n0, hpn]
          simp only [po_b]
          rw [if_neg (show ¬ (1 : Int32) = 0 by decide), if_neg (show ¬ (1 : Int32) = 0 by decide)]
          split <;> rfl
        have hor : ∀ x : Int64, x ||| 0 = x := fun x => by simp
        rcases (show γ 3 j = 0 ∨ γ 3 j = 1 by omega) with g0 | g1
        · -- its end is noted now
          have e31 : ρ 31 j = evn (ε j) 2 (nI (γ 4 j) + nI vs) (nI (γ 2 j)) := by
            rw [b6 g0 ha, nI_add, e32, show γ 4 j + vs = u by omega]
          have hx : JJ ((V, L, N), cs (cs a 0 j (nI (gP (xn γ j) j))) 1 j (ρ 31 j)) ρ (xn γ j) (xe ε j (ρ 31 j)) M t nw := by
            refine ⟨⟨hR, ⟨fun q hq => ?_, h.pj.2⟩, hP⟩, fun q hq => ?_, ⟨c0, c1, c2, c3, c4⟩, n64⟩
            · have hL := h.pj.1 q hq
              by_cases e : q = j
              · subst e
                have x0 : ∀ col, col ≠ 3 → xn γ q col q = γ col q := fun col hc => if_neg (fun z => hc z.1)
                have x3 : xn γ q 3 q = 1 := if_pos ⟨rfl, rfl⟩
                have x1 : xe ε q (ρ 31 q) q = ρ 31 q := if_pos rfl
                unfold LG
                rw [x0 0 (by decide), x0 1 (by decide), x0 2 (by decide), x3, x0 4 (by decide), x1]
                exact ⟨⟨a1, a2, a3, a4, a5, by omega, a7⟩, b1, b2, b3, fun _ => ⟨ha, rfl⟩, fun z => absurd z (by decide), fun z => absurd z (by decide)⟩
              · have x0 : ∀ col, xn γ j col q = γ col q := fun col => if_neg (fun z => e z.2)
                have x1 : xe ε j (ρ 31 j) q = ε q := if_neg e
                unfold LG
                rw [x0, x0, x0, x0, x0, x1]
                exact hL
            · show cs (cs a 0 j (nI (gP (xn γ j) j))) 1 j (ρ 31 j) 0 q = _ ∧ cs (cs a 0 j (nI (gP (xn γ j) j))) 1 j (ρ 31 j) 1 q = _
              by_cases e : q = j
              · subst e
                rw [rcs_col (by decide), cs_at, cs_at]
                exact ⟨rfl, (if_pos rfl).symm⟩
              · have x0 : ∀ col, xn γ j col q = γ col q := fun col => if_neg (fun z => e z.2)
                rw [rcs_col (by decide), cs_nei e, cs_nei e, rcs_col (by decide)]
                unfold gP
                rw [x0, x0, x0, x0, x0]
                exact ⟨(hN q hq).1, (hN q hq).2.trans (if_neg e).symm⟩
          obtain ⟨a', γ', ε', m', k1, k2, k3⟩ := ih (j + 1) _ _ _ m hx hm' (by omega) (by omega)
          refine ⟨a', γ', ε', m', k1, k2, ?_⟩
          rw [mid]
          unfold fl_areLegs_219
          simp only [po_b]
          rw [if_neg (show ¬ (1 : Int32) = 0 by decide), hcl, if_neg g64, n0, hpn, g0]
          simp only [po_b]
          rw [if_pos (by decide), if_neg g64, if_neg g64, pk_note (by
            unfold gP
            omega) (gP_lt a3 a4 a5 a6 a7), ← gP_noted g0, if_neg g64, q_seconds hR hj, e27]
          simp only [po_b]
          have y0 : ∀ col, col ≠ 3 → xn γ j col j = γ col j := fun col hc => if_neg (fun z => hc z.1)
          have y3 : xn γ j 3 j = 1 := if_pos ⟨rfl, rfl⟩
          rw [if_neg g64, show cs a 0 j (nI (gP (xn γ j) j)) 0 j = nI (gP (xn γ j) j) from cs_at, pt_cell (γ := xn γ j) (by rw [y0 0 (by decide)]; exact a3) (by rw [y0 1 (by decide)]; exact a4) (by rw [y0 2 (by decide)]; exact a5) (by rw [y3]; decide) (by rw [y0 4 (by decide)]; exact a7), y0 2 (by decide)]
          unfold fl_event
          simp only [po_b]
          rw [if_neg g64, show cs a 0 j (nI (gP (xn γ j) j)) 1 j = ε j from n1, hor, show nI (γ 0 j) = nI (xn γ j 0 j) by rw [y0 0 (by decide)]]
          have e31' : ((((ε j) <<< ((5 : Int32) &&& 31) : Int32) ||| (((ε j : Int32).toUInt32 >>> ((27 : Int32).toUInt32 &&& Int32.toUInt32 31)).toInt32)) + (31 * (nI (γ 4 j) + nI vs))) ^^^ ((8 * 2) + nI (γ 2 j)) = ρ 31 j := e31.symm
          rw [e31', lg281 hx ht hj (if_pos rfl).symm]
          exact k3
        · obtain ⟨a', γ', ε', m', k1, k2, k3⟩ := ih (j + 1) a γ ε m h hm' (by omega) (by omega)
          refine ⟨a', γ', ε', m', k1, k2, ?_⟩
          rw [mid]
          unfold fl_areLegs_219
          simp only [po_b]
          rw [if_neg (show ¬ (1 : Int32) = 0 by decide), hcl, if_neg g64, n0, hpn, g1]
          simp only [po_b]
          rw [if_neg (by decide), hor, lg281 h ht hj (b4 g1).2]
          exact k3
/-- phones, one by one -/
theorem phones_loop (hR : Rel V L N ρ t nw 0) (hm : PB ρ (N 4) m) (n : Nat) : ∀ p, 10 ≤ p + n → p ≤ 10 → fl_areLegs_374 (n + 1) ((V, L, N), a) 1 (nI p) (Int64.ofNat m) = some (((V, L, N), a), 1) := by
  have hend : ∀ n, fl_areLegs_374 (n + 1) ((V, L, N), a) 1 (nI 10) (Int64.ofNat m) = some (((V, L, N), a), 1) := fun n => by
    rw [fl_areLegs_374, if_pos (show (10 : Int32) ≤ nI 10 by decide), if_pos (Or.inr rfl)]
  induction n with
  | zero =>
    intro p h1 h2
    obtain rfl : p = 10 := by omega
    exact hend 0
  | succ n ih =>
    intro p h1 h2
    by_cases hp : p = 10
    · subst hp; exact hend (n + 1)
    · have hp : p < 10 := by omega
      have hn4 := hR.n4
      have i1 := ih (p + 1) (by omega) (by omega)
      obtain ⟨x, hx, -, ex⟩ := pn_of (hR.r5.2.1 p hp).1
      have f61 : fl_areLegs_461 (fl_areLegs_374 (n + 1)) ((V, L, N), a) (nI p) (Int64.ofNat m) = some (((V, L, N), a), 1) := by
        unfold fl_areLegs_461 fl_areLegs_486
        dsimp only
        rw [q_cellOf hR hp, ex]
        simp only [po_b]
        rw [if_neg (nI_pos (by omega)), if_neg (show ¬ (8 : Int32) ≤ nI x from nI_ge (b := 8) hx (by decide)), nI_1]
        exact i1
      rw [fl_areLegs_374, if_neg (show ¬ (10 : Int32) ≤ nI p from nI_ge (b := 10) hp (by decide)), if_neg (show ¬ (1 : Int32) = 0 by decide), bt_get m hm.1 p hp]
      unfold fl_areLegs_403 fl_areLegs_419
      dsimp only
      rw [q_legOf hR hp]
      simp only [po_b]
      rcases hR.leg hp with q | ⟨k, hk, q, qa, qp⟩
      · have hb : m.testBit p = false := by
          cases hb : m.testBit p with
          | false => rfl
          | true =>
            obtain ⟨k, hk, k1, k2⟩ := (hm.2 _ hp).mp hb
            have z := hR.r6.2 k hk k1
            rw [k2, nI_clamp (by omega), q] at z
            exact absurd z.symm (pn_m1 (by omega))
        rw [hb, if_neg (show ¬ false = true by decide), if_neg (show ¬ lg_cmp 0 1 = 0 by decide), q, if_pos (by decide), if_pos (by first | rfl | trivial), if_pos (by first | rfl | trivial), q_sliceOf hR hp, if_pos q]
        simp only [po_b, if_true]
        exact f61
      · have hb : m.testBit p = true := (hm.2 _ hp).mpr ⟨k, hk, qa, qp⟩
        obtain ⟨s, hs, -, es⟩ := pn_of (hR.r7 k hk).1
        rw [hb, if_pos rfl, cmp_self, if_pos rfl, q, if_neg (nI_pos (by omega)), if_pos (by first | rfl | trivial), if_neg (show ¬ (1 : Int32) = 0 by decide), q_sliceOf hR hp, q, if_neg (pn_m1 (by omega)), nI_clamp (by omega), es]
        simp only [po_b]
        rw [if_neg (nI_pos (by omega)), if_neg (show ¬ (100 : Int32) < nI s from nI_nlt (a := 100) (by omega) (by decide))]
        exact f61
theorem w_areLegs (h : JJ ((V, L, N), a) ρ γ ε M t nw) (ht : t ≤ 500) (hnw : nw ≤ 20000) : ∃ a' γ' ε', fl_areLegs ((V, L, N), a) = some (((V, L, N), a'), 1) ∧ JJ ((V, L, N), a') ρ γ' ε' M t nw := by
  obtain ⟨⟨hR, hJ, hP⟩, hN, ⟨c0, c1, c2, c3, c4⟩, n64⟩ := id h
  have hR : Rel V L N ρ t nw 0 := hR
  have c0 : a 2 0 = nI nw := c0
  have c2 : a 2 2 = nI (N 4) := c2
  have hn4 := hR.n4
  have hm : PB ρ 0 0 := ⟨by decide, fun p _ => ⟨fun z => absurd z (by rw [Nat.zero_testBit]; decide), fun ⟨k, hk, _⟩ => absurd hk (Nat.not_lt_zero k)⟩⟩
  obtain ⟨a', γ', ε', m', k1, k2, k3⟩ := legs_loop hR hP ht hnw 2999 0 a γ ε 0 h hm (by omega) (Nat.zero_le _)
  refine ⟨a', γ', ε', ?_, k1⟩
  unfold fl_areLegs fl_areLegs_28
  dsimp only
  rw [q_legs hR]
  simp only [po_b, cn2, cn0, c2, c0, if_true]
  rw [q_now hR]
  simp only [po_b, if_true]
  exact k3.trans (phones_loop hR k2 2999 0 (by omega) (by omega))
end WG
