/-! WHAT STAYS when legs end -/
section CK
variable {V V' : Rho} {L : Lst} {N : Cnt} {ρ ρ' : Rho} {t nw i k M : Nat} {γ : Nat → Nat → Nat} {ε : Nat → Int32} {st w : Int32}
theorem cntN_ex {P : Nat → Bool} {n : Nat} (h : 1 ≤ cntN P n) : ∃ a, a < n ∧ P a = true := by
  induction n with
  | zero => exact absurd (show 1 ≤ 0 from h) (by decide)
  | succ n ih =>
    cases hP : P n with
    | true => exact ⟨n, Nat.lt_succ_self n, hP⟩
    | false =>
      have h2 : 1 ≤ cntN P n + (if P n = true then 1 else 0) := h
      rw [hP] at h2
      obtain ⟨a, ha, hb⟩ := ih h2
      exact ⟨a, by omega, hb⟩
theorem gbk_chg {m : Int32} : chg [12, 17, 34] ρ (gbk ρ k m) := fun c hc => gbk_col (fun z => hc (by rw [z]; decide)) (fun z => hc (by rw [z]; decide)) (fun z => hc (by rw [z]; decide))
theorem stp_chg : chg [9, 12, 17, 26, 31, 33, 34] ρ (stp ρ k st w) :=
  ((((gbk_chg (m := ρ 34 k)).sub (C' := [9, 12, 17, 26, 31, 33, 34]) (by decide)).st (c := 33) (by decide)).st (c := 26) (by decide)).st (c := 9) (by decide) |>.st (c := 31) (by decide)
theorem stp_26 {j : Nat} : stp ρ k st w 26 j = if j = k then st else ρ 26 j := by
  unfold stp
  rw [rcs_col (by decide), rcs_col (by decide)]
  by_cases e : j = k
  · rw [e, cs_at, if_pos rfl]
  · rw [cs_nei e, if_neg e, rcs_col (by decide), gbk_col (by decide) (by decide) (by decide)]
theorem stp_31 {j : Nat} : stp ρ k st w 31 j = if j = k then (trn (ρ 31 k) + 31 * (if ρ 32 k ≤ ρ 0 0 then ρ 0 0 else ρ 32 k)) ^^^ (8 * 2 + w) else ρ 31 j := by
  unfold stp
  by_cases e : j = k
  · rw [e, cs_at, if_pos rfl]
  · rw [cs_nei e, if_neg e, rcs_col (by decide), rcs_col (by decide), rcs_col (by decide), gbk_col (by decide) (by decide) (by decide)]
theorem stp_9 {p : Nat} : stp ρ k st w 9 p = if p = (ρ 23 k).toNatClampNeg then -1 else ρ 9 p := by
  unfold stp
  rw [rcs_col (by decide)]
  by_cases e : p = (ρ 23 k).toNatClampNeg
  · rw [e, cs_at, if_pos rfl]
  · rw [cs_nei e, if_neg e, rcs_col (by decide), rcs_col (by decide), gbk_col (by decide) (by decide) (by decide)]
theorem stp_keep (h : Rel V L N ρ t nw i) (ht : t ≤ 512) (hk : k < N 4) (hM : MQ9 ρ M) (hB : BQ ρ) : MQ9 (stp ρ k st w) M ∧ BQ (stp ρ k st w) := by
  have g := all_keep h ht hk hM hB
  have hc : chg [26, 9, 31] (cs (gbk ρ k (ρ 34 k)) 33 k (-2)) (stp ρ k st w) := ((chg.rf.st (by decide)).st (by decide)).st (by decide)
  exact ⟨g.1.congr (hc.agr (by decide)), g.2.congr (hc.agr (by decide))⟩
theorem stp_pj (h : Rel V L N ρ t nw i) (ht : t ≤ 512) (hk : k < N 4) (ha : ρ 26 k = 0) (hst : ¬ st = 0) (hJ : PJ ρ γ ε M) : PJ (stp ρ k st (ρ 6 (ρ 23 k).toNatClampNeg)) γ ε M := by
  have g := stp_keep (st := st) (w := ρ 6 (ρ 23 k).toNatClampNeg) h ht hk hJ.2.1 hJ.2.2
  refine ⟨fun j hj => ?_, g⟩
  have en : nlg (stp ρ k st (ρ 6 (ρ 23 k).toNatClampNeg)) = nlg ρ := by unfold nlg; rw [stp_chg 22 (by decide)]
  rw [en] at hj
  have hL := hJ.1 j hj
  by_cases e : j = k
  · subst e
    obtain ⟨⟨a1, a2, a3, a4, a5, a6, a7⟩, b, c, d, e1, e2, e3⟩ := hL
    have g0 : γ 3 j = 0 := by
      rcases (show γ 3 j = 0 ∨ γ 3 j = 1 by omega) with z | z
      · exact z
      · exact absurd ha (e1 z).1
    obtain ⟨f1, f2⟩ := e2 g0 ha
    obtain ⟨s0, d0, hd0, s32, -⟩ := R11.sec h hk ha
    have hnw := h.r5.2.2.2.2.2.2.2
    unfold LG
    rw [stp_chg 23 (by decide), stp_chg 24 (by decide), stp_chg 27 (by decide), stp_chg 28 (by decide), stp_chg 29 (by decide), stp_chg 30 (by decide), stp_chg 32 (by decide), stp_chg 6 (by decide), stp_26, if_pos rfl, stp_31, if_pos rfl]
    refine ⟨⟨a1, a2, a3, a4, a5, a6, a7⟩, b, c, d, fun z => by omega, fun _ z => absurd z hst, fun _ _ => ?_⟩
    rw [f1, a1, nI_clamp (by omega), f2]
    have ew : (if ρ 32 j ≤ ρ 0 0 then ρ 0 0 else ρ 32 j) = ρ 32 j := by
      rw [s0, s32]
      by_cases z : d0 = 0
      · subst z; rw [Nat.add_zero, if_pos (nI_le (Nat.le_refl _) (by omega))]
      · rw [if_neg (nI_ge (by omega) (by omega))]
    rw [ew]
    rfl
  · exact hL.congr (fun c hc => by
      by_cases z1 : c = 26
      · rw [z1, stp_26, if_neg e]
      · by_cases z2 : c = 31
        · rw [z2, stp_31, if_neg e]
        · rw [stp_chg c (fun z => by
            simp only [List.mem_cons, List.not_mem_nil, or_false] at hc z
            omega)]) (stp_chg 6 (by decide))
theorem C2_stp (hk : k < 80) (ha : ρ 26 k = 0) : C2 (stp ρ k st w) = C2 ρ + (if st = 2 then 1 else 0) := by
  unfold C2
  by_cases e : st = 2
  · rw [if_pos e]
    refine cntN_ins hk (by rw [ha]; decide) (by rw [stp_26, if_pos rfl, e]; decide) (fun j _ hne => by rw [stp_26, if_neg hne])
  · rw [if_neg e, Nat.add_zero]
    refine cntN_congr (fun j _ => ?_)
    rw [stp_26]
    by_cases z : j = k
    · rw [if_pos z, z, ha, decide_eq_false e]
      decide
    · rw [if_neg z]
theorem pt_stp (h : Rel V L N ρ t nw i) (hk : k < N 4) (ha : ρ 26 k = 0) {c : Nat} (hc : c < 2 ^ 31) (ec : ρ 24 k = nI c) : cntN (ptR (stp ρ k st w) (nI c)) 10 + 1 = cntN (ptR ρ (nI c)) 10 ∧ ∀ c' : Nat, c' < 2 ^ 31 → c' ≠ c → cntN (ptR (stp ρ k st w) (nI c')) 10 = cntN (ptR ρ (nI c')) 10 := by
  have hn4 := h.n4
  obtain ⟨a23, a24, a25⟩ := h.r5.2.2.1 k hk
  have e9 := h.r6.2 k hk ha
  have hp := vp_lt a23
  have e24 : stp ρ k st w 24 = ρ 24 := stp_chg 24 (by decide)
  constructor
  · refine (cntN_ins (P := ptR (stp ρ k st w) (nI c)) (Q := ptR ρ (nI c)) hp ?_ ?_ (fun j _ hne => ?_)).symm
    · unfold ptR
      rw [stp_9, if_pos rfl]
      simp
    · unfold ptR
      rw [e9, nI_clamp (by omega), ec]
      simp [pn_m1 (show k ≤ 100000 by omega)]
    · unfold ptR
      rw [stp_9, if_neg hne, e24]
  · intro c' hc' hne
    refine cntN_congr (fun j _ => ?_)
    unfold ptR
    rw [stp_9, e24]
    by_cases z : j = (ρ 23 k).toNatClampNeg
    · rw [if_pos z, z, e9, nI_clamp (by omega), ec, show decide (nI c = nI c') = false from decide_eq_false (fun q => hne ((nI_eq hc hc').mp q).symm)]
      simp
    · rw [if_neg z]
/-- a leg is over, and perhaps the last one of its call: what stays -/
theorem close_keep (h : Rel V L N ρ t nw i) (ht : t ≤ 512) (hk : k < N 4) (ha : ρ 26 k = 0) (hs3 : st = 1 ∨ st = 2 ∨ st = 3) (hJ : PJ ρ γ ε M) (hP : PA ρ) {c : Nat} (hc40 : c < 40) (ec : ρ 24 k = nI c) : ∃ ρ', fr_closes ρ (nI k) st (ρ 6 (ρ 23 k).toNatClampNeg) = some ρ' ∧ PJ ρ' γ ε M ∧ PA ρ' ∧ C2 ρ' = C2 ρ + (if st = 2 then 1 else 0) ∧ cntN (ptR ρ' (nI c)) 10 = (if cntN (ptR ρ (nI c)) 10 = 2 then 0 else cntN (ptR ρ (nI c)) 10 - 1) ∧ ∀ c' : Nat, c' < 40 → c' ≠ c → cntN (ptR ρ' (nI c')) 10 = cntN (ptR ρ (nI c')) 10 := by
  have hst : ¬ st = 0 := by rcases hs3 with rfl | rfl | rfl <;> decide
  have hn4 := h.n4
  obtain ⟨a23, a24, a25⟩ := h.r5.2.2.1 k hk
  have gk := ng (n := 80) (show k < 80 by omega) (by omega)
  obtain ⟨V1, ρ1, f1, f2, f3, f4, f5, f6, f7, f8, fE⟩ := op_finish h ht hk ha hs3
  have e1 : ρ1 = stp ρ k st (ρ 6 (ρ 23 k).toNatClampNeg) := by
    have z := f2
    rw [stops_eq (by omega) a25 (h.b40 hk) a23] at z
    exact (Option.some.inj z).symm
  have j1 := stp_pj h ht hk ha hst hJ
  have c1 := C2_stp (st := st) (w := ρ 6 (ρ 23 k).toNatClampNeg) (show k < 80 by omega) ha
  obtain ⟨p1, p2⟩ := pt_stp (st := st) (w := ρ 6 (ρ 23 k).toNatClampNeg) h hk ha (show c < 2 ^ 31 by omega) ec
  rw [← e1] at j1 c1 p1 p2
  have hp0 := hP.1 c hc40
  have hk1 : k < nup N 3 4 := hk
  have ec1 : ρ1 24 k = nI c := by rw [f4 24 (by decide), ec]
  have hcnt10 := cntN_le (ptR ρ1 (nI c)) 10
  have hpar := pr_parties (ρ := ρ1) (c := nI c) f3.p80
  have hrl : fr_closes ρ (nI k) st (ρ 6 (ρ 23 k).toNatClampNeg) = if nI (cntN (ptR ρ1 (nI c)) 10) = 1 then fr_closes_24 FU ρ1 (nI k) 0 else some ρ1 := by
    unfold fr_closes
    rw [f2]
    simp only [po_b]
    rw [nI_clamp (show k < 2 ^ 31 by omega), if_neg gk, ec1, hpar]
    simp only [po_b]
  by_cases h1 : cntN (ptR ρ1 (nI c)) 10 = 1
  · rw [h1, if_pos (show nI 1 = 1 by decide)] at hrl
    obtain ⟨pj, hpj, hpt⟩ := cntN_ex (P := ptR ρ1 (nI c)) (n := 10) (by omega)
    have hpt2 := hpt
    unfold ptR at hpt2
    simp only [Bool.and_eq_true, decide_eq_true_eq] at hpt2
    rcases f3.leg hpj with z | ⟨j, hj1, e9, hx2, epj⟩
    · exact absurd z hpt2.1
    · have hj4 : j < N 4 := hj1
      have hj2 : ρ1 24 j = nI c := by
        have z := hpt2.2
        rw [e9, nI_clamp (by omega)] at z
        exact z
      obtain ⟨V2, ρ2, g1, g2, g3, g4, g5, g6, g7, g8, gE⟩ := op_finish f3 ht hj1 hx2 (st := 1) (by decide)
      have e2 : ρ2 = stp ρ1 j 1 (ρ1 6 (ρ1 23 j).toNatClampNeg) := by
        have z := g2
        rw [stops_eq (by omega) (f3.r5.2.2.1 j hj1).2.2 (f3.b40 hj1) (f3.r5.2.2.1 j hj1).1] at z
        exact (Option.some.inj z).symm
      have j2 := stp_pj f3 ht hj1 hx2 (st := 1) (by decide) j1
      have c2 := C2_stp (st := 1) (w := ρ1 6 (ρ1 23 j).toNatClampNeg) (show j < 80 by omega) hx2
      obtain ⟨r1, r2⟩ := pt_stp (st := 1) (w := ρ1 6 (ρ1 23 j).toNatClampNeg) f3 hj1 hx2 (show c < 2 ^ 31 by omega) hj2
      rw [← e2] at j2 c2 r1 r2
      rw [if_neg (by decide)] at c2
      rw [epj, nI_clamp (show pj < 2 ^ 31 by omega)] at g2 g7
      have hloop := cl_loop1 (ρ := ρ1) (ρ' := ρ2) (k := k) f3.p80 (by omega) hpj (show j < 80 by omega) e9 (by rw [hj2, ec1]) g2 (fun q hq hne => by
        rw [ec1]
        cases hb : ptR ρ1 (nI c) q
        · rfl
        · exact absurd (cntN_uniq h1 hq hpj hb hpt) hne) (fun q => g7 q) (g4 24 (by decide)) 2999 0 (by omega) (by omega)
      refine ⟨ρ2, hrl.trans hloop, j2, ⟨fun c' hc' => ?_, fun q hq => by rw [g4 8 (by decide), f4 8 (by decide)]; exact hP.2 q hq⟩, by rw [c2, c1, Nat.add_zero], ?_, fun c' hc' hne => ?_⟩
      · by_cases e : c' = c
        · subst e; omega
        · rw [r2 c' (by omega) e, p2 c' (by omega) e]
          exact hP.1 c' hc'
      · rw [if_pos (by omega)]
        omega
      · rw [r2 c' (by omega) hne, p2 c' (by omega) hne]
  · rw [if_neg (show ¬ nI (cntN (ptR ρ1 (nI c)) 10) = 1 from fun z => h1 ((nI_eq (a := cntN (ptR ρ1 (nI c)) 10) (b := 1) (by omega) (by omega)).mp z))] at hrl
    refine ⟨ρ1, hrl, j1, ⟨fun c' hc' => ?_, fun q hq => by rw [f4 8 (by decide)]; exact hP.2 q hq⟩, c1, ?_, fun c' hc' hne => p2 c' (by omega) hne⟩
    · by_cases e : c' = c
      · subst e; exact h1
      · rw [p2 c' (by omega) e]
        exact hP.1 c' hc'
    · rw [if_neg (by omega)]
      omega
end CK
