/-! EVENTS, AND THE END OF LEGS -/
section CL
variable {V V' : Rho} {L : Lst} {N : Cnt} {ρ ρ' : Rho} {t nw i k : Nat}
/-- one event more -/
def evV (V : Rho) (N : Cnt) (a b c : Int32) : Rho := cs (cs (cs V 60 (N 3) a) 61 (N 3) b) 62 (N 3) c
def evL (L : Lst) (N : Cnt) (k : Nat) : Lst := lput L 18 k (L 18 k ++ [nI (N 3)])
theorem evL_k : evL L N k 18 k = L 18 k ++ [nI (N 3)] := if_pos ⟨rfl, rfl⟩
theorem evL_ne {j : Nat} (h : j ≠ k) : evL L N k 18 j = L 18 j := if_neg (fun z => h z.2)
theorem evV_old {a b c : Int32} {x : Nat} (h : x < N 3) (d : Nat) : evV V N a b c d x = V d x := by
  unfold evV
  rw [cs_nei (by omega), cs_nei (by omega), cs_nei (by omega)]
theorem evV_new {a b c : Int32} : evV V N a b c 60 (N 3) = a ∧ evV V N a b c 61 (N 3) = b ∧ evV V N a b c 62 (N 3) = c := by
  unfold evV
  refine ⟨?_, ?_, cs_at⟩
  · rw [rcs_col (by decide), rcs_col (by decide), cs_at]
  · rw [rcs_col (by decide), cs_at]
theorem evV_chg {a b c : Int32} : chg [60, 61, 62] V (evV V N a b c) := ((chg.rf.st (by decide)).st (by decide)).st (by decide)
theorem R12.n3 (h : R12 V L N ρ t) (hn : N 4 ≤ 80) (ht : t ≤ 512) : N 3 ≤ 50000 := by
  refine Nat.le_trans h.2 (Nat.le_trans (sumN_le (B := 514) (fun k hk => ?_)) ?_)
  · have := (h.1 k hk).2.1
    have : (if ρ 26 k = 0 then 0 else 1) ≤ 1 := by split <;> omega
    omega
  · have : N 4 * 514 ≤ 80 * 514 := Nat.mul_le_mul_right _ hn
    omega
theorem keep_eq {a b c : Int32} (hk : k < 2 ^ 31) (hl : (L 18 k).length < 600) (hn : N 3 ≤ 50000) : fc_Leg_keepEvent V L N (nI k) a b c = some (evV V N a b c, evL L N k, nup N 3) := by
  unfold fc_Leg_keepEvent
  have h1 : ¬ 100000 ≤ N 3 := by omega
  have h2 : ¬ 1000 ≤ (L 18 k).length := by omega
  rw [nI_clamp hk]
  simp only [po_b, h1, h2, if_false]
  rw [if_neg (show ¬ (600 : Int32) ≤ nI (L 18 k).length from nI_ge (b := 600) hl (by omega))]
  rfl
theorem foldl_seF {V V' : Rho} {l : List Int32} (h : ∀ x ∈ l, V' 60 x.toNatClampNeg = V 60 x.toNatClampNeg ∧ V' 61 x.toNatClampNeg = V 61 x.toNatClampNeg ∧ V' 62 x.toNatClampNeg = V 62 x.toNatClampNeg) : ∀ a : Int32, l.foldl (seF V') a = l.foldl (seF V) a := by
  induction l with
  | nil => exact fun a => rfl
  | cons x l ih =>
    intro a
    obtain ⟨e1, e2, e3⟩ := h x List.mem_cons_self
    rw [List.foldl_cons, List.foldl_cons, ih (fun y hy => h y (List.mem_cons_of_mem _ hy))]
    congr 1
    unfold seF
    rw [e1, e2, e3]
/-- an event of a leg, and the seal -/
theorem R12.ev (h : R12 V L N ρ t) (hk : k < N 4) (hn3 : N 3 ≤ 50000) {a b c : Int32} {t' : Nat} (hc : vp_in c 8) (h23 : ∀ j, j < N 4 → ρ' 23 j = ρ 23 j) (h31 : ρ' 31 k = (trn (ρ 31 k) + 31 * b) ^^^ (8 * a + c)) (h31o : ∀ j, j ≠ k → ρ' 31 j = ρ 31 j) (h26o : ∀ j, j ≠ k → ρ' 26 j = ρ 26 j) (ht : t ≤ t') (hlen : (L 18 k).length + 1 ≤ t' + 1 + (if ρ' 26 k = 0 then 0 else 1)) : R12 (evV V N a b c) (evL L N k) (nup N 3) ρ' t' := by
  have hold : ∀ j, j < N 4 → ∀ x ∈ L 18 j, evV V N a b c 60 x.toNatClampNeg = V 60 x.toNatClampNeg ∧ evV V N a b c 61 x.toNatClampNeg = V 61 x.toNatClampNeg ∧ evV V N a b c 62 x.toNatClampNeg = V 62 x.toNatClampNeg := fun j hj x hx => by
    have := vp_lt ((h.1 j hj).1 x hx).1
    exact ⟨evV_old this _, evV_old this _, evV_old this _⟩
  have hnew : (nI (N 3)).toNatClampNeg = N 3 := nI_clamp (by omega)
  refine ⟨fun j hj => ?_, ?_⟩
  · obtain ⟨q1, q2, q3⟩ := h.1 j hj
    have hmem : ∀ x ∈ L 18 j, vp_in x (nup N 3 3) ∧ vp_in (evV V N a b c 62 x.toNatClampNeg) 8 := fun x hx => by
      rw [(hold j hj x hx).2.2]
      exact ⟨vp_mono (q1 x hx).1 (by rw [nup_self]; omega), (q1 x hx).2⟩
    by_cases e : j = k
    · subst e
      refine ⟨fun x hx => ?_, ?_, ?_⟩
      · rw [evL_k] at hx
        rcases List.mem_append.mp hx with hx | hx
        · exact hmem x hx
        · rw [List.mem_singleton.mp hx, hnew, evV_new.2.2, nup_self]
          exact ⟨vp_in_nI (by omega) (by omega), hc⟩
      · rw [evL_k, List.length_append, List.length_singleton]
        exact hlen
      · rw [evL_k, List.foldl_append, foldl_seF (hold j hj), h23 j hj, q3, h31, List.foldl_cons, List.foldl_nil]
        unfold seF
        rw [hnew, evV_new.1, evV_new.2.1, evV_new.2.2]
    · unfold R12k
      rw [evL_ne e, foldl_seF (hold j hj), h23 j hj, h31o j e, h26o j e]
      exact ⟨hmem, by omega, q3⟩
  · have hat := sumN_at (f := fun k => (L 18 k).length) (g := fun j => (evL L N k 18 j).length) hk (fun j _ hne => by rw [evL_ne hne])
    rw [evL_k, List.length_append, List.length_singleton] at hat
    have := h.2
    show nup N 3 3 ≤ sumN (fun j => (evL L N k 18 j).length) (N 4)
    rw [nup_self]
    omega
theorem R13.old (h12 : R12 V L N ρ t) {a b c : Int32} {F : Nat → Nat → Int32} {j : Nat} (hj : j < N 4) (h : R13k V L ρ F j) (hne : j ≠ k) (hr : ρ' 32 j = ρ 32 j ∧ ρ' 28 j = ρ 28 j ∧ ρ' 29 j = ρ 29 j ∧ ρ' 26 j = ρ 26 j ∧ ρ' 23 j = ρ 23 j ∧ (ρ 26 j = 0 → ρ' 6 (ρ 23 j).toNatClampNeg = ρ 6 (ρ 23 j).toNatClampNeg)) : R13k (evV V N a b c) (evL L N k) ρ' F j := by
  obtain ⟨e1, e2, e3, e4, e5, e6⟩ := hr
  obtain ⟨h1, h2, es, x, h3, h4, h5⟩ := h
  have hold : ∀ x ∈ L 18 j, evV V N a b c 60 x.toNatClampNeg = V 60 x.toNatClampNeg ∧ evV V N a b c 61 x.toNatClampNeg = V 61 x.toNatClampNeg ∧ evV V N a b c 62 x.toNatClampNeg = V 62 x.toNatClampNeg := fun x hx => by
    have := vp_lt ((h12.1 j hj).1 x hx).1
    exact ⟨evV_old this _, evV_old this _, evV_old this _⟩
  have hx : x ∈ L 18 j := by rw [h3]; exact List.mem_append_right _ (List.mem_singleton.mpr rfl)
  unfold R13k
  rw [evL_ne hne, e1, e2, e3, e4, e5]
  refine ⟨evok_V (V := V) (fun _ => rfl) hold h1, ?_, es, x, h3, ?_, ?_⟩
  · rw [evs_V (V := V) (V' := evV V N a b c) (fun _ => rfl) hold]
    exact h2
  · intro q
    rw [(hold x hx).1, (hold x hx).2.2, e6 q]
    exact h4 q
  · intro q
    rw [(hold x hx).1]
    exact h5 q
theorem cntN_mono {P Q : Nat → Bool} {n : Nat} (h : ∀ j, j < n → P j = true → Q j = true) : cntN P n ≤ cntN Q n := by
  induction n with
  | zero => exact Nat.le_refl _
  | succ n ih =>
    have a := ih (fun j hj => h j (by omega))
    have b := h n (by omega)
    unfold cntN
    cases hP : P n
    · rw [if_neg (by decide)]; omega
    · rw [if_pos rfl, if_pos (b hP)]; omega
theorem R11.sec (h : Rel V L N ρ t nw i) (hk : k < N 4) (ha : ρ 26 k = 0) : ρ 0 0 = nI nw ∧ ∃ d : Nat, d ≤ 1 ∧ ρ 32 k = nI (nw + d) ∧ V 84 k + V 88 k = nI (nw + d) := by
  refine ⟨h.r5.2.2.2.2.2.2.1, ?_⟩
  obtain ⟨q1, q2⟩ := h.r11 k hk
  obtain ⟨e1, e2⟩ := q2 ha
  rw [h.c 88 27 (by decide), e1]
  refine ⟨_, ?_, e2, e2⟩
  split <;> omega
theorem R2.up (h : R2 V N) {j : Nat} (hj : ∀ c ∈ idT, c / 20 ≠ j) : R2 V (nup N j) := fun c hc i hi => by
  rw [nup_ne (hj c hc)] at hi
  exact h c hc i hi
/-- how many legs are over -/
def E26 (ρ : Rho) : Nat := cntN (fun k => decide (¬ ρ 26 k = 0)) 80
theorem E26_le : E26 ρ ≤ 80 := cntN_le _ _
theorem E26_eq (h : ρ' 26 = ρ 26) : E26 ρ' = E26 ρ := by
  unfold E26
  rw [h]
theorem cntN_ins {P Q : Nat → Bool} {n a : Nat} (ha : a < n) (h0 : P a = false) (h1 : Q a = true) (ho : ∀ j, j < n → j ≠ a → Q j = P j) : cntN Q n = cntN P n + 1 := by
  induction n with
  | zero => omega
  | succ n ih =>
    unfold cntN
    by_cases e : a = n
    · subst e
      rw [h0, h1, cntN_congr (P := Q) (Q := P) (fun j hj => ho j (by omega) (by omega)), if_pos rfl, if_neg (by decide)]
    · rw [ih (by omega) (fun j hj hne => ho j (by omega) hne), ho n (by omega) (fun z => e z.symm)]
      omega
theorem E26_up (hk : k < 80) (h0 : ρ 26 k = 0) (h1 : ¬ ρ' 26 k = 0) (ho : ∀ j, j ≠ k → ρ' 26 j = ρ 26 j) : E26 ρ' = E26 ρ + 1 := cntN_ins hk (by simp [h0]) (by simp [h1]) (fun j _ hne => by rw [ho j hne])
/-- a leg is over -/
theorem op_finish (h : Rel V L N ρ t nw i) (ht : t ≤ 512) (hk : k < N 4) (ha : ρ 26 k = 0) {st : Int32} (hs3 : st = 1 ∨ st = 2 ∨ st = 3) : ∃ V' ρ', fc_finishLeg V L N (nI k) st = some (V', evL L N k, nup N 3) ∧ fr_stops ρ (nI k) st (ρ 6 (ρ 23 k).toNatClampNeg) = some ρ' ∧ Rel V' (evL L N k) (nup N 3) ρ' t nw i ∧ chg [9, 12, 17, 26, 31, 33, 34] ρ ρ' ∧ ρ' 26 k = st ∧ (∀ j, j ≠ k → ρ' 26 j = ρ 26 j) ∧ (∀ p, ρ' 9 p = if p = (ρ 23 k).toNatClampNeg then -1 else ρ 9 p) ∧ (∀ j, ρ 34 j = 0 → ρ' 34 j = 0) ∧ E26 ρ + 1 ≤ E26 ρ' := by
  have hst : ¬ st = 0 := by rcases hs3 with rfl | rfl | rfl <;> decide
  have hn4 := h.n4
  obtain ⟨a23, a24, a25⟩ := h.r5.2.2.1 k hk
  obtain ⟨p, hp, hp2, ep⟩ := pn_of a23
  have gk := ng (n := 80) (show k < 80 by omega) (by omega)
  have gp := ng (n := 10) hp (by omega)
  have h6 := (h.r5.2.1 p hp).1
  rw [ep, nI_clamp hp2]
  obtain ⟨V1, ρ1, b1, b2, b3, b4, b5, b6, b7, -⟩ := op_back h ht hk
  have hn3 := b3.r12.n3 hn4 ht
  have e26 : ρ1 26 k = 0 := by rw [b5 26 (by decide), ha]
  have e23 : ρ1 23 k = nI p := by rw [b5 23 (by decide), ep]
  obtain ⟨e0, d, hd, e32, e84⟩ := R11.sec b3 hk e26
  have e101 : V1 101 p = ρ 6 p := by rw [b3.c 101 6 (by decide), b5 6 (by decide)]
  have e81 : V1 81 k = nI p := by rw [b3.c 81 23 (by decide), e23]
  have hlen := (b3.r12.1 k hk).2.1
  rw [if_pos e26] at hlen
  have hfin : fc_finishLeg V L N (nI k) st = some (cs (cs (evV V1 N 2 (nI (nw + d)) (ρ 6 p)) 87 k st) 104 p (-1), evL L N k, nup N 3) := by
    unfold fc_finishLeg fc_Leg_firstUnratedSecond
    rw [b1]
    simp only [po_b]
    rw [nI_clamp (show k < 2 ^ 31 by omega), e84, e81, nI_clamp hp2, e101, keep_eq (by omega) (by omega) hn3]
    simp only [po_b]
    have e81' : cs (evV V1 N 2 (nI (nw + d)) (ρ 6 p)) 87 k st 81 k = nI p := e81
    rw [e81', nI_clamp hp2]
  have hstop : fr_stops ρ (nI k) st (ρ 6 p) = some (cs (cs (cs ρ1 26 k st) 9 p (-1)) 31 k ((trn (ρ1 31 k) + 31 * nI (nw + d)) ^^^ (8 * 2 + ρ 6 p))) := by
    have en : ∀ x, fr_notes (cs (cs ρ1 26 k st) 9 p (-1)) (nI k) 2 x (ρ 6 p) = some (cs (cs (cs ρ1 26 k st) 9 p (-1)) 31 k ((trn (ρ1 31 k) + 31 * x) ^^^ (8 * 2 + ρ 6 p))) := fun x => by
      unfold fr_notes fr_turned
      rw [nI_clamp (show k < 2 ^ 31 by omega)]
      simp only [po_b, gk, if_false]
      rfl
    unfold fr_stops
    rw [b2]
    simp only [po_b]
    rw [nI_clamp (show k < 2 ^ 31 by omega)]
    simp only [gk, if_false]
    rw [show cs ρ1 26 k st 23 k = nI p from e23, nI_clamp hp2]
    simp only [gp, if_false]
    rw [show cs (cs ρ1 26 k st) 9 p (-1) 32 k = nI (nw + d) from e32, show cs (cs ρ1 26 k st) 9 p (-1) 0 0 = nI nw from e0, en, en]
    have hnw := b3.r5.2.2.2.2.2.2.2
    by_cases h0 : d = 0
    · subst h0
      rw [Nat.add_zero, if_pos (nI_le (Nat.le_refl _) (by omega))]
      rfl
    · rw [if_neg (nI_ge (by omega) (by omega))]
      rfl
  have hR : chg [9, 26, 31] ρ1 (cs (cs (cs ρ1 26 k st) 9 p (-1)) 31 k ((trn (ρ1 31 k) + 31 * nI (nw + d)) ^^^ (8 * 2 + ρ 6 p))) := ((chg.rf.st (by decide)).st (by decide)).st (by decide)
  have hV : chg [60, 61, 62, 87, 104] V1 (cs (cs (evV V1 N 2 (nI (nw + d)) (ρ 6 p)) 87 k st) 104 p (-1)) := ((evV_chg.sub (by decide)).st (by decide)).st (by decide)
  have f26 : ∀ j, cs (cs (cs ρ1 26 k st) 9 p (-1)) 31 k ((trn (ρ1 31 k) + 31 * nI (nw + d)) ^^^ (8 * 2 + ρ 6 p)) 26 j = if j = k then st else ρ1 26 j := fun j => by
    rw [rcs_col (by decide), rcs_col (by decide)]
    split
    · rename_i e; rw [e, cs_at]
    · rename_i e; rw [cs_nei e]
  have f9 : ∀ q, cs (cs (cs ρ1 26 k st) 9 p (-1)) 31 k ((trn (ρ1 31 k) + 31 * nI (nw + d)) ^^^ (8 * 2 + ρ 6 p)) 9 q = if q = p then -1 else ρ1 9 q := fun q => by
    rw [rcs_col (by decide)]
    split
    · rename_i e; rw [e, cs_at]
    · rename_i e; rw [cs_nei e, rcs_col (by decide)]
  generalize hρ' : cs (cs (cs ρ1 26 k st) 9 p (-1)) 31 k ((trn (ρ1 31 k) + 31 * nI (nw + d)) ^^^ (8 * 2 + ρ 6 p)) = ρ' at hstop hR f26 f9
  have f31 : ρ' 31 k = (trn (ρ1 31 k) + 31 * nI (nw + d)) ^^^ (8 * 2 + ρ 6 p) := by rw [← hρ', cs_at]
  have f31o : ∀ j, j ≠ k → ρ' 31 j = ρ1 31 j := fun j hj => by rw [← hρ', cs_nei hj, rcs_col (by decide), rcs_col (by decide)]
  have g26 : ρ' 26 k = st := by rw [f26, if_pos rfl]
  have g26o : ∀ j, j ≠ k → ρ' 26 j = ρ1 26 j := fun j hj => by rw [f26, if_neg hj]
  generalize hV' : cs (cs (evV V1 N 2 (nI (nw + d)) (ρ 6 p)) 87 k st) 104 p (-1) = V' at hfin hV
  have hVe : agr [60, 61, 62] (evV V1 N 2 (nI (nw + d)) (ρ 6 p)) V' := by
    rw [← hV']
    intro c hc
    rw [rcs_col (by revert c; decide), rcs_col (by revert c; decide)]
  have hleg : ∀ q x, q < 10 → x < N 4 → ρ1 9 q = nI x → (q = p ↔ x = k) := fun q x hq hx e => by
    rcases b3.leg hq with z | ⟨y, hy, z, za, zp⟩
    · rw [z] at e; exact absurd e.symm (pn_m1 (by omega))
    · have e5 : y = x := pn_inj (by omega) (by omega) (z.symm.trans e)
      subst e5
      refine ⟨fun e => ?_, fun e => ?_⟩
      · have e6 := b3.r6.2 k hk e26
        rw [e23, nI_clamp hp2, ← e, z] at e6
        exact pn_inj (by omega) (by omega) e6
      · subst e
        rw [zp] at e23
        exact pn_inj (by omega) (by omega) e23
  refine ⟨V', ρ', hfin, hstop, ⟨?_, (b3.r2.congr (hV.agr (by decide))).up (by decide), b3.r3.congr (hR.agr (by decide)), b3.r4.congr (hV.agr (by decide)) (hR.agr (by decide)), b3.r5.congr (hR.agr (by decide)), ?_, ?_, b3.r8.congr (hV.agr (by decide)) (hR.agr (by decide)), b3.r9.congr (hR.agr (by decide)), b3.r10.congr (hR.agr (by decide)), fun j hj => ?_, ?_, ?_, b3.r14.congr (hR.agr (by decide)), ?_, ?_, fun j => ?_⟩, (b5.sub (C' := [9, 12, 17, 26, 31, 33, 34]) (by decide)).tr (hR.sub (C' := [9, 12, 17, 26, 31, 33, 34]) (by decide)) |>.sub (by decide), g26, fun j hj => by rw [g26o j hj, b5 26 (by decide)], fun q => by rw [f9, b5 9 (by decide)], fun j z => ?_, ?_⟩
  · rw [← hV', ← hρ']
    unfold evV
    exact ((((b3.r1.left (by decide)).left (by decide)).left (by decide)).both (c := 87) (d := 26) (by decide) |>.both (c := 104) (d := 9) (by decide)).right (by decide)
  · refine ⟨fun q hq => ?_, fun j hj q => ?_⟩
    · rw [f9]
      by_cases e : q = p
      · rw [if_pos e]; exact Or.inl rfl
      · rw [if_neg e]
        rcases b3.leg hq with z | ⟨y, hy, z, za, zp⟩
        · exact Or.inl z
        · have hyk : y ≠ k := fun zz => e ((hleg q y hq hy z).mpr zz)
          right
          rw [z, nI_clamp (by omega), g26o y hyk, hR 23 (by decide)]
          exact ⟨vp_in_nI hy (by show N 4 < 2 ^ 31; omega), za, zp⟩
    · have hjk : j ≠ k := fun zz => hst (by rw [← g26, ← zz]; exact q)
      rw [g26o j hjk] at q
      have e1 := b3.r6.2 j hj q
      rw [hR 23 (by decide), f9]
      obtain ⟨y, hy, hy2, ey⟩ := pn_of (b3.r5.2.2.1 j hj).1
      rw [ey, nI_clamp hy2] at e1 ⊢
      rw [if_neg (fun zz => hjk ((hleg y j hy hj e1).mp zz))]
      exact e1
  · refine b3.r7.at k ?_ (fun j _ hne => ⟨by rw [hV 161 (by decide)], by rw [hV 162 (by decide)], g26o j hne, by rw [hR 33 (by decide)], by rw [hR 34 (by decide)], by rw [hR 35 (by decide)]⟩)
    obtain ⟨q1, q2, q3, q4, q5⟩ := b3.r7 k hk
    unfold R7k
    rw [hR 34 (by decide), hR 33 (by decide), hR 35 (by decide), hV 162 (by decide)]
    exact ⟨q1, q2, q3, q4, Or.inl b6⟩
  · unfold R11k
    rw [hR 32 (by decide), hR 27 (by decide), hR 23 (by decide), hV 84 (by decide)]
    refine ⟨(b3.r11 j hj).1, fun q => ?_⟩
    have hjk : j ≠ k := fun zz => hst (by rw [← g26, ← zz]; exact q)
    rw [g26o j hjk] at q
    exact (b3.r11 j hj).2 q
  · refine (b3.r12.ev (k := k) (t' := t) (ρ' := ρ') (a := 2) (b := nI (nw + d)) (c := ρ 6 p) hk hn3 h6 (fun j _ => by rw [hR 23 (by decide)]) f31 f31o g26o (Nat.le_refl t) (by rw [g26, if_neg hst]; omega)).congr hVe (fun _ _ => rfl)
  · obtain ⟨F, hF, hk13⟩ := b3.r13
    refine ⟨F, hF.congr (hV.agr (by decide)), fun j hj => ?_⟩
    have hcg : agr [41, 60, 61, 62] (evV V1 N 2 (nI (nw + d)) (ρ 6 p)) V' := by
      rw [← hV']
      intro c hc
      rw [rcs_col (by revert c; decide), rcs_col (by revert c; decide)]
    by_cases e : j = k
    · subst e
      obtain ⟨w1, w2, es, x, w3, w4, w5⟩ := hk13 j hk
      have hnew : (nI (N 3)).toNatClampNeg = N 3 := nI_clamp (by omega)
      have hold : ∀ x ∈ L 18 j, evV V1 N 2 (nI (nw + d)) (ρ 6 p) 60 x.toNatClampNeg = V1 60 x.toNatClampNeg ∧ evV V1 N 2 (nI (nw + d)) (ρ 6 p) 61 x.toNatClampNeg = V1 61 x.toNatClampNeg ∧ evV V1 N 2 (nI (nw + d)) (ρ 6 p) 62 x.toNatClampNeg = V1 62 x.toNatClampNeg := fun x hx => by
        have := vp_lt ((b3.r12.1 j hk).1 x hx).1
        exact ⟨evV_old this _, evV_old this _, evV_old this _⟩
      have hnw := b3.r5.2.2.2.2.2.2.2
      have hU : (ρ1 32 j).toNatClampNeg = nw + d := by rw [e32, nI_clamp (by omega)]
      have hz : vp_in (V1 41 (ρ 6 p).toNatClampNeg) 3 := by
        rw [b3.c 41 2 (by decide), ← b5 6 (by decide)]
        exact (b3.zone hp).2
      rw [hU] at w1 w2
      have v41 : evV V1 N 2 (nI (nw + d)) (ρ 6 p) 41 = V1 41 := rfl
      refine R13k.congr (V := evV V1 N 2 (nI (nw + d)) (ρ 6 p)) (ρ := ρ') ?_ hcg ⟨rfl, rfl, rfl, rfl, rfl, rfl⟩
      refine ⟨?_, ?_, L 18 j, nI (N 3), evL_k, fun q => absurd (g26.symm.trans q) hst, fun _ => by rw [hnew]; exact evV_new.1⟩
      · rw [hR 32 (by decide), hU, evL_k]
        refine evok_app (U' := nw + d) (evok_V (V := V1) (fun _ => rfl) hold w1) (by rw [hnew]; exact evV_new.2.1) (Nat.le_refl _) (by omega) ?_
        rw [hnew, evV_new.2.2, v41]
        exact hz
      · rw [hR 32 (by decide), hR 28 (by decide), hR 29 (by decide), hU, evL_k, evs_app, hnew, evV_new.1, if_pos rfl, Int32.add_zero, evV_new.2.1, nI_clamp (by omega), evs_V (V := V1) (V' := evV V1 N 2 (nI (nw + d)) (ρ 6 p)) (fun _ => rfl) hold]
        exact w2
    · refine R13k.congr (V := evV V1 N 2 (nI (nw + d)) (ρ 6 p)) (ρ := ρ') ?_ hcg ⟨rfl, rfl, rfl, rfl, rfl, rfl⟩
      exact R13.old b3.r12 hj (hk13 j hj) e ⟨by rw [hR 32 (by decide)], by rw [hR 28 (by decide)], by rw [hR 29 (by decide)], g26o j e, by rw [hR 23 (by decide)], fun _ => by rw [hR 6 (by decide)]⟩
  · intro c hc
    refine Nat.le_trans (cntN_mono (fun q hq hP => ?_)) (b3.r15 c hc)
    unfold ptR at hP ⊢
    rw [f9, hR 24 (by decide)] at hP
    by_cases e : q = p
    · rw [if_pos e] at hP
      simp at hP
    · rw [if_neg e] at hP
      exact hP
  · rw [← hρ']
    exact ((b3.r16.st hk).st2 (by decide)).st2 (by decide)
  · obtain ⟨w0, w1⟩ := b3.r17 j
    rw [hR 27 (by decide), hR 28 (by decide), hR 29 (by decide), hR 32 (by decide)]
    refine ⟨?_, w1⟩
    by_cases e : j = k
    · rw [e, g26]
      rcases hs3 with rfl | rfl | rfl
      · exact vp_in_nI (n := 1) (by decide) (by decide)
      · exact vp_in_nI (n := 2) (by decide) (by decide)
      · exact vp_in_nI (n := 3) (by decide) (by decide)
    · rw [g26o j e]
      exact w0
  · rw [hR 34 (by decide)]
    exact b7 j z
  · exact Nat.le_of_eq (E26_up (by omega) ha (by rw [g26]; exact hst) (fun j hj => by rw [g26o j hj, b5 26 (by decide)])).symm
end CL
