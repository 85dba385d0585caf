/-! A CALL'S LEGS: how many go on; the end of a leg, and of the last one with it -/
theorem cntN_pos {P : Nat → Bool} {n a : Nat} (ha : a < n) (hP : P a = true) : 1 ≤ cntN P n := by
  induction n with
  | zero => omega
  | succ n ih =>
    unfold cntN
    by_cases e : a = n
    · subst e; rw [if_pos hP]; omega
    · have := ih (by omega); omega
theorem cntN_two {P : Nat → Bool} {n a b : Nat} (hab : a < b) (hb : b < n) (hP : P a = true) (hQ : P b = true) : 2 ≤ cntN P n := by
  induction n with
  | zero => omega
  | succ n ih =>
    unfold cntN
    by_cases e : b = n
    · subst e
      have := cntN_pos (P := P) hab hP
      rw [if_pos hQ]; omega
    · have := ih (by omega); omega
theorem cntN_uniq {P : Nat → Bool} {n a b : Nat} (h : cntN P n = 1) (ha : a < n) (hb : b < n) (hP : P a = true) (hQ : P b = true) : a = b := by
  rcases Nat.lt_trichotomy a b with q | q | q
  · have := cntN_two q hb hP hQ; omega
  · exact q
  · have := cntN_two q ha hQ hP; omega
theorem onl_ne {l : List Int32} (h : l.length ≠ 1) : onl l = -1 := by
  match l with
  | [] => rfl
  | [x] => exact absurd rfl h
  | _ :: _ :: _ => rfl
theorem lvs_app {V : Rho} {a b : List Int32} : lvs V (a ++ b) = lvs V a ++ lvs V b := List.filter_append ..
theorem mem_succ {ρ : Rho} {n c : Nat} : mem ρ (n + 1) c = if ρ 24 n = nI c then mem ρ n c ++ [n] else mem ρ n c := by
  unfold mem
  rw [List.range_succ, List.filter_append, List.filter_cons, List.filter_nil]
  by_cases h : ρ 24 n = nI c
  · rw [if_pos (decide_eq_true h), if_pos h]
  · rw [if_neg (fun z => h (of_decide_eq_true z)), if_neg h, List.append_nil]
theorem mem_in {ρ : Rho} {n c j : Nat} : j ∈ mem ρ n c ↔ j < n ∧ ρ 24 j = nI c := by
  unfold mem
  rw [List.mem_filter, List.mem_range]
  exact ⟨fun q => ⟨q.1, of_decide_eq_true q.2⟩, fun q => ⟨q.1, decide_eq_true q.2⟩⟩
section CA
variable {V V' : Rho} {L : Lst} {N : Cnt} {ρ ρ' : Rho} {t nw i k : Nat}
theorem lvs_len {c : Nat} (n : Nat) (hn : n ≤ 80) : nI (lvs V ((mem ρ n c).map nI)).length = sumI (fun j => if V 87 j = 0 then (if ρ 24 j = nI c then 1 else 0) else 0) n := by
  induction n with
  | zero => exact nI_0
  | succ n ih =>
    rw [mem_succ, sumI, ← ih (by omega)]
    by_cases h : ρ 24 n = nI c
    · rw [if_pos h, if_pos h, List.map_append, List.map_cons, List.map_nil, lvs_app, lvs_cons, nI_clamp (show n < 2 ^ 31 by omega), List.length_append, ← nI_add]
      by_cases h2 : V 87 n = 0
      · rw [if_pos h2, if_pos h2]
        rfl
      · rw [if_neg h2, if_neg h2]
        rfl
    · rw [if_neg h, if_neg h, ite_self, Int32.add_zero]
theorem mem_len {n c : Nat} : (mem ρ n c).length ≤ n := by
  have := List.length_filter_le (fun k => decide (ρ 24 k = nI c)) (List.range n)
  rw [List.length_range] at this
  exact this
/-- how many go on: both count the same -/
theorem Rel.cnt (h : Rel V L N ρ t nw i) {c : Nat} (hc : c < N 1) : (lvs V (L 17 c)).length = cntN (ptR ρ (nI c)) 10 := by
  have hn4 := h.n4
  have e1 := lvs_len (V := V) (ρ := ρ) (c := c) (N 4) hn4
  have e2 := h.r6.sum hn4 (fun k hk => (h.r5.2.2.1 k hk).1) (fun j => if ρ 24 j = nI c then 1 else 0)
  rw [← h.r10 c hc] at e1
  rw [h.c 87 26 (by decide)] at e1
  rw [← e2] at e1
  have e3 : sumI (fun p => if ρ 9 p = -1 then 0 else (if ρ 24 (ρ 9 p).toNatClampNeg = nI c then 1 else 0)) 10 = nI (cntN (ptR ρ (nI c)) 10) := by
    rw [nI_cnt]
    refine sumI_congr fun p _ => ?_
    unfold ptR
    by_cases q : ρ 9 p = -1
    · rw [if_pos q, if_neg (by simp [q])]
    · rw [if_neg q]
      by_cases q2 : ρ 24 (ρ 9 p).toNatClampNeg = nI c
      · rw [if_pos q2, if_pos (by simp [q, q2])]
      · rw [if_neg q2, if_neg (by simp [q2])]
  rw [e3] at e1
  have h1 : (lvs V (L 17 c)).length ≤ 80 := by
    refine Nat.le_trans (List.length_filter_le _ _) ?_
    rw [h.r10 c hc, List.length_map]
    exact Nat.le_trans mem_len hn4
  have h2 := cntN_le (ptR ρ (nI c)) 10
  exact (nI_eq (by omega) (by omega)).mp e1
theorem Rel.p80 (h : Rel V L N ρ t nw i) : ∀ p, p < 10 → ρ 9 p = -1 ∨ vp_in (ρ 9 p) 80 := fun p hp => by
  rcases h.leg hp with q | ⟨x, hx, q, -, -⟩
  · exact Or.inl q
  · rw [q]; exact Or.inr (vp_in_nI (by have := h.n4; omega) (by omega))
theorem cl_loop0 (h80 : ∀ p, p < 10 → ρ 9 p = -1 ∨ vp_in (ρ 9 p) 80) (hk : k < 80) (n : Nat) : ∀ p, 10 ≤ p + n → p ≤ 10 → (∀ q, p ≤ q → q < 10 → ptR ρ (ρ 24 k) q = false) → fr_closes_24 (n + 1) ρ (nI k) (nI p) = some ρ := by
  have gk := ng (n := 80) hk (by omega)
  induction n with
  | zero =>
    intro p h1 h2 _
    obtain rfl : p = 10 := by omega
    rw [fr_closes_24, if_pos (show (10 : Int32) ≤ nI 10 by decide)]
  | succ n ih =>
    intro p h1 h2 h3
    by_cases hp : p = 10
    · subst hp
      rw [fr_closes_24, if_pos (show (10 : Int32) ≤ nI 10 by decide)]
    · have hp : p < 10 := by omega
      have gp := ng (n := 10) hp (by omega)
      have hs : fr_closes_82 (fr_closes_24 (n + 1)) ρ (nI k) (nI p) = some ρ := by
        unfold fr_closes_82
        simp only [po_b]
        rw [nI_1]
        exact ih (p + 1) (by omega) (by omega) (fun q h1 h2 => h3 q (by omega) h2)
      rw [fr_closes_24, if_neg (show ¬ (10 : Int32) ≤ nI p from nI_ge (b := 10) (by omega) (by omega)), hs, nI_clamp (show p < 2 ^ 31 by omega), nI_clamp (show k < 2 ^ 31 by omega)]
      simp only [gp, gk, if_false]
      have hq := h3 p (Nat.le_refl _) hp
      by_cases e : ρ 9 p = -1
      · rw [if_pos e]
      · rw [if_neg e, if_neg ((h80 p hp).resolve_left e)]
        have : ¬ ρ 24 (ρ 9 p).toNatClampNeg = ρ 24 k := fun z => by
          unfold ptR at hq
          simp [e, z] at hq
        rw [if_neg this]
theorem cl_loop1 (h80 : ∀ p, p < 10 → ρ 9 p = -1 ∨ vp_in (ρ 9 p) 80) (hk : k < 80) {pj j : Nat} (hpj : pj < 10) (hj : j < 80) (e9 : ρ 9 pj = nI j) (e24 : ρ 24 j = ρ 24 k) (hs : fr_stops ρ (nI j) 1 (ρ 6 pj) = some ρ') (hu : ∀ q, q < 10 → q ≠ pj → ptR ρ (ρ 24 k) q = false) (h9 : ∀ q, ρ' 9 q = if q = pj then -1 else ρ 9 q) (h24 : ρ' 24 = ρ 24) (n : Nat) : ∀ p, 10 ≤ p + n → p ≤ pj → fr_closes_24 (n + 1) ρ (nI k) (nI p) = some ρ' := by
  have gk := ng (n := 80) hk (by omega)
  induction n with
  | zero => intro p h1 h2; omega
  | succ n ih =>
    intro p h1 h2
    have hp : p < 10 := by omega
    have gp := ng (n := 10) hp (by omega)
    rw [fr_closes_24, if_neg (show ¬ (10 : Int32) ≤ nI p from nI_ge (b := 10) (by omega) (by omega)), nI_clamp (show p < 2 ^ 31 by omega), nI_clamp (show k < 2 ^ 31 by omega)]
    simp only [gp, gk, if_false]
    by_cases e : p = pj
    · subst e
      rw [e9, if_neg (pn_m1 (by omega)), nI_clamp (show j < 2 ^ 31 by omega), if_neg (ng hj (by omega)), if_pos e24, hs]
      simp only [po_b]
      unfold fr_closes_82
      simp only [po_b]
      rw [nI_1]
      refine cl_loop0 (fun q hq => ?_) hk n (p + 1) (by omega) (by omega) (fun q h1 h2 => ?_)
      · rw [h9]
        split
        · exact Or.inl rfl
        · exact h80 q hq
      · have := hu q h2 (by omega)
        unfold ptR at this ⊢
        rw [h9, if_neg (by omega), h24]
        exact this
    · have hs2 : fr_closes_82 (fr_closes_24 (n + 1)) ρ (nI k) (nI p) = some ρ' := by
        unfold fr_closes_82
        simp only [po_b]
        rw [nI_1]
        exact ih (p + 1) (by omega) (by omega)
      rw [hs2]
      have hq := hu p hp e
      by_cases e2 : ρ 9 p = -1
      · rw [if_pos e2]
      · rw [if_neg e2, if_neg ((h80 p hp).resolve_left e2)]
        have : ¬ ρ 24 (ρ 9 p).toNatClampNeg = ρ 24 k := fun z => by
          unfold ptR at hq
          simp [e2, z] at hq
        rw [if_neg this]
/-- another cell of a phone is nothing to what goes back, or to the end of a leg -/
theorem gbk_cm {m x : Int32} {q : Nat} : gbk (cs ρ 6 q x) k m = cs (gbk ρ k m) 6 q x := by
  unfold gbk
  simp only [rcs_col, ne_eq, Nat.reduceEqDiff, not_false_eq_true]
  by_cases h1 : ρ 33 k = -1
  · rw [if_pos h1, if_pos h1, cs_comm (c := 6) (d := 34) (by decide), cs_comm (c := 6) (d := 12) (by decide)]
  · rw [if_neg h1, if_neg h1]
    by_cases h2 : ρ 33 k < 0
    · rw [if_pos h2, if_pos h2, cs_comm (c := 6) (d := 34) (by decide)]
    · rw [if_neg h2, if_neg h2, cs_comm (c := 6) (d := 34) (by decide), cs_comm (c := 6) (d := 17) (by decide)]
def stp (ρ : Rho) (k : Nat) (st w : Int32) : Rho := cs (cs (cs (cs (gbk ρ k (ρ 34 k)) 33 k (-2)) 26 k st) 9 (ρ 23 k).toNatClampNeg (-1)) 31 k ((trn (ρ 31 k) + 31 * (if ρ 32 k ≤ ρ 0 0 then ρ 0 0 else ρ 32 k)) ^^^ (8 * 2 + w))
theorem gbk_col {m : Int32} {d : Nat} (h1 : d ≠ 34) (h2 : d ≠ 12) (h3 : d ≠ 17) : gbk ρ k m d = ρ d := by
  unfold gbk
  split
  · rw [rcs_col h2, rcs_col h1]
  · split
    · rw [rcs_col h1]
    · rw [rcs_col h3, rcs_col h1]
theorem stops_eq {st w : Int32} (hk : k < 80) (h25 : vp_in (ρ 25 k) 4) (h33 : ρ 33 k = -2 ∨ ρ 33 k = -1 ∨ vp_in (ρ 33 k) 40) (h23 : vp_in (ρ 23 k) 10) : fr_stops ρ (nI k) st w = some (stp ρ k st w) := by
  have gk := ng (n := 80) hk (by omega)
  have g10 : ¬ (ρ 23 k < 0 ∨ 10 ≤ (ρ 23 k).toNatClampNeg) := h23
  have e23 : cs (cs (gbk ρ k (ρ 34 k)) 33 k (-2)) 26 k st 23 k = ρ 23 k := by rw [rcs_col (by decide), rcs_col (by decide), gbk_col (by decide) (by decide) (by decide)]
  have en : ∀ y, fr_notes (cs (cs (cs (gbk ρ k (ρ 34 k)) 33 k (-2)) 26 k st) 9 (ρ 23 k).toNatClampNeg (-1)) (nI k) 2 y w = some (cs (cs (cs (cs (gbk ρ k (ρ 34 k)) 33 k (-2)) 26 k st) 9 (ρ 23 k).toNatClampNeg (-1)) 31 k ((trn (ρ 31 k) + 31 * y) ^^^ (8 * 2 + w))) := fun y => by
    unfold fr_notes fr_turned
    rw [nI_clamp (show k < 2 ^ 31 by omega)]
    simp only [po_b, gk, if_false]
    rw [rcs_col (show (31 : Nat) ≠ 9 by decide), rcs_col (show (31 : Nat) ≠ 26 by decide), rcs_col (show (31 : Nat) ≠ 33 by decide), gbk_col (d := 31) (by decide) (by decide) (by decide)]
    rfl
  unfold fr_stops
  rw [rg_allBack hk h25 h33]
  simp only [po_b]
  rw [nI_clamp (show k < 2 ^ 31 by omega)]
  simp only [gk, if_false]
  rw [e23]
  simp only [g10, if_false]
  rw [rcs_col (show (32 : Nat) ≠ 9 by decide), rcs_col (show (32 : Nat) ≠ 26 by decide), rcs_col (show (32 : Nat) ≠ 33 by decide), gbk_col (d := 32) (by decide) (by decide) (by decide), rcs_col (show (0 : Nat) ≠ 9 by decide), rcs_col (show (0 : Nat) ≠ 26 by decide), rcs_col (show (0 : Nat) ≠ 33 by decide), gbk_col (d := 0) (by decide) (by decide) (by decide), en, en]
  unfold stp
  by_cases h : ρ 32 k ≤ ρ 0 0
  · rw [if_pos h, if_pos h]
    rfl
  · rw [if_neg h, if_neg h]
    rfl
theorem stops_cm0 {st w x : Int32} {q : Nat} (hk : k < 80) (h25 : vp_in (ρ 25 k) 4) (h33 : ρ 33 k = -2 ∨ ρ 33 k = -1 ∨ vp_in (ρ 33 k) 40) (h23 : vp_in (ρ 23 k) 10) (h : fr_stops ρ (nI k) st w = some ρ') : fr_stops (cs ρ 6 q x) (nI k) st w = some (cs ρ' 6 q x) := by
  rw [stops_eq hk h25 h33 h23] at h
  rw [stops_eq (ρ := cs ρ 6 q x) hk h25 h33 h23, ← Option.some.inj h]
  unfold stp
  rw [show cs ρ 6 q x 34 k = ρ 34 k from rfl, show cs ρ 6 q x 23 k = ρ 23 k from rfl, show cs ρ 6 q x 31 k = ρ 31 k from rfl, show cs ρ 6 q x 32 k = ρ 32 k from rfl, show cs ρ 6 q x 0 0 = ρ 0 0 from rfl, gbk_cm, cs_comm (c := 6) (d := 33) (by decide), cs_comm (c := 6) (d := 26) (by decide), cs_comm (c := 6) (d := 9) (by decide), cs_comm (c := 6) (d := 31) (by decide)]
theorem Rel.stops_cm (h : Rel V L N ρ t nw i) (hk : k < N 4) {st w x : Int32} {q : Nat} (e : fr_stops ρ (nI k) st w = some ρ') : fr_stops (cs ρ 6 q x) (nI k) st w = some (cs ρ' 6 q x) := by
  have hn4 := h.n4
  obtain ⟨a23, a24, a25⟩ := h.r5.2.2.1 k hk
  exact stops_cm0 (by omega) a25 (h.b40 hk) a23 e
/-- a leg is over, and with it the last one of its call -/
theorem op_closeM (h : Rel V L N ρ t nw i) (ht : t ≤ 512) (hk : k < N 4) (ha : ρ 26 k = 0) {st : Int32} (hs3 : st = 1 ∨ st = 2 ∨ st = 3) : ∃ V' L' N' ρ', fc_closeLeg V L N (nI k) st = some (V', L', N') ∧ fr_closes ρ (nI k) st (ρ 6 (ρ 23 k).toNatClampNeg) = some ρ' ∧ Rel V' L' N' ρ' t nw i ∧ chg [9, 12, 17, 26, 31, 33, 34] ρ ρ' ∧ ρ' 26 k = st ∧ ρ' 9 (ρ 23 k).toNatClampNeg = -1 ∧ (∀ j, ρ 34 j = 0 → ρ' 34 j = 0) ∧ (∀ c, c ≠ 3 → N' c = N c) ∧ (∀ x : Int32, fr_closes (cs ρ 6 (ρ 23 k).toNatClampNeg x) (nI k) st (ρ 6 (ρ 23 k).toNatClampNeg) = some (cs ρ' 6 (ρ 23 k).toNatClampNeg x)) ∧ E26 ρ + 1 ≤ E26 ρ' := by
  have hst : ¬ st = 0 := by rcases hs3 with rfl | rfl | rfl <;> decide
  have hn4 := h.n4
  obtain ⟨a23, a24, a25⟩ := h.r5.2.2.1 k hk
  have gk := ng (n := 80) (show k < 80 by omega) (by omega)
  obtain ⟨V1, ρ1, f1, f2, f3, f4, f5, f6, f7, f8, fE⟩ := op_finish h ht hk ha hs3
  have hk1 : k < nup N 3 4 := hk
  obtain ⟨c, hc, hc2, ec⟩ := pn_of (f3.r5.2.2.1 k hk1).2.1
  have ec0 : ρ 24 k = nI c := by rw [← f4 24 (by decide), ec]
  have e82 : V1 82 k = nI c := by rw [f3.c 82 24 (by decide), ec]
  have hL := f3.r10 c hc
  have hlen : (evL L N k 17 c).length ≤ 80 := by
    rw [hL, List.length_map]
    exact Nat.le_trans mem_len hn4
  have hcnt := f3.cnt hc
  have hcnt10 := cntN_le (ptR ρ1 (nI c)) 10
  have honly := pc_only (V := V1) (L := evL L N k) (N := nup N 3) (v0 := nI c) (by rw [nI_clamp hc2]; omega) (fun x hx => by
    rw [nI_clamp hc2, hL] at hx
    obtain ⟨j, hj, rfl⟩ := List.mem_map.mp hx
    exact pn_m1 (by have := (mem_in.mp hj).1; have h4 : nup N 3 4 = N 4 := rfl; omega))
  rw [nI_clamp hc2] at honly
  have hpar := pr_parties (ρ := ρ1) (c := nI c) f3.p80
  have hcl : fc_closeLeg V L N (nI k) st = if onl (lvs V1 (evL L N k 17 c)) = -1 then some (V1, evL L N k, nup N 3) else (fc_finishLeg V1 (evL L N k) (nup N 3) (onl (lvs V1 (evL L N k 17 c))) 1).bind fun o7 => some (o7.1, o7.2.1, o7.2.2) := by
    unfold fc_closeLeg
    rw [f1]
    simp only [po_b]
    rw [nI_clamp (show k < 2 ^ 31 by omega), e82, honly]
    simp only [po_b]
  have hrl : fr_closes ρ (nI k) st (ρ 6 (ρ 23 k).toNatClampNeg) = if nI (cntN (ptR ρ1 (nI c)) 10) = 1 then fr_closes_24 FU ρ1 (nI k) 0 else some ρ1 := by
    unfold fr_closes
    rw [f2]
    simp only [po_b]
    rw [nI_clamp (show k < 2 ^ 31 by omega), if_neg gk, ec, hpar]
    simp only [po_b]
  have hrlx : ∀ x : Int32, fr_closes (cs ρ 6 (ρ 23 k).toNatClampNeg x) (nI k) st (ρ 6 (ρ 23 k).toNatClampNeg) = if nI (cntN (ptR ρ1 (nI c)) 10) = 1 then fr_closes_24 FU (cs ρ1 6 (ρ 23 k).toNatClampNeg x) (nI k) 0 else some (cs ρ1 6 (ρ 23 k).toNatClampNeg x) := fun x => by
    unfold fr_closes
    rw [h.stops_cm hk f2]
    simp only [po_b]
    rw [nI_clamp (show k < 2 ^ 31 by omega), if_neg gk, show cs ρ1 6 (ρ 23 k).toNatClampNeg x 24 k = nI c from ec, pr_parties (ρ := cs ρ1 6 (ρ 23 k).toNatClampNeg x) (c := nI c) f3.p80]
    simp only [po_b]
    rfl
  by_cases h1 : cntN (ptR ρ1 (nI c)) 10 = 1
  · rw [h1] at hcnt
    rw [h1, if_pos (show nI 1 = 1 by decide)] at hrl
    simp only [h1, if_pos (show nI 1 = 1 by decide)] at hrlx
    obtain ⟨x, hx⟩ : ∃ x, lvs V1 (evL L N k 17 c) = [x] := by
      match hm : lvs V1 (evL L N k 17 c), hcnt with
      | [x], _ => exact ⟨x, rfl⟩
    have hxm : x ∈ lvs V1 (evL L N k 17 c) := by rw [hx]; exact List.mem_singleton.mpr rfl
    obtain ⟨hx1, hx2⟩ := List.mem_filter.mp hxm
    rw [hL] at hx1
    obtain ⟨j, hj, rfl⟩ := List.mem_map.mp hx1
    obtain ⟨hj1, hj2⟩ := mem_in.mp hj
    have hj4 : j < N 4 := hj1
    have hx2 := of_decide_eq_true hx2
    rw [nI_clamp (by omega), f3.c 87 26 (by decide)] at hx2
    obtain ⟨V2, ρ2, g1, g2, g3, g4, g5, g6, g7, g8, gE⟩ := op_finish f3 ht hj1 hx2 (st := 1) (by decide)
    obtain ⟨pj, hpj, hpj2, epj⟩ := pn_of (f3.r5.2.2.1 j hj1).1
    rw [epj, nI_clamp hpj2] at g2 g7
    have e9 : ρ1 9 pj = nI j := by
      have := f3.r6.2 j hj1 hx2
      rw [epj, nI_clamp hpj2] at this
      exact this
    have hpt : ptR ρ1 (nI c) pj = true := by
      unfold ptR
      rw [e9, nI_clamp (by omega), hj2]
      simp [pn_m1 (show j ≤ 100000 by omega)]
    have hjk : k ≠ j := fun z => hst (by rw [← f5, z]; exact hx2)
    have hloop := cl_loop1 (ρ := ρ1) (ρ' := ρ2) (k := k) f3.p80 (by omega) hpj (show j < 80 by omega) e9 (by rw [hj2, ec]) g2 (fun q hq hne => by
      rw [ec]
      cases hb : ptR ρ1 (nI c) q
      · rfl
      · exact absurd (cntN_uniq h1 hq hpj hb hpt) hne) (fun q => g7 q) (g4 24 (by decide)) 2999 0 (by omega) (by omega)
    have hpne : pj ≠ (ρ 23 k).toNatClampNeg := fun z => by
      rw [f7, if_pos z] at e9
      exact pn_m1 (k := j) (by omega) e9.symm
    have hloopx : ∀ x : Int32, fr_closes_24 (2999 + 1) (cs ρ1 6 (ρ 23 k).toNatClampNeg x) (nI k) (nI 0) = some (cs ρ2 6 (ρ 23 k).toNatClampNeg x) := fun x => cl_loop1 (ρ := cs ρ1 6 (ρ 23 k).toNatClampNeg x) (ρ' := cs ρ2 6 (ρ 23 k).toNatClampNeg x) (k := k) f3.p80 (by omega) hpj (show j < 80 by omega) e9 (by show ρ1 24 j = ρ1 24 k; rw [hj2, ec]) (by rw [cs_nei hpne]; exact f3.stops_cm hj1 g2) (fun q hq hne => by
      show ptR ρ1 (ρ1 24 k) q = false
      rw [ec]
      cases hb : ptR ρ1 (nI c) q
      · rfl
      · exact absurd (cntN_uniq h1 hq hpj hb hpt) hne) (fun q => g7 q) (g4 24 (by decide)) 2999 0 (by omega) (by omega)
    rw [hx] at hcl
    rw [show onl [nI j] = nI j from rfl, if_neg (pn_m1 (by omega)), g1] at hcl
    simp only [po_b] at hcl
    refine ⟨V2, _, _, ρ2, hcl, hrl.trans hloop, g3, (f4.tr g4).sub (by decide), by rw [g6 k hjk, f5], ?_, fun j z => g8 j (f8 j z), fun d hd => by rw [nup_ne hd, nup_ne hd], fun x => (hrlx x).trans (hloopx x), by omega⟩
    rw [g7]
    split
    · rfl
    · rw [f7, if_pos rfl]
  · rw [if_pos (onl_ne (by rw [hcnt]; exact h1))] at hcl
    rw [if_neg (show ¬ nI (cntN (ptR ρ1 (nI c)) 10) = 1 from fun z => h1 ((nI_eq (a := cntN (ptR ρ1 (nI c)) 10) (b := 1) (by omega) (by omega)).mp z))] at hrl
    refine ⟨V1, _, _, ρ1, hcl, hrl, f3, f4, f5, by rw [f7, if_pos rfl], f8, fun d hd => nup_ne hd, fun x => ?_, fE⟩
    rw [hrlx x, if_neg (show ¬ nI (cntN (ptR ρ1 (nI c)) 10) = 1 from fun z => h1 ((nI_eq (a := cntN (ptR ρ1 (nI c)) 10) (b := 1) (by omega) (by omega)).mp z))]
theorem op_close (h : Rel V L N ρ t nw i) (ht : t ≤ 512) (hk : k < N 4) (ha : ρ 26 k = 0) {st : Int32} (hs3 : st = 1 ∨ st = 2 ∨ st = 3) : ∃ V' L' N' ρ', fc_closeLeg V L N (nI k) st = some (V', L', N') ∧ fr_closes ρ (nI k) st (ρ 6 (ρ 23 k).toNatClampNeg) = some ρ' ∧ Rel V' L' N' ρ' t nw i ∧ chg [9, 12, 17, 26, 31, 33, 34] ρ ρ' ∧ ρ' 26 k = st ∧ ρ' 9 (ρ 23 k).toNatClampNeg = -1 ∧ (∀ j, ρ 34 j = 0 → ρ' 34 j = 0) ∧ (∀ c, c ≠ 3 → N' c = N c) ∧ E26 ρ + 1 ≤ E26 ρ' := by
  obtain ⟨V', L', N', ρ', a, b, c, d, e, f, g, h, -, q⟩ := op_closeM h ht hk ha hs3
  exact ⟨V', L', N', ρ', a, b, c, d, e, f, g, h, q⟩
end CA
