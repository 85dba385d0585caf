/-! A LEG BEGINS -/
theorem upd_id {f : Nat → Int32} {n : Nat} {x : Int32} (h : f n = x) : upd f n x = f := by
  funext j
  by_cases e : j = n
  · subst e
    rw [pk_us, h]
  · rw [pk_un e]
def noV (V : Rho) (N : Cnt) (p c : Nat) (w : Int32) (nw : Nat) : Rho := cs (cs (cs (cs (cs (cs (cs (cs (cs (cs (cs (cs (cs V 160 (N 4) 0) 161 (N 4) 0) 162 (N 4) (-1)) 80 (N 4) (nI (N 4))) 81 (N 4) (nI p)) 82 (N 4) (nI c)) 83 (N 4) w) 84 (N 4) (nI nw)) 87 (N 4) 0) 88 (N 4) 0) 89 (N 4) 0) 90 (N 4) 0) 91 (N 4) (nI p)
def noR (ρ : Rho) (N : Cnt) (p c : Nat) (w : Int32) (nw : Nat) : Rho := cs (cs (cs (cs (cs (cs (cs (cs ρ 22 0 (nI (N 4 + 1))) 23 (N 4) (nI p)) 24 (N 4) (nI c)) 25 (N 4) w) 30 (N 4) (nI p)) 31 (N 4) (nI p)) 33 (N 4) (-2)) 32 (N 4) (nI nw)
def noN (N : Cnt) : Cnt := nup (nup N 8) 4
def noL (L : Lst) (N : Cnt) : Lst := lput L 18 (N 4) []
theorem mem_congr {ρ ρ' : Rho} {n c : Nat} (h : ∀ j, j < n → ρ' 24 j = ρ 24 j) : mem ρ' n c = mem ρ n c := by
  unfold mem
  refine List.filter_congr fun j hj => ?_
  rw [h j (List.mem_range.mp hj)]
theorem sumN_succ {f : Nat → Nat} {n : Nat} : sumN f (n + 1) = sumN f n + f n := rfl
theorem cntN_at {P Q : Nat → Bool} {n p : Nat} (h : ∀ j, j < n → j ≠ p → Q j = true → P j = true) : cntN Q n ≤ cntN P n + 1 := by
  induction n with
  | zero => exact Nat.zero_le _
  | succ n ih =>
    unfold cntN
    by_cases e : n = p
    · subst e
      have := cntN_mono (P := Q) (Q := P) (n := n) (fun j hj => h j (by omega) (by omega))
      split <;> split <;> omega
    · have a := ih (fun j hj => h j (by omega))
      have b := h n (by omega) e
      cases hq : Q n
      · rw [if_neg (by decide)]; split <;> omega
      · rw [if_pos rfl, if_pos (b hq)]; omega
section OP
variable {V V' : Rho} {L : Lst} {N : Cnt} {ρ ρ' : Rho} {t nw i k p c : Nat} {w : Int32}
theorem b8_id {p : Nat} (hp : p < 10) : (nI p).toInt8.toInt32 = nI p := by
  have : p = 0 ∨ p = 1 ∨ p = 2 ∨ p = 3 ∨ p = 4 ∨ p = 5 ∨ p = 6 ∨ p = 7 ∨ p = 8 ∨ p = 9 := by omega
  rcases this with rfl | rfl | rfl | rfl | rfl | rfl | rfl | rfl | rfl | rfl <;> decide
/-- a leg there, before its first event: nobody's yet -/
theorem noR_chg : chg [22, 23, 24, 25, 30, 31, 32, 33] ρ (noR ρ N p c w nw) := ((((((((chg.rf.st (by decide)).st (by decide)).st (by decide)).st (by decide)).st (by decide)).st (by decide)).st (by decide)).st (by decide))
theorem noV_chg : chg [80, 81, 82, 83, 84, 87, 88, 89, 90, 91, 160, 161, 162] V (noV V N p c w nw) := (((((((((((((chg.rf.st (by decide)).st (by decide)).st (by decide)).st (by decide)).st (by decide)).st (by decide)).st (by decide)).st (by decide)).st (by decide)).st (by decide)).st (by decide)).st (by decide)).st (by decide))
theorem noV_old (d : Nat) {j : Nat} (hj : j < N 4) : noV V N p c w nw d j = V d j := by
  unfold noV
  rw [cs_nei (by omega), cs_nei (by omega), cs_nei (by omega), cs_nei (by omega), cs_nei (by omega), cs_nei (by omega), cs_nei (by omega), cs_nei (by omega), cs_nei (by omega), cs_nei (by omega), cs_nei (by omega), cs_nei (by omega), cs_nei (by omega)]
theorem noR_old (d : Nat) (hd : d ≠ 22) {j : Nat} (hj : j < N 4) : noR ρ N p c w nw d j = ρ d j := by
  unfold noR
  rw [cs_nei (by omega), cs_nei (by omega), cs_nei (by omega), cs_nei (by omega), cs_nei (by omega), cs_nei (by omega), cs_nei (by omega), cs_ne hd]
theorem op_open (h : Rel V L N ρ t nw 0) (ht : t ≤ 512) (hp : p < 10) (h9 : ρ 9 p = -1) (hc : c < N 1) (h80 : N 4 < 80) (hw : vp_in w 4) (h3 : cntN (ptR ρ (nI c)) 10 ≤ 3) : ∃ V' L' N' ρ', fc_openLeg_18 V L N (nI p) (nI c) w = some ((V', L', N'), nI (N 4)) ∧ fr_begins ρ (nI p) (nI c) w = some (ρ', nI (N 4)) ∧ Rel V' L' N' ρ' t nw 0 ∧ chg [9, 22, 23, 24, 25, 30, 31, 32, 33] ρ ρ' ∧ (∀ d, d ≠ 3 → d ≠ 4 → d ≠ 8 → N' d = N d) ∧ N' 4 = N 4 + 1 ∧ (∀ q, ρ' 9 q = if q = p then nI (N 4) else ρ 9 q) ∧ ρ' 23 (N 4) = nI p ∧ cntN (ptR ρ' (nI c)) 10 ≤ cntN (ptR ρ (nI c)) 10 + 1 := by
  have hn4 := h.n4
  have hn1 := h.r3.2.1.2.2.1
  have hnw := h.r5.2.2.2.2.2.2.2
  have e00 := h.r5.2.2.2.2.2.2.1
  have hn3 := h.r12.n3 hn4 ht
  have gp := ng (n := 10) hp (by omega)
  have g4 := ng (n := 80) h80 (by omega)
  have hcl4 := nI_clamp (show N 4 < 2 ^ 31 by omega)
  have hclp := nI_clamp (show p < 2 ^ 31 by omega)
  have hclc := nI_clamp (show c < 2 ^ 31 by omega)
  have h6 := (h.r5.2.1 p hp).1
  have e14 : L 14 0 = iot (N 4) := h.r3.2.2.2.2.2
  have e22 : ρ 22 0 = nI (N 4) := h.r3.2.2.1.2.2
  have hN3 : noN N 3 = N 3 := rfl
  have hN4 : noN N 4 = N 4 + 1 := rfl
  have e100 : V 100 p = nI p := h.r2 100 (by decide) p (by rw [show 100 / 20 = 5 by decide, h.r3.1.2.2.2.2.1]; exact hp)
  have e101 : V 101 p = ρ 6 p := by rw [h.c 101 6 (by decide)]
  have e228 : V 228 0 = nI nw := by rw [h.c 228 0 (by decide), e00]
  have hL17 : (L 17 c).length ≤ 80 := by
    rw [h.r10 c hc, List.length_map]
    exact Nat.le_trans mem_len hn4
  have hkp : fc_Leg_keepEvent (noV V N p c w nw) (noL L N) (noN N) (nI (N 4)) 0 (nI nw) (ρ 6 p) = some (evV (noV V N p c w nw) (noN N) 0 (nI nw) (ρ 6 p), evL (noL L N) (noN N) (N 4), nup (noN N) 3) := keep_eq (by omega) (by show (lput L 18 (N 4) [] 18 (N 4)).length < 600; unfold lput; rw [if_pos ⟨rfl, rfl⟩]; decide) hn3
  have hC : fc_openLeg_18 V L N (nI p) (nI c) w = some ((cs (evV (noV V N p c w nw) (noN N) 0 (nI nw) (ρ 6 p)) 104 p (nI (N 4)), lput (lput (evL (noL L N) (noN N) (N 4)) 17 c (L 17 c ++ [nI (N 4)])) 14 0 (iot (N 4) ++ [nI (N 4)]), nup (noN N) 3), nI (N 4)) := by
    have g1 : ¬ (100000 ≤ N 4 ∨ ¬ N 8 = N 4) := by
      rw [not_or]
      exact ⟨by omega, fun z => z h.r3.2.1.1⟩
    unfold fc_openLeg_18
    rw [hclp, hclc, e100, b8_id hp, e14, iot_len, e228]
    simp only [po_b, g1, if_false]
    rw [show cs (cs (cs (cs (cs (cs (cs (cs (cs (cs (cs (cs (cs V 160 (N 4) 0) 161 (N 4) 0) 162 (N 4) (-1)) 80 (N 4) (nI (N 4))) 81 (N 4) (nI p)) 82 (N 4) (nI c)) 83 (N 4) w) 84 (N 4) (nI nw)) 87 (N 4) 0) 88 (N 4) 0) 89 (N 4) 0) 90 (N 4) 0) 91 (N 4) (nI p) = noV V N p c w nw from rfl, show nup (nup N 8) 4 = noN N from rfl, show lput L 18 (N 4) [] = noL L N from rfl, show noV V N p c w nw 228 0 = nI nw from e228, show noV V N p c w nw 101 p = ρ 6 p from e101, hkp]
    simp only [po_b]
    have l17 : evL (noL L N) (noN N) (N 4) 17 c = L 17 c := rfl
    rw [l17, if_neg (show ¬ 1000 ≤ (L 17 c).length by omega)]
    have l14 : lput (evL (noL L N) (noN N) (N 4)) 17 c (L 17 c ++ [nI (N 4)]) 14 0 = iot (N 4) := e14
    rw [l14, iot_len, if_neg (show ¬ 1000 ≤ N 4 by omega)]
  have hR : fr_begins ρ (nI p) (nI c) w = some (cs (cs (noR ρ N p c w nw) 9 p (nI (N 4))) 31 (N 4) ((trn (nI p) + 31 * nI nw) ^^^ (8 * 0 + ρ 6 p)), nI (N 4)) := by
    unfold fr_begins fr_notes fr_turned
    rw [e22, hclp, nI_1]
    simp only [po_b, g4, gp, hcl4, if_false, rcs_col, cs_at, ne_eq, Nat.reduceEqDiff, not_false_eq_true]
    rw [e00]
    rfl
  have hchR : chg [9, 31] (noR ρ N p c w nw) (cs (cs (noR ρ N p c w nw) 9 p (nI (N 4))) 31 (N 4) ((trn (nI p) + 31 * nI nw) ^^^ (8 * 0 + ρ 6 p))) := (chg.rf.st (by decide)).st (by decide)
  generalize hρ' : cs (cs (noR ρ N p c w nw) 9 p (nI (N 4))) 31 (N 4) ((trn (nI p) + 31 * nI nw) ^^^ (8 * 0 + ρ 6 p)) = ρ' at hR hchR
  have hch : chg [9, 22, 23, 24, 25, 30, 31, 32, 33] ρ ρ' := ((noR_chg (ρ := ρ)).sub (C' := [9, 22, 23, 24, 25, 30, 31, 32, 33]) (by decide)).tr (hchR.sub (C' := [9, 22, 23, 24, 25, 30, 31, 32, 33]) (by decide)) |>.sub (by decide)
  have f9 : ∀ q, ρ' 9 q = if q = p then nI (N 4) else ρ 9 q := fun q => by
    rw [← hρ', rcs_col (by decide)]
    split
    · rename_i e; rw [e, cs_at]
    · rename_i e; rw [cs_nei e]; rfl
  have f31o : ∀ j, j < N 4 → ρ' 31 j = ρ 31 j := fun j hj => by
    rw [← hρ', cs_nei (by omega), rcs_col (by decide), noR_old 31 (by decide) hj]
  have fo : ∀ d, d ≠ 9 → d ≠ 22 → d ≠ 31 → ∀ j, j < N 4 → ρ' d j = ρ d j := fun d h1 h2 h3 j hj => by
    rw [hchR d (by simp [h1, h3]), noR_old d h2 hj]
  have f23 : ρ' 23 (N 4) = nI p := by rw [hchR 23 (by decide)]; unfold noR; simp only [rcs_col, cs_at, ne_eq, Nat.reduceEqDiff, not_false_eq_true]
  have f24 : ρ' 24 (N 4) = nI c := by rw [hchR 24 (by decide)]; unfold noR; simp only [rcs_col, cs_at, ne_eq, Nat.reduceEqDiff, not_false_eq_true]
  have f25 : ρ' 25 (N 4) = w := by rw [hchR 25 (by decide)]; unfold noR; simp only [rcs_col, cs_at, ne_eq, Nat.reduceEqDiff, not_false_eq_true]
  have f33 : ρ' 33 (N 4) = -2 := by rw [hchR 33 (by decide)]; unfold noR; simp only [rcs_col, cs_at, ne_eq, Nat.reduceEqDiff, not_false_eq_true]
  have f32 : ρ' 32 (N 4) = nI nw := by rw [hchR 32 (by decide)]; unfold noR; simp only [rcs_col, cs_at, ne_eq, Nat.reduceEqDiff, not_false_eq_true]
  have fz : ∀ d ∈ [26, 27, 28, 29, 34, 35], ρ' d (N 4) = 0 := fun d hd => by
    rw [hch d (by revert d; decide)]
    exact h.r16 d hd _ (Nat.le_refl _)
  have a31 : noR ρ N p c w nw 31 (N 4) = nI p := by unfold noR; simp only [rcs_col, cs_at, ne_eq, Nat.reduceEqDiff, not_false_eq_true]
  have a23 : noR ρ N p c w nw 23 (N 4) = nI p := by unfold noR; simp only [rcs_col, cs_at, ne_eq, Nat.reduceEqDiff, not_false_eq_true]
  have f31 : ρ' 31 (N 4) = (trn (noR ρ N p c w nw 31 (N 4)) + 31 * nI nw) ^^^ (8 * 0 + ρ 6 p) := by rw [← hρ', cs_at, a31]
  have hV' : chg [60, 61, 62, 104] (noV V N p c w nw) (cs (evV (noV V N p c w nw) (noN N) 0 (nI nw) (ρ 6 p)) 104 p (nI (N 4))) := (evV_chg.sub (by decide)).st (by decide)
  have hVe : agr [41, 60, 61, 62] (evV (noV V N p c w nw) (noN N) 0 (nI nw) (ρ 6 p)) (cs (evV (noV V N p c w nw) (noN N) 0 (nI nw) (ρ 6 p)) 104 p (nI (N 4))) := fun c hc => rcs_col (by revert c; decide)
  have v84 : noV V N p c w nw 84 (N 4) = nI nw := by unfold noV; simp only [rcs_col, cs_at, ne_eq, Nat.reduceEqDiff, not_false_eq_true]
  have v162 : noV V N p c w nw 162 (N 4) = -1 := by unfold noV; simp only [rcs_col, cs_at, ne_eq, Nat.reduceEqDiff, not_false_eq_true]
  have v80 : noV V N p c w nw 80 (N 4) = nI (N 4) := by unfold noV; simp only [rcs_col, cs_at, ne_eq, Nat.reduceEqDiff, not_false_eq_true]
  have hL18 : ∀ j, j ≠ N 4 → noL L N 18 j = L 18 j := fun j hj => if_neg (fun z => hj z.2)
  have hL18n : noL L N 18 (N 4) = [] := if_pos ⟨rfl, rfl⟩
  -- before the first event
  have b12 : R12 (noV V N p c w nw) (noL L N) (noN N) (noR ρ N p c w nw) t := by
    refine ⟨fun j hj => ?_, ?_⟩
    · by_cases e : j = N 4
      · subst e
        unfold R12k
        rw [hL18n, a31, a23]
        refine ⟨fun x hx => absurd hx List.not_mem_nil, ?_, rfl⟩
        exact Nat.zero_le _
      · have hj4 : j < N 4 := by rw [hN4] at hj; omega
        unfold R12k
        rw [hL18 j e, noR_old 26 (by decide) hj4, noR_old 23 (by decide) hj4, noR_old 31 (by decide) hj4]
        exact h.r12.1 j hj4
    · rw [hN4, sumN_succ, hL18n, sumN_congr (f := fun k => (noL L N 18 k).length) (g := fun k => (L 18 k).length) (fun j hj => by rw [hL18 j (by omega)])]
      exact h.r12.2
  have b13 : ∃ F, R13h V L N t nw F ∧ (∀ j, j < N 4 → R13k (noV V N p c w nw) (noL L N) (noR ρ N p c w nw) F j) := by
    obtain ⟨F, hF, hk⟩ := h.r13
    refine ⟨F, hF, fun j hj => ?_⟩
    have := (hk j hj).congr (V' := noV V N p c w nw) (ρ' := noR ρ N p c w nw) (noV_chg.agr (by decide)) ⟨noR_old 32 (by decide) hj, noR_old 28 (by decide) hj, noR_old 29 (by decide) hj, noR_old 26 (by decide) hj, noR_old 23 (by decide) hj, rfl⟩
    unfold R13k at this ⊢
    rw [hL18 j (by omega)]
    exact this
  refine ⟨_, _, _, ρ', hC, hR, ⟨?_, ?_, ?_, ?_, ?_, ?_, ?_, ?_, ?_, ?_, ?_, ?_, ?_, ?_, ?_, ?_, ?_⟩, hch, fun d h1 h2 h3 => ?_, rfl, f9, f23, ?_⟩
  · have r1a : R1 (noV V N p c w nw) (noR ρ N p c w nw) := R1.mk (h.c 41 2 (by decide)) (h.c 42 3 (by decide)) (h.c 43 4 (by decide)) (h.c 101 6 (by decide)) (h.c 102 7 (by decide)) (h.c 103 8 (by decide)) (h.c 104 9 (by decide)) (h.c 105 11 (by decide)) (h.c 106 10 (by decide)) (h.c 182 12 (by decide)) (h.c 183 13 (by decide)) (by unfold noV noR; simp only [rcs_col, rcs_upd, ne_eq, Nat.reduceEqDiff, not_false_eq_true, h.c 81 23 (by decide)]) (by unfold noV noR; simp only [rcs_col, rcs_upd, ne_eq, Nat.reduceEqDiff, not_false_eq_true, h.c 82 24 (by decide)]) (by unfold noV noR; simp only [rcs_col, rcs_upd, ne_eq, Nat.reduceEqDiff, not_false_eq_true, h.c 83 25 (by decide)]) (by rw [show noV V N p c w nw 87 = upd (V 87) (N 4) 0 by unfold noV; simp only [rcs_col, rcs_upd, ne_eq, Nat.reduceEqDiff, not_false_eq_true], h.c 87 26 (by decide), upd_id (h.r16 26 (by decide) _ (Nat.le_refl _))]; unfold noR; simp only [rcs_col, rcs_upd, ne_eq, Nat.reduceEqDiff, not_false_eq_true]) (by rw [show noV V N p c w nw 88 = upd (V 88) (N 4) 0 by unfold noV; simp only [rcs_col, rcs_upd, ne_eq, Nat.reduceEqDiff, not_false_eq_true], h.c 88 27 (by decide), upd_id (h.r16 27 (by decide) _ (Nat.le_refl _))]; unfold noR; simp only [rcs_col, rcs_upd, ne_eq, Nat.reduceEqDiff, not_false_eq_true]) (by rw [show noV V N p c w nw 89 = upd (V 89) (N 4) 0 by unfold noV; simp only [rcs_col, rcs_upd, ne_eq, Nat.reduceEqDiff, not_false_eq_true], h.c 89 28 (by decide), upd_id (h.r16 28 (by decide) _ (Nat.le_refl _))]; unfold noR; simp only [rcs_col, rcs_upd, ne_eq, Nat.reduceEqDiff, not_false_eq_true]) (by rw [show noV V N p c w nw 90 = upd (V 90) (N 4) 0 by unfold noV; simp only [rcs_col, rcs_upd, ne_eq, Nat.reduceEqDiff, not_false_eq_true], h.c 90 29 (by decide), upd_id (h.r16 29 (by decide) _ (Nat.le_refl _))]; unfold noR; simp only [rcs_col, rcs_upd, ne_eq, Nat.reduceEqDiff, not_false_eq_true]) (by unfold noV noR; simp only [rcs_col, rcs_upd, ne_eq, Nat.reduceEqDiff, not_false_eq_true, h.c 91 30 (by decide)]) (by rw [show noV V N p c w nw 160 = upd (V 160) (N 4) 0 by unfold noV; simp only [rcs_col, rcs_upd, ne_eq, Nat.reduceEqDiff, not_false_eq_true], h.c 160 34 (by decide), upd_id (h.r16 34 (by decide) _ (Nat.le_refl _))]; unfold noR; simp only [rcs_col, rcs_upd, ne_eq, Nat.reduceEqDiff, not_false_eq_true]) (h.c 0 16 (by decide)) (h.c 1 18 (by decide)) (h.c 2 19 (by decide)) (h.c 21 21 (by decide)) (h.c 227 1 (by decide)) (h.c 228 0 (by decide))
    rw [← hρ']
    unfold evV
    exact ((((r1a.left (by decide)).left (by decide)).left (by decide)).both (c := 104) (d := 9) (by decide)).right (by decide)
  · intro d hd j hj
    have hd3 : ∀ d ∈ idT, d / 20 ≠ 3 ∧ d / 20 ≠ 8 ∧ (d / 20 = 4 → d = 80) ∧ d ∉ [60, 61, 62, 104] ∧ (¬ d / 20 = 4 → d ∉ [80, 81, 82, 83, 84, 87, 88, 89, 90, 91, 160, 161, 162]) := by decide
    obtain ⟨k1, k2, k3, k4, k5⟩ := hd3 d hd
    rw [hV' d k4]
    by_cases e : d / 20 = 4
    · have := k3 e
      subst this
      have hj : j < N 4 + 1 := hj
      by_cases e2 : j = N 4
      · subst e2; exact v80
      · rw [noV_old 80 (by omega)]
        exact h.r2 80 (by decide) j (by show j < N 4; omega)
    · have : noV V N p c w nw d = V d := noV_chg d (k5 e)
      rw [this]
      refine h.r2 d hd j ?_
      rw [nup_ne k1] at hj
      unfold noN at hj
      rw [nup_ne e, nup_ne k2] at hj
      exact hj
  · refine ⟨h.r3.1, ⟨?_, h.r3.2.1.2.1, h.r3.2.1.2.2.1, ?_⟩, ⟨?_, ?_, ?_⟩, ⟨h.r3.2.2.2.1, h.r3.2.2.2.2.1, ?_⟩⟩
    · show N 8 + 1 = N 4 + 1
      rw [h.r3.2.1.1]
    · show N 4 + 1 ≤ 80
      omega
    · rw [hch 14 (by decide)]; exact h.r3.2.2.1.1
    · rw [hch 20 (by decide)]; exact h.r3.2.2.1.2.1
    · show ρ' 22 0 = nI (N 4 + 1)
      rw [hchR 22 (by decide)]; unfold noR; simp only [rcs_col, cs_at, ne_eq, Nat.reduceEqDiff, not_false_eq_true]
    · show iot (N 4) ++ [nI (N 4)] = iot (N 4 + 1)
      exact iot_succ.symm
  · exact h.r4.congr (fun d hd => by rw [hV' d (by revert d; decide), noV_chg d (by revert d; decide)]) (hch.agr (by decide))
  · have h5 := h.r5
    refine ⟨by rw [hch 2 (by decide), hch 3 (by decide), hch 4 (by decide)]; exact h5.1, by rw [hch 6 (by decide), hch 7 (by decide)]; exact h5.2.1, fun j hj => ?_, by rw [hch 21 (by decide)]; exact h5.2.2.2.1, by rw [hch 15 (by decide)]; exact h5.2.2.2.2.1, by rw [hch 1 (by decide)]; exact h5.2.2.2.2.2.1, by rw [hch 0 (by decide)]; exact e00, hnw⟩
    have hj : j < N 4 + 1 := hj
    by_cases e : j = N 4
    · subst e
      rw [f23, f24, f25]
      exact ⟨vp_in_nI hp (by omega), vp_in_nI hc (by show N 1 < 2 ^ 31; omega), hw⟩
    · have hj4 : j < N 4 := by omega
      rw [fo 23 (by decide) (by decide) (by decide) j hj4, fo 24 (by decide) (by decide) (by decide) j hj4, fo 25 (by decide) (by decide) (by decide) j hj4]
      exact h5.2.2.1 j hj4
  · refine ⟨fun q hq => ?_, fun j hj q => ?_⟩
    · rw [f9]
      by_cases e : q = p
      · subst e
        rw [if_pos rfl, hcl4, fz 26 (by decide), f23]
        exact Or.inr ⟨vp_in_nI (by show N 4 < N 4 + 1; omega) (by show N 4 + 1 < 2 ^ 31; omega), rfl, rfl⟩
      · rw [if_neg e]
        rcases h.leg hq with z | ⟨x, hx, z, za, zp⟩
        · exact Or.inl z
        · right
          rw [z, nI_clamp (by omega), fo 26 (by decide) (by decide) (by decide) x hx, fo 23 (by decide) (by decide) (by decide) x hx]
          exact ⟨vp_in_nI (by show x < N 4 + 1; omega) (by show N 4 + 1 < 2 ^ 31; omega), za, zp⟩
    · have hj : j < N 4 + 1 := hj
      by_cases e : j = N 4
      · subst e
        rw [f23, hclp, f9, if_pos rfl]
      · have hj4 : j < N 4 := by omega
        rw [fo 26 (by decide) (by decide) (by decide) j hj4] at q
        have e1 := h.r6.2 j hj4 q
        rw [fo 23 (by decide) (by decide) (by decide) j hj4, f9, if_neg (fun z => ?_)]
        · exact e1
        · rw [z, h9] at e1
          exact pn_m1 (k := j) (by omega) e1.symm
  · intro j hj
    have hj : j < N 4 + 1 := hj
    unfold R7k
    rw [hV' 161 (by decide), hV' 162 (by decide)]
    by_cases e : j = N 4
    · subst e
      rw [fz 34 (by decide), fz 35 (by decide), f33, v162]
      exact ⟨vp_in_nI (n := 0) (by decide) (by decide), Or.inl rfl, Or.inl rfl, vp_in_nI (n := 0) (by decide) (by decide), Or.inl rfl⟩
    · have hj4 : j < N 4 := by omega
      rw [noV_old 161 hj4, noV_old 162 hj4, fo 34 (by decide) (by decide) (by decide) j hj4, fo 33 (by decide) (by decide) (by decide) j hj4, fo 35 (by decide) (by decide) (by decide) j hj4, fo 26 (by decide) (by decide) (by decide) j hj4]
      exact h.r7 j hj4
  · exact h.r8.congr (fun d hd => by rw [hV' d (by revert d; decide), noV_chg d (by revert d; decide)]) (hch.agr (by decide))
  · exact h.r9.congr (hch.agr (by decide))
  · intro d hd
    have hd : d < N 1 := hd
    show lput (lput (evL (noL L N) (noN N) (N 4)) 17 c (L 17 c ++ [nI (N 4)])) 14 0 (iot (N 4) ++ [nI (N 4)]) 17 d = (mem ρ' (N 4 + 1) d).map nI
    rw [mem_succ, mem_congr (fun j hj => fo 24 (by decide) (by decide) (by decide) j hj), f24]
    have l1 : lput (lput (evL (noL L N) (noN N) (N 4)) 17 c (L 17 c ++ [nI (N 4)])) 14 0 (iot (N 4) ++ [nI (N 4)]) 17 d = if d = c then L 17 c ++ [nI (N 4)] else L 17 d := by
      show lput (evL (noL L N) (noN N) (N 4)) 17 c (L 17 c ++ [nI (N 4)]) 17 d = _
      unfold lput
      by_cases e : d = c
      · rw [if_pos ⟨rfl, e⟩, if_pos e]
      · rw [if_neg (fun z => e z.2), if_neg e]
        rfl
    rw [l1]
    by_cases e : d = c
    · subst e
      rw [if_pos rfl, if_pos rfl, List.map_append, h.r10 d hd]
      rfl
    · rw [if_neg e, if_neg (fun z => e ((nI_eq (by omega) (by omega)).mp z.symm))]
      exact h.r10 d hd
  · intro j hj
    have hj : j < N 4 + 1 := hj
    unfold R11k
    rw [hV' 84 (by decide)]
    by_cases e : j = N 4
    · subst e
      rw [f32, fz 26 (by decide), fz 27 (by decide), v84, f23, hclp, if_pos rfl, if_neg (Nat.not_lt_zero p)]
      exact ⟨vp_in_nI (by omega) (by omega), fun _ => ⟨Int32.add_zero _, rfl⟩⟩
    · have hj4 : j < N 4 := by omega
      rw [noV_old 84 hj4, fo 32 (by decide) (by decide) (by decide) j hj4, fo 26 (by decide) (by decide) (by decide) j hj4, fo 27 (by decide) (by decide) (by decide) j hj4, fo 23 (by decide) (by decide) (by decide) j hj4]
      exact h.r11 j hj4
  · refine (b12.ev (k := N 4) (t' := t) (ρ' := ρ') (a := 0) (b := nI nw) (c := ρ 6 p) (by rw [hN4]; omega) hn3 h6 (fun j _ => by rw [hchR 23 (by decide)]) f31 (fun j hj => ?_) (fun j _ => by rw [hchR 26 (by decide)]) (Nat.le_refl t) ?_).congr (fun d hd => hVe d (by revert d; decide)) (fun _ _ => rfl)
    · rw [← hρ', cs_nei hj, rcs_col (by decide)]
    · rw [hL18n]
      show 0 + 1 ≤ _
      omega
  · obtain ⟨F, hF, hk⟩ := b13
    refine ⟨F, hF.congr (fun d hd => by rw [hV' d (by revert d; decide), noV_chg d (by revert d; decide)]), fun j hj => ?_⟩
    have hj : j < N 4 + 1 := hj
    refine R13k.congr (V := evV (noV V N p c w nw) (noN N) 0 (nI nw) (ρ 6 p)) (ρ := ρ') ?_ hVe ⟨rfl, rfl, rfl, rfl, rfl, rfl⟩
    by_cases e : j = N 4
    · subst e
      have hnew : (nI (noN N 3)).toNatClampNeg = noN N 3 := nI_clamp (by rw [hN3]; omega)
      have hz : vp_in (V 41 (ρ 6 p).toNatClampNeg) 3 := by
        rw [h.c 41 2 (by decide)]
        exact (h.zone hp).2
      have hLn : lput (lput (evL (noL L N) (noN N) (N 4)) 17 c (L 17 c ++ [nI (N 4)])) 14 0 (iot (N 4) ++ [nI (N 4)]) 18 (N 4) = [nI (noN N 3)] := by
        show evL (noL L N) (noN N) (N 4) 18 (N 4) = _
        rw [evL_k, hL18n]
        rfl
      have v41 : evV (noV V N p c w nw) (noN N) 0 (nI nw) (ρ 6 p) 41 = V 41 := rfl
      unfold R13k
      rw [hLn, f32, fz 28 (by decide), fz 29 (by decide), fz 26 (by decide), f23, hclp, nI_clamp (show nw < 2 ^ 31 by omega)]
      refine ⟨⟨⟨?_, ?_, ?_⟩, trivial⟩, ?_, [], nI (noN N 3), rfl, fun _ => ?_, fun z => absurd rfl z⟩
      · rw [hnew, evV_new.2.2, v41]; exact hz
      · rw [hnew, evV_new.2.1]; exact vp_in_nI (by omega) (by omega)
      · rw [hnew, evV_new.2.1, nxt_nil, nI_clamp (by omega)]; exact Nat.le_refl _
      · unfold evs
        rw [hnew, evV_new.1, if_neg (by decide), nxt_nil, evV_new.2.1, nI_clamp (show nw < 2 ^ 31 by omega), Int32.sub_self]
        rfl
      · rw [hnew, evV_new.1, evV_new.2.2, hch 6 (by decide)]
        exact ⟨by decide, rfl⟩
    · have hj4 : j < N 4 := by omega
      have := R13.old (k := N 4) (a := 0) (b := nI nw) (c := ρ 6 p) (ρ' := ρ') b12 (by rw [hN4]; omega) (hk j hj4) e ⟨by rw [hchR 32 (by decide)], by rw [hchR 28 (by decide)], by rw [hchR 29 (by decide)], by rw [hchR 26 (by decide)], by rw [hchR 23 (by decide)], fun _ => by rw [hchR 6 (by decide)]⟩
      exact this
  · refine ⟨fun w' hw' => by rw [hch 12 (by decide)]; exact h.r14.1 w' hw', ?_⟩
    show sumN (fre ρ') 4 + sumN (mIn ρ') (N 4 + 1) ≤ 1000000 * t
    have y1 : mIn ρ' (N 4) = 0 := by
      unfold mIn
      rw [f33]
      exact if_neg (by decide)
    rw [sumN_succ (f := mIn ρ') (n := N 4), y1, sumN_congr (f := mIn ρ') (g := mIn ρ) (fun j hj => by
      unfold mIn
      rw [fo 33 (by decide) (by decide) (by decide) j hj, fo 34 (by decide) (by decide) (by decide) j hj, fo 35 (by decide) (by decide) (by decide) j hj]), sumN_congr (f := fre ρ') (g := fre ρ) (fun j _ => by
      unfold fre
      rw [hch 12 (by decide)])]
    exact h.r14.2
  · intro d hd
    have hd : d < N 1 := hd
    have hpt : ∀ q, q < 10 → q ≠ p → ptR ρ' (nI d) q = true → ptR ρ (nI d) q = true := fun q hq hne z => by
      unfold ptR at z ⊢
      rw [f9, if_neg hne] at z
      rcases h.leg hq with y | ⟨x, hx, y, -, -⟩
      · rw [y] at z; simp at z
      · rw [y, nI_clamp (by omega), fo 24 (by decide) (by decide) (by decide) x hx] at z
        rw [y, nI_clamp (by omega)]
        exact z
    by_cases e : d = c
    · subst e
      have := cntN_at (P := ptR ρ (nI d)) (Q := ptR ρ' (nI d)) (n := 10) (p := p) hpt
      omega
    · refine Nat.le_trans (cntN_mono (fun q hq z => ?_)) (h.r15 d hd)
      by_cases e2 : q = p
      · subst e2
        unfold ptR at z
        rw [f9, if_pos rfl, hcl4, f24] at z
        have : ¬ nI c = nI d := fun y => e ((nI_eq (by omega) (by omega)).mp y.symm)
        simp [this] at z
      · exact hpt q hq e2 z
  · intro d hd j hj
    have hj : N 4 + 1 ≤ j := hj
    rw [hch d (by revert d; decide)]
    exact h.r16 d hd j (by omega)
  · intro j
    by_cases e : j < N 4
    · rw [fo 26 (by decide) (by decide) (by decide) j e, fo 27 (by decide) (by decide) (by decide) j e, fo 28 (by decide) (by decide) (by decide) j e, fo 29 (by decide) (by decide) (by decide) j e, fo 32 (by decide) (by decide) (by decide) j e]
      exact h.r17 j
    · rw [hch 26 (by decide), hch 27 (by decide), hch 28 (by decide), hch 29 (by decide), h.r16 26 (by decide) j (by omega), h.r16 27 (by decide) j (by omega), h.r16 28 (by decide) j (by omega), h.r16 29 (by decide) j (by omega)]
      exact ⟨vp04, bdd0, bdd0, bdd0⟩
  · rw [nup_ne h1]
    unfold noN
    rw [nup_ne h2, nup_ne h3]
  · refine cntN_at (p := p) (fun q hq hne z => ?_)
    unfold ptR at z ⊢
    rw [f9, if_neg hne] at z
    rcases h.leg hq with y | ⟨x, hx, y, -, -⟩
    · rw [y] at z; simp at z
    · rw [y, nI_clamp (by omega), fo 24 (by decide) (by decide) (by decide) x hx] at z
      rw [y, nI_clamp (by omega)]
      exact z
end OP
