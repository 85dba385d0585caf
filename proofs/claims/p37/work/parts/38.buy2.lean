/-! A BUNDLE is bought -/
section BZ
variable {V V' : Rho} {L : Lst} {N : Cnt} {ρ ρ' : Rho} {t nw i k p c : Nat}
theorem ahd_of_ua {b x : Nat} (h1 : V 1 = ρ 18) (h2 : V 2 = ρ 19) (h : ua V b x) : ahd ρ b x := by
  unfold ua at h
  rw [h1, h2] at h
  exact h.elim Or.inl (fun q => Or.inr ⟨q.1, Or.inl q.2⟩)
theorem ahd_of_nua {b x : Nat} (h1 : V 1 = ρ 18) (h2 : V 2 = ρ 19) (hx : x < b) (h : ¬ ua V b x) : ahd ρ x b := by
  unfold ua at h
  rw [h1, h2] at h
  unfold ahd
  simp only [Int32.lt_iff_toInt_lt, ← Int32.toInt_inj] at h ⊢
  omega
theorem ins_sorted {l : List Nat} {n j : Nat} (h1 : V 1 = ρ 18) (h2 : V 2 = ρ 19) (hs : l.Pairwise (ahd ρ)) (hl : ∀ x ∈ l, x < n) (hj : j ≤ l.length) (hd : ∀ x ∈ l.drop j, ua V n x) (ht : 0 < j → ¬ ua V n (l.getD (j - 1) 0)) : (l.take j ++ n :: l.drop j).Pairwise (ahd ρ) := by
  have htn : ∀ x ∈ l.take j, ahd ρ x n := fun x hx => by
    obtain ⟨q, hq, rfl⟩ := List.mem_take_iff_getElem.mp hx
    have hqj : q < j := by omega
    have hjl : j - 1 < l.length := by omega
    have hy := ht (by omega)
    have hyl : l.getD (j - 1) 0 = l[j - 1] := by rw [List.getD_eq_getElem?_getD, List.getElem?_eq_getElem hjl]; rfl
    rw [hyl] at hy
    have hyn := ahd_of_nua h1 h2 (hl _ (List.getElem_mem hjl)) hy
    by_cases e : q = j - 1
    · subst e; exact hyn
    · exact ahd_tr (List.pairwise_iff_getElem.mp hs q (j - 1) (by omega) hjl (by omega)) hyn
  refine List.pairwise_append.mpr ⟨hs.sublist (List.take_sublist j l), List.pairwise_cons.mpr ⟨fun x hx => ahd_of_ua h1 h2 (hd x hx), hs.sublist (List.drop_sublist j l)⟩, fun a ha b hb => ?_⟩
  rcases List.mem_cons.mp hb with z | z
  · rw [z]; exact htn a ha
  · exact ahd_tr (htn a ha) (ahd_of_ua h1 h2 (hd b z))
theorem ahd_congr {a b : Nat} (h1 : ρ' 18 a = ρ 18 a ∧ ρ' 18 b = ρ 18 b ∧ ρ' 19 a = ρ 19 a ∧ ρ' 19 b = ρ 19 b) : ahd ρ' a b ↔ ahd ρ a b := by
  obtain ⟨a1, a2, a3, a4⟩ := h1
  unfold ahd
  rw [a1, a2, a3, a4]
def byV (V : Rho) (w n : Nat) (fr a2 a3 a4 a5 : Int32) : Rho := cs (cs (cs (cs (cs V 182 w fr) 0 n a2) 1 n a4) 2 n a5) 3 n a3
def byR (ρ : Rho) (w n : Nat) (fr a2 a3 a4 a5 : Int32) : Rho := cs (cs (cs (cs (cs (cs (cs ρ 12 w fr) 15 n (nI w)) 16 n a2) 17 n a3) 18 n a4) 19 n a5) 14 0 (nI (n + 1))
theorem op_buy (h : Rel V L N ρ t nw 0) {w m : Nat} {a2 a3 a4 a5 : Int32} (hw : w < 4) (hn : N 0 < 40) (hm : m ≤ fre ρ w) (ht : t ≤ 512) : ∃ Lw, fc_Wallet_addInOrderOfUse (byV V w (N 0) (nI (fre ρ w - m)) a2 a3 a4 a5) L (nup N 0) (nI w) (nI (N 0)) = some (byV V w (N 0) (nI (fre ρ w - m)) a2 a3 a4 a5, lput L 15 w Lw, nup N 0) ∧ Rel (byV V w (N 0) (nI (fre ρ w - m)) a2 a3 a4 a5) (lput (lput L 15 w Lw) 12 0 (iot (N 0) ++ [nI (N 0)])) (nup N 0) (byR ρ w (N 0) (nI (fre ρ w - m)) a2 a3 a4 a5) t nw 0 := by
  have hV : chg [0, 1, 2, 3, 182] V (byV V w (N 0) (nI (fre ρ w - m)) a2 a3 a4 a5) := ((((chg.rf.st (by decide)).st (by decide)).st (by decide)).st (by decide)).st (by decide)
  have hR : chg [12, 14, 15, 16, 17, 18, 19] ρ (byR ρ w (N 0) (nI (fre ρ w - m)) a2 a3 a4 a5) := ((((((chg.rf.st (by decide)).st (by decide)).st (by decide)).st (by decide)).st (by decide)).st (by decide)).st (by decide)
  obtain ⟨l, l1, l2, l3, l4⟩ := h.r9 w hw
  have v1 : byV V w (N 0) (nI (fre ρ w - m)) a2 a3 a4 a5 1 = byR ρ w (N 0) (nI (fre ρ w - m)) a2 a3 a4 a5 18 := by
    unfold byV byR
    simp only [rcs_col, rcs_upd, ne_eq, Nat.reduceEqDiff, not_false_eq_true, h.c 1 18 (by decide)]
  have v2 : byV V w (N 0) (nI (fre ρ w - m)) a2 a3 a4 a5 2 = byR ρ w (N 0) (nI (fre ρ w - m)) a2 a3 a4 a5 19 := by
    unfold byV byR
    simp only [rcs_col, rcs_upd, ne_eq, Nat.reduceEqDiff, not_false_eq_true, h.c 2 19 (by decide)]
  have v3 : ∀ b, byV V w (N 0) (nI (fre ρ w - m)) a2 a3 a4 a5 3 b = if b = N 0 then a3 else V 3 b := fun b => by
    unfold byV
    split
    · rename_i e; rw [e, cs_at]
    · rename_i e; rw [cs_nei e, rcs_col (by decide), rcs_col (by decide), rcs_col (by decide), rcs_col (by decide)]
  have r15 : ∀ b, byR ρ w (N 0) (nI (fre ρ w - m)) a2 a3 a4 a5 15 b = if b = N 0 then nI w else ρ 15 b := fun b => by
    unfold byR
    simp only [rcs_col, ne_eq, Nat.reduceEqDiff, not_false_eq_true]
    split
    · rename_i e; rw [e, cs_at]
    · rename_i e; rw [cs_nei e, rcs_col (by decide)]
  have r17 : ∀ b, byR ρ w (N 0) (nI (fre ρ w - m)) a2 a3 a4 a5 17 b = if b = N 0 then a3 else ρ 17 b := fun b => by
    unfold byR
    simp only [rcs_col, ne_eq, Nat.reduceEqDiff, not_false_eq_true]
    split
    · rename_i e; rw [e, cs_at]
    · rename_i e; rw [cs_nei e, rcs_col (by decide), rcs_col (by decide), rcs_col (by decide)]
  have rold : ∀ d, d = 18 ∨ d = 19 → ∀ b, b ≠ N 0 → byR ρ w (N 0) (nI (fre ρ w - m)) a2 a3 a4 a5 d b = ρ d b := fun d hd b hb => by
    unfold byR
    rcases hd with rfl | rfl
    · simp only [rcs_col, ne_eq, Nat.reduceEqDiff, not_false_eq_true]
      rw [cs_nei hb, rcs_col (by decide), rcs_col (by decide), rcs_col (by decide), rcs_col (by decide)]
    · simp only [rcs_col, ne_eq, Nat.reduceEqDiff, not_false_eq_true]
      rw [cs_nei hb, rcs_col (by decide), rcs_col (by decide), rcs_col (by decide), rcs_col (by decide), rcs_col (by decide)]
  have hlt : ∀ x ∈ l, x < N 0 := fun x hx => ((l4 x).mp hx).1
  obtain ⟨j, j1, j2, j3, j4⟩ := ins_loop (V := byV V w (N 0) (nI (fre ρ w - m)) a2 a3 a4 a5) (N := nup N 0) (w := w) (b := N 0) (by omega) (by omega) l1 (by omega) (fun x hx => by have := hlt x hx; omega) 2999 l.length (by omega) (Nat.le_refl _) (fun x hx => by rw [List.drop_length] at hx; exact absurd hx List.not_mem_nil)
  have hlen : (L 15 w).length = l.length := by rw [l1, List.length_map]
  have hps : (l.Pairwise (ahd (byR ρ w (N 0) (nI (fre ρ w - m)) a2 a3 a4 a5))) := l2.imp_of_mem (fun {a b} ha hb q => (ahd_congr ⟨rold 18 (Or.inl rfl) a (by have := hlt a ha; omega), rold 18 (Or.inl rfl) b (by have := hlt b hb; omega), rold 19 (Or.inr rfl) a (by have := hlt a ha; omega), rold 19 (Or.inr rfl) b (by have := hlt b hb; omega)⟩).mpr q)
  have hsort := ins_sorted v1 v2 hps hlt j1 j3 j4
  refine ⟨(l.take j ++ N 0 :: l.drop j).map nI, ?_, ?_⟩
  · unfold fc_Wallet_addInOrderOfUse
    rw [nI_clamp (show w < 2 ^ 31 by omega), hlen]
    simp only [po_b]
    exact j2
  have hfe := h.r14.eq hw
  have hsum := sumN_ge (f := fre ρ) hw
  have hle := h.r14.2
  refine ⟨?_, ?_, ?_, h.r4.congr (hV.agr (by decide)) (hR.agr (by decide)), ?_, h.r6.congr (hR.agr (by decide)), ?_, ?_, ?_, h.r10.congr (hR.agr (by decide)), h.r11.congr (hV.agr (by decide)) (hR.agr (by decide)), h.r12.congr (hV.agr (by decide)) (hR.agr (by decide)), h.r13.congr (hV.agr (by decide)) (hR.agr (by decide)), ?_, h.r15.congr (hR.agr (by decide)), h.r16.congr (hR.agr (by decide)), h.r17.congr (hR.agr (by decide))⟩
  · intro q hq
    have hd : ∀ q ∈ eqT, (q.1 = 182 ∧ q.2 = 12) ∨ (q.1 = 0 ∧ q.2 = 16) ∨ (q.1 = 1 ∧ q.2 = 18) ∨ (q.1 = 2 ∧ q.2 = 19) ∨ (q.1 ∉ [0, 1, 2, 3, 182] ∧ q.2 ∉ [12, 14, 15, 16, 17, 18, 19]) := by decide
    rcases hd q hq with ⟨a, b⟩ | ⟨a, b⟩ | ⟨a, b⟩ | ⟨a, b⟩ | ⟨a, b⟩
    · rw [a, b]
      unfold byV byR
      simp only [rcs_col, rcs_upd, ne_eq, Nat.reduceEqDiff, not_false_eq_true, h.c 182 12 (by decide)]
    · rw [a, b]
      unfold byV byR
      simp only [rcs_col, rcs_upd, ne_eq, Nat.reduceEqDiff, not_false_eq_true, h.c 0 16 (by decide)]
    · rw [a, b]; exact v1
    · rw [a, b]; exact v2
    · rw [hV _ a, hR _ b]; exact h.1 q hq
  · exact (h.r2.congr (hV.agr (by decide))).up (j := 0) (by decide)
  · refine ⟨h.r3.1, ⟨h.r3.2.1.1, ?_, h.r3.2.1.2.2.1, h.r3.2.1.2.2.2⟩, ⟨?_, ?_, ?_⟩, ⟨?_, h.r3.2.2.2.2.1, h.r3.2.2.2.2.2⟩⟩
    · show N 0 + 1 ≤ 40
      omega
    · show byR ρ w (N 0) (nI (fre ρ w - m)) a2 a3 a4 a5 14 0 = nI (N 0 + 1)
      unfold byR
      rw [cs_at]
    · rw [hR 20 (by decide)]; exact h.r3.2.2.1.2.1
    · rw [hR 22 (by decide)]; exact h.r3.2.2.1.2.2
    · show iot (N 0) ++ [nI (N 0)] = iot (N 0 + 1)
      exact iot_succ.symm
  · obtain ⟨w1, w2, w3, w4, w5, w6, w7, w8⟩ := h.r5
    refine ⟨by rw [hR 2 (by decide), hR 3 (by decide), hR 4 (by decide)]; exact w1, by rw [hR 6 (by decide), hR 7 (by decide)]; exact w2, by rw [hR 23 (by decide), hR 24 (by decide), hR 25 (by decide)]; exact w3, by rw [hR 21 (by decide)]; exact w4, fun b hb => ?_, by rw [hR 1 (by decide)]; exact w6, by rw [hR 0 (by decide)]; exact w7, w8⟩
    have hb : b < N 0 + 1 := hb
    rw [r15]
    split
    · exact vp_in_nI hw (by omega)
    · rename_i e
      exact w5 b (by omega)
  · intro q hq
    obtain ⟨q1, q2, q3, q4, q5⟩ := h.r7 q hq
    unfold R7k
    rw [hV 161 (by decide), hV 162 (by decide), hR 26 (by decide), hR 33 (by decide), hR 34 (by decide), hR 35 (by decide)]
    have hmo : ∀ {x : Int32}, vp_in x (N 0) → vp_in x (nup N 0 0) := fun z => vp_mono z nup_le
    exact ⟨q1, q2.imp id (Or.imp id hmo), q3.imp id hmo, q4, q5.imp id (fun z => ⟨z.1, z.2.imp id (fun y => ⟨hmo y.1, y.2⟩)⟩)⟩
  · intro b hb hd
    have hb : b < N 0 + 1 := hb
    rw [v3, r17]
    by_cases e : b = N 0
    · rw [if_pos e, if_pos e]
    · rw [if_neg e, if_neg e]
      rw [rold 18 (Or.inl rfl) b e, hR 0 (by decide)] at hd
      exact h.r8 b (by omega) hd
  · intro w' hw'
    by_cases e : w' = w
    · subst e
      refine ⟨l.take j ++ N 0 :: l.drop j, ?_, hsort, ?_, fun b => ?_⟩
      · show lput L 15 w' _ 15 w' = _
        exact if_pos ⟨rfl, rfl⟩
      · show _ ≤ N 0 + 1
        rw [List.length_append, List.length_cons, List.length_take, List.length_drop]
        omega
      · show _ ↔ b < N 0 + 1 ∧ _
        rw [r15]
        have hmem : b ∈ l.take j ++ N 0 :: l.drop j ↔ b = N 0 ∨ b ∈ l := by
          conv => rhs; rw [← List.take_append_drop j l]
          rw [List.mem_append, List.mem_append, List.mem_cons]
          constructor
          · rintro (q | q | q)
            · exact Or.inr (Or.inl q)
            · exact Or.inl q
            · exact Or.inr (Or.inr q)
          · rintro (q | q | q)
            · exact Or.inr (Or.inl q)
            · exact Or.inl q
            · exact Or.inr (Or.inr q)
        rw [hmem]
        by_cases eb : b = N 0
        · rw [if_pos eb]
          exact ⟨fun _ => ⟨by omega, rfl⟩, fun _ => Or.inl eb⟩
        · rw [if_neg eb, l4]
          exact ⟨fun q => q.elim (fun z => absurd z eb) (fun z => ⟨by omega, z.2⟩), fun q => Or.inr ⟨by omega, q.2⟩⟩
    · obtain ⟨k, k1, k2, k3, k4⟩ := h.r9 w' hw'
      have hkl : ∀ x ∈ k, x < N 0 := fun x hx => ((k4 x).mp hx).1
      refine ⟨k, ?_, k2.imp_of_mem (fun {a b} ha hb q => (ahd_congr ⟨rold 18 (Or.inl rfl) a (by have := hkl a ha; omega), rold 18 (Or.inl rfl) b (by have := hkl b hb; omega), rold 19 (Or.inr rfl) a (by have := hkl a ha; omega), rold 19 (Or.inr rfl) b (by have := hkl b hb; omega)⟩).mpr q), ?_, fun b => ?_⟩
      · show lput L 15 w _ 15 w' = _
        rw [← k1]
        exact if_neg (fun z => e z.2)
      · show _ ≤ N 0 + 1
        omega
      · show _ ↔ b < N 0 + 1 ∧ _
        rw [r15, k4]
        by_cases eb : b = N 0
        · rw [if_pos eb]
          exact ⟨fun q => by omega, fun q => absurd ((nI_eq (by omega) (by omega)).mp q.2).symm e⟩
        · rw [if_neg eb]
          exact ⟨fun q => ⟨by omega, q.2⟩, fun q => ⟨by omega, q.2⟩⟩
  · have r12 : ∀ w', byR ρ w (N 0) (nI (fre ρ w - m)) a2 a3 a4 a5 12 w' = if w' = w then nI (fre ρ w - m) else ρ 12 w' := fun w' => by
      unfold byR
      simp only [rcs_col, ne_eq, Nat.reduceEqDiff, not_false_eq_true]
      split
      · rename_i e; rw [e, cs_at]
      · rename_i e; rw [cs_nei e]
    refine ⟨fun w' hw' => ?_, ?_⟩
    · rw [r12]
      split
      · exact nI_pos (by omega)
      · exact h.r14.1 w' hw'
    · have hat := sumN_at (f := fre ρ) (g := fre (byR ρ w (N 0) (nI (fre ρ w - m)) a2 a3 a4 a5)) hw (fun w' _ hne => by
        show (byR ρ w (N 0) (nI (fre ρ w - m)) a2 a3 a4 a5 12 w').toNatClampNeg = (ρ 12 w').toNatClampNeg
        rw [r12, if_neg hne])
      have y1 : fre (byR ρ w (N 0) (nI (fre ρ w - m)) a2 a3 a4 a5) w = fre ρ w - m := by
        show (byR ρ w (N 0) (nI (fre ρ w - m)) a2 a3 a4 a5 12 w).toNatClampNeg = _
        rw [r12, if_pos rfl, nI_clamp (by omega)]
      have y2 : sumN (mIn (byR ρ w (N 0) (nI (fre ρ w - m)) a2 a3 a4 a5)) (N 4) = sumN (mIn ρ) (N 4) := by
        refine sumN_congr fun q _ => ?_
        unfold mIn
        rw [hR 33 (by decide), hR 34 (by decide), hR 35 (by decide)]
      show sumN _ 4 + sumN _ (N 4) ≤ _
      omega
theorem f_buy (h : Rel V L N ρ t nw 0) (ht : t ≤ 512) (x a2 a3 a4 a5 a6 : Int32) : OKW V L N (fc_buy V L N x a2 a3 a4 a5 a6) (fr_buy ρ x a2 a3 a4 a5 a6) cd3 t (E26 ρ) := by
  have h0 := h.can 0
  have e12 : L 12 0 = iot (N 0) := h.r3.2.2.2.1
  have e14 : ρ 14 0 = nI (N 0) := h.r3.2.2.1.1
  have hn0 := h.r3.2.1.2.1
  have hnw := h.r5.2.2.2.2.2.2.2
  have e00 := h.r5.2.2.2.2.2.2.1
  -- the arguments
  obtain ⟨g, hg1, hg2⟩ : ∃ g : Int32, fr_buy ρ x a2 a3 a4 a5 a6 = fr_buy_59 ρ x a2 a3 a4 a5 a6 g ∧ ((g = 0 ∧ ∀ w, w < 4 → x = nI w → fc_buy V L N x a2 a3 a4 a5 a6 = some (.inr 2)) ∨ (g = 1 ∧ (¬ a6 < 0 ∧ a6 ≤ 1000000) ∧ ∀ w, w < 4 → x = nI w → fc_buy V L N x a2 a3 a4 a5 a6 = (if (V 182 w) < a6 then some (.inr 3) else if N 0 < 40 then (fc_Wallet_addInOrderOfUse (cs (cs (cs (cs (cs V 182 w ((V 182 w) - a6)) 0 (N 0) a2) 1 (N 0) (nI (nw / 2400) + a4)) 2 (N 0) a5) 3 (N 0) a3) L (nup N 0) (nI w) (nI (N 0))).bind fun o20 => if 1000 ≤ (o20.2.1 12 0).length then none else some (.inl ((o20.1, lput o20.2.1 12 0 ((o20.2.1 12 0) ++ [nI (N 0)]), o20.2.2), nI (N 0))) else some (.inr 3)))) := by
    have hc1 : ∀ w, w < 4 → x = nI w → fc_buy V L N x a2 a3 a4 a5 a6 = (fc_isOutside V L N a2 1 7).bind fun o4 => (if o4 = 0 then (fc_isOutside V L N a3 1 5000).bind fun o5 => (if o5 = 0 then (fc_isOutside V L N a4 1 30).bind fun o6 => (if o6 = 0 then (fc_isOutside V L N a5 0 9).bind fun o7 => (if o7 = 0 then (fc_isOutside V L N a6 0 1000000).bind fun o8 => (if o8 = 0 then (if (V 182 w) < a6 then some (.inr 3) else if N 0 < 40 then (fc_Wallet_addInOrderOfUse (cs (cs (cs (cs (cs V 182 w ((V 182 w) - a6)) 0 (N 0) a2) 1 (N 0) (nI (nw / 2400) + a4)) 2 (N 0) a5) 3 (N 0) a3) L (nup N 0) (nI w) (nI (N 0))).bind fun o20 => if 1000 ≤ (o20.2.1 12 0).length then none else some (.inl ((o20.1, lput o20.2.1 12 0 ((o20.2.1 12 0) ++ [nI (N 0)]), o20.2.2), nI (N 0))) else some (.inr 3)) else some (.inr 2)) else some (.inr 2)) else some (.inr 2)) else some (.inr 2)) else some (.inr 2)) := fun w hw hx => by
      unfold fc_buy fc_dayOf
      rw [hx, waA_ok hw]
      simp only [po_b, Sum.elim_inl]
      rw [nI_clamp (show w < 2 ^ 31 by omega), e12, iot_len, show cs V 182 w (V 182 w - a6) 228 0 = nI nw by rw [rcs_col (by decide), h.c 228 0 (by decide), e00], day_eq hnw]
      have gn : ¬ 100000 ≤ N 0 := by omega
      simp only [gn, if_false]
      by_cases hn : N 0 < 40
      · simp only [hn, if_true, show (nI (N 0) < 40) = True from eq_true (nI_lt (b := 40) hn (by decide))]
      · simp only [hn, if_false, show (nI (N 0) < 40) = False from eq_false (nI_nlt (b := 40) (by omega) (by omega))]
    unfold fr_buy fr_buy_58
    rcases rng a2 1 7 with ⟨p1, p2⟩ | b
    · rw [inr_ok p1 p2]
      simp only [po_b]
      rw [if_neg (show ¬ (1 : Int32) = 0 by decide)]
      rcases rng a3 1 5000 with ⟨q1, q2⟩ | b
      · rw [inr_ok q1 q2]
        simp only [po_b]
        rw [if_neg (show ¬ (1 : Int32) = 0 by decide)]
        rcases rng a4 1 30 with ⟨s1, s2⟩ | b
        · rw [inr_ok s1 s2]
          simp only [po_b]
          rw [if_neg (show ¬ (1 : Int32) = 0 by decide)]
          rcases rng a5 0 9 with ⟨u1, u2⟩ | b
          · rw [inr_ok u1 u2]
            simp only [po_b]
            rw [if_neg (show ¬ (1 : Int32) = 0 by decide)]
            rcases rng a6 0 1000000 with ⟨v1, v2⟩ | b
            · rw [inr_ok v1 v2]
              simp only [po_b]
              rw [if_neg (show ¬ (1 : Int32) = 0 by decide)]
              refine ⟨1, rfl, Or.inr ⟨rfl, ⟨v1, v2⟩, fun w hw hx => ?_⟩⟩
              rw [hc1 w hw hx, out_ok p1 p2, out_ok q1 q2, out_ok s1 s2, out_ok u1 u2, out_ok v1 v2]
              simp only [po_b, if_true]
            · rw [inr_bad b]
              simp only [po_b, if_true]
              refine ⟨0, rfl, Or.inl ⟨rfl, fun w hw hx => ?_⟩⟩
              rw [hc1 w hw hx, out_ok p1 p2, out_ok q1 q2, out_ok s1 s2, out_ok u1 u2, out_bad b]
              simp only [po_b, if_true]
              rw [if_neg (show ¬ (1 : Int32) = 0 by decide)]
          · rw [inr_bad b]
            simp only [po_b, if_true]
            refine ⟨0, rfl, Or.inl ⟨rfl, fun w hw hx => ?_⟩⟩
            rw [hc1 w hw hx, out_ok p1 p2, out_ok q1 q2, out_ok s1 s2, out_bad b]
            simp only [po_b, if_true]
            rw [if_neg (show ¬ (1 : Int32) = 0 by decide)]
        · rw [inr_bad b]
          simp only [po_b, if_true]
          refine ⟨0, rfl, Or.inl ⟨rfl, fun w hw hx => ?_⟩⟩
          rw [hc1 w hw hx, out_ok p1 p2, out_ok q1 q2, out_bad b]
          simp only [po_b, if_true]
          rw [if_neg (show ¬ (1 : Int32) = 0 by decide)]
      · rw [inr_bad b]
        simp only [po_b, if_true]
        refine ⟨0, rfl, Or.inl ⟨rfl, fun w hw hx => ?_⟩⟩
        rw [hc1 w hw hx, out_ok p1 p2, out_bad b]
        simp only [po_b, if_true]
        rw [if_neg (show ¬ (1 : Int32) = 0 by decide)]
    · rw [inr_bad b]
      simp only [po_b, if_true]
      refine ⟨0, rfl, Or.inl ⟨rfl, fun w hw hx => ?_⟩⟩
      rw [hc1 w hw hx, out_bad b]
      simp only [po_b]
      rw [if_neg (show ¬ (1 : Int32) = 0 by decide)]
  rw [hg1]
  unfold fr_buy_59 fr_buy_102
  rcases ix x (n := 4) (by decide) with ⟨w, hw, hxw⟩ | hx
  · have gw := ng (n := 4) hw (by omega)
    have hclw := nI_clamp (show w < 2 ^ 31 by omega)
    rw [hxw, isW_ok hw]
    simp only [po_b]
    rw [if_neg (show ¬ (1 : Int32) = 0 by decide), hclw, if_neg gw]
    rcases hg2 with ⟨eg, hc⟩ | ⟨eg, ⟨v1, v2⟩, hc⟩
    · rw [eg, if_pos rfl, ← hxw, hc w hw hxw]
      left
      refine ⟨2, cs ρ 39 0 2, 0, rfl, ?_, cs_at, by decide, h.err 2⟩
      unfold fr_buy_107
      rw [can_bad (by decide)]
    · rw [eg, if_neg (show ¬ (1 : Int32) = 0 by decide), ← hxw, hc w hw hxw, h.c 182 12 (by decide)]
      obtain ⟨m, -, hm, rfl⟩ := nat_of (lo := 0) (hi := 1000000) (by decide) v1 v2
      have hfe := h.r14.eq hw
      have hsum := sumN_ge (f := fre ρ) hw
      have hle := h.r14.2
      have bad3 : fr_buy_107 ρ x a2 a3 a4 a5 (nI m) 3 = some (cs ρ 39 0 3, 0) := by
        unfold fr_buy_107
        rw [can_bad (by decide)]
      rw [bad3]
      by_cases hmm : m ≤ fre ρ w
      · rw [if_neg (show ¬ ρ 12 w < nI m by rw [hfe]; exact nI_nlt hmm (by omega)), if_neg (show ¬ ρ 12 w < nI m by rw [hfe]; exact nI_nlt hmm (by omega)), e14]
        by_cases hn : N 0 < 40
        · rw [if_pos hn, if_neg (show ¬ nI (N 0) = 40 from fun z => by
            have := (nI_eq (a := N 0) (b := 40) (by omega) (by omega)).mp z
            omega)]
          obtain ⟨Lw, k1, k2⟩ := op_buy h0 (w := w) (m := m) (a2 := a2) (a3 := a3) (a4 := nI (nw / 2400) + a4) (a5 := a5) hw hn hmm ht
          have ev : ρ 12 w - nI m = nI (fre ρ w - m) := by rw [hfe, pk_sub hmm]
          right
          have gn := ng (n := 40) hn (by omega)
          have hcln := nI_clamp (show N 0 < 2 ^ 31 by omega)
          refine ⟨(byV V w (N 0) (nI (fre (cs ρ 39 0 0) w - m)) a2 a3 (nI (nw / 2400) + a4) a5, lput (lput L 15 w Lw) 12 0 (iot (N 0) ++ [nI (N 0)]), nup N 0), nI (N 0), byR (cs ρ 39 0 0) w (N 0) (nI (fre (cs ρ 39 0 0) w - m)) a2 a3 (nI (nw / 2400) + a4) a5, ?_, ?_, ?_, ⟨nw, k2⟩, Nat.le_of_eq (E26_eq rfl).symm⟩
          · rw [ev, show cs (cs (cs (cs (cs V 182 w (nI (fre ρ w - m))) 0 (N 0) a2) 1 (N 0) (nI (nw / 2400) + a4)) 2 (N 0) a5) 3 (N 0) a3 = byV V w (N 0) (nI (fre (cs ρ 39 0 0) w - m)) a2 a3 (nI (nw / 2400) + a4) a5 from rfl, k1]
            simp only [po_b]
            rw [show lput L 15 w Lw 12 0 = iot (N 0) from e12, iot_len, if_neg (by omega)]
          · unfold fr_buy_107 fr_today
            rw [can_ok, hxw, hclw]
            simp only [po_b, gw, if_false, rcs_col, ne_eq, Nat.reduceEqDiff, not_false_eq_true, e14, hcln, gn, cs_at]
            rw [e00, day_eq hnw, ev, nI_1, nI_pred]
            rfl
          · rfl
        · rw [if_neg hn, if_pos (show nI (N 0) = 40 by rw [show N 0 = 40 by omega]; rfl)]
          exact Or.inl ⟨3, cs ρ 39 0 3, 0, rfl, rfl, cs_at, by decide, h.err 3⟩
      · rw [if_pos (show ρ 12 w < nI m by rw [hfe]; exact nI_lt (by omega) (by omega)), if_pos (show ρ 12 w < nI m by rw [hfe]; exact nI_lt (by omega) (by omega))]
        exact Or.inl ⟨3, cs ρ 39 0 3, 0, rfl, rfl, cs_at, by decide, h.err 3⟩
  · rw [isW_bad hx]
    simp only [po_b, if_true]
    left
    refine ⟨1, cs ρ 39 0 1, 0, ?_, ?_, cs_at, by decide, h.err 1⟩
    · unfold fc_buy
      rw [waA_bad hx]
      simp only [po_b, Sum.elim_inr]
    · unfold fr_buy_107
      rw [can_bad (by decide)]
end BZ
