/-! RATES are set, BUNDLES are bought -/
section BY
variable {V V' : Rho} {L : Lst} {N : Cnt} {ρ ρ' : Rho} {t nw i k p c : Nat}
theorem getD_app_l {l : List Int32} {x : Int32} {j : Nat} (h : j < l.length) : (l ++ [x]).getD j 0 = l.getD j 0 := by
  rw [List.getD_eq_getElem?_getD, List.getD_eq_getElem?_getD, List.getElem?_append_left h]
theorem getD_app_r {l : List Int32} {x : Int32} : (l ++ [x]).getD l.length 0 = x := by
  rw [List.getD_eq_getElem?_getD, List.getElem?_append_right (Nat.le_refl _), Nat.sub_self]
  rfl
theorem getD_mem {l : List Int32} {j : Nat} (h : j < l.length) : l.getD j 0 ∈ l := by
  rw [List.getD_eq_getElem?_getD, List.getElem?_eq_getElem h]
  exact List.getElem_mem h
/-- a rate from this second on -/
theorem Hs.push {l : List Int32} {f : Nat → Int32} {x r : Int32} (h : Hs V l f) (hl : l.length < 1000) (hnw : nw ≤ 50000) (h140 : ∀ y ∈ l, (V 140 y.toNatClampNeg).toNatClampNeg ≤ nw ∧ V' 140 y.toNatClampNeg = V 140 y.toNatClampNeg ∧ V' 141 y.toNatClampNeg = V 141 y.toNatClampNeg) (hx : V' 140 x.toNatClampNeg = nI nw ∧ V' 141 x.toNatClampNeg = r) : Hs V' (l ++ [x]) (fun s => if nw ≤ s then r else f s) := by
  obtain ⟨h0, -, s, h1, h2, h3, h4⟩ := h
  have hlen : (l ++ [x]).length = l.length + 1 := by rw [List.length_append]; rfl
  refine ⟨by omega, by omega, fun j => if j < l.length then s j else nw, by simp only [h0, if_true]; exact h1, fun j hj => ?_, fun j hj => ?_, fun j hj t ht1 ht2 => ?_⟩
  · by_cases e : j < l.length
    · simp only [e, if_true]
      rw [getD_app_l e, (h140 _ (getD_mem e)).2.1]
      exact h2 j e
    · have e2 : j = l.length := by omega
      subst e2
      simp only [Nat.lt_irrefl, if_false]
      rw [getD_app_r]
      exact ⟨hx.1, hnw⟩
  · have e : j < l.length := by omega
    simp only [e, if_true]
    by_cases e2 : j + 1 < l.length
    · simp only [e2, if_true]
      exact h3 j e2
    · simp only [e2, if_false]
      have := (h140 _ (getD_mem e)).1
      rw [(h2 j e).1, nI_clamp (by have := (h2 j e).2; omega)] at this
      exact this
  · show (if nw ≤ t then r else f t) = _
    by_cases e : j < l.length
    · simp only [e, if_true] at ht1
      have ht2 := ht2 (by omega)
      rw [getD_app_l e, (h140 _ (getD_mem e)).2.2]
      by_cases e2 : j + 1 < l.length
      · simp only [e2, if_true] at ht2
        have hs2 := (h140 _ (getD_mem e2)).1
        rw [(h2 _ e2).1, nI_clamp (by have := (h2 _ e2).2; omega)] at hs2
        rw [if_neg (by omega)]
        exact h4 j e t ht1 (fun _ => ht2)
      · simp only [e2, if_false] at ht2
        rw [if_neg (by omega)]
        exact h4 j e t ht1 (fun z => absurd z e2)
    · have e2 : j = l.length := by omega
      subst e2
      simp only [Nat.lt_irrefl, if_false] at ht1
      rw [if_pos ht1, getD_app_r]
      exact hx.2.symm
/-- old steps stay what they are -/
theorem Hs.same {l : List Int32} {f : Nat → Int32} (h : Hs V l f) (h140 : ∀ y ∈ l, V' 140 y.toNatClampNeg = V 140 y.toNatClampNeg ∧ V' 141 y.toNatClampNeg = V 141 y.toNatClampNeg) : Hs V' l f := by
  obtain ⟨h0, hl, s, h1, h2, h3, h4⟩ := h
  refine ⟨h0, hl, s, h1, fun j hj => ?_, h3, fun j hj t a b => ?_⟩
  · rw [(h140 _ (getD_mem hj)).1]
    exact h2 j hj
  · rw [(h140 _ (getD_mem hj)).2]
    exact h4 j hj t a b
theorem f_setRate (h : Rel V L N ρ t nw 0) (ht : t + 1 ≤ 512) (x y z : Int32) : OKW V L N (fc_setRate V L N x y z) (fr_setRate ρ x y z) cd2 (t + 1) (E26 ρ) := by
  have h1 := h.later
  have hnw := h.r5.2.2.2.2.2.2.2
  have bad : fr_setRate_23 ρ x y z = some (cs ρ 39 0 1, 0) := by
    unfold fr_setRate_23 fr_setRate_24
    rw [can_bad (by decide)]
  unfold fc_setRate fr_setRate
  rw [bad]
  rcases ix x (n := 3) (by decide) with ⟨a, ha, rfl⟩ | hx
  · have ga := ng (n := 3) ha (by omega)
    have hcla := nI_clamp (show a < 2 ^ 31 by omega)
    rw [isZ_ok ha, out_ok (nI_pos (by omega)) (show nI a ≤ 2 from nI_le (b := 2) (by omega) (by decide))]
    simp only [po_b, if_true]
    rw [if_neg (show ¬ (1 : Int32) = 0 by decide)]
    rcases rng z 0 1000 with ⟨h2, h3⟩ | hb
    · rw [out_ok h2 h3, inr_ok h2 h3]
      simp only [po_b, if_true]
      rw [if_neg (show ¬ (1 : Int32) = 0 by decide), hcla, if_neg ga]
      obtain ⟨m, -, hm, rfl⟩ := nat_of (lo := 0) (hi := 1000) (by decide) h2 h3
      right
      -- which history, and which column of the reference
      obtain ⟨hh, q, e1, e2, e3, e4, e5⟩ : ∃ hh q : Nat, fc_Zone_historyFor V L N (nI a) y = some (nI hh) ∧ hh < 6 ∧ q < 6 ∧ fr_setRate_24 ρ (nI a) y (nI m) 0 = some (cs (cs ρ 39 0 0) 5 q (nI m), ρ 5 q) ∧ V 121 hh = ρ 5 q ∧ ∀ zz, zz < 3 → ((2 * zz = hh ↔ 3 + zz = q) ∧ (2 * zz + 1 = hh ↔ zz = q)) := by
        have g41 : ∀ s : Nat, s ≤ 3 → fr_setRate_41 (cs ρ 39 0 0) (nI a) (nI m) (nI s) = some (cs (cs ρ 39 0 0) 5 (s + a) (nI m), ρ 5 (s + a)) := fun s hs => by
          have g6 := ng (n := 6) (show s + a < 6 by omega) (by omega)
          unfold fr_setRate_41
          rw [nI_add]
          simp only [po_b]
          rw [nI_clamp (show s + a < 2 ^ 31 by omega), if_neg g6, if_neg g6]
          rfl
        unfold fc_Zone_historyFor fr_setRate_24
        rw [can_ok]
        by_cases hy : y = 0
        · rw [if_pos hy, if_pos hy, nI_add, nI_1]
          refine ⟨a + a + 1, a, rfl, by omega, by omega, ?_, ?_, fun zz hzz => by constructor <;> constructor <;> omega⟩
          · have := g41 0 (by omega)
            rw [Nat.zero_add] at this
            exact this
          · have := (h.r4.1 a ha).2
            rw [show a + a + 1 = 2 * a + 1 by omega]
            exact this
        · rw [if_neg hy, if_neg hy, nI_add]
          refine ⟨a + a, 3 + a, rfl, by omega, by omega, g41 3 (by omega), ?_, fun zz hzz => by constructor <;> constructor <;> omega⟩
          have := (h.r4.1 a ha).1
          rw [show a + a = 2 * a by omega]
          exact this
      obtain ⟨e5, e6⟩ := e5
      rw [e1, e4]
      simp only [po_b]
      obtain ⟨F, ⟨hF, hN7⟩, hk13⟩ := h.r13
      obtain ⟨f1, f2, f3, f4⟩ := hF hh e2
      have hclh := nI_clamp (show hh < 2 ^ 31 by omega)
      have g7 : ¬ 100000 ≤ N 7 := by omega
      have gl : ¬ 1000 ≤ (L 16 hh).length := by omega
      have hcl7 := nI_clamp (show N 7 < 2 ^ 31 by omega)
      have hch : fc_RateHistory_change V L N (nI hh) (V 228 0) (nI m) = some (cs (cs (cs V 121 hh (nI m)) 140 (N 7) (nI nw)) 141 (N 7) (nI m), lput L 16 hh (L 16 hh ++ [nI (N 7)]), nup N 7) := by
        unfold fc_RateHistory_change
        rw [hclh, h.c 228 0 (by decide), h.r5.2.2.2.2.2.2.1]
        simp only [po_b, g7, gl, if_false]
        rw [if_neg (show ¬ (600 : Int32) ≤ nI (L 16 hh).length from nI_ge (b := 600) (by omega) (by omega))]
      rw [hch]
      simp only [po_b]
      have h10 := h1.can 0
      have hV : chg [121, 140, 141] V (cs (cs (cs V 121 hh (nI m)) 140 (N 7) (nI nw)) 141 (N 7) (nI m)) := ((chg.rf.st (by decide)).st (by decide)).st (by decide)
      have hR : chg [5] (cs ρ 39 0 0) (cs (cs ρ 39 0 0) 5 q (nI m)) := chg.rf.st (by decide)
      refine ⟨_, ρ 5 q, _, by rw [hclh, e5], rfl, rfl, ⟨⟨nw, ⟨?_, (h10.r2.congr (hV.agr (by decide))).up (j := 7) (by decide), h10.r3.congr (hR.agr (by decide)), ?_, h10.r5.congr (hR.agr (by decide)), h10.r6.congr (hR.agr (by decide)), h10.r7.congr (hV.agr (by decide)) (hR.agr (by decide)), h10.r8.congr (hV.agr (by decide)) (hR.agr (by decide)), h10.r9.congr (hR.agr (by decide)), h10.r10.congr (hR.agr (by decide)), h10.r11.congr (hV.agr (by decide)) (hR.agr (by decide)), h10.r12.congr (hV.agr (by decide)) (hR.agr (by decide)), ?_, h10.r14.congr (hR.agr (by decide)), h10.r15.congr (hR.agr (by decide)), h10.r16.congr (hR.agr (by decide)), h10.r17.congr (hR.agr (by decide))⟩⟩, Nat.le_of_eq (E26_eq rfl).symm⟩⟩
      · exact (((h10.r1.left (by decide)).left (by decide)).left (by decide)).right (by decide)
      · have v121 : ∀ g, cs (cs (cs V 121 hh (nI m)) 140 (N 7) (nI nw)) 141 (N 7) (nI m) 121 g = if g = hh then nI m else V 121 g := fun g => by
          rw [rcs_col (by decide), rcs_col (by decide)]
          split
          · rename_i e; rw [e, cs_at]
          · rename_i e; rw [cs_nei e]
        have r5 : ∀ g, cs (cs ρ 39 0 0) 5 q (nI m) 5 g = if g = q then nI m else ρ 5 g := fun g => by
          split
          · rename_i e; rw [e, cs_at]
          · rename_i e; rw [cs_nei e]; rfl
        refine ⟨fun zz hzz => ?_, fun j hj => ?_⟩
        · dsimp only
          rw [v121, v121, r5, r5]
          obtain ⟨w1, w2⟩ := e6 zz hzz
          obtain ⟨u1, u2⟩ := h.r4.1 zz hzz
          constructor
          · by_cases e : 2 * zz = hh
            · rw [if_pos e, if_pos (w1.mp e)]
            · rw [if_neg e, if_neg (fun y => e (w1.mpr y)), u1]
          · by_cases e : 2 * zz + 1 = hh
            · rw [if_pos e, if_pos (w2.mp e)]
            · rw [if_neg e, if_neg (fun y => e (w2.mpr y)), u2]
        · rw [r5]
          split
          · exact vp_in_nI (by omega) (by omega)
          · exact h.r4.2 j hj
      · -- the history goes on
        have hold : ∀ g, g < 6 → ∀ yy ∈ L 16 g, (V 140 yy.toNatClampNeg).toNatClampNeg ≤ nw ∧ cs (cs (cs V 121 hh (nI m)) 140 (N 7) (nI nw)) 141 (N 7) (nI m) 140 yy.toNatClampNeg = V 140 yy.toNatClampNeg ∧ cs (cs (cs V 121 hh (nI m)) 140 (N 7) (nI nw)) 141 (N 7) (nI m) 141 yy.toNatClampNeg = V 141 yy.toNatClampNeg := fun g hg yy hyy => by
          obtain ⟨u1, u2⟩ := (hF g hg).2.2.1 yy hyy
          have := vp_lt u1
          refine ⟨u2, ?_, ?_⟩
          · rw [rcs_col (by decide), cs_nei (by omega), rcs_col (by decide)]
          · rw [cs_nei (by omega), rcs_col (by decide), rcs_col (by decide)]
        have hnew : cs (cs (cs V 121 hh (nI m)) 140 (N 7) (nI nw)) 141 (N 7) (nI m) 140 (nI (N 7)).toNatClampNeg = nI nw ∧ cs (cs (cs V 121 hh (nI m)) 140 (N 7) (nI nw)) 141 (N 7) (nI m) 141 (nI (N 7)).toNatClampNeg = nI m := by
          rw [hcl7]
          refine ⟨?_, cs_at⟩
          rw [rcs_col (by decide), cs_at]
        have hLg : ∀ g, g ≠ hh → lput L 16 hh (L 16 hh ++ [nI (N 7)]) 16 g = L 16 g := fun g hg => if_neg (fun z => hg z.2)
        have hLh : lput L 16 hh (L 16 hh ++ [nI (N 7)]) 16 hh = L 16 hh ++ [nI (N 7)] := if_pos ⟨rfl, rfl⟩
        refine ⟨fun g s => if g = hh then (if nw ≤ s then nI m else F hh s) else F g s, ⟨fun g hg => ?_, ?_⟩, fun j hj => ?_⟩
        · by_cases e : g = hh
          · subst e
            show Hs _ (lput L 16 g (L 16 g ++ [nI (N 7)]) 16 g) _ ∧ (lput L 16 g (L 16 g ++ [nI (N 7)]) 16 g).length ≤ t + 1 + 1 ∧ (∀ x ∈ lput L 16 g (L 16 g ++ [nI (N 7)]) 16 g, _) ∧ _
            rw [hLh]
            simp only [if_true]
            refine ⟨f1.push (by omega) hnw (hold g hg) hnew, ?_, fun x hx => ?_, fun s hs => ?_⟩
            · rw [List.length_append]
              show (L 16 g).length + 1 ≤ _
              omega
            · rcases List.mem_append.mp hx with hx | hx
              · rw [(hold g hg x hx).2.1]
                exact ⟨vp_mono (f3 x hx).1 (by rw [nup_self]; omega), (f3 x hx).2⟩
              · rw [List.mem_singleton.mp hx, hnew.1, nI_clamp (by omega)]
                exact ⟨vp_in_nI (by rw [nup_self]; omega) (by rw [nup_self]; omega), Nat.le_refl _⟩
            · rw [if_pos hs, rcs_col (by decide), rcs_col (by decide), cs_at]
          · obtain ⟨u1, u2, u3, u4⟩ := hF g hg
            show Hs _ (lput L 16 hh (L 16 hh ++ [nI (N 7)]) 16 g) _ ∧ (lput L 16 hh (L 16 hh ++ [nI (N 7)]) 16 g).length ≤ t + 1 + 1 ∧ (∀ x ∈ lput L 16 hh (L 16 hh ++ [nI (N 7)]) 16 g, _) ∧ _
            rw [hLg g e]
            simp only [e, if_false]
            refine ⟨u1.same (fun yy hyy => (hold g hg yy hyy).2), by omega, fun x hx => ?_, fun s hs => ?_⟩
            · rw [(hold g hg x hx).2.1]
              exact ⟨vp_mono (u3 x hx).1 (by rw [nup_self]; omega), (u3 x hx).2⟩
            · rw [rcs_col (by decide), rcs_col (by decide), cs_nei e]
              exact u4 s hs
        · show N 7 + 1 ≤ 6 + (t + 1)
          omega
        · obtain ⟨w1, w2, w3⟩ := hk13 j hj
          have hU := vp_lt (h.r11 j hj).1
          rw [if_pos rfl] at hU
          refine ⟨evok_agr (hV.agr (by decide)) w1, ?_, ?_⟩
          · rw [evs_agr (hV.agr (by decide))]
            show ρ 28 j + ρ 29 j = evs V _ (ρ 32 j).toNatClampNeg (L 18 j)
            rw [evs_F (F := F) (fun zz s hs => ?_) w1]
            · exact w2
            · unfold gz
              show (if hix zz s = hh then (if nw ≤ s then nI m else F hh s) else F (hix zz s) s) = F (hix zz s) s
              split
              · rename_i e
                rw [if_neg (by omega), e]
              · rfl
          · exact w3
    · rw [out_bad hb, inr_bad hb]
      simp only [po_b, if_true]
      rw [if_neg (show ¬ (1 : Int32) = 0 by decide)]
      exact Or.inl ⟨2, cs ρ 39 0 1, 0, rfl, rfl, cs_at, by decide, h1.err 1⟩
  · rw [isZ_bad hx, out_bad (lo := 0) (hi := 2) (hx.imp id (fun q z => by
      have e3 : (2 : Int32).toInt = 2 := by decide
      rw [Int32.le_iff_toInt_le, nI_toInt (by decide)] at q
      rw [Int32.le_iff_toInt_le] at z
      omega))]
    simp only [po_b, if_true]
    rw [if_neg (show ¬ (1 : Int32) = 0 by decide)]
    exact Or.inl ⟨2, cs ρ 39 0 1, 0, rfl, rfl, cs_at, by decide, h1.err 1⟩
/-- is the bundle b used ahead of x (b the newer one) -/
def ua (V : Rho) (b x : Nat) : Prop := V 2 b < V 2 x ∨ (V 2 b = V 2 x ∧ V 1 b < V 1 x)
theorem c_ua {b x : Nat} (hb : b < 2 ^ 31) (hx : x < 2 ^ 31) : (ua V b x → fc_Bundle_isUsedAhead V L N (nI b) (nI x) = some 1) ∧ (¬ ua V b x → fc_Bundle_isUsedAhead V L N (nI b) (nI x) = some 0) := by
  unfold fc_Bundle_isUsedAhead ua
  rw [nI_clamp hb, nI_clamp hx]
  by_cases h1 : V 2 b < V 2 x
  · rw [if_pos h1]
    exact ⟨fun _ => rfl, fun q => absurd (Or.inl h1) q⟩
  · rw [if_neg h1]
    by_cases h2 : V 2 b = V 2 x
    · rw [if_pos h2]
      by_cases h3 : V 1 x ≤ V 1 b
      · rw [if_pos h3]
        exact ⟨fun q => q.elim (fun z => absurd z h1) (fun z => absurd z.2 (Int32.not_lt.mpr h3)), fun _ => rfl⟩
      · rw [if_neg h3]
        exact ⟨fun _ => rfl, fun q => absurd (Or.inr ⟨h2, Int32.not_le.mp h3⟩) q⟩
    · rw [if_neg h2]
      exact ⟨fun q => q.elim (fun z => absurd z h1) (fun z => absurd z.1 h2), fun _ => rfl⟩
theorem ng' {j n : Nat} (h : j ≤ n) (hj : j < 2 ^ 31 := by omega) : ¬ (nI j < 0 ∨ n < j) := by
  rw [not_or]
  exact ⟨nI_pos hj, by omega⟩
theorem ins_loop {w b : Nat} {l : List Nat} (hw : w < 2 ^ 31) (hb : b < 2 ^ 31) (hL : L 15 w = l.map nI) (hl : l.length ≤ 40) (hl2 : ∀ x ∈ l, x < 2 ^ 31) (n : Nat) : ∀ j : Nat, j ≤ n → j ≤ l.length → (∀ x ∈ l.drop j, ua V b x) → ∃ j', j' ≤ l.length ∧ fc_Wallet_addInOrderOfUse_18 (n + 1) V L N (nI w) (nI b) (nI j) (nI j - 1) = some (V, lput L 15 w ((l.take j' ++ b :: l.drop j').map nI), N) ∧ (∀ x ∈ l.drop j', ua V b x) ∧ (∀ hj : 0 < j', ¬ ua V b (l.getD (j' - 1) 0)) := by
  have hlen : (L 15 w).length = l.length := by rw [hL, List.length_map]
  have g1 : ¬ 1000 ≤ (L 15 w).length := by omega
  have hfin : ∀ j, j ≤ l.length → lput L 15 w ((L 15 w).take j ++ nI b :: (L 15 w).drop j) = lput L 15 w ((l.take j ++ b :: l.drop j).map nI) := fun j _ => by
    rw [hL, List.map_append, List.map_cons, List.map_take, List.map_drop]
  induction n with
  | zero =>
    intro j h1 h2 h3
    obtain rfl : j = 0 := by omega
    refine ⟨0, Nat.zero_le _, ?_, h3, fun hj => by omega⟩
    rw [fc_Wallet_addInOrderOfUse_18, if_pos (show nI 0 - 1 < 0 by decide), nI_clamp hw, if_neg g1, nI_clamp (show 0 < 2 ^ 31 by decide), if_neg (ng' (Nat.zero_le _))]
    simp only [po_b]
    rw [hfin 0 (Nat.zero_le _)]
  | succ n ih =>
    intro j h1 h2 h3
    by_cases hj : j = 0
    · subst hj
      refine ⟨0, Nat.zero_le _, ?_, h3, fun hj => by omega⟩
      rw [fc_Wallet_addInOrderOfUse_18, if_pos (show nI 0 - 1 < 0 by decide), nI_clamp hw, if_neg g1, nI_clamp (show 0 < 2 ^ 31 by decide), if_neg (ng' (Nat.zero_le _))]
      simp only [po_b]
      rw [hfin 0 (Nat.zero_le _)]
    · obtain ⟨q, rfl⟩ : ∃ q, j = q + 1 := ⟨j - 1, by omega⟩
      have hq : q < l.length := by omega
      have hqm : l[q] ∈ l := List.getElem_mem hq
      have hgd : l.getD q 0 = l[q] := by rw [List.getD_eq_getElem?_getD, List.getElem?_eq_getElem hq]; rfl
      have hg : (L 15 w).getD q 0 = nI l[q] := by
        rw [hL, List.getD_eq_getElem?_getD, List.getElem?_map, List.getElem?_eq_getElem hq]
        rfl
      have e18 : ∀ o, fc_Bundle_isUsedAhead V L N (nI b) (nI l[q]) = some o → fc_Wallet_addInOrderOfUse_18 (n + 1 + 1) V L N (nI w) (nI b) (nI (q + 1)) (nI (q + 1) - 1) = if o = 0 then some (V, lput L 15 w ((l.take (q + 1) ++ b :: l.drop (q + 1)).map nI), N) else fc_Wallet_addInOrderOfUse_18 (n + 1) V L N (nI w) (nI b) (nI q) (nI q - 1) := fun o ho => by
        rw [fc_Wallet_addInOrderOfUse_18, nI_pred, if_neg (nI_pos (by omega)), nI_clamp hw, nI_clamp (show q < 2 ^ 31 by omega), if_neg (show ¬ (nI q < 0 ∨ (L 15 w).length ≤ q) by rw [hlen]; exact ng hq (by omega)), hg]
        simp only [po_b]
        rw [ho]
        simp only [po_b]
        rw [if_neg g1, nI_clamp (show q + 1 < 2 ^ 31 by omega), if_neg (ng' (by omega)), hfin (q + 1) h2, Int32.sub_eq_add_neg]
      by_cases hu : ua V b l[q]
      · rw [e18 1 ((c_ua hb (hl2 _ hqm)).1 hu), if_neg (show ¬ (1 : Int32) = 0 by decide)]
        refine ih q (by omega) (by omega) (fun x hx => ?_)
        rw [List.drop_eq_getElem_cons hq] at hx
        rcases List.mem_cons.mp hx with z | z
        · rw [z]; exact hu
        · exact h3 x z
      · rw [e18 0 ((c_ua hb (hl2 _ hqm)).2 hu), if_pos rfl]
        refine ⟨q + 1, h2, rfl, h3, fun _ => ?_⟩
        rw [Nat.add_sub_cancel, hgd]
        exact hu
end BY
