/-! SLICES HALVED: who gives, and how often -/
def gv (ρ : Rho) (N : Cnt) (k x : Nat) : Prop := x < N 4 ∧ (∃ p, p < 10 ∧ ρ 9 p = nI x) ∧ x ≠ k ∧ ρ 25 x = ρ 25 k ∧ ρ 33 x = -1 ∧ 0 < (ρ 35 x).toNatClampNeg ∧ 2 ≤ (ρ 34 x).toNatClampNeg
section HV
variable {V V' : Rho} {L : Lst} {N : Cnt} {ρ ρ' : Rho} {t nw i k : Nat}
theorem mIn_le (h34 : vp_in (ρ 34 k) 101) (h35 : vp_in (ρ 35 k) 1001) : mIn ρ k ≤ 100000 := by
  have a := vp_lt h34
  have b := vp_lt h35
  unfold mIn
  split
  · exact Nat.le_trans (Nat.mul_le_mul (show _ ≤ 100 by omega) (show _ ≤ 1000 by omega)) (by decide)
  · omega
theorem rm_in (hk : k < 80) (h34 : vp_in (ρ 34 k) 101) (h35 : vp_in (ρ 35 k) 1001) : fr_moneyIn ρ (nI k) = some (nI (mIn ρ k)) := by
  have g1 := ng (n := 80) hk (by omega)
  unfold fr_moneyIn mIn
  rw [nI_clamp (show k < 2 ^ 31 by omega)]
  simp only [g1, if_false]
  by_cases h : ρ 33 k = -1
  · rw [if_pos h, if_pos h, ← pk_mul, ← pn_eq h34, ← pn_eq h35]
  · rw [if_neg h, if_neg h, nI_0]
theorem Rel.leg (h : Rel V L N ρ t nw i) {p : Nat} (hp : p < 10) : ρ 9 p = -1 ∨ ∃ x, x < N 4 ∧ ρ 9 p = nI x ∧ ρ 26 x = 0 ∧ ρ 23 x = nI p := by
  have hn4 := h.n4
  rcases h.r6.1 p hp with q | ⟨q1, q2, q3⟩
  · exact Or.inl q
  · obtain ⟨x, hx, hx2, e⟩ := pn_of q1
    rw [e, nI_clamp hx2] at q2 q3
    exact Or.inr ⟨x, hx, e, q2, q3⟩
theorem rg_loop (h : Rel V L N ρ t nw i) (hk : k < N 4) (n : Nat) : ∀ (p m : Nat) (f : Int32), 10 ≤ p + n → p ≤ 10 → ((f = -1 ∧ m = 0) ∨ ∃ x, gv ρ N k x ∧ f = nI x ∧ m = mIn ρ x) → ∃ g, fc_findRichestOther_18 (n + 1) V L N (nI k) f (nI m) 10 (nI p) = some g ∧ fr_giverTo_4 (n + 1) ρ (nI k) f (nI p) = some g ∧ (g = -1 ∨ ∃ x, gv ρ N k x ∧ g = nI x) := by
  have hn4 := h.n4
  have hend : ∀ (n m : Nat) (f : Int32), ((f = -1 ∧ m = 0) ∨ ∃ x, gv ρ N k x ∧ f = nI x ∧ m = mIn ρ x) → ∃ g, fc_findRichestOther_18 (n + 1) V L N (nI k) f (nI m) 10 (nI 10) = some g ∧ fr_giverTo_4 (n + 1) ρ (nI k) f (nI 10) = some g ∧ (g = -1 ∨ ∃ x, gv ρ N k x ∧ g = nI x) := by
    intro n m f hf
    refine ⟨f, ?_, ?_, hf.elim (fun q => Or.inl q.1) (fun ⟨x, a, b, _⟩ => Or.inr ⟨x, a, b⟩)⟩
    · rw [fc_findRichestOther_18, if_pos (show (10 : Int32) ≤ nI 10 by decide)]
    · rw [fr_giverTo_4, if_pos (show (10 : Int32) ≤ nI 10 by decide)]
  induction n with
  | zero =>
    intro p m f h1 h2 hf
    obtain rfl : p = 10 := by omega
    exact hend 0 m f hf
  | succ n ih =>
    intro p m f h1 h2 hf
    by_cases hp : p = 10
    · subst hp; exact hend (n + 1) m f hf
    · have hp : p < 10 := by omega
      have gp := ng (n := 10) hp (by omega)
      have gk := ng (n := 80) (show k < 80 by omega) (by omega)
      obtain ⟨g, g1, g2, g3⟩ := ih (p + 1) m f (by omega) (by omega) hf
      have cS : fc_findRichestOther_98 (fc_findRichestOther_18 (n + 1)) V L N (nI k) f (nI m) 10 (nI p) = some g := by
        unfold fc_findRichestOther_98
        simp only [po_b]
        rw [nI_1]
        exact g1
      have rS : fr_giverTo_115 (fr_giverTo_4 (n + 1)) ρ (nI k) (nI p) f = some g := by
        unfold fr_giverTo_115
        simp only [po_b]
        rw [nI_1]
        exact g2
      have rS2 : ∀ v4, fr_giverTo_82 (fr_giverTo_4 (n + 1)) ρ (nI k) f (nI p) v4 = some g := fun v4 => by
        unfold fr_giverTo_82 fr_giverTo_83 fr_giverTo_114
        rw [if_pos rfl]
        exact rS
      rw [fc_findRichestOther_18, if_neg (show ¬ (10 : Int32) ≤ nI p from nI_ge (b := 10) (by omega) (by omega)), fr_giverTo_4, if_neg (show ¬ (10 : Int32) ≤ nI p from nI_ge (b := 10) (by omega) (by omega)), nI_clamp (show p < 2 ^ 31 by omega), nI_clamp (show k < 2 ^ 31 by omega)]
      simp only [po_b, gp, gk, if_false]
      rw [cS, h.c 104 9 (by decide), h.c 83 25 (by decide), h.c 160 34 (by decide)]
      simp only [rS2]
      rcases h.leg hp with q | ⟨x, hx, q, qa, qp⟩
      · rw [if_pos q, if_pos q]
        exact ⟨g, rfl, rfl, g3⟩
      · have gx := ng (n := 80) (show x < 80 by omega) (by omega)
        rw [q, if_neg (pn_m1 (by omega)), if_neg (pn_m1 (by omega)), nI_clamp (show x < 2 ^ 31 by omega)]
        simp only [gx, if_false]
        by_cases hxk : nI x = nI k
        · rw [if_pos hxk, if_pos hxk]
          exact ⟨g, rfl, rfl, g3⟩
        · rw [if_neg hxk, if_neg hxk]
          by_cases hpay : ρ 25 x = ρ 25 k
          · rw [if_pos hpay, if_pos hpay]
            obtain ⟨q1, q2, q3, q4, q5⟩ := h.r7 x hx
            obtain ⟨s, hs, hs2, es⟩ := pn_of q1
            obtain ⟨r, hr, hr2, er⟩ := pn_of q4
            rw [es]
            by_cases h2s : s < 2
            · rw [if_pos (show nI s < 2 from nI_lt (b := 2) h2s (by decide)), if_pos (show nI s < 2 from nI_lt (b := 2) h2s (by decide)), ite_self, ite_self]
              exact ⟨g, rfl, rfl, g3⟩
            · have h2s' : 2 ≤ s := by omega
              rw [if_neg (show ¬ nI s < 2 from nI_nlt (b := 2) h2s' (by omega)), if_neg (show ¬ nI s < 2 from nI_nlt (b := 2) h2s' (by omega))]
              have hs0 : ¬ ρ 34 x = 0 := by rw [es]; exact nI_ne0 (by omega) hs2
              rcases (q5.resolve_left hs0).2 with ⟨m1, m2, m3⟩ | ⟨b1, b2⟩
              · -- from money
                have hml : fc_Slice_moneyLeft V L N (nI x) = some (nI (s * r)) := by
                  unfold fc_Slice_moneyLeft
                  rw [nI_clamp (show x < 2 ^ 31 by omega), if_pos m2, h.c 160 34 (by decide), es, m3, er, pk_mul]
                have hmi : mIn ρ x = s * r := by
                  unfold mIn
                  rw [if_pos m1, es, er, nI_clamp hs2, nI_clamp hr2]
                have hsr : s * r ≤ 100000 := by rw [← hmi]; exact mIn_le q1 q4
                have hm : m ≤ 100000 := by
                  rcases hf with ⟨-, e⟩ | ⟨y, gy, -, e⟩
                  · omega
                  · obtain ⟨a, -, -, b, -⟩ := h.r7 y gy.1 |> fun z => z
                    rw [e]
                    exact mIn_le (h.r7 y gy.1).1 (h.r7 y gy.1).2.2.2.1
                rw [hml, if_pos m1, er]
                simp only [po_b]
                by_cases hr0 : r = 0
                · subst hr0
                  rw [if_pos (show nI 0 ≤ 0 by decide), Nat.mul_zero, if_pos (nI_le (Nat.zero_le _) (by omega))]
                  exact ⟨g, rfl, rfl, g3⟩
                · have hr1 : 0 < r := by omega
                  have hpos : 0 < s * r := Nat.mul_pos (by omega) hr1
                  rw [if_neg (nI_nle hr1 hr2)]
                  have hgx : gv ρ N k x := ⟨hx, ⟨p, hp, q⟩, fun z => hxk (by rw [z]), hpay, m1, by rw [er, nI_clamp hr2]; exact hr1, by rw [es, nI_clamp hs2]; exact h2s'⟩
                  obtain ⟨g', k1, k2, k3⟩ := ih (p + 1) (s * r) (nI x) (by omega) (by omega) (Or.inr ⟨x, hgx, rfl, hmi.symm⟩)
                  have cT : fc_findRichestOther_98 (fc_findRichestOther_18 (n + 1)) V L N (nI k) (nI x) (nI (s * r)) 10 (nI p) = some g' := by
                    unfold fc_findRichestOther_98
                    simp only [po_b]
                    rw [nI_1]
                    exact k1
                  have rT : fr_giverTo_115 (fr_giverTo_4 (n + 1)) ρ (nI k) (nI p) (nI x) = some g' := by
                    unfold fr_giverTo_115
                    simp only [po_b]
                    rw [nI_1]
                    exact k2
                  unfold fr_giverTo_83 fr_giverTo_114 fr_giverTo_109
                  rw [if_neg (show ¬ (1 : Int32) = 0 by decide), rS, rT, cT]
                  rcases hf with ⟨e, e2⟩ | ⟨y, gy, e, e2⟩
                  · rw [if_pos e, e2, if_neg (nI_ge hpos (by omega))]
                    exact ⟨g', rfl, rfl, k3⟩
                  · rw [e, if_neg (pn_m1 (by have := gy.1; omega)), rm_in (by omega) q1 q4, rm_in (by have := gy.1; omega) (h.r7 y gy.1).1 (h.r7 y gy.1).2.2.2.1, hmi, ← e2]
                    simp only [po_b]
                    by_cases hle : s * r ≤ m
                    · rw [if_pos (nI_le hle (by omega))]
                      exact ⟨g, rfl, rfl, g3⟩
                    · rw [if_neg (nI_ge (by omega) (by omega))]
                      exact ⟨g', rfl, rfl, k3⟩
              · -- from a bundle
                have hml : fc_Slice_moneyLeft V L N (nI x) = some 0 := by
                  unfold fc_Slice_moneyLeft
                  rw [nI_clamp (show x < 2 ^ 31 by omega), b2, if_neg (vp_ne b1)]
                have hm : m < 2 ^ 31 := by
                  rcases hf with ⟨-, e⟩ | ⟨y, gy, -, e⟩
                  · omega
                  · have := mIn_le (h.r7 y gy.1).1 (h.r7 y gy.1).2.2.2.1
                    omega
                rw [hml, if_neg (vp_ne b1)]
                simp only [po_b]
                rw [if_pos (show (0 : Int32) ≤ nI m from nI_pos' hm)]
                exact ⟨g, rfl, rfl, g3⟩
          · rw [if_neg hpay, if_neg hpay]
            exact ⟨g, rfl, rfl, g3⟩
/-- who gives -/
theorem Rel.giver (h : Rel V L N ρ t nw i) (hk : k < N 4) : ∃ g, fc_findRichestOther V L N (nI k) = some g ∧ fr_giverTo ρ (nI k) = some g ∧ (g = -1 ∨ ∃ x, gv ρ N k x ∧ g = nI x) := rg_loop h hk 2999 0 0 (-1) (by omega) (by omega) (Or.inl ⟨rfl, rfl⟩)
/-- seconds set aside, of all phones -/
def sPh (ρ : Rho) : Nat := sumN (fun p => if ρ 9 p = -1 then 0 else (ρ 34 (ρ 9 p).toNatClampNeg).toNatClampNeg) 10
theorem gv_sPh {x : Nat} (hx : gv ρ N k x) (hn : N 4 ≤ 80) : 2 ≤ sPh ρ := by
  obtain ⟨h1, ⟨p, hp, e⟩, -, -, -, -, h2⟩ := hx
  have := sumN_ge (f := fun p => if ρ 9 p = -1 then 0 else (ρ 34 (ρ 9 p).toNatClampNeg).toNatClampNeg) hp
  rw [e, if_neg (pn_m1 (by omega)), nI_clamp (by omega)] at this
  unfold sPh
  omega
def hfV (V ρ : Rho) (w x : Nat) : Rho := cs (cs V 160 x (ρ 34 x - ρ 34 x / 2)) 182 w (ρ 12 w + ρ 34 x / 2 * ρ 35 x)
def hfR (ρ : Rho) (w x : Nat) : Rho := cs (cs ρ 34 x (ρ 34 x - ρ 34 x / 2)) 12 w (ρ 12 w + ρ 34 x / 2 * ρ 35 x)
/-- one slice halved -/
theorem op_half (h : Rel V L N ρ t nw i) (ht : t ≤ 512) (hk : k < N 4) {x : Nat} (hx : gv ρ N k x) : fr_goesBack ρ (nI x) (ρ 34 x / 2) = some (hfR ρ (ρ 25 k).toNatClampNeg x) ∧ Rel (hfV V ρ (ρ 25 k).toNatClampNeg x) L N (hfR ρ (ρ 25 k).toNatClampNeg x) t nw i ∧ sPh (hfR ρ (ρ 25 k).toNatClampNeg x) + 1 ≤ sPh ρ := by
  have hn4 := h.n4
  obtain ⟨hx1, ⟨p, hp, ep⟩, hxk, hpay, h33, h35, h34⟩ := hx
  obtain ⟨q1, q2, q3, q4, q5⟩ := h.r7 x hx1
  obtain ⟨s, hs, hs2, es⟩ := pn_of q1
  obtain ⟨r, hr, hr2, er⟩ := pn_of q4
  have hw := vp_lt (h.r5.2.2.1 k hk).2.2
  rw [es, nI_clamp hs2] at h34
  rw [er, nI_clamp hr2] at h35
  have hs0 : ¬ ρ 34 x = 0 := by rw [es]; exact nI_ne0 (by omega) hs2
  obtain ⟨ha, hq⟩ := q5.resolve_left hs0
  have hd : ρ 34 x / 2 = nI (s / 2) := by rw [es, show (2 : Int32) = nI 2 by decide, pk_div hs2 (by decide) (by decide)]
  have hsub : ρ 34 x - ρ 34 x / 2 = nI (s - s / 2) := by rw [hd, es, pk_sub (by omega)]
  have hfe := h.r14.eq hw
  have hle := h.r14.le hw hx1
  have hmi : mIn ρ x = s * r := by
    unfold mIn
    rw [if_pos h33, es, er, nI_clamp hs2, nI_clamp hr2]
  have hsplit : s / 2 * r + (s - s / 2) * r = s * r := by
    rw [← Nat.add_mul]
    congr 1
    omega
  have hadd : ρ 12 (ρ 25 k).toNatClampNeg + ρ 34 x / 2 * ρ 35 x = nI (fre ρ (ρ 25 k).toNatClampNeg + s / 2 * r) := by
    rw [hd, er, pk_mul, hfe, nI_add]
  have e12 : ∀ w', hfR ρ (ρ 25 k).toNatClampNeg x 12 w' = if w' = (ρ 25 k).toNatClampNeg then nI (fre ρ (ρ 25 k).toNatClampNeg + s / 2 * r) else ρ 12 w' := fun w' => by
    unfold hfR
    rw [hadd]
    split
    · rename_i e; rw [e, cs_at]
    · rename_i e; rw [cs_nei e, rcs_col (by decide)]
  have e34 : ∀ j, hfR ρ (ρ 25 k).toNatClampNeg x 34 j = if j = x then nI (s - s / 2) else ρ 34 j := fun j => by
    unfold hfR
    rw [rcs_col (by decide), hsub]
    split
    · rename_i e; rw [e, cs_at]
    · rename_i e; rw [cs_nei e]
  have eo : chg [12, 34] ρ (hfR ρ (ρ 25 k).toNatClampNeg x) := (chg.rf.st (by decide)).st (by decide)
  have eV : chg [160, 182] V (hfV V ρ (ρ 25 k).toNatClampNeg x) := (chg.rf.st (by decide)).st (by decide)
  refine ⟨?_, h.sl (eV.sub (by decide)) (eo.sub (by decide)) ?_ (h.r7.at x ?_ (fun j _ hne => ?_)) (h.r8.congr (eV.agr (by decide)) (eo.agr (by decide))) (h.r14.mv (w := (ρ 25 k).toNatClampNeg) hw hx1 (fun w' _ hne => ?_) (fun j _ hne => ?_) ?_ ?_) ((h.r16.st hx1).st2 (by decide)), ?_⟩
  · rw [rg_back (by omega) (by rw [hpay]; exact (h.r5.2.2.1 k hk).2.2) (Or.inr (Or.inl h33))]
    unfold gbk hfR
    rw [if_pos h33, hpay]
  · exact (h.r1.both (c := 160) (d := 34) (by decide)).both (c := 182) (d := 12) (by decide)
  · unfold R7k
    rw [e34, if_pos rfl, eo 33 (by decide), eo 35 (by decide), eo 26 (by decide), eV 161 (by decide), eV 162 (by decide)]
    exact ⟨vp_in_nI (by omega) (by omega), q2, q3, q4, Or.inr ⟨ha, hq⟩⟩
  · rw [e34, if_neg hne, eo 33 (by decide), eo 35 (by decide), eo 26 (by decide), eV 161 (by decide), eV 162 (by decide)]
    exact ⟨rfl, rfl, rfl, rfl, rfl, rfl⟩
  · rw [e12, if_neg hne]
  · unfold mIn
    rw [e34, if_neg hne, eo 33 (by decide), eo 35 (by decide)]
  · rw [e12, if_pos rfl]
    exact nI_pos (by omega)
  · have y1 : fre (hfR ρ (ρ 25 k).toNatClampNeg x) (ρ 25 k).toNatClampNeg = fre ρ (ρ 25 k).toNatClampNeg + s / 2 * r := by
      show (hfR ρ _ x 12 _).toNatClampNeg = _
      rw [e12, if_pos rfl, nI_clamp (by omega)]
    have y2 : mIn (hfR ρ (ρ 25 k).toNatClampNeg x) x = (s - s / 2) * r := by
      unfold mIn
      rw [e34, if_pos rfl, eo 33 (by decide), eo 35 (by decide), if_pos h33, er, nI_clamp hr2, nI_clamp (by omega)]
    omega
  · have hat := sumN_at (f := fun p => if ρ 9 p = -1 then 0 else (ρ 34 (ρ 9 p).toNatClampNeg).toNatClampNeg) (g := fun p => if ρ 9 p = -1 then 0 else (hfR ρ (ρ 25 k).toNatClampNeg x 34 (ρ 9 p).toNatClampNeg).toNatClampNeg) hp (fun p' hp' hne => by
      rcases h.leg hp' with z | ⟨y, hy, z, za, zp⟩
      · rw [if_pos z, if_pos z]
      · rw [z, if_neg (pn_m1 (by omega)), if_neg (pn_m1 (by omega)), nI_clamp (by omega), e34, if_neg (fun zz => hne ?_)]
        subst zz
        rcases h.leg hp with z2 | ⟨y2, hy2, z2, -, zp2⟩
        · rw [ep] at z2; exact absurd z2 (pn_m1 (by omega))
        · have e5 : y2 = y := pn_inj (by omega) (by omega) (z2.symm.trans ep)
          subst e5
          exact pn_inj (by omega) (by omega) (zp.symm.trans zp2))
    rw [ep, if_neg (pn_m1 (by omega)), if_neg (pn_m1 (by omega)), nI_clamp (by omega), e34, if_pos rfl, es, nI_clamp hs2, nI_clamp (by omega)] at hat
    unfold sPh
    rw [eo 9 (by decide)]
    omega
/-- one turn of the class's loop -/
theorem raise_step (h : Rel V L N ρ t nw i) (hk : k < N 4) {x : Nat} (hx : gv ρ N k x) {r j n : Nat} (hj : j < 1000) (hr : ¬ nI r ≤ ρ 12 (ρ 25 k).toNatClampNeg) (hg : fc_findRichestOther V L N (nI k) = some (nI x)) : fc_raiseMoney_2 (n + 1) V L N (nI k) (nI r) (nI j) = fc_raiseMoney_2 n (hfV V ρ (ρ 25 k).toNatClampNeg x) L N (nI k) (nI r) (nI (j + 1)) := by
  have hn4 := h.n4
  obtain ⟨hx1, -, -, -, h33, -, h34⟩ := hx
  obtain ⟨q1, q2, q3, q4, q5⟩ := h.r7 x hx1
  have hs0 : ¬ ρ 34 x = 0 := fun z => by rw [z] at h34; exact absurd h34 (by decide)
  have h161 : V 161 x = ρ 35 x := by
    rcases (q5.resolve_left hs0).2 with z | z
    · exact z.2.2
    · exact absurd h33 (vp_ne z.1)
  rw [fc_raiseMoney_2, if_neg (show ¬ (1000 : Int32) ≤ nI j from nI_ge (b := 1000) hj (by omega)), hg]
  simp only [po_b]
  rw [nI_clamp (show k < 2 ^ 31 by omega), nI_clamp (show x < 2 ^ 31 by omega), h.c 83 25 (by decide), h.c 182 12 (by decide), if_neg hr, if_neg (pn_m1 (by omega)), rcs_col (show (83 : Nat) ≠ 160 by decide), rcs_col (show (182 : Nat) ≠ 160 by decide), rcs_col (show (161 : Nat) ≠ 160 by decide), h.c 83 25 (by decide), h.c 182 12 (by decide), h161, h.c 160 34 (by decide), nI_1]
  rfl
theorem r62_end {n : Nat} {a b c : Int32} : fr_moneyFor_62 (n + 1) ρ a b c (-1) = fr_moneyFor_62 (0 + 1) ρ a b c (-1) := by
  rw [fr_moneyFor_62, fr_moneyFor_62, if_pos rfl, if_pos rfl]
theorem raise_loop (ht : t ≤ 512) (hk : k < N 4) {r : Nat} {may : Int32} (n : Nat) : ∀ (V ρ : Rho) (j : Nat) (g : Int32), Rel V L N ρ t nw i → 1000 ≤ j + n → j + sPh ρ ≤ 1000 → (nI r ≤ ρ 12 (ρ 25 k).toNatClampNeg → g = -1) → (¬ nI r ≤ ρ 12 (ρ 25 k).toNatClampNeg → fr_giverTo ρ (nI k) = some g) → ∃ V' ρ', fc_raiseMoney_2 (n + 1) V L N (nI k) (nI r) (nI j) = some V' ∧ fr_moneyFor_62 (n + 1) ρ (nI k) (nI r) may g = fr_moneyFor_62 (0 + 1) ρ' (nI k) (nI r) may (-1) ∧ Rel V' L N ρ' t nw i ∧ chg [160, 182] V V' ∧ chg [12, 34] ρ ρ' ∧ ρ' 34 k = ρ 34 k ∧ ∀ j, ρ 34 j = 0 → ρ' 34 j = 0 := by
  have hend : ∀ (n : Nat) (V ρ : Rho) (j : Nat) (g : Int32), Rel V L N ρ t nw i → 1000 ≤ j → j + sPh ρ ≤ 1000 → (nI r ≤ ρ 12 (ρ 25 k).toNatClampNeg → g = -1) → (¬ nI r ≤ ρ 12 (ρ 25 k).toNatClampNeg → fr_giverTo ρ (nI k) = some g) → ∃ V' ρ', fc_raiseMoney_2 (n + 1) V L N (nI k) (nI r) (nI j) = some V' ∧ fr_moneyFor_62 (n + 1) ρ (nI k) (nI r) may g = fr_moneyFor_62 (0 + 1) ρ' (nI k) (nI r) may (-1) ∧ Rel V' L N ρ' t nw i ∧ chg [160, 182] V V' ∧ chg [12, 34] ρ ρ' ∧ ρ' 34 k = ρ 34 k ∧ ∀ j, ρ 34 j = 0 → ρ' 34 j = 0 := by
    intro n V ρ j g h h1 h2 h3 h4
    have hg : g = -1 := by
      by_cases hr : nI r ≤ ρ 12 (ρ 25 k).toNatClampNeg
      · exact h3 hr
      · obtain ⟨g', -, a, b⟩ := h.giver hk
        rw [h4 hr] at a
        rw [Option.some.inj a]
        rcases b with b | ⟨x, b, -⟩
        · exact b
        · have := gv_sPh b h.n4
          omega
    subst hg
    refine ⟨V, ρ, ?_, r62_end, h, chg.rf, chg.rf, rfl, fun _ z => z⟩
    rw [fc_raiseMoney_2, if_pos (show (1000 : Int32) ≤ nI j from nI_le (a := 1000) h1 (by omega))]
  induction n with
  | zero => exact fun V ρ j g h h1 => hend 0 V ρ j g h (by omega)
  | succ n ih =>
    intro V ρ j g h h1 h2 h3 h4
    by_cases hj : 1000 ≤ j
    · exact hend (n + 1) V ρ j g h hj h2 h3 h4
    · by_cases hr : nI r ≤ ρ 12 (ρ 25 k).toNatClampNeg
      · rw [h3 hr]
        refine ⟨V, ρ, ?_, r62_end, h, chg.rf, chg.rf, rfl, fun _ z => z⟩
        rw [fc_raiseMoney_2, if_neg (show ¬ (1000 : Int32) ≤ nI j from nI_ge (b := 1000) (by omega) (by omega)), nI_clamp (show k < 2 ^ 31 by have := h.n4; omega), h.c 83 25 (by decide), h.c 182 12 (by decide), if_pos hr]
      · obtain ⟨g', c1, a, b⟩ := h.giver hk
        have e : g = g' := by
          have a2 := h4 hr
          rw [a] at a2
          exact (Option.some.inj a2).symm
        subst e
        have hn4 := h.n4
        rcases b with b | ⟨x, hx, b⟩
        · rw [b]
          refine ⟨V, ρ, ?_, r62_end, h, chg.rf, chg.rf, rfl, fun _ z => z⟩
          rw [b] at c1
          rw [fc_raiseMoney_2, if_neg (show ¬ (1000 : Int32) ≤ nI j from nI_ge (b := 1000) (by omega) (by omega)), c1, nI_clamp (show k < 2 ^ 31 by omega), h.c 83 25 (by decide), h.c 182 12 (by decide), if_neg hr]
          simp only [po_b, if_true]
        · obtain ⟨o1, o2, o3⟩ := op_half h ht hk hx
          rw [b] at c1
          have hxn := hx.1
          have gx := ng (n := 80) (show x < 80 by omega) (by omega)
          have gk := ng (n := 80) (show k < 80 by omega) (by omega)
          have e25 : hfR ρ (ρ 25 k).toNatClampNeg x 25 k = ρ 25 k := rfl
          have h25 : ¬ (ρ 25 k < 0 ∨ 4 ≤ (ρ 25 k).toNatClampNeg) := (h.r5.2.2.1 k hk).2.2
          have hch : chg [12, 34] ρ (hfR ρ (ρ 25 k).toNatClampNeg x) := (chg.rf.st (by decide)).st (by decide)
          have hcV : chg [160, 182] V (hfV V ρ (ρ 25 k).toNatClampNeg x) := (chg.rf.st (by decide)).st (by decide)
          have e34 : hfR ρ (ρ 25 k).toNatClampNeg x 34 k = ρ 34 k := by
            unfold hfR
            rw [rcs_col (by decide), cs_nei hx.2.2.1.symm]
          have e34j : ∀ j, ρ 34 j = 0 → hfR ρ (ρ 25 k).toNatClampNeg x 34 j = 0 := fun j z => by
            have hne : j ≠ x := fun y => by
              have := hx.2.2.2.2.2.2
              rw [← y, z] at this
              exact absurd this (by decide)
            unfold hfR
            rw [rcs_col (by decide), cs_nei hne, z]
          have hfin : ∀ g2 : Int32, (nI r ≤ hfR ρ (ρ 25 k).toNatClampNeg x 12 (ρ 25 k).toNatClampNeg → g2 = -1) → (¬ nI r ≤ hfR ρ (ρ 25 k).toNatClampNeg x 12 (ρ 25 k).toNatClampNeg → fr_giverTo (hfR ρ (ρ 25 k).toNatClampNeg x) (nI k) = some g2) → fr_moneyFor_62 (n + 1 + 1) ρ (nI k) (nI r) may (nI x) = fr_moneyFor_62 (n + 1) (hfR ρ (ρ 25 k).toNatClampNeg x) (nI k) (nI r) may g2 := by
            intro g2 y1 y2
            rw [fr_moneyFor_62, if_neg (pn_m1 (by omega)), nI_clamp (show x < 2 ^ 31 by omega), o1]
            simp only [po_b]
            rw [nI_clamp (show k < 2 ^ 31 by omega), e25]
            simp only [gx, gk, h25, if_false]
            unfold fr_moneyFor_107
            by_cases y : nI r ≤ hfR ρ (ρ 25 k).toNatClampNeg x 12 (ρ 25 k).toNatClampNeg
            · rw [if_pos y, y1 y]
            · rw [if_neg y, y2 y]
              simp only [po_b]
          have hex : ∃ g2 : Int32, (nI r ≤ hfR ρ (ρ 25 k).toNatClampNeg x 12 (ρ 25 k).toNatClampNeg → g2 = -1) ∧ (¬ nI r ≤ hfR ρ (ρ 25 k).toNatClampNeg x 12 (ρ 25 k).toNatClampNeg → fr_giverTo (hfR ρ (ρ 25 k).toNatClampNeg x) (nI k) = some g2) := by
            by_cases y : nI r ≤ hfR ρ (ρ 25 k).toNatClampNeg x 12 (ρ 25 k).toNatClampNeg
            · exact ⟨-1, fun _ => rfl, fun z => absurd y z⟩
            · obtain ⟨g2, -, z, -⟩ := o2.giver hk
              exact ⟨g2, fun z => absurd z y, fun _ => z⟩
          obtain ⟨g2, y1, y2⟩ := hex
          obtain ⟨V', ρ', z1, z2, z3, z4, z5, z6, z7⟩ := ih (hfV V ρ (ρ 25 k).toNatClampNeg x) (hfR ρ (ρ 25 k).toNatClampNeg x) (j + 1) g2 o2 (by omega) (by omega) y1 y2
          refine ⟨V', ρ', ?_, ?_, z3, (hcV.tr z4).sub (by decide), (hch.tr z5).sub (by decide), z6.trans e34, fun j z => z7 j (e34j j z)⟩
          · rw [raise_step h hk hx (by omega) hr c1]
            exact z1
          · rw [b, hfin g2 y1 y2]
            exact z2
end HV
