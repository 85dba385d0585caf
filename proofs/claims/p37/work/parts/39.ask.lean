/-! WHAT IS ASKED: both sides answer alike -/
def sl (x : Int32) : Int32 := x ^^^ ((x.toUInt32 >>> ((16 : Int32).toUInt32 &&& Int32.toUInt32 31)).toInt32)
def rt7 (u : Int64) : Int64 := (u <<< ((7 : Int32).toInt64 &&& 63)) ||| ((u.toUInt64 >>> (((57 : Int32).toInt64).toUInt64 &&& Int64.toUInt64 63)).toInt64)
section AS
variable {V V' : Rho} {L : Lst} {N : Cnt} {ρ ρ' : Rho} {t nw i k p c : Nat}
theorem askP_ok (hk : k < 10) : fr_isAsked ρ (nI k) = some (cs ρ 39 0 0, 1) := by
  unfold fr_isAsked fr_can
  rw [isP_ok hk]
  simp only [po_b]
  rw [if_neg (show ¬ (1 : Int32) = 0 by decide)]
  simp only [po_b, if_true]
  rw [if_pos (by decide)]
theorem askP_bad {a : Int32} (h : a < 0 ∨ nI 10 ≤ a) : fr_isAsked ρ a = some (cs ρ 39 0 1, 0) := by
  unfold fr_isAsked fr_can
  rw [isP_bad h]
  simp only [po_b, if_true]
  rw [if_neg (show ¬ (1 : Int32) = 0 by decide)]
  simp only [po_b]
  rw [if_pos (by decide)]
theorem askL_ok (h : ρ 22 0 = nI p) (hp : p < 2 ^ 30) (hk : k < p) : fr_isAskedOf ρ (nI k) = some (cs ρ 39 0 0, 1) := by
  unfold fr_isAskedOf fr_can
  rw [isLeg_ok h hp hk]
  simp only [po_b]
  rw [if_neg (show ¬ (1 : Int32) = 0 by decide)]
  simp only [po_b, if_true]
  rw [if_pos (by decide)]
theorem askL_bad {a : Int32} (h : ρ 22 0 = nI p) (hp : p < 2 ^ 30) (ha : a < 0 ∨ nI p ≤ a) : fr_isAskedOf ρ a = some (cs ρ 39 0 1, 0) := by
  unfold fr_isAskedOf fr_can
  rw [isLeg_bad h hp ha]
  simp only [po_b, if_true]
  rw [if_neg (show ¬ (1 : Int32) = 0 by decide)]
  simp only [po_b]
  rw [if_pos (by decide)]
/-- a question about a phone -/
theorem qP (h : Rel V L N ρ t nw 0) {x : Int32} {f : Int32 → Option (Int32 ⊕ Nat)} {g : Int32 → Rho → Option (Rho × Int32)} (hg : ∀ k, k < 10 → ∃ a, f (nI k) = some (.inl a) ∧ g (nI k) (cs ρ 39 0 0) = some (cs ρ 39 0 0, a)) : OKQ V L N ((fc_phoneAt V L N x).bind fun o1 => Sum.elim f (fun e9 => some (.inr e9)) o1) ((fr_isAsked ρ x).bind fun o1 => (if o1.2 = 0 then some (o1.1, 0) else g x o1.1)) cd1 t (E26 ρ) := by
  rcases ix x (n := 10) (by decide) with ⟨k, hk, rfl⟩ | hx
  · obtain ⟨a, h1, h2⟩ := hg k hk
    rw [phA_ok hk, askP_ok hk]
    simp only [po_b, Sum.elim_inl]
    rw [if_neg (show ¬ (1 : Int32) = 0 by decide), h1, h2]
    exact Or.inr ⟨a, _, rfl, rfl, cs_at, ⟨nw, h.can 0⟩, Nat.le_of_eq (E26_eq rfl).symm⟩
  · rw [phA_bad hx, askP_bad hx]
    simp only [po_b, Sum.elim_inr, if_true]
    exact Or.inl ⟨1, _, 0, rfl, rfl, cs_at, by decide, h.err 1⟩
/-- a question about a leg -/
theorem qL (h : Rel V L N ρ t nw 0) {x : Int32} {f : Int32 → Option (Int32 ⊕ Nat)} {g : Int32 → Rho → Option (Rho × Int32)} (hg : ∀ k, k < N 4 → ∃ a, f (nI k) = some (.inl a) ∧ g (nI k) (cs ρ 39 0 0) = some (cs ρ 39 0 0, a)) : OKQ V L N ((fc_legAt V L N x).bind fun o1 => Sum.elim f (fun e9 => some (.inr e9)) o1) ((fr_isAskedOf ρ x).bind fun o1 => (if o1.2 = 0 then some (o1.1, 0) else g x o1.1)) cd1 t (E26 ρ) := by
  have hn4 := h.n4
  have e14 : L 14 0 = iot (N 4) := h.r3.2.2.2.2.2
  have e22 : ρ 22 0 = nI (N 4) := h.r3.2.2.1.2.2
  rcases ix x (n := N 4) (by omega) with ⟨k, hk, rfl⟩ | hx
  · obtain ⟨a, h1, h2⟩ := hg k hk
    rw [leA_ok e14 (by omega) hk, askL_ok e22 (by omega) hk]
    simp only [po_b, Sum.elim_inl]
    rw [if_neg (show ¬ (1 : Int32) = 0 by decide), h1, h2]
    exact Or.inr ⟨a, _, rfl, rfl, cs_at, ⟨nw, h.can 0⟩, Nat.le_of_eq (E26_eq rfl).symm⟩
  · rw [leA_bad e14 hx, askL_bad e22 (by omega) hx]
    simp only [po_b, Sum.elim_inr, if_true]
    exact Or.inl ⟨1, _, 0, rfl, rfl, cs_at, by decide, h.err 1⟩
theorem f_cellOf (h : Rel V L N ρ t nw 0) (x : Int32) : OKQ V L N (fc_cellOf V L N x) (fr_cellOf ρ x) cd1 t (E26 ρ) := by
  unfold fc_cellOf fr_cellOf
  refine qP h (f := fun u2 => some (.inl (V 40 (V 101 u2.toNatClampNeg).toNatClampNeg))) (g := fun a1 r => if a1 < 0 ∨ 10 ≤ (a1).toNatClampNeg then none else some (r, (r 6 (a1).toNatClampNeg))) (fun k hk => ⟨ρ 6 k, ?_, ?_⟩)
  · have h6 := (h.r5.2.1 k hk).1
    rw [nI_clamp (by omega), h.c 101 6 (by decide), h.r2 40 (by decide) _ (by rw [show 40 / 20 = 2 by decide, h.r3.1.2.2.1]; exact vp_lt h6), ← pn_eq h6]
  · rw [nI_clamp (by omega), if_neg (ng (n := 10) hk (by omega))]
    rfl
theorem f_rateOf (h : Rel V L N ρ t nw 0) (x : Int32) : OKQ V L N (fc_rateOf V L N x) (fr_rateOf ρ x) cd1 t (E26 ρ) := by
  unfold fc_rateOf fr_rateOf
  refine qP h (f := fun u2 => (fc_rateNow V L N u2).bind fun o4 => some (.inl o4)) (g := fun a1 r => (fr_rateNow r (a1)).bind fun o2 => some (r, o2)) (fun k hk => ⟨rnow ρ nw k, ?_, ?_⟩)
  · rw [h.crate hk]
    rfl
  · rw [(h.can 0).rrate hk]
    rfl
theorem f_legOf (h : Rel V L N ρ t nw 0) (x : Int32) : OKQ V L N (fc_legOf V L N x) (fr_legOf ρ x) cd1 t (E26 ρ) := by
  have hn4 := h.n4
  unfold fc_legOf fr_legOf
  refine qP h (f := fun u2 => (if (V 104 u2.toNatClampNeg) = -1 then some (.inl (-1)) else some (.inl (V 80 (V 104 u2.toNatClampNeg).toNatClampNeg)))) (g := fun a1 r => if a1 < 0 ∨ 10 ≤ (a1).toNatClampNeg then none else some (r, (r 9 (a1).toNatClampNeg))) (fun k hk => ⟨ρ 9 k, ?_, ?_⟩)
  · rw [nI_clamp (by omega), h.c 104 9 (by decide)]
    rcases h.leg hk with q | ⟨y, hy, q, -, -⟩
    · rw [if_pos q, q]
    · rw [q, if_neg (pn_m1 (by omega)), nI_clamp (by omega), h.r2 80 (by decide) y hy]
  · rw [nI_clamp (by omega), if_neg (ng (n := 10) hk (by omega))]
    rfl
theorem f_sliceOf (h : Rel V L N ρ t nw 0) (x : Int32) : OKQ V L N (fc_sliceOf V L N x) (fr_sliceOf ρ x) cd1 t (E26 ρ) := by
  have hn4 := h.n4
  unfold fc_sliceOf fr_sliceOf
  refine qP h (f := fun u2 => (if (V 104 u2.toNatClampNeg) = -1 then some (.inl 0) else some (.inl (V 160 (V 104 u2.toNatClampNeg).toNatClampNeg)))) (g := fun a1 r => if a1 < 0 ∨ 10 ≤ (a1).toNatClampNeg then none else (if (r 9 (a1).toNatClampNeg) = (-1) then some (r, 0) else if a1 < 0 ∨ 10 ≤ (a1).toNatClampNeg then none else if (r 9 (a1).toNatClampNeg) < 0 ∨ 80 ≤ ((r 9 (a1).toNatClampNeg)).toNatClampNeg then none else some (r, (r 34 ((r 9 (a1).toNatClampNeg)).toNatClampNeg)))) (fun k hk => ?_)
  have gk := ng (n := 10) hk (by omega)
  rw [nI_clamp (by omega), h.c 104 9 (by decide), h.c 160 34 (by decide), show cs ρ 39 0 0 9 k = ρ 9 k from rfl]
  simp only [gk, if_false]
  rcases h.leg hk with q | ⟨y, hy, q, -, -⟩
  · rw [if_pos q, if_pos q]
    exact ⟨0, rfl, rfl⟩
  · have gy := ng (n := 80) (show y < 80 by omega) (by omega)
    rw [q, if_neg (pn_m1 (by omega)), if_neg (pn_m1 (by omega)), nI_clamp (by omega), if_neg gy]
    exact ⟨ρ 34 y, rfl, rfl⟩
theorem f_stateOf (h : Rel V L N ρ t nw 0) (x : Int32) : OKQ V L N (fc_stateOf V L N x) (fr_stateOf ρ x) cd1 t (E26 ρ) := by
  have hn4 := h.n4
  unfold fc_stateOf fr_stateOf
  refine qL h (f := fun u2 => some (.inl (V 87 u2.toNatClampNeg))) (g := fun a1 r => if a1 < 0 ∨ 80 ≤ (a1).toNatClampNeg then none else some (r, (r 26 (a1).toNatClampNeg))) (fun k hk => ⟨ρ 26 k, ?_, ?_⟩)
  · rw [nI_clamp (by omega), h.c 87 26 (by decide)]
  · rw [nI_clamp (by omega), if_neg (ng (n := 80) (by omega) (by omega))]
    rfl
theorem f_seconds (h : Rel V L N ρ t nw 0) (x : Int32) : OKQ V L N (fc_seconds V L N x) (fr_seconds ρ x) cd1 t (E26 ρ) := by
  have hn4 := h.n4
  unfold fc_seconds fr_seconds
  refine qL h (f := fun u2 => some (.inl (V 88 u2.toNatClampNeg))) (g := fun a1 r => if a1 < 0 ∨ 80 ≤ (a1).toNatClampNeg then none else some (r, (r 27 (a1).toNatClampNeg))) (fun k hk => ⟨ρ 27 k, ?_, ?_⟩)
  · rw [nI_clamp (by omega), h.c 88 27 (by decide)]
  · rw [nI_clamp (by omega), if_neg (ng (n := 80) (by omega) (by omega))]
    rfl
theorem f_charged (h : Rel V L N ρ t nw 0) (x : Int32) : OKQ V L N (fc_charged V L N x) (fr_charged ρ x) cd1 t (E26 ρ) := by
  have hn4 := h.n4
  unfold fc_charged fr_charged
  refine qL h (f := fun u2 => some (.inl (V 89 u2.toNatClampNeg))) (g := fun a1 r => if a1 < 0 ∨ 80 ≤ (a1).toNatClampNeg then none else some (r, (r 28 (a1).toNatClampNeg))) (fun k hk => ⟨ρ 28 k, ?_, ?_⟩)
  · rw [nI_clamp (by omega), h.c 89 28 (by decide)]
  · rw [nI_clamp (by omega), if_neg (ng (n := 80) (by omega) (by omega))]
    rfl
theorem f_covered (h : Rel V L N ρ t nw 0) (x : Int32) : OKQ V L N (fc_covered V L N x) (fr_covered ρ x) cd1 t (E26 ρ) := by
  have hn4 := h.n4
  unfold fc_covered fr_covered
  refine qL h (f := fun u2 => some (.inl (V 90 u2.toNatClampNeg))) (g := fun a1 r => if a1 < 0 ∨ 80 ≤ (a1).toNatClampNeg then none else some (r, (r 29 (a1).toNatClampNeg))) (fun k hk => ⟨ρ 29 k, ?_, ?_⟩)
  · rw [nI_clamp (by omega), h.c 90 29 (by decide)]
  · rw [nI_clamp (by omega), if_neg (ng (n := 80) (by omega) (by omega))]
    rfl
theorem f_tag (h : Rel V L N ρ t nw 0) (x : Int32) : OKQ V L N (fc_tag V L N x) (fr_tag ρ x) cd1 t (E26 ρ) := by
  have hn4 := h.n4
  unfold fc_tag fr_tag
  refine qL h (f := fun u2 => some (.inl (V 91 u2.toNatClampNeg))) (g := fun a1 r => if a1 < 0 ∨ 80 ≤ (a1).toNatClampNeg then none else some (r, (r 30 (a1).toNatClampNeg))) (fun k hk => ⟨ρ 30 k, ?_, ?_⟩)
  · rw [nI_clamp (by omega), h.c 91 30 (by decide)]
  · rw [nI_clamp (by omega), if_neg (ng (n := 80) (by omega) (by omega))]
    rfl
theorem f_free (h : Rel V L N ρ t nw 0) (x : Int32) : OKQ V L N (fc_free V L N x) (fr_free ρ x) cd1 t (E26 ρ) := by
  unfold fc_free fr_free fr_free_13
  rcases ix x (n := 4) (by decide) with ⟨w, hw, rfl⟩ | hx
  · rw [waA_ok hw, isW_ok hw]
    simp only [po_b, Sum.elim_inl]
    rw [if_neg (show ¬ (1 : Int32) = 0 by decide), can_ok, nI_clamp (by omega), if_neg (ng (n := 4) hw (by omega)), h.c 182 12 (by decide)]
    exact Or.inr ⟨_, cs ρ 39 0 0, rfl, rfl, cs_at, ⟨nw, h.can 0⟩, Nat.le_of_eq (E26_eq rfl).symm⟩
  · rw [waA_bad hx, isW_bad hx]
    simp only [po_b, Sum.elim_inr, if_true]
    rw [can_bad (by decide)]
    exact Or.inl ⟨1, _, 0, rfl, rfl, cs_at, by decide, h.err 1⟩
theorem f_spent (h : Rel V L N ρ t nw 0) (x : Int32) : OKQ V L N (fc_spent V L N x) (fr_spent ρ x) cd1 t (E26 ρ) := by
  unfold fc_spent fr_spent fr_spent_13
  rcases ix x (n := 4) (by decide) with ⟨w, hw, rfl⟩ | hx
  · rw [waA_ok hw, isW_ok hw]
    simp only [po_b, Sum.elim_inl]
    rw [if_neg (show ¬ (1 : Int32) = 0 by decide), can_ok, nI_clamp (by omega), if_neg (ng (n := 4) hw (by omega)), h.c 183 13 (by decide)]
    exact Or.inr ⟨_, cs ρ 39 0 0, rfl, rfl, cs_at, ⟨nw, h.can 0⟩, Nat.le_of_eq (E26_eq rfl).symm⟩
  · rw [waA_bad hx, isW_bad hx]
    simp only [po_b, Sum.elim_inr, if_true]
    rw [can_bad (by decide)]
    exact Or.inl ⟨1, _, 0, rfl, rfl, cs_at, by decide, h.err 1⟩
theorem f_left (h : Rel V L N ρ t nw 0) (x : Int32) : OKQ V L N (fc_left V L N x) (fr_left ρ x) cd1 t (E26 ρ) := by
  have hn0 := h.r3.2.1.2.1
  have e12 : L 12 0 = iot (N 0) := h.r3.2.2.2.1
  have e14 : ρ 14 0 = nI (N 0) := h.r3.2.2.1.1
  have hm1 : (ρ 14 0 - 1).toInt = (N 0 : Int) - 1 := by rw [e14]; exact m1_toInt (by omega)
  unfold fc_left fr_left fr_left_20 fc_dayOf fc_Bundle_isOver
  rcases ix x (n := N 0) (by omega) with ⟨b, hb, rfl⟩ | hx
  · have gb := ng (n := 40) (show b < 40 by omega) (by omega)
    have hclb := nI_clamp (show b < 2 ^ 31 by omega)
    rw [if_neg (nI_pos (by omega)), e12, iot_len, in_ok hm1 hb (by omega)]
    simp only [po_b]
    rw [if_pos (nI_lt hb (by omega)), if_neg (nI_in hb (by omega)), hclb, iot_get hb, hclb, if_neg (show ¬ (1 : Int32) = 0 by decide), can_ok, h.c 228 0 (by decide), h.c 1 18 (by decide)]
    right
    dsimp only
    rw [rb_isOver (by omega), show cs ρ 39 0 0 0 0 = ρ 0 0 from rfl, show cs ρ 39 0 0 18 b = ρ 18 b from rfl]
    by_cases hd : ρ 0 0 / 2400 < ρ 18 b
    · rw [if_pos hd, if_pos hd]
      simp only [po_b, if_true]
      rw [if_neg gb, h.r8 b hb hd]
      exact ⟨_, _, rfl, rfl, cs_at, ⟨nw, h.can 0⟩, Nat.le_of_eq (E26_eq rfl).symm⟩
    · rw [if_neg hd, if_neg hd]
      simp only [po_b]
      rw [if_neg (show ¬ (1 : Int32) = 0 by decide), if_neg (show ¬ (1 : Int32) = 0 by decide)]
      exact ⟨_, _, rfl, rfl, cs_at, ⟨nw, h.can 0⟩, Nat.le_of_eq (E26_eq rfl).symm⟩
  · rw [in_bad hm1 (by omega) hx]
    simp only [po_b, if_true]
    rw [can_bad (by decide), e12, iot_len]
    left
    refine ⟨1, _, 0, ?_, rfl, cs_at, by decide, h.err 1⟩
    by_cases h1 : x < 0
    · rw [if_pos h1]
    · rw [if_neg h1, if_neg (Int32.not_lt.mpr (hx.resolve_left h1))]
theorem f_parties (h : Rel V L N ρ t nw 0) (x : Int32) : OKQ V L N (fc_parties V L N x) (fr_parties ρ x) cd1 t (E26 ρ) := by
  have hn1 := h.r3.2.1.2.2.1
  have e13 : L 13 0 = iot (N 1) := h.r3.2.2.2.2.1
  have e20 : ρ 20 0 = nI (N 1) := h.r3.2.2.1.2.1
  unfold fc_parties fr_parties fr_parties_14
  rcases ix x (n := N 1) (by omega) with ⟨c, hc, rfl⟩ | hx
  · have hclc := nI_clamp (show c < 2 ^ 31 by omega)
    rw [caA_ok e13 (by omega) hc, isCall_ok e20 (by omega) hc]
    simp only [po_b, Sum.elim_inl]
    rw [if_neg (show ¬ (1 : Int32) = 0 by decide), can_ok, pc_count (v0 := nI c) (by rw [hclc, h.r10 c hc, List.length_map]; exact Nat.le_trans mem_len (by have := h.n4; omega)), hclc, h.cnt hc]
    dsimp only
    rw [pr_parties (h.can 0).p80]
    simp only [po_b]
    exact Or.inr ⟨_, cs ρ 39 0 0, rfl, rfl, cs_at, ⟨nw, h.can 0⟩, Nat.le_of_eq (E26_eq rfl).symm⟩
  · rw [caA_bad e13 hx, isCall_bad e20 (by omega) hx]
    simp only [po_b, Sum.elim_inr, if_true]
    rw [can_bad (by decide)]
    exact Or.inl ⟨1, _, 0, rfl, rfl, cs_at, by decide, h.err 1⟩
/-- a seal made of its events -/
theorem seal_loop (h : Rel V L N ρ t nw i) (hk : k < N 4) (n : Nat) (hl : (L 18 k).length ≤ 1000) : ∀ (j : Nat) (a : Int32), (L 18 k).length ≤ j + n → j ≤ (L 18 k).length → fc_Leg_computeSeal_10 (n + 1) V L N (nI k) a (nI j) = some (sl (((L 18 k).drop j).foldl (seF V) a)) := by
  have hn4 := h.n4
  have hclk := nI_clamp (show k < 2 ^ 31 by omega)
  have hend : ∀ (n : Nat) (a : Int32), fc_Leg_computeSeal_10 (n + 1) V L N (nI k) a (nI (L 18 k).length) = some (sl (((L 18 k).drop (L 18 k).length).foldl (seF V) a)) := fun n a => by
    rw [fc_Leg_computeSeal_10]
    simp only [po_b]
    rw [hclk, if_pos (nI_le (Nat.le_refl _) (by omega)), List.drop_length]
    rfl
  induction n with
  | zero =>
    intro j a h1 h2
    obtain rfl : j = (L 18 k).length := by omega
    exact hend _ _
  | succ n ih =>
    intro j a h1 h2
    by_cases hj : j = (L 18 k).length
    · subst hj; exact hend _ _
    · have hj : j < (L 18 k).length := by omega
      have hm := ((h.r12.1 k hk).1 _ (getD_mem hj)).2
      have h40 : V 40 (V 62 ((L 18 k).getD j 0).toNatClampNeg).toNatClampNeg = V 62 ((L 18 k).getD j 0).toNatClampNeg := by
        rw [h.r2 40 (by decide) _ (by rw [show 40 / 20 = 2 by decide, h.r3.1.2.2.1]; exact vp_lt hm), ← pn_eq hm]
      rw [fc_Leg_computeSeal_10]
      simp only [po_b]
      rw [hclk, if_neg (nI_ge hj (by omega)), if_neg (nI_in hj (by omega)), nI_clamp (show j < 2 ^ 31 by omega), nI_1, h40, ih (j + 1) _ (by omega) (by omega), drop_getD hj, List.foldl_cons]
      rfl
theorem c_seal (h : Rel V L N ρ t nw i) (ht : t ≤ 512) (hk : k < N 4) : fc_Leg_computeSeal V L N (nI k) = some (sl (ρ 31 k)) := by
  have hn4 := h.n4
  obtain ⟨q1, q2, q3⟩ := h.r12.1 k hk
  have h23 := (h.r5.2.2.1 k hk).1
  have hl : (L 18 k).length ≤ 1000 := by
    have : (if ρ 26 k = 0 then 0 else 1) ≤ 1 := by split <;> omega
    omega
  unfold fc_Leg_computeSeal
  simp only [po_b]
  rw [nI_clamp (show k < 2 ^ 31 by omega), h.c 81 23 (by decide), h.r2 100 (by decide) _ (by rw [show 100 / 20 = 5 by decide, h.r3.1.2.2.2.2.1]; exact vp_lt h23), ← pn_eq h23]
  have := seal_loop h hk 2999 hl 0 (ρ 23 k) (by omega) (by omega)
  rw [List.drop_zero, q3] at this
  exact this
theorem r_seal (hk : k < 80) : fr_sealOf ρ (nI k) = some (sl (ρ 31 k)) := by
  unfold fr_sealOf
  rw [nI_clamp (by omega), if_neg (ng (n := 80) hk (by omega)), if_neg (ng (n := 80) hk (by omega))]
  rfl
theorem f_seal (h : Rel V L N ρ t nw 0) (ht : t ≤ 512) (x : Int32) : OKQ V L N (fc_seal V L N x) (fr_seal ρ x) cd1 t (E26 ρ) := by
  have hn4 := h.n4
  unfold fc_seal fr_seal
  refine qL h (f := fun u2 => (fc_Leg_computeSeal V L N u2).bind fun o4 => some (.inl o4)) (g := fun a1 r => (fr_sealOf r (a1)).bind fun o2 => some (r, o2)) (fun k hk => ⟨sl (ρ 31 k), ?_, ?_⟩)
  · rw [c_seal h ht hk]
    rfl
  · rw [r_seal (ρ := cs ρ 39 0 0) (by omega)]
    rfl
/-- the stamp of a call -/
def stF (ρ : Rho) (u : Int64) (k : Nat) : Int64 := rt7 u + (sl (ρ 31 k)).toInt64
theorem stampC (h : Rel V L N ρ t nw i) (ht : t ≤ 512) (hc : c < N 1) (n : Nat) : ∀ (j : Nat) (u : Int64), (mem ρ (N 4) c).length ≤ j + n → j ≤ (mem ρ (N 4) c).length → fc_stamp_17 (n + 1) V L N (nI c) (nI j) u = some (.inl ((((((mem ρ (N 4) c).drop j).foldl (stF ρ) u) >>> ((32 : Int32).toInt64 &&& 63)) : Int64).toInt32 ^^^ (((mem ρ (N 4) c).drop j).foldl (stF ρ) u).toInt32)) := by
  have hn4 := h.n4
  have hn1 := h.r3.2.1.2.2.1
  have hclc := nI_clamp (show c < 2 ^ 31 by omega)
  have hL := h.r10 c hc
  have hml : (mem ρ (N 4) c).length ≤ 80 := Nat.le_trans mem_len hn4
  have hlen : (L 17 c).length = (mem ρ (N 4) c).length := by rw [hL, List.length_map]
  have hend : ∀ (n : Nat) (u : Int64), fc_stamp_17 (n + 1) V L N (nI c) (nI (mem ρ (N 4) c).length) u = some (.inl ((((((mem ρ (N 4) c).drop (mem ρ (N 4) c).length).foldl (stF ρ) u) >>> ((32 : Int32).toInt64 &&& 63)) : Int64).toInt32 ^^^ (((mem ρ (N 4) c).drop (mem ρ (N 4) c).length).foldl (stF ρ) u).toInt32)) := fun n u => by
    rw [fc_stamp_17]
    simp only [po_b]
    rw [hclc, hlen, if_pos (nI_le (Nat.le_refl _) (by omega)), List.drop_length]
    rfl
  induction n with
  | zero =>
    intro j u h1 h2
    obtain rfl : j = (mem ρ (N 4) c).length := by omega
    exact hend _ _
  | succ n ih =>
    intro j u h1 h2
    by_cases hj : j = (mem ρ (N 4) c).length
    · subst hj; exact hend _ _
    · have hj : j < (mem ρ (N 4) c).length := by omega
      have hk : (mem ρ (N 4) c)[j] < N 4 := (mem_in.mp (List.getElem_mem hj)).1
      have hg : (L 17 c).getD j 0 = nI (mem ρ (N 4) c)[j] := by
        rw [hL, List.getD_eq_getElem?_getD, List.getElem?_map, List.getElem?_eq_getElem hj]
        rfl
      rw [fc_stamp_17]
      simp only [po_b]
      rw [hclc, hlen, if_neg (nI_ge hj (by omega)), if_neg (nI_in hj (by omega)), nI_clamp (show j < 2 ^ 31 by omega), hg, c_seal h ht hk]
      simp only [po_b]
      rw [nI_1, ih (j + 1) _ (by omega) (by omega), List.drop_eq_getElem_cons hj, List.foldl_cons]
      rfl
theorem stampR {m : Nat} (h22 : ρ 22 0 = nI m) (hm : m ≤ 80) (u0 : Int64) (n : Nat) : ∀ j : Nat, m ≤ j + n → j ≤ m → fr_stamp_30 (n + 1) ρ (nI c) (nI j) ((mem ρ j c).foldl (stF ρ) u0) = some (ρ, (((((mem ρ m c).foldl (stF ρ) u0) >>> ((32 : Int32).toInt64 &&& 63)) : Int64).toInt32 ^^^ ((mem ρ m c).foldl (stF ρ) u0).toInt32)) := by
  have hend : ∀ n : Nat, fr_stamp_30 (n + 1) ρ (nI c) (nI m) ((mem ρ m c).foldl (stF ρ) u0) = some (ρ, (((((mem ρ m c).foldl (stF ρ) u0) >>> ((32 : Int32).toInt64 &&& 63)) : Int64).toInt32 ^^^ ((mem ρ m c).foldl (stF ρ) u0).toInt32)) := fun n => by
    rw [fr_stamp_30, h22, if_pos (nI_le (Nat.le_refl _) (by omega))]
  induction n with
  | zero =>
    intro j h1 h2
    obtain rfl : j = m := by omega
    exact hend _
  | succ n ih =>
    intro j h1 h2
    by_cases hj : j = m
    · subst hj; exact hend _
    · have hj : j < m := by omega
      have i1 := ih (j + 1) (by omega) (by omega)
      rw [fr_stamp_30, h22, if_neg (nI_ge hj (by omega)), r_seal (by omega), nI_clamp (show j < 2 ^ 31 by omega), if_neg (ng (n := 80) (by omega) (by omega))]
      unfold fr_stamp_71
      simp only [po_b]
      rw [nI_1]
      rw [mem_succ] at i1
      by_cases e : ρ 24 j = nI c
      · rw [if_pos e, List.foldl_append] at i1
        rw [if_pos e]
        exact i1
      · rw [if_neg e] at i1
        rw [if_neg e]
        exact i1
theorem st0 : ∀ c, c < 40 → (nI c + 1).toInt64 = (nI c).toInt64 + 1 := by decide +kernel
theorem f_stamp (h : Rel V L N ρ t nw 0) (ht : t ≤ 512) (x : Int32) : OKQ V L N (fc_stamp V L N x) (fr_stamp ρ x) cd1 t (E26 ρ) := by
  have hn4 := h.n4
  have hn1 := h.r3.2.1.2.2.1
  have e13 : L 13 0 = iot (N 1) := h.r3.2.2.2.2.1
  have e20 : ρ 20 0 = nI (N 1) := h.r3.2.2.1.2.1
  unfold fc_stamp fr_stamp fr_stamp_14
  rcases ix x (n := N 1) (by omega) with ⟨c, hc, rfl⟩ | hx
  · have hclc := nI_clamp (show c < 2 ^ 31 by omega)
    rw [caA_ok e13 (by omega) hc, isCall_ok e20 (by omega) hc]
    simp only [po_b, Sum.elim_inl]
    rw [if_neg (show ¬ (1 : Int32) = 0 by decide), can_ok, hclc, h.r2 20 (by decide) c hc, st0 c (by omega)]
    have a1 := stampC h ht hc 2999 0 ((nI c).toInt64 + 1) (by have := mem_len (ρ := ρ) (n := N 4) (c := c); omega) (Nat.zero_le _)
    have a2 := stampR (ρ := cs ρ 39 0 0) (c := c) (m := N 4) h.r3.2.2.1.2.2 hn4 ((nI c).toInt64 + 1) 2999 0 (by omega) (Nat.zero_le _)
    rw [List.drop_zero] at a1
    right
    exact ⟨_, cs ρ 39 0 0, a1, a2, cs_at, ⟨nw, h.can 0⟩, Nat.le_of_eq (E26_eq rfl).symm⟩
  · rw [caA_bad e13 hx, isCall_bad e20 (by omega) hx]
    simp only [po_b, Sum.elim_inr, if_true]
    rw [can_bad (by decide)]
    exact Or.inl ⟨1, _, 0, rfl, rfl, cs_at, by decide, h.err 1⟩
theorem f_ratedByEvents (h : Rel V L N ρ t nw 0) (ht : t ≤ 512) (x : Int32) : OKQ V L N (fc_ratedByEvents V L N x) (fr_ratedByEvents ρ x) cd1 t (E26 ρ) := by
  have hn4 := h.n4
  have hnw := h.r5.2.2.2.2.2.2.2
  unfold fc_ratedByEvents fr_ratedByEvents
  refine qL h (f := fun u2 => fc_ratedByEvents_14 FU V L N u2 0 0) (g := fun a1 r => if a1 < 0 ∨ 80 ≤ (a1).toNatClampNeg then none else if a1 < 0 ∨ 80 ≤ (a1).toNatClampNeg then none else some (r, ((r 28 (a1).toNatClampNeg) + (r 29 (a1).toNatClampNeg)))) (fun k hk => ⟨ρ 28 k + ρ 29 k, ?_, ?_⟩)
  · obtain ⟨F, hF, hk13⟩ := h.r13
    obtain ⟨w1, w2, es, e, w3, w4, w5⟩ := hk13 k hk
    have hU := vp_lt (h.r11 k hk).1
    rw [if_pos rfl] at hU
    have hlen := (h.r12.1 k hk).2.1
    have hle1 : (if ρ 26 k = 0 then 0 else 1) ≤ 1 := by split <;> omega
    have hev : evs V F nw (L 18 k) = evs V F (ρ 32 k).toNatClampNeg (L 18 k) := by
      by_cases ha : ρ 26 k = 0
      · have := ((h.r11 k hk).2 ha).2
        rw [if_neg (Nat.not_lt_zero _), Nat.add_zero] at this
        rw [this, nI_clamp (by omega)]
      · rw [w3, evs_app, evs_app, if_pos (w5 ha), if_pos (w5 ha)]
    have := pt_events (N := N) (F := F) (U := nw) (show k < 2 ^ 31 by omega) (fun hh hi => (hF.1 hh hi).1) (by omega) (by rw [h.c 228 0 (by decide)]; exact h.r5.2.2.2.2.2.2.1) (by omega) 2999 0 0 (by omega) (by omega) (by rw [List.drop_zero]; exact evok_mono (by omega) w1)
    rw [List.drop_zero, hev, ← w2, Int32.zero_add] at this
    exact this
  · rw [nI_clamp (by omega), if_neg (ng (n := 80) (by omega) (by omega)), if_neg (ng (n := 80) (by omega) (by omega))]
    rfl
/-- money set aside -/
def mvC (V : Rho) (k : Nat) : Int32 := if V 162 k = -1 then V 160 k * V 161 k else 0
theorem asideC (h : Rel V L N ρ t nw i) {w : Int32} (n : Nat) : ∀ p : Nat, 10 ≤ p + n → p ≤ 10 → fc_aside_22 (n + 1) V L N w (sumI (fun p => if ρ 9 p = -1 then 0 else (fun k => if ρ 25 k = w then mvC V k else 0) (ρ 9 p).toNatClampNeg) p) 10 (nI p) = some (.inl (sumI (fun p => if ρ 9 p = -1 then 0 else (fun k => if ρ 25 k = w then mvC V k else 0) (ρ 9 p).toNatClampNeg) 10)) := by
  have hn4 := h.n4
  induction n with
  | zero =>
    intro p h1 h2
    obtain rfl : p = 10 := by omega
    rw [fc_aside_22, if_pos (show (10 : Int32) ≤ nI 10 by decide)]
  | succ n ih =>
    intro p h1 h2
    by_cases hp : p = 10
    · subst hp
      rw [fc_aside_22, if_pos (show (10 : Int32) ≤ nI 10 by decide)]
    · have hp : p < 10 := by omega
      have i1 := ih (p + 1) (by omega) (by omega)
      rw [sumI] at i1
      rw [fc_aside_22, if_neg (show ¬ (10 : Int32) ≤ nI p from nI_ge (b := 10) (by omega) (by omega)), nI_clamp (show p < 2 ^ 31 by omega), if_neg (ng (n := 10) hp (by omega)), h.c 104 9 (by decide), h.c 83 25 (by decide)]
      unfold fc_aside_70
      simp only [po_b]
      rw [nI_1]
      rcases h.leg hp with q | ⟨k, hk, q, -, -⟩
      · rw [if_pos q] at i1 ⊢
        rw [Int32.add_zero] at i1
        exact i1
      · have hml : fc_Slice_moneyLeft V L N (nI k) = some (mvC V k) := by
          unfold fc_Slice_moneyLeft mvC
          rw [nI_clamp (show k < 2 ^ 31 by omega)]
          split <;> rfl
        rw [q, if_neg (pn_m1 (by omega)), nI_clamp (show k < 2 ^ 31 by omega)] at i1 ⊢
        rw [hml]
        simp only [po_b]
        dsimp only at i1
        by_cases e : ρ 25 k = w
        · rw [if_pos e] at i1 ⊢
          exact i1
        · rw [if_neg e] at i1 ⊢
          rw [Int32.add_zero] at i1
          exact i1
theorem asideR (h : Rel V L N ρ t nw i) {w : Int32} (n : Nat) : ∀ j : Nat, N 4 ≤ j + n → j ≤ N 4 → fr_aside_4 (n + 1) ρ w (sumI (fun k => if ρ 25 k = w then nI (mIn ρ k) else 0) j) (nI j) = (fr_isWallet ρ w).bind fun o1 => (if o1 = 0 then some (cs ρ 39 0 1, 0) else some (cs ρ 39 0 0, sumI (fun k => if ρ 25 k = w then nI (mIn ρ k) else 0) (N 4))) := by
  have hn4 := h.n4
  have e22 : ρ 22 0 = nI (N 4) := h.r3.2.2.1.2.2
  have hend : ∀ n : Nat, fr_aside_4 (n + 1) ρ w (sumI (fun k => if ρ 25 k = w then nI (mIn ρ k) else 0) (N 4)) (nI (N 4)) = (fr_isWallet ρ w).bind fun o1 => (if o1 = 0 then some (cs ρ 39 0 1, 0) else some (cs ρ 39 0 0, sumI (fun k => if ρ 25 k = w then nI (mIn ρ k) else 0) (N 4))) := fun n => by
    rw [fr_aside_4, e22, if_pos (nI_le (Nat.le_refl _) (by omega)), can_bad (by decide), can_ok]
  induction n with
  | zero =>
    intro j h1 h2
    obtain rfl : j = N 4 := by omega
    exact hend _
  | succ n ih =>
    intro j h1 h2
    by_cases hj : j = N 4
    · rw [hj]; exact hend _
    · have hj : j < N 4 := by omega
      have i1 := ih (j + 1) (by omega) (by omega)
      rw [sumI] at i1
      rw [fr_aside_4, e22, if_neg (nI_ge hj (by omega)), nI_clamp (show j < 2 ^ 31 by omega), if_neg (ng (n := 80) (by omega) (by omega)), rm_in (by omega) (h.r7 j hj).1 (h.r7 j hj).2.2.2.1]
      unfold fr_aside_32
      simp only [po_b]
      rw [nI_1]
      by_cases e : ρ 25 j = w
      · rw [if_pos e] at i1 ⊢
        exact i1
      · rw [if_neg e] at i1 ⊢
        exact i1
theorem f_aside (h : Rel V L N ρ t nw 0) (x : Int32) : OKQ V L N (fc_aside V L N x) (fr_aside ρ x) cd1 t (E26 ρ) := by
  have hn4 := h.n4
  unfold fc_aside fr_aside
  have a2 := asideR h (w := x) 2999 0 (by omega) (Nat.zero_le _)
  rw [show fr_aside_4 FU ρ x 0 0 = fr_aside_4 (2999 + 1) ρ x (sumI (fun k => if ρ 25 k = x then nI (mIn ρ k) else 0) 0) (nI 0) from rfl, a2]
  rcases ix x (n := 4) (by decide) with ⟨w, hw, rfl⟩ | hx
  · rw [waA_ok hw, isW_ok hw]
    simp only [po_b, Sum.elim_inl]
    rw [if_neg (show ¬ (1 : Int32) = 0 by decide)]
    have a1 := asideC h (w := nI w) 2999 0 (by omega) (Nat.zero_le _)
    have e1 := h.r6.sum hn4 (fun k hk => (h.r5.2.2.1 k hk).1) (fun k => if ρ 25 k = nI w then mvC V k else 0)
    have e2 : sumI (fun k => if ρ 26 k = 0 then (fun k => if ρ 25 k = nI w then mvC V k else 0) k else 0) (N 4) = sumI (fun k => if ρ 25 k = nI w then nI (mIn ρ k) else 0) (N 4) := by
      refine sumI_congr fun k hk => ?_
      obtain ⟨q1, q2, q3, q4, q5⟩ := h.r7 k hk
      have key : ρ 34 k = 0 → mvC V k = 0 ∧ nI (mIn ρ k) = 0 := fun hs => by
        unfold mvC mIn
        rw [h.c 160 34 (by decide), hs]
        refine ⟨by rw [Int32.zero_mul, ite_self], ?_⟩
        rw [show (0 : Int32).toNatClampNeg = 0 by decide, Nat.zero_mul, ite_self]
        exact nI_0
      have key2 : ρ 26 k = 0 → mvC V k = nI (mIn ρ k) := fun ha => by
        by_cases hs : ρ 34 k = 0
        · rw [(key hs).1, (key hs).2]
        · unfold mvC mIn
          rcases (q5.resolve_left hs).2 with ⟨m1, m2, m3⟩ | ⟨b1, b2⟩
          · rw [if_pos m2, if_pos m1, h.c 160 34 (by decide), m3, ← pk_mul, ← pn_eq q1, ← pn_eq q4]
          · rw [b2, if_neg (vp_ne b1), if_neg (vp_ne b1)]
            exact nI_0.symm
      by_cases ha : ρ 26 k = 0
      · rw [if_pos ha]
        show (if ρ 25 k = nI w then mvC V k else 0) = _
        rw [key2 ha]
      · rw [if_neg ha]
        have hs : ρ 34 k = 0 := by
          rcases q5 with z | z
          · exact z
          · exact absurd z.1 ha
        rw [(key hs).2, ite_self]
    rw [e1, e2] at a1
    exact Or.inr ⟨_, _, a1, rfl, cs_at, ⟨nw, h.can 0⟩, Nat.le_of_eq (E26_eq rfl).symm⟩
  · rw [waA_bad hx, isW_bad hx]
    simp only [po_b, Sum.elim_inr, if_true]
    exact Or.inl ⟨1, _, 0, rfl, rfl, cs_at, by decide, h.err 1⟩
theorem f_now (h : Rel V L N ρ t nw 0) : ∃ a, fc_now V L N = some a ∧ fr_now ρ = some (cs ρ 39 0 0, a) ∧ RelX (V, L, N) (cs ρ 39 0 0) t ∧ E26 ρ ≤ E26 (cs ρ 39 0 0) := by
  refine ⟨ρ 0 0, ?_, rfl, ⟨nw, h.can 0⟩, Nat.le_of_eq (E26_eq rfl).symm⟩
  unfold fc_now
  rw [h.c 228 0 (by decide)]
theorem f_legs (h : Rel V L N ρ t nw 0) : ∃ a, fc_legs V L N = some a ∧ fr_legs ρ = some (cs ρ 39 0 0, a) ∧ RelX (V, L, N) (cs ρ 39 0 0) t ∧ E26 ρ ≤ E26 (cs ρ 39 0 0) := by
  refine ⟨ρ 22 0, ?_, rfl, ⟨nw, h.can 0⟩, Nat.le_of_eq (E26_eq rfl).symm⟩
  unfold fc_legs
  rw [h.r3.2.2.2.2.2, iot_len, h.r3.2.2.1.2.2]
  rfl
end AS
