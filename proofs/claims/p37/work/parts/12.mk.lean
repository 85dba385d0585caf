/-! NEW OBJECTS come into the tables -/
def nup (N : Cnt) (k : Nat) : Cnt := fun k' => if k' = k then N k' + 1 else N k'
theorem nup_self {N : Cnt} {k : Nat} : nup N k k = N k + 1 := if_pos rfl
theorem nup_ne {N : Cnt} {k j : Nat} (h : j ≠ k) : nup N k j = N j := if_neg h
theorem nup_le {N : Cnt} {k j : Nat} : N j ≤ nup N k j := by unfold nup; split <;> omega
theorem fok_mono {N N' : Cnt} {t : Nat} {x : Int32} (h : fok N t x) (hN : ∀ k, N k ≤ N' k) : fok N' t x := by
  unfold fok at *
  cases h0 : Nat.ble t 0 <;> rw [h0] at h
  · cases h1 : Nat.ble t 1999 <;> rw [h1] at h
    · cases h2 : Nat.ble t 2999 <;> rw [h2] at h
      · trivial
      · exact h.imp_right (fun z => vp_mono z (hN _))
    · exact vp_mono h (hN _)
  · trivial
theorem clist_axt {D : va_G} {dA : Nat → ClassId} {A : Nat → Prop} {V : Rho} {L L' : Lst} {N : Cnt} {ad ad' : Adr} {xs : va_W} {H : Heap} {k i : Nat} (hG : cx D dA A V L N ad xs H) (h : axt N ad ad') (hrow : ∀ k i, 19 ≤ k → k < 26 → ad' k i = ad k i) (hL : L' k i = L k i) (h1 : 12 ≤ k) (h2 : k < 19) (hi : i < N (ow k)) : clist D dA L' ad' k i H := by
  obtain ⟨mo, a, b⟩ := hG.2.1 k i h1 h2 hi
  have e1 : ad' k i = ad k i := h k i ⟨by omega, hi⟩ (by omega)
  have e2 : ad' (k + 7) i = ad (k + 7) i := hrow _ _ (by omega) (by omega)
  refine ⟨mo, by rw [e1, e2, hL]; exact a, fun z => ?_⟩
  obtain ⟨cap, c1, c2⟩ := b (by rw [← hL]; exact z)
  refine ⟨cap, ?_, by rw [hL]; exact c2⟩
  rw [e2, hL]
  have e3 : (fun (j : Nat) => ((L k i)[j]?).map (fun (x : Int32) => ad' (lel k) x.toNatClampNeg)) = (fun (j : Nat) => ((L k i)[j]?).map (fun (x : Int32) => ad (lel k) x.toNatClampNeg)) := by
    funext j
    cases hj : (L k i)[j]? with
    | none => rfl
    | some x =>
      have hx := hG.2.2.2.2.2.2.1 k i x h1 h2 hi (List.mem_of_getElem? hj)
      have hl : lel k < 12 := by
        have : k = 12 ∨ k = 13 ∨ k = 14 ∨ k = 15 ∨ k = 16 ∨ k = 17 ∨ k = 18 := by omega
        rcases this with rfl | rfl | rfl | rfl | rfl | rfl | rfl <;> decide
      show some (ad' (lel k) x.toNatClampNeg) = some (ad (lel k) x.toNatClampNeg)
      rw [h _ _ (ex_k hl (vp_lt hx)) (by omega)]
  rw [e3]
  exact c1
theorem ow_ne11 {k : Nat} (h : 12 ≤ k) (h2 : k < 30) : ow k = 11 ∨ ow k = 9 ∨ ow k = 6 ∨ ow k = 1 ∨ ow k = 4 := by
  have : k = 12 ∨ k = 13 ∨ k = 14 ∨ k = 15 ∨ k = 16 ∨ k = 17 ∨ k = 18 ∨ k = 19 ∨ k = 20 ∨ k = 21 ∨ k = 22 ∨ k = 23 ∨ k = 24 ∨ k = 25 ∨ k = 26 ∨ k = 27 ∨ k = 28 ∨ k = 29 := by omega
  rcases this with rfl | rfl | rfl | rfl | rfl | rfl | rfl | rfl | rfl | rfl | rfl | rfl | rfl | rfl | rfl | rfl | rfl | rfl <;> decide
theorem arrV_congr9 {cA : ClassId} {n : Nat} {f g : Nat → Value} (h : ∀ j, j < n → f j = g j) : arrV cA n f = arrV cA n g := by
  unfold arrV
  congr 1
  congr 1
  funext j
  exact h j.val j.isLt
/-- a new object of a kind that owns no list, out of the cells beside the tables -/
theorem cx_new1 {D : va_G} {dA : Nat → ClassId} {A : Nat → Prop} {V V' : Rho} {L : Lst} {N : Cnt} {ad : Adr} {xs : va_W} {H : Heap} {k q : Nat} {fs : List Value} (hk : k = 0 ∨ k = 2 ∨ k = 3 ∨ k = 5 ∨ k = 7 ∨ k = 8 ∨ k = 10) (hG : cx D dA A V L N ad (xs ++ [(q, .inr (k + 3, fs))]) H)
    (hV : ∀ k' i f, k' < 12 → f < nfl k' → i < N k' → V' (20 * k' + f) i = V (20 * k' + f) i) (hfs : fs = cfs V' (adu ad k (N k) q) k (N k)) (hfok : ∀ f, f < nfl k → fok (nup N k) (fty (20 * k + f)) (V' (20 * k + f) (N k))) (hc : cnum (nup N k)) : cx D dA A V' L (nup N k) (adu ad k (N k) q) xs H := by
  have hk12 : k < 12 := by omega
  have hx := hG.2.2.2.2.2.2.2.2.2
  have hcn := hG.2.2.2.2.2.2.2.2.1
  have hlast : (xs ++ [(q, .inr (k + 3, fs))])[xs.length]? = some (q, (.inr (k + 3, fs) : va_E)) := by simp
  have how : ∀ k', 12 ≤ k' → k' < 30 → ow k' ≠ k := fun k' h1 h2 => by have := ow_ne11 h1 h2; omega
  have hax : axt N ad (adu ad k (N k) q) := fun k' i' hex _ => adu_ne (fun z => by
    obtain ⟨rfl, rfl⟩ := z
    have := hex.2
    rw [ow_self hk12] at this
    omega)
  have hold : ∀ k' i', live L (nup N k) k' i' → ¬ (k' = k ∧ i' = N k) → live L N k' i' := by
    intro k' i' hl hne
    refine ⟨⟨hl.1.1, ?_⟩, hl.2⟩
    have h2 := hl.1.2
    by_cases h12 : k' < 12
    · rw [ow_self h12] at h2 ⊢
      by_cases e : k' = k
      · subst e
        rw [nup_self] at h2
        have : i' ≠ N k' := fun z => hne ⟨rfl, z⟩
        omega
      · rwa [nup_ne e] at h2
    · rwa [nup_ne (how k' (by omega) hl.1.1)] at h2
  refine ⟨fun k' i' h1 h2 => ?_, fun k' i' h1 h2 h3 => ?_, fun k' h1 h2 h3 => ?_, fun k1 i1 k2 i2 h1 h2 h3 => ?_, fun k' i' h1 => ?_, fun k' i' f h1 h2 h3 => ?_, fun k' i' x h1 h2 h3 h4 => ?_, fun k' i' h1 h2 h3 => ?_, hc, ?_⟩
  · by_cases e : k' = k ∧ i' = N k
    · obtain ⟨rfl, rfl⟩ := e
      rw [← hfs, adu_self]
      exact hx.1 _ _ hlast
    · have hi : i' < N k' := by
        by_cases ek : k' = k
        · subst ek
          rw [nup_self] at h2
          have : i' ≠ N k' := fun z => e ⟨rfl, z⟩
          omega
        · rwa [nup_ne ek] at h2
      rw [adu_ne e, cfs_axt hax hcn.2.1 hcn.2.2.1 h1 hi (fun f hf => hG.2.2.2.2.2.1 k' i' f h1 hi hf) (fun f hf => hV k' i' f h1 hf hi)]
      exact hG.1 k' i' h1 hi
  · rw [nup_ne (how k' h1 (by omega))] at h3
    exact clist_axt hG hax (fun k9 i9 a b => adu_ne (fun z => by omega)) rfl h1 h2 h3
  · rw [nup_ne (by omega)] at h3
    have hlel : ∀ j, j < alen k' → adu ad k (N k) q (lel k') j = ad (lel k') j := by
      intro j hj
      refine hax _ _ ?_ ?_
      · have hcn1 := hcn.1 h3
        have : k' = 26 ∨ k' = 27 ∨ k' = 28 ∨ k' = 29 := by omega
        rcases this with rfl | rfl | rfl | rfl
        · exact ex_k (by decide) (by rw [show lel 26 = 10 from rfl, hcn1.2.1]; exact hj)
        · exact ex_k (by decide) (by rw [show lel 27 = 2 from rfl, hcn1.2.2.1]; exact hj)
        · exact ex_k (by decide) (by rw [show lel 28 = 9 from rfl, hcn1.2.2.2.1]; exact hj)
        · exact ex_k (by decide) (by rw [show lel 29 = 5 from rfl, hcn1.2.2.2.2.1]; exact hj)
      · have : k' = 26 ∨ k' = 27 ∨ k' = 28 ∨ k' = 29 := by omega
        rcases this with rfl | rfl | rfl | rfl <;> decide
    rw [adu_ne (fun z => by omega)]
    have h9 := hG.2.2.1 k' h1 h2 h3
    have e9 : vp_cell (dA (k' - 25)) (alen k', .inr (.inr (.inr (.inr (fun j => some (adu ad k (N k) q (lel k') j)))))) = vp_cell (dA (k' - 25)) (alen k', .inr (.inr (.inr (.inr (fun j => some (ad (lel k') j)))))) := by
      rw [vp_cell_q, vp_cell_q]
      exact arrV_congr9 (fun j hj => by rw [hlel j hj])
    show H[ad k' 0]? = some (vp_cell _ _)
    rw [e9]
    exact h9
  · by_cases e1 : k1 = k ∧ i1 = N k
    · by_cases e2 : k2 = k ∧ i2 = N k
      · exact ⟨e1.1.trans e2.1.symm, e1.2.trans e2.2.symm⟩
      · rw [e1.1, e1.2, adu_self, adu_ne e2] at h3
        exact absurd h3.symm (hx.2.2 _ _ hlast k2 i2 (hold _ _ h2 e2))
    · by_cases e2 : k2 = k ∧ i2 = N k
      · rw [e2.1, e2.2, adu_self, adu_ne e1] at h3
        exact absurd h3 (hx.2.2 _ _ hlast k1 i1 (hold _ _ h1 e1))
      · rw [adu_ne e1, adu_ne e2] at h3
        exact hG.2.2.2.1 _ _ _ _ (hold _ _ h1 e1) (hold _ _ h2 e2) h3
  · by_cases e : k' = k ∧ i' = N k
    · rw [e.1, e.2, adu_self]
      exact hx.2.1.2 _ _ hlast
    · rw [adu_ne e]
      exact hG.2.2.2.2.1 _ _ (hold _ _ h1 e)
  · by_cases e : k' = k ∧ i' = N k
    · obtain ⟨rfl, rfl⟩ := e
      exact hfok f h3
    · have hi : i' < N k' := by
        by_cases ek : k' = k
        · subst ek
          rw [nup_self] at h2
          have : i' ≠ N k' := fun z => e ⟨rfl, z⟩
          omega
        · rwa [nup_ne ek] at h2
      rw [hV k' i' f h1 h3 hi]
      exact fok_mono (hG.2.2.2.2.2.1 k' i' f h1 hi h3) (fun _ => nup_le)
  · rw [nup_ne (how k' h1 (by omega))] at h3
    exact vp_mono (hG.2.2.2.2.2.2.1 k' i' x h1 h2 h3 h4) nup_le
  · rw [nup_ne (how k' h1 (by omega))] at h3
    exact hG.2.2.2.2.2.2.2.1 k' i' h1 h2 h3
  · refine ⟨fun j x hj => ?_, ⟨fun i j x y hi hj => ?_, fun j x hj => ?_⟩, fun j x hj k' i' hl => ?_⟩
    · exact hx.1 j x (by rw [List.getElem?_append_left (List.getElem?_eq_some_iff.mp hj).1]; exact hj)
    · exact hx.2.1.1 i j x y (by rw [List.getElem?_append_left (List.getElem?_eq_some_iff.mp hi).1]; exact hi) (by rw [List.getElem?_append_left (List.getElem?_eq_some_iff.mp hj).1]; exact hj)
    · exact hx.2.1.2 j x (by rw [List.getElem?_append_left (List.getElem?_eq_some_iff.mp hj).1]; exact hj)
    · have hj' : (xs ++ [(q, (.inr (k + 3, fs) : va_E))])[j]? = some x := by rw [List.getElem?_append_left (List.getElem?_eq_some_iff.mp hj).1]; exact hj
      by_cases e : k' = k ∧ i' = N k
      · rw [e.1, e.2, adu_self]
        intro z
        have := hx.2.1.1 _ _ _ _ hlast hj' z
        have := (List.getElem?_eq_some_iff.mp hj).1
        omega
      · rw [adu_ne e]
        exact hx.2.2 j x hj' k' i' (hold _ _ hl e)

theorem ow_own {k lk : Nat} (hk : (k = 1 ∧ lk = 17) ∨ (k = 4 ∧ lk = 18) ∨ (k = 6 ∧ lk = 16) ∨ (k = 9 ∧ lk = 15)) {k' : Nat} (h1 : 12 ≤ k') (h2 : k' < 30) (h : ow k' = k) : k' = lk ∨ k' = lk + 7 := by
  have : k' = 12 ∨ k' = 13 ∨ k' = 14 ∨ k' = 15 ∨ k' = 16 ∨ k' = 17 ∨ k' = 18 ∨ k' = 19 ∨ k' = 20 ∨ k' = 21 ∨ k' = 22 ∨ k' = 23 ∨ k' = 24 ∨ k' = 25 ∨ k' = 26 ∨ k' = 27 ∨ k' = 28 ∨ k' = 29 := by omega
  rcases this with rfl | rfl | rfl | rfl | rfl | rfl | rfl | rfl | rfl | rfl | rfl | rfl | rfl | rfl | rfl | rfl | rfl | rfl <;> (have h9 : _ = k := h; simp [ow] at h9; omega)
/-- a new object with its list, which is empty -/
theorem cx_new2 {D : va_G} {dA : Nat → ClassId} {A : Nat → Prop} {V V' : Rho} {L : Lst} {N : Cnt} {ad : Adr} {xs : va_W} {H : Heap} {k lk q q2 : Nat} {fs : List Value} {mo : Int32} (hk : (k = 1 ∧ lk = 17) ∨ (k = 4 ∧ lk = 18) ∨ (k = 6 ∧ lk = 16) ∨ (k = 9 ∧ lk = 15)) (hG : cx D dA A V L N ad (xs ++ [(q, .inr (k + 3, fs))] ++ [(q2, .inr (2, [.int mo, .ref (dA 99), .int 0]))]) H)
    (hV : ∀ k' i f, k' < 12 → f < nfl k' → i < N k' → V' (20 * k' + f) i = V (20 * k' + f) i) (hfs : fs = cfs V' (adu (adu ad k (N k) q) lk (N k) q2) k (N k)) (hfok : ∀ f, f < nfl k → fok (nup N k) (fty (20 * k + f)) (V' (20 * k + f) (N k))) (hc : cnum (nup N k)) : cx D dA A V' (lput L lk (N k) []) (nup N k) (adu (adu ad k (N k) q) lk (N k) q2) xs H := by
  have hk12 : k < 12 := by omega
  have hlk : 12 ≤ lk ∧ lk < 19 ∧ ow lk = k := by rcases hk with ⟨rfl, rfl⟩ | ⟨rfl, rfl⟩ | ⟨rfl, rfl⟩ | ⟨rfl, rfl⟩ <;> decide
  have hx := hG.2.2.2.2.2.2.2.2.2
  have hcn := hG.2.2.2.2.2.2.2.2.1
  have hlast : (xs ++ [(q, (.inr (k + 3, fs) : va_E))] ++ [(q2, (.inr (2, [.int mo, .ref (dA 99), .int 0]) : va_E))])[xs.length]? = some (q, (.inr (k + 3, fs) : va_E)) := by simp
  have hlast2 : (xs ++ [(q, (.inr (k + 3, fs) : va_E))] ++ [(q2, (.inr (2, [.int mo, .ref (dA 99), .int 0]) : va_E))])[xs.length + 1]? = some (q2, (.inr (2, [.int mo, .ref (dA 99), .int 0]) : va_E)) := by simp
  obtain ⟨ad', had⟩ : ∃ z, z = adu (adu ad k (N k) q) lk (N k) q2 := ⟨_, rfl⟩
  rw [← had] at hfs ⊢
  have a1 : ad' k (N k) = q := by rw [had, adu_ne (fun z => by omega), adu_self]
  have a2 : ad' lk (N k) = q2 := by rw [had, adu_self]
  have a3 : ∀ k' i', ¬ (k' = k ∧ i' = N k) → ¬ (k' = lk ∧ i' = N k) → ad' k' i' = ad k' i' := fun k' i' h1 h2 => by rw [had, adu_ne h2, adu_ne h1]
  have hL1 : lput L lk (N k) [] lk (N k) = [] := if_pos ⟨rfl, rfl⟩
  have hL2 : ∀ k' i', ¬ (k' = lk ∧ i' = N k) → lput L lk (N k) [] k' i' = L k' i' := fun k' i' h => if_neg h
  have hax : axt N ad ad' := fun k' i' hex _ => a3 _ _ (fun z => by
    obtain ⟨rfl, rfl⟩ := z
    have := hex.2
    rw [ow_self hk12] at this
    omega) (fun z => by
    obtain ⟨rfl, rfl⟩ := z
    have := hex.2
    rw [hlk.2.2] at this
    omega)
  have hold : ∀ k' i', live (lput L lk (N k) []) (nup N k) k' i' → ¬ (k' = k ∧ i' = N k) → ¬ (k' = lk ∧ i' = N k) → live L N k' i' := by
    intro k' i' hl hne hne2
    have h2 := hl.1.2
    by_cases h12 : k' < 12
    · refine ⟨⟨hl.1.1, ?_⟩, fun h9 => by omega⟩
      rw [ow_self h12] at h2 ⊢
      by_cases e : k' = k
      · subst e
        rw [nup_self] at h2
        have : i' ≠ N k' := fun z => hne ⟨rfl, z⟩
        omega
      · rwa [nup_ne e] at h2
    · by_cases e : ow k' = k
      · rcases ow_own hk (by omega) hl.1.1 e with rfl | rfl
        · rw [e, nup_self] at h2
          have : i' ≠ N k := fun z => hne2 ⟨rfl, z⟩
          exact ⟨⟨hl.1.1, by rw [e]; omega⟩, fun h9 => by omega⟩
        · rw [e, nup_self] at h2
          have h3 := hl.2 (by omega) (by omega)
          rw [Nat.add_sub_cancel] at h3
          have h4 : i' ≠ N k := fun z => h3 (by rw [z]; exact hL1)
          refine ⟨⟨hl.1.1, by rw [e]; omega⟩, fun _ _ => ?_⟩
          rw [Nat.add_sub_cancel]
          rwa [hL2 _ _ (fun z => h4 z.2)] at h3
      · rw [nup_ne e] at h2
        refine ⟨⟨hl.1.1, h2⟩, fun h9 h8 => ?_⟩
        have h3 := hl.2 h9 h8
        rwa [hL2 _ _ (fun z => e (by
          have : k' = lk + 7 := by omega
          rw [this, ow_row hlk.1 hlk.2.1]
          exact hlk.2.2))] at h3
  have hNold : ∀ k' i', k' < 12 → i' < nup N k k' → ¬ (k' = k ∧ i' = N k) → i' < N k' := by
    intro k' i' _ h2 e
    by_cases ek : k' = k
    · subst ek
      rw [nup_self] at h2
      have : i' ≠ N k' := fun z => e ⟨rfl, z⟩
      omega
    · rwa [nup_ne ek] at h2
  have hNl : ∀ k' i', 12 ≤ k' → k' < 19 → i' < nup N k (ow k') → ¬ (k' = lk ∧ i' = N k) → i' < N (ow k') := by
    intro k' i' h1 h2 h3 e
    by_cases ek : ow k' = k
    · rcases ow_own hk h1 (by omega) ek with rfl | rfl
      · rw [ek, nup_self] at h3
        have : i' ≠ N k := fun z => e ⟨rfl, z⟩
        rw [ek]
        omega
      · omega
    · rwa [nup_ne ek] at h3
  have hrow : ∀ k9 i9, 19 ≤ k9 → k9 < 26 → ad' k9 i9 = ad k9 i9 := fun k9 i9 a b => a3 _ _ (fun z => by omega) (fun z => by omega)
  refine ⟨fun k' i' h1 h2 => ?_, fun k' i' h1 h2 h3 => ?_, fun k' h1 h2 h3 => ?_, fun k1 i1 k2 i2 h1 h2 h3 => ?_, fun k' i' h1 => ?_, fun k' i' f h1 h2 h3 => ?_, fun k' i' x h1 h2 h3 h4 => ?_, fun k' i' h1 h2 h3 => ?_, hc, ?_⟩
  · by_cases e : k' = k ∧ i' = N k
    · obtain ⟨rfl, rfl⟩ := e
      rw [← hfs, a1]
      exact hx.1 _ _ hlast
    · have hi := hNold k' i' h1 h2 e
      rw [a3 _ _ e (fun z => by omega), cfs_axt hax hcn.2.1 hcn.2.2.1 h1 hi (fun f hf => hG.2.2.2.2.2.1 k' i' f h1 hi hf) (fun f hf => hV k' i' f h1 hf hi)]
      exact hG.1 k' i' h1 hi
  · by_cases e : k' = lk ∧ i' = N k
    · obtain ⟨rfl, rfl⟩ := e
      refine ⟨mo, ?_, fun z => absurd hL1 z⟩
      rw [a2, hL1, if_pos rfl]
      exact hx.1 _ _ hlast2
    · exact clist_axt hG hax hrow (hL2 _ _ e) h1 h2 (hNl k' i' h1 h2 h3 e)
  · rw [nup_ne (by omega)] at h3
    have hlel : ∀ j, j < alen k' → ad' (lel k') j = ad (lel k') j := by
      intro j hj
      refine hax _ _ ?_ ?_
      · have hcn1 := hcn.1 h3
        have : k' = 26 ∨ k' = 27 ∨ k' = 28 ∨ k' = 29 := by omega
        rcases this with rfl | rfl | rfl | rfl
        · exact ex_k (by decide) (by rw [show lel 26 = 10 from rfl, hcn1.2.1]; exact hj)
        · exact ex_k (by decide) (by rw [show lel 27 = 2 from rfl, hcn1.2.2.1]; exact hj)
        · exact ex_k (by decide) (by rw [show lel 28 = 9 from rfl, hcn1.2.2.2.1]; exact hj)
        · exact ex_k (by decide) (by rw [show lel 29 = 5 from rfl, hcn1.2.2.2.2.1]; exact hj)
      · have : k' = 26 ∨ k' = 27 ∨ k' = 28 ∨ k' = 29 := by omega
        rcases this with rfl | rfl | rfl | rfl <;> decide
    rw [a3 _ _ (fun z => by omega) (fun z => by omega)]
    have h9 := hG.2.2.1 k' h1 h2 h3
    have e9 : vp_cell (dA (k' - 25)) (alen k', .inr (.inr (.inr (.inr (fun j => some (ad' (lel k') j)))))) = vp_cell (dA (k' - 25)) (alen k', .inr (.inr (.inr (.inr (fun j => some (ad (lel k') j)))))) := by
      rw [vp_cell_q, vp_cell_q]
      exact arrV_congr9 (fun j hj => by rw [hlel j hj])
    show H[ad k' 0]? = some (vp_cell _ _)
    rw [e9]
    exact h9
  · by_cases e1 : k1 = k ∧ i1 = N k
    · by_cases e2 : k2 = k ∧ i2 = N k
      · exact ⟨e1.1.trans e2.1.symm, e1.2.trans e2.2.symm⟩
      · by_cases e3 : k2 = lk ∧ i2 = N k
        · rw [e1.1, e1.2, e3.1, e3.2, a1, a2] at h3
          have := hx.2.1.1 _ _ _ _ hlast hlast2 h3
          omega
        · rw [e1.1, e1.2, a1, a3 _ _ e2 e3] at h3
          exact absurd h3.symm (hx.2.2 _ _ hlast k2 i2 (hold _ _ h2 e2 e3))
    · by_cases e4 : k1 = lk ∧ i1 = N k
      · by_cases e2 : k2 = k ∧ i2 = N k
        · rw [e4.1, e4.2, e2.1, e2.2, a1, a2] at h3
          have := hx.2.1.1 _ _ _ _ hlast hlast2 h3.symm
          omega
        · by_cases e3 : k2 = lk ∧ i2 = N k
          · exact ⟨e4.1.trans e3.1.symm, e4.2.trans e3.2.symm⟩
          · rw [e4.1, e4.2, a2, a3 _ _ e2 e3] at h3
            exact absurd h3.symm (hx.2.2 _ _ hlast2 k2 i2 (hold _ _ h2 e2 e3))
      · by_cases e2 : k2 = k ∧ i2 = N k
        · rw [e2.1, e2.2, a1, a3 _ _ e1 e4] at h3
          exact absurd h3 (hx.2.2 _ _ hlast k1 i1 (hold _ _ h1 e1 e4))
        · by_cases e3 : k2 = lk ∧ i2 = N k
          · rw [e3.1, e3.2, a2, a3 _ _ e1 e4] at h3
            exact absurd h3 (hx.2.2 _ _ hlast2 k1 i1 (hold _ _ h1 e1 e4))
          · rw [a3 _ _ e1 e4, a3 _ _ e2 e3] at h3
            exact hG.2.2.2.1 _ _ _ _ (hold _ _ h1 e1 e4) (hold _ _ h2 e2 e3) h3
  · by_cases e : k' = k ∧ i' = N k
    · rw [e.1, e.2, a1]
      exact hx.2.1.2 _ _ hlast
    · by_cases e2 : k' = lk ∧ i' = N k
      · rw [e2.1, e2.2, a2]
        exact hx.2.1.2 _ _ hlast2
      · rw [a3 _ _ e e2]
        exact hG.2.2.2.2.1 _ _ (hold _ _ h1 e e2)
  · by_cases e : k' = k ∧ i' = N k
    · obtain ⟨rfl, rfl⟩ := e
      exact hfok f h3
    · have hi := hNold k' i' h1 h2 e
      rw [hV k' i' f h1 h3 hi]
      exact fok_mono (hG.2.2.2.2.2.1 k' i' f h1 hi h3) (fun _ => nup_le)
  · by_cases e : k' = lk ∧ i' = N k
    · rw [e.1, e.2, hL1] at h4
      cases h4
    · rw [hL2 _ _ e] at h4
      exact vp_mono (hG.2.2.2.2.2.2.1 k' i' x h1 h2 (hNl k' i' h1 h2 h3 e) h4) nup_le
  · by_cases e : k' = lk ∧ i' = N k
    · rw [e.1, e.2, hL1]
      exact Nat.zero_le _
    · rw [hL2 _ _ e]
      exact hG.2.2.2.2.2.2.2.1 k' i' h1 h2 (hNl k' i' h1 h2 h3 e)
  · have hin : ∀ (j : Nat) (x : Nat × va_E), xs[j]? = some x → (xs ++ [(q, (.inr (k + 3, fs) : va_E))] ++ [(q2, (.inr (2, [.int mo, .ref (dA 99), .int 0]) : va_E))])[j]? = some x := by
      intro j x hj
      have := (List.getElem?_eq_some_iff.mp hj).1
      rw [List.append_assoc, List.getElem?_append_left this]
      exact hj
    refine ⟨fun j x hj => hx.1 j x (hin j x hj), ⟨fun i j x y hi hj => hx.2.1.1 i j x y (hin _ _ hi) (hin _ _ hj), fun j x hj => hx.2.1.2 j x (hin _ _ hj)⟩, fun j x hj k' i' hl => ?_⟩
    have hjl := (List.getElem?_eq_some_iff.mp hj).1
    by_cases e : k' = k ∧ i' = N k
    · rw [e.1, e.2, a1]
      intro z
      have := hx.2.1.1 _ _ _ _ hlast (hin _ _ hj) z
      omega
    · by_cases e2 : k' = lk ∧ i' = N k
      · rw [e2.1, e2.2, a2]
        intro z
        have := hx.2.1.1 _ _ _ _ hlast2 (hin _ _ hj) z
        omega
      · rw [a3 _ _ e e2]
        exact hx.2.2 j x (hin _ _ hj) k' i' (hold _ _ hl e e2)
