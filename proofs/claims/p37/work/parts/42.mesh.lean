/-! CONSTRUCTORS: a new MeshBiller comes into the tables -/
def fA (ad : Adr) (k n : Nat) : Nat → Option Nat := fun j => if j < n then some (ad k j) else none
theorem fA_axt {ad ad' : Adr} {k n : Nat} (h : ∀ j, j < n → ad' k j = ad k j) : fA ad' k n = fA ad k n := by
  funext j
  unfold fA
  by_cases q : j < n
  · rw [if_pos q, if_pos q, h j q]
  · rw [if_neg q, if_neg q]
theorem fA_up {ad : Adr} {k n : Nat} : va_up (fA ad k n) n (some (ad k n)) = fA ad k (n + 1) := by
  funext j
  unfold va_up fA
  by_cases q : j = n
  · rw [if_pos q, if_pos (by omega), q]
  · rw [if_neg q]
    by_cases q2 : j < n
    · rw [if_pos q2, if_pos (by omega)]
    · rw [if_neg q2, if_neg (by omega)]
theorem fA_0 {ad : Adr} {k : Nat} : fA ad k 0 = fun _ => none := rfl
def xB (dA : Nat → ClassId) (ad : Adr) (r : Nat → Nat) (z c w p : Nat) : va_W := [(r 0, .inr (14, [.ref (r 1), .ref (r 2), .ref (r 3), .ref (r 4), .ref (r 5), .ref (r 6), .ref (r 7), .int 20, .int 0])), (r 1, .inl (dA 1, 3, .inr (.inr (.inr (.inr (fA ad 10 z)))))), (r 2, .inl (dA 2, 8, .inr (.inr (.inr (.inr (fA ad 2 c)))))), (r 3, .inl (dA 3, 4, .inr (.inr (.inr (.inr (fA ad 9 w)))))), (r 4, .inl (dA 4, 10, .inr (.inr (.inr (.inr (fA ad 5 p)))))), (r 5, .inr (2, [.int 0, .ref (dA 99), .int 0])), (r 6, .inr (2, [.int 0, .ref (dA 99), .int 0])), (r 7, .inr (2, [.int 0, .ref (dA 99), .int 0]))]
def K8 (j : Nat) : Nat := [11, 26, 27, 28, 29, 12, 13, 14].getD j 99
def adm (ad : Adr) (r : Nat → Nat) : Adr := fun k i => if i = 0 ∧ k = 11 then r 0 else if i = 0 ∧ 26 ≤ k ∧ k < 30 then r (k - 25) else if i = 0 ∧ 12 ≤ k ∧ k < 15 then r (k - 7) else ad k i
theorem lt8 {j : Nat} (h : j < 8) : j = 0 ∨ j = 1 ∨ j = 2 ∨ j = 3 ∨ j = 4 ∨ j = 5 ∨ j = 6 ∨ j = 7 := by omega
theorem adm_new {ad : Adr} {r : Nat → Nat} {j : Nat} (h : j < 8) : adm ad r (K8 j) 0 = r j := by
  rcases lt8 h with rfl | rfl | rfl | rfl | rfl | rfl | rfl | rfl <;> rfl
theorem ow11 {k : Nat} (hk : k < 30) (h : ow k = 11) : k = 19 ∨ k = 20 ∨ k = 21 ∨ ∃ j, j < 8 ∧ k = K8 j := by
  have key : ∀ k, k < 30 → ow k = 11 → k = 19 ∨ k = 20 ∨ k = 21 ∨ k = 11 ∨ k = 26 ∨ k = 27 ∨ k = 28 ∨ k = 29 ∨ k = 12 ∨ k = 13 ∨ k = 14 := by decide
  rcases key k hk h with h | h | h | h | h | h | h | h | h | h | h
  · exact Or.inl h
  · exact Or.inr (Or.inl h)
  · exact Or.inr (Or.inr (Or.inl h))
  · exact Or.inr (Or.inr (Or.inr ⟨0, by decide, h⟩))
  · exact Or.inr (Or.inr (Or.inr ⟨1, by decide, h⟩))
  · exact Or.inr (Or.inr (Or.inr ⟨2, by decide, h⟩))
  · exact Or.inr (Or.inr (Or.inr ⟨3, by decide, h⟩))
  · exact Or.inr (Or.inr (Or.inr ⟨4, by decide, h⟩))
  · exact Or.inr (Or.inr (Or.inr ⟨5, by decide, h⟩))
  · exact Or.inr (Or.inr (Or.inr ⟨6, by decide, h⟩))
  · exact Or.inr (Or.inr (Or.inr ⟨7, by decide, h⟩))
theorem ow_K8 {j : Nat} (h : j < 8) : ow (K8 j) = 11 := by
  rcases lt8 h with rfl | rfl | rfl | rfl | rfl | rfl | rfl | rfl <;> rfl
theorem K8_inj {i j : Nat} (hi : i < 8) (hj : j < 8) (h : K8 i = K8 j) : i = j := by
  have key : ∀ i, i < 8 → ∀ j, j < 8 → K8 i = K8 j → i = j := by decide
  exact key i hi j hj h
theorem adm_old {ad : Adr} {r : Nat → Nat} {k i : Nat} (h : ow k ≠ 11) : adm ad r k i = ad k i := by
  have h11 : k ≠ 11 := fun z => h (by rw [z]; rfl)
  have h26 : ¬ (26 ≤ k ∧ k < 30) := fun z => h (ow_arr z.1 z.2)
  have h12 : ¬ (12 ≤ k ∧ k < 15) := fun z => h (by
    rcases (show k = 12 ∨ k = 13 ∨ k = 14 by omega) with rfl | rfl | rfl <;> rfl)
  unfold adm
  rw [if_neg (fun z => h11 z.2), if_neg (fun z => h26 z.2), if_neg (fun z => h12 z.2)]
theorem adm_row {ad : Adr} {r : Nat → Nat} {k i : Nat} (h1 : 19 ≤ k) (h2 : k < 26) : adm ad r k i = ad k i := by
  unfold adm
  rw [if_neg (fun z => by omega), if_neg (fun z => by omega), if_neg (fun z => by omega)]
theorem nB_01 {k : Nat} (h : k ≠ 11) : nB 6 3 8 4 10 1 k = nB 6 3 8 4 10 0 k := by
  rw [← nB_m, nup_ne h]
theorem xq_get {α : Type} {xs ys : List α} {j : Nat} : (xs ++ ys)[xs.length + j]? = ys[j]? := by
  rw [List.getElem?_append_right (by omega), Nat.add_sub_cancel_left]
theorem xq_set {α : Type} {xs ys : List α} {j : Nat} {v : α} : (xs ++ ys).set (xs.length + j) v = xs ++ ys.set j v := by
  rw [List.set_append_right _ _ (by omega), Nat.add_sub_cancel_left]
set_option maxRecDepth 100000 in
theorem mk_Mesh {D : va_G} {dA : Nat → ClassId} {A : Nat → Prop} {ad : Adr} {xs : va_W} {H : Heap} {r : Nat → Nat} (hG : cx D dA A VB LB (nB 6 3 8 4 10 0) ad (xs ++ xB dA ad r 3 8 4 10) H) : cx D dA A VB LB (nB 6 3 8 4 10 1) (adm ad r) xs H := by
  have hx := hG.2.2.2.2.2.2.2.2.2
  have hcn := hG.2.2.2.2.2.2.2.2.1
  have hnew : ∀ j, j < 8 → ∃ e, (xs ++ xB dA ad r 3 8 4 10)[xs.length + j]? = some (r j, e) := by
    intro j hj
    rw [xq_get]
    rcases lt8 hj with rfl | rfl | rfl | rfl | rfl | rfl | rfl | rfl <;> exact ⟨_, rfl⟩
  have hin : ∀ (j : Nat) (x : Nat × va_E), xs[j]? = some x → (xs ++ xB dA ad r 3 8 4 10)[j]? = some x := fun j x hj => by
    rw [List.getElem?_append_left (List.getElem?_eq_some_iff.mp hj).1]
    exact hj
  have hexo : ∀ k i, ex (nB 6 3 8 4 10 0) k i → ow k ≠ 11 := fun k i h z => by
    have := h.2
    rw [z] at this
    exact absurd this (Nat.not_lt_zero _)
  have hax : axt (nB 6 3 8 4 10 0) ad (adm ad r) := fun k i hex _ => adm_old (hexo k i hex)
  have hrow : ∀ k i, 19 ≤ k → k < 26 → adm ad r k i = ad k i := fun k i a b => adm_row a b
  have split : ∀ k i, live LB (nB 6 3 8 4 10 1) k i → (live LB (nB 6 3 8 4 10 0) k i ∧ ow k ≠ 11) ∨ ∃ j, j < 8 ∧ k = K8 j ∧ i = 0 := by
    intro k i hl
    have h2 := hl.1.2
    by_cases h : ow k = 11
    · rw [h] at h2
      have hi : i = 0 := by
        have : i < 1 := h2
        omega
      subst hi
      rcases ow11 hl.1.1 h with rfl | rfl | rfl | ⟨j, hj, hk⟩
      · exact absurd rfl (hl.2 (by decide) (by decide))
      · exact absurd rfl (hl.2 (by decide) (by decide))
      · exact absurd rfl (hl.2 (by decide) (by decide))
      · exact Or.inr ⟨j, hj, hk, rfl⟩
    · rw [nB_01 h] at h2
      exact Or.inl ⟨⟨⟨hl.1.1, h2⟩, hl.2⟩, h⟩
  have hle : ∀ k, nB 6 3 8 4 10 0 k ≤ nB 6 3 8 4 10 1 k := fun k => by rw [← nB_m]; exact nup_le
  have hold : ∀ k i, k < 12 → i < nB 6 3 8 4 10 1 k → (k = 11 ∧ i = 0) ∨ (k ≠ 11 ∧ i < nB 6 3 8 4 10 0 k) := by
    intro k i hk hi
    by_cases h : k = 11
    · subst h
      have : i < 1 := hi
      exact Or.inl ⟨rfl, by omega⟩
    · rw [nB_01 h] at hi
      exact Or.inr ⟨h, hi⟩
  refine ⟨fun k i h1 h2 => ?_, fun k i h1 h2 h3 => ?_, fun k h1 h2 h3 => ?_, fun k1 i1 k2 i2 h1 h2 h3 => ?_, fun k i h1 => ?_, fun k i f h1 h2 h3 => ?_, fun k i x h1 h2 h3 h4 => ?_, fun k i h1 h2 h3 => ?_, ?_, ?_⟩
  · rcases hold k i h1 h2 with ⟨rfl, rfl⟩ | ⟨hk, hi⟩
    · exact hx.1 (xs.length + 0) _ (by rw [xq_get]; rfl)
    · rw [adm_old (by rw [ow_self h1]; exact hk), cfs_axt hax hcn.2.1 hcn.2.2.1 h1 hi (fun f hf => hG.2.2.2.2.2.1 k i f h1 hi hf) (fun f hf => rfl)]
      exact hG.1 k i h1 hi
  · by_cases h : ow k = 11
    · rw [h] at h3
      have hi : i = 0 := by
        have : i < 1 := h3
        omega
      subst hi
      rcases ow11 (by omega) h with rfl | rfl | rfl | ⟨j, hj, hk⟩
      · omega
      · omega
      · omega
      · rcases lt8 hj with rfl | rfl | rfl | rfl | rfl | rfl | rfl | rfl
        · have : k = 11 := hk
          omega
        · have : k = 26 := hk
          omega
        · have : k = 27 := hk
          omega
        · have : k = 28 := hk
          omega
        · have : k = 29 := hk
          omega
        · subst hk
          exact ⟨0, hx.1 (xs.length + 5) _ (by rw [xq_get]; rfl), fun z => absurd rfl z⟩
        · subst hk
          exact ⟨0, hx.1 (xs.length + 6) _ (by rw [xq_get]; rfl), fun z => absurd rfl z⟩
        · subst hk
          exact ⟨0, hx.1 (xs.length + 7) _ (by rw [xq_get]; rfl), fun z => absurd rfl z⟩
    · rw [nB_01 h] at h3
      exact clist_axt hG hax hrow rfl h1 h2 h3
  · have arr : ∀ (j m lk n : Nat), (xs ++ xB dA ad r 3 8 4 10)[xs.length + j]? = some (r j, .inl (dA m, n, .inr (.inr (.inr (.inr (fA ad lk n)))))) → ow lk ≠ 11 → va_at D vwCl (r j, .inl (dA m, n, .inr (.inr (.inr (.inr (fun i => some (adm ad r lk i))))))) H := by
      intro j m lk n hj hlk
      have h9 := hx.1 _ _ hj
      have e9 : vp_cell (dA m) (n, .inr (.inr (.inr (.inr (fun i => some (adm ad r lk i)))))) = vp_cell (dA m) (n, .inr (.inr (.inr (.inr (fA ad lk n))))) := by
        rw [vp_cell_q, vp_cell_q]
        exact arrV_congr9 (fun i hi => by rw [adm_old hlk]; unfold fA; rw [if_pos hi])
      show H[r j]? = some (vp_cell _ _)
      rw [e9]
      exact h9
    rcases (show k = 26 ∨ k = 27 ∨ k = 28 ∨ k = 29 by omega) with rfl | rfl | rfl | rfl
    · exact arr 1 1 10 3 (by rw [xq_get]; rfl) (by decide)
    · exact arr 2 2 2 8 (by rw [xq_get]; rfl) (by decide)
    · exact arr 3 3 9 4 (by rw [xq_get]; rfl) (by decide)
    · exact arr 4 4 5 10 (by rw [xq_get]; rfl) (by decide)
  · rcases split _ _ h1 with ⟨a1, b1⟩ | ⟨j1, a1, rfl, rfl⟩
    · rcases split _ _ h2 with ⟨a2, b2⟩ | ⟨j2, a2, rfl, rfl⟩
      · rw [adm_old b1, adm_old b2] at h3
        exact hG.2.2.2.1 _ _ _ _ a1 a2 h3
      · rw [adm_old b1, adm_new a2] at h3
        obtain ⟨e, he⟩ := hnew j2 a2
        exact absurd h3 (hx.2.2 _ _ he _ _ a1)
    · rcases split _ _ h2 with ⟨a2, b2⟩ | ⟨j2, a2, rfl, rfl⟩
      · rw [adm_new a1, adm_old b2] at h3
        obtain ⟨e, he⟩ := hnew j1 a1
        exact absurd h3.symm (hx.2.2 _ _ he _ _ a2)
      · rw [adm_new a1, adm_new a2] at h3
        obtain ⟨e, he⟩ := hnew j1 a1
        obtain ⟨e', he'⟩ := hnew j2 a2
        have := hx.2.1.1 _ _ _ _ he he' h3
        have : j1 = j2 := by omega
        exact ⟨by rw [this], rfl⟩
  · rcases split _ _ h1 with ⟨a1, b1⟩ | ⟨j1, a1, rfl, rfl⟩
    · rw [adm_old b1]
      exact hG.2.2.2.2.1 _ _ a1
    · rw [adm_new a1]
      obtain ⟨e, he⟩ := hnew j1 a1
      exact hx.2.1.2 _ _ he
  · rcases hold k i h1 h2 with ⟨rfl, rfl⟩ | ⟨hk, hi⟩
    · have hf : f < 9 := h3
      rcases (show f = 0 ∨ f = 1 ∨ f = 2 ∨ f = 3 ∨ f = 4 ∨ f = 5 ∨ f = 6 ∨ f = 7 ∨ f = 8 by omega) with rfl | rfl | rfl | rfl | rfl | rfl | rfl | rfl | rfl <;> trivial
    · exact fok_mono (hG.2.2.2.2.2.1 k i f h1 hi h3) hle
  · by_cases h : ow k = 11
    · rw [h] at h3
      have : LB k i = [] := if_neg (fun z => by rw [z.1] at h; cases h)
      rw [this] at h4
      cases h4
    · rw [nB_01 h] at h3
      exact vp_mono (hG.2.2.2.2.2.2.1 k i x h1 h2 h3 h4) (hle _)
  · by_cases h : ow k = 11
    · have : LB k i = [] := if_neg (fun z => by rw [z.1] at h; cases h)
      rw [this]
      exact Nat.zero_le _
    · rw [nB_01 h] at h3
      exact hG.2.2.2.2.2.2.2.1 k i h1 h2 h3
  · refine ⟨fun _ => ⟨rfl, rfl, rfl, rfl, rfl, rfl⟩, Nat.le_refl _, Nat.le_refl _, fun k => ?_⟩
    by_cases h : k = 11
    · subst h
      show 1 ≤ 100000
      decide
    · rw [nB_01 h]
      exact hcn.2.2.2 k
  · refine ⟨fun j x hj => hx.1 j x (hin j x hj), ⟨fun i j x y hi hj => hx.2.1.1 i j x y (hin _ _ hi) (hin _ _ hj), fun j x hj => hx.2.1.2 j x (hin _ _ hj)⟩, fun j x hj k i hl => ?_⟩
    have hjl := (List.getElem?_eq_some_iff.mp hj).1
    rcases split _ _ hl with ⟨a1, b1⟩ | ⟨j1, a1, rfl, rfl⟩
    · rw [adm_old b1]
      exact hx.2.2 j x (hin _ _ hj) _ _ a1
    · rw [adm_new a1]
      intro z
      obtain ⟨e, he⟩ := hnew j1 a1
      have := hx.2.1.1 _ _ _ _ he (hin _ _ hj) z
      omega
