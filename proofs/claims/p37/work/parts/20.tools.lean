/-! PLAIN: what the two sides hold, and how they agree. First the tools -/
theorem rcs_col {ρ : Rho} {f g i : Nat} {x : Int32} (h : g ≠ f) : cs ρ f i x g = ρ g := by
  funext j
  simp [cs, h]
theorem rcs_upd {ρ : Rho} {f i : Nat} {x : Int32} : cs ρ f i x f = upd (ρ f) i x := by
  funext j
  simp [cs, upd]
theorem po_b {α β : Type} {a : α} {f : α → Option β} : (some a).bind f = f a := id rfl
theorem pn_of {x : Int32} {n : Nat} (h : vp_in x n) : ∃ k : Nat, k < n ∧ k < 2 ^ 31 ∧ x = nI k := by
  obtain ⟨k, hk, rfl⟩ := nI_of (fun z => h (Or.inl z))
  exact ⟨k, by have := vp_lt h; rwa [nI_clamp hk] at this, hk, rfl⟩
theorem pn_in {k n : Nat} (h : k < n) (hn : n ≤ 100000) : vp_in (nI k) n := fun z => nI_in h (by omega) z
theorem pn_cl {k : Nat} (h : k ≤ 100000) : (nI k).toNatClampNeg = k := nI_clamp (by omega)
theorem pn_eq {x : Int32} {n : Nat} (h : vp_in x n) : x = nI x.toNatClampNeg := by
  obtain ⟨k, -, hk, rfl⟩ := pn_of h
  rw [nI_clamp hk]
theorem pn_inj {a b : Nat} (ha : a ≤ 100000) (hb : b ≤ 100000) (h : nI a = nI b) : a = b := (nI_eq (by omega) (by omega)).mp h
theorem pn_m1 {k : Nat} (h : k ≤ 100000) : ¬ nI k = -1 := vp_ne (n := k + 1) (vp_in_nI (Nat.lt_succ_self k) (by omega))
theorem pn_lt {a b : Nat} (ha : a ≤ 100000) (hb : b ≤ 100000) : (nI a < nI b) ↔ a < b := nI_ltI (by omega) (by omega)
theorem pn_le {a b : Nat} (ha : a ≤ 100000) (hb : b ≤ 100000) : (nI a ≤ nI b) ↔ a ≤ b := nI_leI (by omega) (by omega)
theorem cs_ne {V : Rho} {k k' i i' : Nat} {x : Int32} (h : k' ≠ k) : cs V k i x k' i' = V k' i' := if_neg (fun z => h z.1)
theorem cs_nei {V : Rho} {k k' i i' : Nat} {x : Int32} (h : i' ≠ i) : cs V k i x k' i' = V k' i' := if_neg (fun z => h z.2)
theorem cs_self {V : Rho} {k i : Nat} : cs V k i (V k i) = V := by
  funext a b
  unfold cs
  split
  · rename_i z
    rw [z.1, z.2]
  · rfl
theorem cs_same {V : Rho} {k i : Nat} {x : Int32} (h : V k i = x) : cs V k i x = V := by rw [← h]; exact cs_self
/-- how many below n -/
def cntN (P : Nat → Bool) : Nat → Nat
  | 0 => 0
  | n + 1 => cntN P n + (if P n then 1 else 0)
theorem cntN_le (P : Nat → Bool) (n : Nat) : cntN P n ≤ n := by
  induction n with
  | zero => exact Nat.le_refl _
  | succ n ih => unfold cntN; split <;> omega
theorem cntN_congr {P Q : Nat → Bool} {n : Nat} (h : ∀ i, i < n → P i = Q i) : cntN P n = cntN Q n := by
  induction n with
  | zero => rfl
  | succ n ih => unfold cntN; rw [ih (fun i hi => h i (by omega)), h n (by omega)]
/-- sums below n -/
def sumN (f : Nat → Nat) : Nat → Nat
  | 0 => 0
  | n + 1 => sumN f n + f n
theorem sumN_congr {f g : Nat → Nat} {n : Nat} (h : ∀ i, i < n → f i = g i) : sumN f n = sumN g n := by
  induction n with
  | zero => rfl
  | succ n ih => unfold sumN; rw [ih (fun i hi => h i (by omega)), h n (by omega)]
theorem sumN_le {f : Nat → Nat} {B n : Nat} (h : ∀ i, i < n → f i ≤ B) : sumN f n ≤ n * B := by
  induction n with
  | zero => exact Nat.zero_le _
  | succ n ih =>
    unfold sumN
    have h1 := ih (fun i hi => h i (by omega))
    have h2 := h n (by omega)
    rw [Nat.succ_mul]
    omega
/-- one place changes -/
theorem sumN_at {f g : Nat → Nat} {n k : Nat} (hk : k < n) (h : ∀ i, i < n → i ≠ k → g i = f i) : sumN g n + f k = sumN f n + g k := by
  induction n with
  | zero => omega
  | succ n ih =>
    unfold sumN
    by_cases e : k = n
    · subst e
      rw [sumN_congr (f := g) (g := f) (fun i hi => h i (by omega) (by omega))]
      omega
    · have h1 := ih (by omega) (fun i hi => h i (by omega))
      have h2 := h n (by omega) (fun z => e z.symm)
      omega
theorem sumN_ge {f : Nat → Nat} {n k : Nat} (hk : k < n) : f k ≤ sumN f n := by
  induction n with
  | zero => omega
  | succ n ih =>
    unfold sumN
    by_cases e : k = n
    · subst e; omega
    · have := ih (by omega); omega
/-- the numbers below n, as a list of indices -/
def iot (n : Nat) : List Int32 := (List.range n).map nI
theorem iot_len {n : Nat} : (iot n).length = n := by simp [iot]
theorem iot_get {n j : Nat} (h : j < n) : (iot n).getD j 0 = nI j := by
  rw [List.getD_eq_getElem?_getD]
  simp [iot, h]
theorem iot_succ {n : Nat} : iot (n + 1) = iot n ++ [nI n] := by simp [iot, List.range_succ]
theorem ng {c n : Nat} (h : c < n) (hn : n < 2 ^ 31) : ¬ (nI c < 0 ∨ n ≤ c) := by
  rw [not_or]
  exact ⟨nI_pos (by omega), by omega⟩
