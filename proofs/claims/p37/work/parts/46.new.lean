def stg (F : Nat → Int32) (a : Nat) : Nat → Int32 := fun j => if j < a then F j else 0
def c5 (b : Nat) : Nat → Int32 := fun j => if j < b then 10 * (nI j + 1) else if 3 ≤ j ∧ j < 3 + b then 20 * (nI (j - 3) + 1) else 0
def ρS (a b p : Nat) : Rho := fun f => if f = 1 then (fun j => if j = 0 then 20 else 0) else if f = 2 then stg (fun j => nI (j % 3)) a else if f = 3 then stg (fun _ => 3) a else if f = 5 then c5 b else if f = 6 then stg (fun j => nI (j % 8)) p else if f = 7 then stg (fun j => nI (j % 4)) p else if f = 8 then stg (fun _ => -1) p else if f = 9 then stg (fun _ => -1) p else fun _ => 0
/-! A NEW PAIR stands in the relation -/
set_option maxRecDepth 100000 in
theorem R1_new : R1 VB (ρS 8 3 10) := by
  intro q hq
  simp only [eqT, List.mem_cons, List.not_mem_nil, or_false] at hq
  rcases hq with rfl | rfl | rfl | rfl | rfl | rfl | rfl | rfl | rfl | rfl | rfl | rfl | rfl | rfl | rfl | rfl | rfl | rfl | rfl | rfl | rfl | rfl | rfl | rfl | rfl | rfl <;> rfl
theorem R2_new : R2 VB (nB 6 3 8 4 10 1) := by
  intro c hc i hi
  simp only [idT, List.mem_cons, List.not_mem_nil, or_false] at hc
  rcases hc with rfl | rfl | rfl | rfl | rfl | rfl
  · exact if_pos (show i < 8 from hi)
  · exact if_pos (show i < 10 from hi)
  · exact if_pos (show i < 4 from hi)
  · exact if_pos (show i < 3 from hi)
  · exact absurd hi (Nat.not_lt_zero i)
  · exact absurd hi (Nat.not_lt_zero i)
theorem R3_new : R3 LB (nB 6 3 8 4 10 1) (ρS 8 3 10) := ⟨⟨rfl, rfl, rfl, rfl, rfl, rfl⟩, ⟨rfl, Nat.zero_le _, Nat.zero_le _, Nat.zero_le _⟩, ⟨rfl, rfl, rfl⟩, ⟨rfl, rfl, rfl⟩⟩
theorem R4_new : R4 VB (ρS 8 3 10) := by
  have h1 : ∀ z, z < 3 → VB 121 (2 * z) = ρS 8 3 10 5 (3 + z) ∧ VB 121 (2 * z + 1) = ρS 8 3 10 5 z := by decide
  have h2 : ∀ j, j < 6 → ¬ (ρS 8 3 10 5 j < 0 ∨ 1001 ≤ (ρS 8 3 10 5 j).toNatClampNeg) := by decide
  exact ⟨h1, h2⟩
theorem R5_new : R5 (nB 6 3 8 4 10 1) (ρS 8 3 10) 0 := by
  have h1 : ∀ c, c < 8 → ¬ (ρS 8 3 10 2 c < 0 ∨ 3 ≤ (ρS 8 3 10 2 c).toNatClampNeg) ∧ ¬ (ρS 8 3 10 3 c < 0 ∨ 11 ≤ (ρS 8 3 10 3 c).toNatClampNeg) ∧ ¬ (ρS 8 3 10 4 c < 0 ∨ 11 ≤ (ρS 8 3 10 4 c).toNatClampNeg) := by decide
  have h2 : ∀ p, p < 10 → ¬ (ρS 8 3 10 6 p < 0 ∨ 8 ≤ (ρS 8 3 10 6 p).toNatClampNeg) ∧ ¬ (ρS 8 3 10 7 p < 0 ∨ 4 ≤ (ρS 8 3 10 7 p).toNatClampNeg) := by decide
  have h3 : ¬ (ρS 8 3 10 1 0 < 0 ∨ 101 ≤ (ρS 8 3 10 1 0).toNatClampNeg) ∧ 0 < (ρS 8 3 10 1 0).toNatClampNeg := by decide
  exact ⟨h1, h2, fun k hk => absurd hk (Nat.not_lt_zero k), fun k hk => absurd hk (Nat.not_lt_zero k), fun k hk => absurd hk (Nat.not_lt_zero k), h3, rfl, Nat.zero_le _⟩
theorem R13_new : R13 VB LB (nB 6 3 8 4 10 1) (ρS 8 3 10) 0 0 := by
  refine ⟨fun h _ => VB 121 h, ⟨fun h hh => ?_, Nat.le_refl _⟩, fun k hk => absurd hk (Nat.not_lt_zero k)⟩
  have e : LB 16 h = [nI h] := if_pos ⟨rfl, hh⟩
  rw [e]
  refine ⟨⟨Nat.le_refl _, (by show 1 ≤ 1000; decide), fun _ => 0, rfl, fun j hj => ⟨rfl, Nat.zero_le _⟩, fun j _ => Nat.le_refl _, fun j hj t _ _ => ?_⟩, Nat.le_refl _, fun x hx => ?_, fun _ _ => rfl⟩
  · have hj0 : j = 0 := by
      have : j < 1 := hj
      omega
    subst hj0
    show VB 121 h = VB 141 (nI h).toNatClampNeg
    rw [nI_clamp (by omega)]
    rfl
  · rw [List.mem_singleton.mp hx]
    exact ⟨vp_in_nI (show h < 6 from hh) (by decide), Nat.le_refl _⟩
theorem Rel_new : Rel VB LB (nB 6 3 8 4 10 1) (ρS 8 3 10) 0 0 0 := by
  refine ⟨R1_new, R2_new, R3_new, R4_new, R5_new, ⟨fun p hp => Or.inl (if_pos hp), fun k hk => absurd hk (Nat.not_lt_zero k)⟩, fun k hk => absurd hk (Nat.not_lt_zero k), fun k hk => absurd hk (Nat.not_lt_zero k), fun w hw => ⟨[], if_neg (fun z => by omega), List.Pairwise.nil, Nat.zero_le _, fun b => ⟨fun h => (by cases h), fun h => absurd h.1 (Nat.not_lt_zero b)⟩⟩, fun k hk => absurd hk (Nat.not_lt_zero k), fun k hk => absurd hk (Nat.not_lt_zero k), ⟨fun k hk => absurd hk (Nat.not_lt_zero k), Nat.zero_le _⟩, R13_new, ⟨fun w hw => ?_, ?_⟩, fun k hk => absurd hk (Nat.not_lt_zero k), fun c hc k hk => ?_, fun _ => ⟨vp04, bdd0, bdd0, bdd0⟩⟩
  · show ¬ (0 : Int32) < 0
    decide
  · decide
  · simp only [List.mem_cons, List.not_mem_nil, or_false] at hc
    rcases hc with rfl | rfl | rfl | rfl | rfl | rfl <;> rfl
theorem RelX_new : RelX (VB, LB, nB 6 3 8 4 10 1) (ρS 8 3 10) 0 := ⟨0, Rel_new⟩
