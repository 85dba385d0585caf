/-! THE LAW: one call, both sides -/
theorem RelX.later {W : CW} {ρ : Rho} {t : Nat} (h : RelX W ρ t) : RelX W ρ (t + 1) := h.elim fun nw h => ⟨nw, h.later⟩
/-- both sides of one call -/
def UW (V : Rho) (L : Lst) (N : Cnt) (f : Nat → Int64) (cd : Nat → Int32) (x : Option ((CW × Int32) ⊕ Nat)) (y : Option (Rho × Int32)) (t e0 : Nat) : Prop := ∃ o ρ' a W' f' r5, x = some o ∧ (∀ e, o = .inr e → ¬ cd e = 0) ∧ wW V L N f cd o = (W', f', r5) ∧ y = some (ρ', a) ∧ ρ' 39 0 = r5 ∧ (r5 = 0 → f' 0 = a.toInt64) ∧ RelX W' ρ' t ∧ e0 ≤ E26 ρ'
def UR (V : Rho) (L : Lst) (N : Cnt) (f : Nat → Int64) (cd : Nat → Int32) (x : Option ((Rho × Int32) ⊕ Nat)) (y : Option (Rho × Int32)) (t e0 : Nat) : Prop := ∃ o ρ' a W' f' r5, x = some o ∧ (∀ e, o = .inr e → ¬ cd e = 0) ∧ wR V L N f cd o = (W', f', r5) ∧ y = some (ρ', a) ∧ ρ' 39 0 = r5 ∧ (r5 = 0 → f' 0 = a.toInt64) ∧ RelX W' ρ' t ∧ e0 ≤ E26 ρ'
def UQ (V : Rho) (L : Lst) (N : Cnt) (f : Nat → Int64) (cd : Nat → Int32) (x : Option (Int32 ⊕ Nat)) (y : Option (Rho × Int32)) (t e0 : Nat) : Prop := ∃ o ρ' a W' f' r5, x = some o ∧ (∀ e, o = .inr e → ¬ cd e = 0) ∧ wQ V L N f cd o = (W', f', r5) ∧ y = some (ρ', a) ∧ ρ' 39 0 = r5 ∧ (r5 = 0 → f' 0 = a.toInt64) ∧ RelX W' ρ' t ∧ e0 ≤ E26 ρ'
section UU
variable {V : Rho} {L : Lst} {N : Cnt} {f : Nat → Int64} {cd : Nat → Int32} {y : Option (Rho × Int32)} {t e0 : Nat}
theorem upd0 {x : Int64} : vp_updL f 0 x 0 = x := by simp [vp_updL]
theorem OKW.use {x : Option ((CW × Int32) ⊕ Nat)} (h : OKW V L N x y cd t e0) : UW V L N f cd x y t e0 := by
  rcases h with ⟨e, ρ', a, h1, h2, h3, h4, h5, h6⟩ | ⟨W, a, ρ', h1, h2, h3, h5, h6⟩
  · exact ⟨_, ρ', a, (V, L, N), f, cd e, h1, fun e' he => (by cases he; exact h4), rfl, h2, h3, fun z => absurd z h4, h5, h6⟩
  · exact ⟨_, ρ', a, W, vp_updL f 0 a.toInt64, 0, h1, fun e' he => (by cases he), rfl, h2, h3, fun _ => upd0, h5, h6⟩
theorem OKR.use {x : Option ((Rho × Int32) ⊕ Nat)} (h : OKR V L N x y cd t e0) : UR V L N f cd x y t e0 := by
  rcases h with ⟨e, ρ', a, h1, h2, h3, h4, h5, h6⟩ | ⟨W, a, ρ', h1, h2, h3, h5, h6⟩
  · exact ⟨_, ρ', a, (V, L, N), f, cd e, h1, fun e' he => (by cases he; exact h4), rfl, h2, h3, fun z => absurd z h4, h5, h6⟩
  · exact ⟨_, ρ', a, (W, L, N), vp_updL f 0 a.toInt64, 0, h1, fun e' he => (by cases he), rfl, h2, h3, fun _ => upd0, h5, h6⟩
theorem OKQ.use {x : Option (Int32 ⊕ Nat)} (h : OKQ V L N x y cd t e0) : UQ V L N f cd x y t e0 := by
  rcases h with ⟨e, ρ', a, h1, h2, h3, h4, h5, h6⟩ | ⟨a, ρ', h1, h2, h3, h5, h6⟩
  · exact ⟨_, ρ', a, (V, L, N), f, cd e, h1, fun e' he => (by cases he; exact h4), rfl, h2, h3, fun z => absurd z h4, h5, h6⟩
  · exact ⟨_, ρ', a, (V, L, N), vp_updL f 0 a.toInt64, 0, h1, fun e' he => (by cases he), rfl, h2, h3, fun _ => upd0, h5, h6⟩
end UU
/-- the room left, after t calls -/
def lwI (t e cells slots : Nat) : Prop := slots + 13082 * (512 - t) + 1826 * (80 - e) ≤ 7293034 ∧ cells + 27 * (512 - t) + 4 * (80 - e) ≤ 601024
theorem nI_arg {t j Ls : Nat} (hL : 7 * t + 7 ≤ Ls) (hL2 : Ls ≤ 3584) (hj : j < 7) : nI (7 * t) + nI j = nI (7 * t + j) ∧ vp_in (nI (7 * t + j)) Ls := ⟨nI_add _ _, vp_in_nI (by omega) (by omega)⟩
abbrev lwR : Room := { frames := 2048, cells := 601024, slots := 7293034, locals := 84000 }
