/-! WHAT STAYS OF THE LAW: the class, the reference state beside it, and the law's notes -/
def JJ (σ : GS) (ρ : Rho) (γ : Nat → Nat → Nat) (ε : Nat → Int32) (M t nw : Nat) : Prop :=
  (Rel σ.1.1 σ.1.2.1 σ.1.2.2 ρ t nw 0 ∧ PJ ρ γ ε M ∧ PA ρ) ∧ (∀ k, k < σ.1.2.2 4 → σ.2 0 k = nI (gP γ k) ∧ σ.2 1 k = ε k) ∧
  (σ.2 2 0 = nI nw ∧ σ.2 2 1 = nI (σ.1.2.2 1) ∧ σ.2 2 2 = nI (σ.1.2.2 4) ∧ σ.2 2 3 = nI (σ.1.2.2 0) ∧ σ.2 2 4 = nI M) ∧ σ.1.2.2 4 ≤ 64
theorem cn0 : (0 : Int32).toNatClampNeg = 0 := by decide
theorem cn1 : (1 : Int32).toNatClampNeg = 1 := by decide
theorem cn2 : (2 : Int32).toNatClampNeg = 2 := by decide
theorem cn3 : (3 : Int32).toNatClampNeg = 3 := by decide
theorem cn4 : (4 : Int32).toNatClampNeg = 4 := by decide
theorem rmd {x : Nat} (d : Nat) {D : Int32} (hx : x < 2 ^ 31) (h0 : 0 < d) (hd : d < 2 ^ 31) (hD : D = nI d := by rfl) : nI x - nI x / D * D = nI (x % d) := by
  subst hD
  exact pk_rem hx h0 hd
theorem dvd9 {x : Nat} (d : Nat) {D : Int32} (hx : x < 2 ^ 31) (h0 : 0 < d) (hd : d < 2 ^ 31) (hD : D = nI d := by rfl) : nI x / D = nI (x / d) := by
  subst hD
  exact pk_div hx h0 hd
/-- the law's arrays after a leg is noted -/
def jn (a : Rho) (n p c x s : Nat) : Rho := cs (cs (cs a 0 n (nI (p + 16 * c + 1024 * x + 16384 * s))) 1 n (evn (nI p) 0 (nI s) (nI x))) 2 2 (nI (n + 1))
section WJ
variable {V V' : Rho} {L L' : Lst} {N N' : Cnt} {σ σ' : GS} {ρ ρ' : Rho} {t t' nw nw' i i' k p c b w j M M' e0 : Nat} {γ γ' : Nat → Nat → Nat} {ε ε' : Nat → Int32} {a : Int32} {cd : Nat → Int32} {y : Option (Rho × Int32)}
theorem w_joins {n p c x s : Nat} (h2 : σ.2 2 2 = nI n) (h0 : σ.2 2 0 = nI s) (hn : n < 64) (hp : p < 16) (hc : c < 64) (hx : x < 8) : fl_joins σ (nI p) (nI c) (nI x) = some (σ.1, jn σ.2 n p c x s) := by
  have hcn := nI_clamp (show n < 2 ^ 31 by omega)
  have gn := ng (n := 64) hn (by omega)
  unfold fl_joins fl_event
  simp only [cn0, cn2, po_b, rcs_col, ne_eq, Nat.reduceEqDiff, not_false_eq_true, h2, h0, hcn, gn, if_false]
  rw [if_neg (by decide), pk_join hp hc hx, nI_1]
  rfl
theorem E26.of (h : Rel V L N ρ t nw i) (h' : Rel V L N ρ' t' nw' i') : E26 ρ' = E26 ρ := E26_eq (by rw [← h'.c 87 26 (by decide), h.c 87 26 (by decide)])
theorem OKW.e26 {x : Option ((CW × Int32) ⊕ Nat)} {W : CW} (h : OKW V L N x y cd t e0) (hx : x = some (.inl (W, a))) (hr : Rel W.1 W.2.1 W.2.2 ρ' t' nw' i') : e0 ≤ E26 ρ' := by
  rcases h with ⟨e, ρ1, a1, h1, h2, h3, h4, h5, h6⟩ | ⟨W1, a1, ρ1, h1, h2, h3, ⟨n1, h5⟩, h6⟩
  · exact nomatch h1.symm.trans hx
  · have z := Option.some.inj (h1.symm.trans hx)
    have z2 : W1 = W := congrArg Prod.fst (Sum.inl.inj z)
    subst z2
    rw [E26.of h5 hr]
    exact h6
theorem OKR.e26 {x : Option ((Rho × Int32) ⊕ Nat)} (h : OKR V L N x y cd t e0) (hx : x = some (.inl (V', a))) (hr : Rel V' L N ρ' t' nw' i') : e0 ≤ E26 ρ' := by
  rcases h with ⟨e, ρ1, a1, h1, h2, h3, h4, h5, h6⟩ | ⟨W1, a1, ρ1, h1, h2, h3, ⟨n1, h5⟩, h6⟩
  · exact nomatch h1.symm.trans hx
  · have z := Option.some.inj (h1.symm.trans hx)
    have z2 : W1 = V' := congrArg Prod.fst (Sum.inl.inj z)
    subst z2
    rw [E26.of h5 hr]
    exact h6
theorem JJ.rel (h : JJ σ ρ γ ε M t nw) : Rel σ.1.1 σ.1.2.1 σ.1.2.2 ρ t nw 0 := h.1.1
theorem JJ.pj (h : JJ σ ρ γ ε M t nw) : PJ ρ γ ε M := h.1.2.1
theorem JJ.pa (h : JJ σ ρ γ ε M t nw) : PA ρ := h.1.2.2
theorem JJ.lg (h : JJ σ ρ γ ε M t nw) (hk : k < σ.1.2.2 4) : LG ρ γ ε k := h.pj.1 k (by rw [h.rel.lgs]; exact hk)
/-- only the class moves, and no leg, call or bundle comes -/
theorem JJ.mk {V' : Rho} {L' : Lst} {N' : Cnt} (h : JJ σ ρ γ ε M t nw) (hr : Rel V' L' N' ρ' t' nw 0) (hJ : PJ ρ' γ ε M) (hP : PA ρ') (h4 : N' 4 = σ.1.2.2 4) (h1 : N' 1 = σ.1.2.2 1) (h0 : N' 0 = σ.1.2.2 0) : JJ ((V', L', N'), σ.2) ρ' γ ε M t' nw := by
  obtain ⟨-, n1, ⟨c0, c1, c2, c3, c4⟩, n64⟩ := h
  refine ⟨⟨hr, hJ, hP⟩, fun k hk => n1 k (by rw [← h4]; exact hk), ⟨c0, ?_, ?_, ?_, c4⟩, ?_⟩
  · show σ.2 2 1 = nI (N' 1)
    rw [h1]; exact c1
  · show σ.2 2 2 = nI (N' 4)
    rw [h4]; exact c2
  · show σ.2 2 3 = nI (N' 0)
    rw [h0]; exact c3
  · show N' 4 ≤ 64
    rw [h4]; exact n64
end WJ
