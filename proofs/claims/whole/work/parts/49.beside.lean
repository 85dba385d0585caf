/-! THE REFERENCE'S CALLS beside the class's tables -/
section RO
variable {l : Launch} {D : va_G} {dA : Nat → ClassId} {A : Nat → Prop} {V : Rho} {L : Lst} {N : Cnt} {ad : Adr} {xs : va_W} {ρ ρ' : Rho} {ar : Nat → Nat}
def rA (ar : Nat → Nat) (H : Heap) (q : Nat) : Prop := (∃ f, rlv f ∧ q = ar f) ∨ H.size ≤ q
theorem rlv_idx {f : Nat} (h : rlv f) : ∃ j, j < 32 ∧ ∀ ρ : Rho, ∃ e, (xR dA ρ ar)[j]? = some (ar f, e) ∧ (f = 40 → j = 0) ∧ (f ≠ 40 → ∃ i, i < 31 ∧ fl i = f ∧ j = i + 1) := by
  by_cases h40 : f = 40
  · subst h40
    exact ⟨0, by decide, fun ρ => ⟨_, rfl, fun _ => rfl, fun z => absurd rfl z⟩⟩
  · rcases h with h | ⟨h1, h2⟩
    · exact absurd h h40
    · obtain ⟨i, hi, e⟩ := fl_all f h1 h2
      exact ⟨i + 1, by omega, fun ρ => ⟨_, (by rw [xR_get hi, e]), fun z => absurd z h40, fun _ => ⟨i, hi, e, rfl⟩⟩⟩
theorem xR_fst {j : Nat} {x : Nat × va_E} (h : (xR dA ρ' ar)[j]? = some x) : (∃ f, rlv f ∧ x.1 = ar f) ∧ ∃ e, (xR dA ρ ar)[j]? = some (x.1, e) := by
  have hj := (List.getElem?_eq_some_iff.mp h).1
  rw [xR_len] at hj
  cases j with
  | zero =>
    have e : (ar 40, (.inr (15, rfs ρ' ar) : va_E)) = x := Option.some.inj h
    subst e
    exact ⟨⟨40, Or.inl rfl, rfl⟩, _, rfl⟩
  | succ i =>
    have hi : i < 31 := by omega
    rw [xR_get hi] at h
    have e := Option.some.inj h
    subst e
    obtain ⟨h1, h2, -, -, -⟩ := fl_facts i hi
    exact ⟨⟨fl i, Or.inr ⟨h1, h2⟩, rfl⟩, _, xR_get hi⟩
theorem ref_open {H : Heap} (hG : cx D dA A V L N ad (xs ++ xR dA ρ ar) H) : rw D dA (rA ar H) ρ ar H := by
  have hx := hG.2.2.2.2.2.2.2.2.2
  refine ⟨hx.1 (xs.length + 0) _ (by rw [xq_get]; rfl), fun f hf h1 => ?_, fun f g hf hg e => ?_, fun f hf => Or.inl ⟨f, hf, rfl⟩⟩
  · obtain ⟨j, hj, e⟩ := fl_all f hf h1
    subst e
    exact hx.1 (xs.length + (j + 1)) _ (by rw [xq_get, xR_get hj])
  · obtain ⟨i, hi, h1⟩ := rlv_idx (dA := dA) (ar := ar) hf
    obtain ⟨j, hj, h2⟩ := rlv_idx (dA := dA) (ar := ar) hg
    obtain ⟨e1, a1, b1, c1⟩ := h1 ρ
    obtain ⟨e2, a2, b2, c2⟩ := h2 ρ
    have hij := hx.2.1.1 (xs.length + i) (xs.length + j) _ _ (xq_get.trans a1) (xq_get.trans a2) e
    have hij : i = j := by omega
    by_cases hf4 : f = 40
    · by_cases hg4 : g = 40
      · rw [hf4, hg4]
      · obtain ⟨z, _, _, hz⟩ := c2 hg4
        have := b1 hf4
        omega
    · obtain ⟨z, _, hz1, hz⟩ := c1 hf4
      by_cases hg4 : g = 40
      · have := b2 hg4
        omega
      · obtain ⟨y, _, hy1, hy⟩ := c2 hg4
        rw [← hz1, ← hy1, show z = y by omega]
theorem ref_close {H H' : Heap} {A1 : Nat → Prop} (hG : cx D dA A V L N ad (xs ++ xR dA ρ ar) H) (hr : rw D dA A1 ρ' ar H') (hfr : ∀ q, q < H.size → ¬ rA ar H q → H'[q]? = H[q]?) : cx D dA A V L N ad (xs ++ xR dA ρ' ar) H' := by
  have hx := hG.2.2.2.2.2.2.2.2.2
  have old : ∀ (j : Nat) (x : Nat × va_E), (xs ++ xR dA ρ' ar)[j]? = some x → ∃ e, (xs ++ xR dA ρ ar)[j]? = some (x.1, e) := by
    intro j x h
    by_cases hj : j < xs.length
    · rw [List.getElem?_append_left hj] at h ⊢
      exact ⟨x.2, h⟩
    · rw [List.getElem?_append_right (by omega)] at h ⊢
      exact (xR_fst h).2
  have new : ∀ f, rlv f → ∃ j e, xs.length ≤ j ∧ (xs ++ xR dA ρ ar)[j]? = some (ar f, e) := fun f hf => by
    obtain ⟨j, _, h⟩ := rlv_idx (dA := dA) (ar := ar) hf
    obtain ⟨e, h1, -⟩ := h ρ
    exact ⟨xs.length + j, e, by omega, xq_get.trans h1⟩
  refine hG.kept hG.2.2.2.2.1 (fun k i hl => hfr _ (hG.lt hl) (fun z => ?_)) ⟨fun j x hj => ?_, ⟨fun i j x y hi hj e => ?_, fun j x hj => ?_⟩, fun j x hj k i hl => ?_⟩
  · rcases z with ⟨f, hf, e⟩ | h
    · obtain ⟨j, e9, _, h9⟩ := new f hf
      exact hx.2.2 j _ h9 k i hl e
    · exact absurd (hG.lt hl) (Nat.not_lt.mpr h)
  · by_cases hjl : j < xs.length
    · rw [List.getElem?_append_left hjl] at hj
      have hj9 : (xs ++ xR dA ρ ar)[j]? = some x := by rw [List.getElem?_append_left hjl]; exact hj
      refine (hx.1 j x hj9).kept (hfr _ (hx.1 j x hj9).lt (fun z => ?_))
      rcases z with ⟨f, hf, e⟩ | h
      · obtain ⟨j2, e9, h8, h9⟩ := new f hf
        have := hx.2.1.1 _ _ _ _ hj9 h9 e
        omega
      · exact absurd (hx.1 j x hj9).lt (Nat.not_lt.mpr h)
    · rw [List.getElem?_append_right (by omega)] at hj
      have hjn := (List.getElem?_eq_some_iff.mp hj).1
      rw [xR_len] at hjn
      generalize j - xs.length = j9 at hj hjn
      cases j9 with
      | zero =>
        have e : (ar 40, (.inr (15, rfs ρ' ar) : va_E)) = x := Option.some.inj hj
        subst e
        exact hr.1
      | succ i =>
        have hi : i < 31 := by omega
        rw [xR_get hi] at hj
        have e := Option.some.inj hj
        subst e
        obtain ⟨h1, h2, -, -, -⟩ := fl_facts i hi
        exact hr.2.1 _ h1 h2
  · obtain ⟨e1, h1⟩ := old i x hi
    obtain ⟨e2, h2⟩ := old j y hj
    exact hx.2.1.1 _ _ _ _ h1 h2 e
  · obtain ⟨e1, h1⟩ := old j x hj
    exact hx.2.1.2 _ (x.1, e1) h1
  · obtain ⟨e1, h1⟩ := old j x hj
    exact hx.2.2 _ (x.1, e1) h1 k i hl
theorem met_ref {y : MethodName} {ws : List Cond} {rm : Room} {av : List Value} {n mc ms : Nat} {r0 : Int32} (hA : ∀ q, n ≤ q → A q) (hM : ∀ (A' : Nat → Prop) (n' : Nat), (∀ q, n' ≤ q → A' q) → Met l y ws rm (va_Pc av (zB D dA A' n' (rw D dA A' ρ ar))) (va_Qi (fun r (_ : Unit) => r = r0 ∧ True) (fun _ t => rw D dA A' ρ' ar t.heap) A') mc ms A') : Met l y ws rm (va_Pc av (zB D dA A n (cx D dA A V L N ad (xs ++ xR dA ρ ar)))) (va_Qi (fun r (_ : Unit) => r = r0 ∧ True) (fun _ t => cx D dA A V L N ad (xs ++ xR dA ρ' ar) t.heap) A) mc ms A := by
  have hAr : ∀ H, cx D dA A V L N ad (xs ++ xR dA ρ ar) H → n ≤ H.size → ∀ q, rA ar H q → A q := by
    intro H hG hn q hq
    rcases hq with ⟨f, hf, e⟩ | h
    · obtain ⟨j, _, h⟩ := rlv_idx (dA := dA) (ar := ar) hf
      obtain ⟨e9, h1, -⟩ := h ρ
      rw [e]
      exact hG.2.2.2.2.2.2.2.2.2.2.1.2 (xs.length + j) _ (xq_get.trans h1)
    · exact hA q (Nat.le_trans hn h)
  refine met_open (rA ar) hAr (fun H hG hn => ⟨_, _, ref_open hG, hM (rA ar H) H.size (fun q h => Or.inr h), fun av st t o e h => ?_⟩)
  obtain ⟨⟨r, u, ho, hr, hz⟩, hF⟩ := h
  refine ⟨⟨r, (), ho, hr, ref_close hG hz (fun q h1 h2 => ?_)⟩, ⟨hF.1, fun q h1 h2 => hF.2 q h1 (fun z => h2 (hAr H hG hn q z))⟩⟩
  subst e
  exact hF.2 q h1 h2
end RO
