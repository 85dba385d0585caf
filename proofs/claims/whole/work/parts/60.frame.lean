/-! THE LAW: from its frame -/
theorem law_W {p : Program} {l : Launch} {e : Env} {s : State} {m : MethodId} {args : Array Value} {below : List Frame} {meth : Method} {c : Code} {A : Nat → Prop} {Q : State → Prop} {D : va_G} {dA : Nat → ClassId} (X : zc p l s m args meth c cL_law RL D dA A) (hNc : zNc s) (hml : c.maxLocals = 7) {b Ls : Nat} {sc : Nat → Int32} (hX : va_X b Ls sc s s.heap) (hbl : b < s.heap.size) (hbA : ¬ A b) (hL2 : Ls ≤ 3584)
    (hline : ∀ {q : Nat} {ar : Nat → Nat} {W : CW} {ad : Adr} {f : Nat → Int64} {ρ : Rho} {t cells slots : Nat}, RelX W ρ t → 7 * t + 7 ≤ Ls → Ls ≤ 3584 → lwI t (E26 ρ) cells slots → (∀ (W' : CW) (ad' : Adr) (f' : Nat → Int64) (ρ' : Rho) (c' s' : Nat), RelX W' ρ' (t + 1) → lwI (t + 1) (E26 ρ') c' s' → zz p l e lwR s m args below meth c A (cx D dA A W'.1 W'.2.1 W'.2.2 ad' ((q, .inl (dA 7, 1, .inr (.inl f'))) :: xR dA ρ' ar)) c' s' Q 2319 [(4, .int (nI (7 * t))), (3, .ref q), (2, .ref (ar 40)), (1, .ref (ad' 11 0)), (0, .ref b)] [] []) → zz p l e lwR s m args below meth c A (cx D dA A W.1 W.2.1 W.2.2 ad ((q, .inl (dA 7, 1, .inr (.inl f))) :: xR dA ρ ar)) cells slots Q 2251 [(4, .int (nI (7 * t))), (3, .ref q), (2, .ref (ar 40)), (1, .ref (ad 11 0)), (0, .ref b)] [] [])
    (kend : ∀ (G : Heap → Prop) (lo : List (Nat × Value)) (cells slots : Nat), cells ≤ 601024 → slots ≤ 7293034 → zz p l e lwR s m args below meth c A G cells slots Q 2325 lo [] []) : W p l e lwR s m args below meth c s.heap [] 0 0 Q (entryFrame m ([Value.ref b] : List Value).toArray 7) := by
  have hl := lv_entry ([.ref b]) (n := 7) (Nat.le_of_ble_eq_true rfl)
  rw [lg_entry_eq]
  refine law_run X hNc hml hX hbl hbA hL2 hline kend s.heap [] _ trivial va_S.rf ?_ ?_
  · rw [hml]
    exact hl
  · intro q hq
    rw [List.mem_singleton.mp hq]
    rfl
