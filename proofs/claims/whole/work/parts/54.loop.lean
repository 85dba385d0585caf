/-! THE LAW: its loop -/
theorem nI_end {t Ls : Nat} (h2 : Ls ≤ 3584) (h3 : t ≤ 512) (h : ¬ nI Ls - 7 < nI (7 * t)) : 7 * t + 7 ≤ Ls := by
  have h0 : ¬ nI (7 * t) < 0 := fun z => (vp_in_nI (n := 7 * t) (N := 3600) (by omega) (by decide)) (Or.inl z)
  by_cases h7 : Ls < 7
  · exfalso
    apply h
    have hneg : nI Ls - 7 < 0 := by
      rcases (show Ls = 0 ∨ Ls = 1 ∨ Ls = 2 ∨ Ls = 3 ∨ Ls = 4 ∨ Ls = 5 ∨ Ls = 6 by omega) with rfl | rfl | rfl | rfl | rfl | rfl | rfl <;> decide
    exact Int32.lt_of_lt_of_le hneg (Int32.not_lt.mp h0)
  · refine Decidable.byContradiction (fun q => h ?_)
    have e : nI Ls - 7 = nI (Ls - 7) := by
      have e1 : nI Ls = nI (Ls - 7) + 7 := by
        have := nI_add (Ls - 7) 7
        rw [Nat.sub_add_cancel (by omega)] at this
        exact this.symm
      rw [e1]
      exact Int32.add_sub_cancel _ _
    rw [e]
    exact nI_lt (by omega) (by omega)

set_option maxRecDepth 100000 in
set_option maxHeartbeats 8000000 in
theorem law_loop {p : Program} {l : Launch} {e : Env} {s : State} {m : MethodId} {args : Array Value} {below : List Frame} {meth : Method} {c : Code} {A : Nat → Prop} {Q : State → Prop} {D : va_G} {dA : Nat → ClassId} (X : zc p l s m args meth c cL_law RL D dA A) (hNc : zNc s) (hml : c.maxLocals = 7) {b Ls : Nat} {sc : Nat → Int32} (hX : va_X b Ls sc s s.heap) (hbl : b < s.heap.size) (hbA : ¬ A b) {q : Nat} {ar : Nat → Nat} (hL2 : Ls ≤ 3584)
    (hline : ∀ {W : CW} {ad : Adr} {f : Nat → Int64} {ρ : Rho} {t cells slots : Nat}, RelX W ρ t → 7 * t + 7 ≤ Ls → Ls ≤ 3584 → lwI t (E26 ρ) cells slots → (∀ (W' : CW) (ad' : Adr) (f' : Nat → Int64) (ρ' : Rho) (c' s' : Nat), RelX W' ρ' (t + 1) → lwI (t + 1) (E26 ρ') c' s' → zz p l e lwR s m args below meth c A (cx D dA A W'.1 W'.2.1 W'.2.2 ad' ((q, .inl (dA 7, 1, .inr (.inl f'))) :: xR dA ρ' ar)) c' s' Q 2319 [(4, .int (nI (7 * t))), (3, .ref q), (2, .ref (ar 40)), (1, .ref (ad' 11 0)), (0, .ref b)] [] []) → zz p l e lwR s m args below meth c A (cx D dA A W.1 W.2.1 W.2.2 ad ((q, .inl (dA 7, 1, .inr (.inl f))) :: xR dA ρ ar)) cells slots Q 2251 [(4, .int (nI (7 * t))), (3, .ref q), (2, .ref (ar 40)), (1, .ref (ad 11 0)), (0, .ref b)] [] [])
    (kend : ∀ (W : CW) (ad : Adr) (f : Nat → Int64) (ρ : Rho) (t cells slots : Nat), cells ≤ 601024 → slots ≤ 7293034 → zz p l e lwR s m args below meth c A (cx D dA A W.1 W.2.1 W.2.2 ad ((q, .inl (dA 7, 1, .inr (.inl f))) :: xR dA ρ ar)) cells slots Q 2325 [(4, .int (nI (7 * t))), (3, .ref q), (2, .ref (ar 40)), (1, .ref (ad 11 0)), (0, .ref b)] [] []) : ∀ (n t : Nat) (W : CW) (ad : Adr) (f : Nat → Int64) (ρ : Rho) (cells slots : Nat), n + t = 512 → RelX W ρ t → lwI t (E26 ρ) cells slots → zz p l e lwR s m args below meth c A (cx D dA A W.1 W.2.1 W.2.2 ad ((q, .inl (dA 7, 1, .inr (.inl f))) :: xR dA ρ ar)) cells slots Q 23 [(4, .int (nI (7 * t))), (3, .ref q), (2, .ref (ar 40)), (1, .ref (ad 11 0)), (0, .ref b)] [] [] := by
  intro n
  induction n with
  | zero =>
    intro t W ad f ρ cells slots hn hR hI
    refine z_iload X dL_law_23 rfl ?_
    refine z_aload_n X dL_law_25 rfl rfl ?_
    refine z_slen X hX hbl hbA dL_law_26 ?_
    refine z_bipush (v := 7) X dL_law_27 (by decide) ?_
    refine z_isub X dL_law_29 ?_
    refine z_icmp_gt (tgt := 2325) X dL_law_30 (by decide) (fun _ => kend W ad f ρ t _ _ (by have := hI.2; omega) (by have := hI.1; omega)) (fun h => ?_)
    have := nI_end (t := t) hL2 (by omega) h
    omega
  | succ n ih =>
    intro t W ad f ρ cells slots hn hR hI
    refine z_iload X dL_law_23 rfl ?_
    refine z_aload_n X dL_law_25 rfl rfl ?_
    refine z_slen X hX hbl hbA dL_law_26 ?_
    refine z_bipush (v := 7) X dL_law_27 (by decide) ?_
    refine z_isub X dL_law_29 ?_
    refine z_icmp_gt (tgt := 2325) X dL_law_30 (by decide) (fun _ => kend W ad f ρ t _ _ (by have := hI.2; omega) (by have := hI.1; omega)) (fun h => ?_)
    have hL := nI_end (t := t) hL2 (by omega) h
    have ht : t + 1 ≤ 512 := by omega
    have cont : ∀ (W' : CW) (ad' : Adr) (f' : Nat → Int64) (ρ' : Rho) (c' s' : Nat), RelX W' ρ' (t + 1) → lwI (t + 1) (E26 ρ') c' s' → zz p l e lwR s m args below meth c A (cx D dA A W'.1 W'.2.1 W'.2.2 ad' ((q, .inl (dA 7, 1, .inr (.inl f'))) :: xR dA ρ' ar)) c' s' Q 2319 [(4, .int (nI (7 * t))), (3, .ref q), (2, .ref (ar 40)), (1, .ref (ad' 11 0)), (0, .ref b)] [] [] := by
      intro W' ad' f' ρ' c' s' h1 h2
      refine z_iinc (v := nI (7 * (t + 1))) X dL_law_2319 rfl ?_ (by rw [hml]; decide) rfl rfl ?_
      · exact nI_add (7 * t) 7
      refine z_goto (tgt := 23) X dL_law_2322 (by decide) ?_
      exact ih (t + 1) W' ad' f' ρ' c' s' (by omega) h1 h2
    refine z_aload_n X dL_law_33 rfl rfl ?_
    refine z_iload X dL_law_34 rfl ?_
    refine z_sld X hX hbl hbA (vp_in_nI (by omega) (by omega)) dL_law_36 ?_
    refine z_bipush (v := 63) X dL_law_37 (by decide) ?_
    refine z_iand X dL_law_39 ?_
    generalize (sc (nI (7 * t)).toNatClampNeg &&& 63) = v
    by_cases hv : 0 ≤ v.toInt ∧ v.toInt ≤ 33
    · rcases (show v.toInt = 0 ∨ v.toInt = 1 ∨ v.toInt = 2 ∨ v.toInt = 3 ∨ v.toInt = 4 ∨ v.toInt = 5 ∨ v.toInt = 6 ∨ v.toInt = 7 ∨ v.toInt = 8 ∨ v.toInt = 9 ∨ v.toInt = 10 ∨ v.toInt = 11 ∨ v.toInt = 12 ∨ v.toInt = 13 ∨ v.toInt = 14 ∨ v.toInt = 15 ∨ v.toInt = 16 ∨ v.toInt = 17 ∨ v.toInt = 18 ∨ v.toInt = 19 ∨ v.toInt = 20 ∨ v.toInt = 21 ∨ v.toInt = 22 ∨ v.toInt = 23 ∨ v.toInt = 24 ∨ v.toInt = 25 ∨ v.toInt = 26 ∨ v.toInt = 27 ∨ v.toInt = 28 ∨ v.toInt = 29 ∨ v.toInt = 30 ∨ v.toInt = 31 ∨ v.toInt = 32 ∨ v.toInt = 33 by omega) with hz | hz | hz | hz | hz | hz | hz | hz | hz | hz | hz | hz | hz | hz | hz | hz | hz | hz | hz | hz | hz | hz | hz | hz | hz | hz | hz | hz | hz | hz | hz | hz | hz | hz
      · exact z_tableIn (tgt := 192) X dL_law_40 (by rw [hz]; decide) (by rw [hz]; decide) (by rw [hz]; rfl) (by decide) (lw_setZone X hNc hml hX hbl hbA hR hL hL2 hI cont)
      · exact z_tableIn (tgt := 260) X dL_law_40 (by rw [hz]; decide) (by rw [hz]; decide) (by rw [hz]; rfl) (by decide) (lw_setChannels X hNc hml hX hbl hbA hR hL hL2 hI cont)
      · exact z_tableIn (tgt := 340) X dL_law_40 (by rw [hz]; decide) (by rw [hz]; decide) (by rw [hz]; rfl) (by decide) (lw_setRate X hNc hml hX hbl hbA hR hL hL2 hI cont)
      · exact z_tableIn (tgt := 436) X dL_law_40 (by rw [hz]; decide) (by rw [hz]; decide) (by rw [hz]; rfl) (by decide) (lw_setSlice X hNc hml hX hbl hbA hR hL hL2 hI cont)
      · exact z_tableIn (tgt := 492) X dL_law_40 (by rw [hz]; decide) (by rw [hz]; decide) (by rw [hz]; rfl) (by decide) (lw_setCap X hNc hml hX hbl hbA hR hL hL2 hI cont)
      · exact z_tableIn (tgt := 560) X dL_law_40 (by rw [hz]; decide) (by rw [hz]; decide) (by rw [hz]; rfl) (by decide) (lw_setWallet X hNc hml hX hbl hbA hR hL hL2 hI cont)
      · exact z_tableIn (tgt := 628) X dL_law_40 (by rw [hz]; decide) (by rw [hz]; decide) (by rw [hz]; rfl) (by decide) (lw_top X hNc hml hX hbl hbA hR hL hL2 hI cont)
      · exact z_tableIn (tgt := 696) X dL_law_40 (by rw [hz]; decide) (by rw [hz]; decide) (by rw [hz]; rfl) (by decide) (lw_give X hNc hml hX hbl hbA hR hL hL2 hI cont)
      · exact z_tableIn (tgt := 776) X dL_law_40 (by rw [hz]; decide) (by rw [hz]; decide) (by rw [hz]; rfl) (by decide) (lw_buy X hNc hml hX hbl hbA hR hL hL2 hI cont)
      · exact z_tableIn (tgt := 894) X dL_law_40 (by rw [hz]; decide) (by rw [hz]; decide) (by rw [hz]; rfl) (by decide) (lw_free X hNc hml hX hbl hbA hR hL hL2 hI cont)
      · exact z_tableIn (tgt := 950) X dL_law_40 (by rw [hz]; decide) (by rw [hz]; decide) (by rw [hz]; rfl) (by decide) (lw_aside X hNc hml hX hbl hbA hR hL hL2 hI cont)
      · exact z_tableIn (tgt := 1006) X dL_law_40 (by rw [hz]; decide) (by rw [hz]; decide) (by rw [hz]; rfl) (by decide) (lw_spent X hNc hml hX hbl hbA hR hL hL2 hI cont)
      · exact z_tableIn (tgt := 1062) X dL_law_40 (by rw [hz]; decide) (by rw [hz]; decide) (by rw [hz]; rfl) (by decide) (lw_left X hNc hml hX hbl hbA hR hL hL2 hI cont)
      · exact z_tableIn (tgt := 1118) X dL_law_40 (by rw [hz]; decide) (by rw [hz]; decide) (by rw [hz]; rfl) (by decide) (lw_begin X hNc hml hX hbl hbA hR hL hL2 hI cont)
      · exact z_tableIn (tgt := 1214) X dL_law_40 (by rw [hz]; decide) (by rw [hz]; decide) (by rw [hz]; rfl) (by decide) (lw_join X hNc hml hX hbl hbA hR hL hL2 hI cont)
      · exact z_tableIn (tgt := 1310) X dL_law_40 (by rw [hz]; decide) (by rw [hz]; decide) (by rw [hz]; rfl) (by decide) (lw_leave X hNc hml hX hbl hbA hR hL hL2 hI cont)
      · exact z_tableIn (tgt := 1366) X dL_law_40 (by rw [hz]; decide) (by rw [hz]; decide) (by rw [hz]; rfl) (by decide) (lw_move X hNc hml hX hbl hbA hR hL hL2 hI cont)
      · exact z_tableIn (tgt := 1441) X dL_law_40 (by rw [hz]; decide) (by rw [hz]; decide) (by rw [hz]; rfl) (by decide) (lw_pass X hNc hml hX hbl hbA hR hL hL2 hI cont)
      · exact z_tableIn (tgt := 1497) X dL_law_40 (by rw [hz]; decide) (by rw [hz]; decide) (by rw [hz]; rfl) (by decide) (lw_now X hR ht hI cont)
      · exact z_tableIn (tgt := 1510) X dL_law_40 (by rw [hz]; decide) (by rw [hz]; decide) (by rw [hz]; rfl) (by decide) (lw_cellOf X hNc hml hX hbl hbA hR hL hL2 hI cont)
      · exact z_tableIn (tgt := 1566) X dL_law_40 (by rw [hz]; decide) (by rw [hz]; decide) (by rw [hz]; rfl) (by decide) (lw_rateOf X hNc hml hX hbl hbA hR hL hL2 hI cont)
      · exact z_tableIn (tgt := 1622) X dL_law_40 (by rw [hz]; decide) (by rw [hz]; decide) (by rw [hz]; rfl) (by decide) (lw_legOf X hNc hml hX hbl hbA hR hL hL2 hI cont)
      · exact z_tableIn (tgt := 1678) X dL_law_40 (by rw [hz]; decide) (by rw [hz]; decide) (by rw [hz]; rfl) (by decide) (lw_sliceOf X hNc hml hX hbl hbA hR hL hL2 hI cont)
      · exact z_tableIn (tgt := 1734) X dL_law_40 (by rw [hz]; decide) (by rw [hz]; decide) (by rw [hz]; rfl) (by decide) (lw_parties X hNc hml hX hbl hbA hR hL hL2 hI cont)
      · exact z_tableIn (tgt := 1790) X dL_law_40 (by rw [hz]; decide) (by rw [hz]; decide) (by rw [hz]; rfl) (by decide) (lw_legs X hR ht hI cont)
      · exact z_tableIn (tgt := 1803) X dL_law_40 (by rw [hz]; decide) (by rw [hz]; decide) (by rw [hz]; rfl) (by decide) (lw_stateOf X hNc hml hX hbl hbA hR hL hL2 hI cont)
      · exact z_tableIn (tgt := 1859) X dL_law_40 (by rw [hz]; decide) (by rw [hz]; decide) (by rw [hz]; rfl) (by decide) (lw_seconds X hNc hml hX hbl hbA hR hL hL2 hI cont)
      · exact z_tableIn (tgt := 1915) X dL_law_40 (by rw [hz]; decide) (by rw [hz]; decide) (by rw [hz]; rfl) (by decide) (lw_charged X hNc hml hX hbl hbA hR hL hL2 hI cont)
      · exact z_tableIn (tgt := 1971) X dL_law_40 (by rw [hz]; decide) (by rw [hz]; decide) (by rw [hz]; rfl) (by decide) (lw_covered X hNc hml hX hbl hbA hR hL hL2 hI cont)
      · exact z_tableIn (tgt := 2027) X dL_law_40 (by rw [hz]; decide) (by rw [hz]; decide) (by rw [hz]; rfl) (by decide) (lw_ratedByEvents X hNc hml hX hbl hbA hR hL hL2 hI cont)
      · exact z_tableIn (tgt := 2083) X dL_law_40 (by rw [hz]; decide) (by rw [hz]; decide) (by rw [hz]; rfl) (by decide) (lw_tag X hNc hml hX hbl hbA hR hL hL2 hI cont)
      · exact z_tableIn (tgt := 2139) X dL_law_40 (by rw [hz]; decide) (by rw [hz]; decide) (by rw [hz]; rfl) (by decide) (lw_seal X hNc hml hX hbl hbA hR hL hL2 hI cont)
      · exact z_tableIn (tgt := 2195) X dL_law_40 (by rw [hz]; decide) (by rw [hz]; decide) (by rw [hz]; rfl) (by decide) (lw_stamp X hNc hml hX hbl hbA hR hL hL2 hI cont)
      · exact z_tableIn (tgt := 2251) X dL_law_40 (by rw [hz]; decide) (by rw [hz]; decide) (by rw [hz]; rfl) (by decide) (hline hR hL hL2 hI cont)
    · refine z_tableOut (tgt := 2319) X dL_law_40 (by omega) (by decide) ?_
      exact cont W ad f ρ cells slots hR.later ⟨by have := hI.1; omega, by have := hI.2; omega⟩
