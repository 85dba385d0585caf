/-! THE LAW: from its entry to its loop -/
theorem g_1300 : Cond.classLink RL 119 "MeshBillerModel" ∈ gT := gT_t 1300 (by decide +kernel) rfl
theorem g_1301 : Cond.instantiable RX12 40 ∈ gT := gT_t 1301 (by decide +kernel) rfl
theorem g_1302 : Cond.methodLink RL 121 yX12_init ∈ gT := gT_t 1302 (by decide +kernel) rfl
theorem g_1303 : Cond.instanceMethod yX12_init ∈ gT := gT_t 1303 (by decide +kernel) rfl
theorem g_1304 : Cond.code yX12_init cX12_init 2 none ∈ gT := gT_t 1304 (by decide +kernel) rfl
theorem g_1711 : Cond.arrayClass .long ∈ gT := gT_t 1711 (by decide +kernel) rfl
theorem g_36 : Cond.classLink RL 8 "MeshBiller" ∈ gT := gT_t 36 (by decide +kernel) rfl
theorem g_37 : Cond.instantiable RX11 9 ∈ gT := gT_t 37 (by decide +kernel) rfl
theorem g_38 : Cond.methodLink RL 118 yX11_init ∈ gT := gT_t 38 (by decide +kernel) rfl
theorem g_39 : Cond.instanceMethod yX11_init ∈ gT := gT_t 39 (by decide +kernel) rfl
theorem g_40 : Cond.code yX11_init cX11_init 2 none ∈ gT := gT_t 40 (by decide +kernel) rfl
section LE
variable {p : Program} {l : Launch} {e : Env} {R : Room} {s : State} {m : MethodId} {args : Array Value} {below : List Frame} {meth : Method} {c : Code} {A : Nat → Prop} {G : Heap → Prop} {cells slots : Nat} {Q : State → Prop}
variable {cc : ByteArray} {own : String} {D : va_G} {dA : Nat → ClassId} {pc : Nat} {lo : List (Nat × Value)} {ll : List (Nat × Int64)} {rest : List Value} {V : Rho} {L : Lst} {N : Cnt} {ad : Adr} {xs : va_W}
theorem c_newLX (X : zc p l s m args meth c cc own D dA A) {N' : Nat} {n : Int32} (hn : ¬ n < 0) (hN : n.toNatClampNeg = N') (hb : N' * componentBytes .long ≤ 536870912) (hcs : cells + 1 ≤ R.cells ∧ slots + N' ≤ R.slots) (hdg : decode cc pc = .ok (.newarray .long, 2))
    (kk : ∀ q : Nat, zz p l e R s m args below meth c A (cx D dA A V L N ad (xs ++ [(q, .inl (dA 7, N', .inr (.inl (fun _ => 0))))])) (cells + 1) (slots + N') Q (pc + 2) lo ll (.ref q :: rest)) : zz p l e R s m args below meth c A (cx D dA A V L N ad xs) cells slots Q pc lo ll (.int n :: rest) := by
  intro H locs ls hG hS hl hc
  refine va_newaK (atype := .long) X.1 X.2.1 (X.2.2.2.1 _ g_1711) rfl hdg rfl hn hN hb hcs.1 hcs.2 rfl fun H1 cA e1 z1 o1 hAr hNm => ?_
  have g4 : s.vm.findClass ("[" ++ FieldType.long.toString) = some (dA 7) := (X.2.2.2.2.2.1.2 7 (dA 7, .long) rfl).2
  cases hNm.symm.trans g4
  refine kk H.size H1 locs ls (cx_pushX hG (X.2.2.2.2.2.2.1 _ hS.1) ?_ o1) ⟨Nat.le_trans hS.1 (by omega), fun x h1 h2 => (o1 x (Nat.lt_of_lt_of_le h1 hS.1)).trans (hS.2.1 x h1 h2), hS.2.2⟩ hl hc
  show H1[H.size]? = some (vp_cell _ _)
  rw [vp_cell_l]
  exact e1
theorem cx_rot {x : Nat × va_E} {H : Heap} (h : cx D dA A V L N ad (xs ++ [x]) H) : cx D dA A V L N ad (x :: xs) H := by
  have hx := h.2.2.2.2.2.2.2.2.2
  have key : ∀ (j : Nat) (q : Nat × va_E), (x :: xs)[j]? = some q → ∃ i, (xs ++ [x])[i]? = some q ∧ (j = 0 ∧ i = xs.length ∨ j = i + 1 ∧ i < xs.length) := by
    intro j q hj
    cases j with
    | zero => exact ⟨xs.length, by rw [List.getElem?_append_right (by omega), Nat.sub_self]; exact hj, Or.inl ⟨rfl, rfl⟩⟩
    | succ i =>
      have hj : xs[i]? = some q := hj
      have hl := (List.getElem?_eq_some_iff.mp hj).1
      exact ⟨i, by rw [List.getElem?_append_left hl]; exact hj, Or.inr ⟨rfl, hl⟩⟩
  refine ⟨h.1, h.2.1, h.2.2.1, h.2.2.2.1, h.2.2.2.2.1, h.2.2.2.2.2.1, h.2.2.2.2.2.2.1, h.2.2.2.2.2.2.2.1, h.2.2.2.2.2.2.2.2.1, fun j q hj => ?_, ⟨fun i j p q hi hj he => ?_, fun j q hj => ?_⟩, fun j q hj => ?_⟩
  · obtain ⟨i, hi, -⟩ := key j q hj
    exact hx.1 i q hi
  · obtain ⟨i1, h1, e1⟩ := key i p hi
    obtain ⟨j1, h2, e2⟩ := key j q hj
    have := hx.2.1.1 i1 j1 p q h1 h2 he
    omega
  · obtain ⟨i, hi, -⟩ := key j q hj
    exact hx.2.1.2 i q hi
  · obtain ⟨i, hi, -⟩ := key j q hj
    exact hx.2.2 i q hi
end LE
theorem nB_zero {k : Nat} : nB 0 0 0 0 0 0 k = 0 := by
  rcases Nat.lt_or_ge k 12 with q | q
  · have : k = 0 ∨ k = 1 ∨ k = 2 ∨ k = 3 ∨ k = 4 ∨ k = 5 ∨ k = 6 ∨ k = 7 ∨ k = 8 ∨ k = 9 ∨ k = 10 ∨ k = 11 := by omega
    rcases this with rfl | rfl | rfl | rfl | rfl | rfl | rfl | rfl | rfl | rfl | rfl | rfl <;> rfl
  · exact nB_big q
theorem cx_none {D : va_G} {dA : Nat → ClassId} {A : Nat → Prop} {H : Heap} : cx D dA A VB LB (nB 0 0 0 0 0 0) (fun _ _ => 0) [] H := by
  have no : ∀ {i k : Nat}, i < nB 0 0 0 0 0 0 k → False := fun h => by rw [nB_zero] at h; exact Nat.not_lt_zero _ h
  refine ⟨fun k i _ h => (no h).elim, fun k i _ _ h => (no h).elim, fun k _ _ h => (no h).elim, fun k i _ _ h => (no h.1.2).elim, fun k i h => (no h.1.2).elim, fun k i f _ h => (no h).elim, fun k i x _ _ h => (no h).elim, fun k i _ _ h => (no h).elim, ⟨fun h => (no h).elim, Nat.le_refl _, Nat.le_refl _, fun k => by rw [nB_zero]; exact Nat.zero_le _⟩, fun j q hj => (by cases hj), ⟨fun i j p q hi => (by cases hi), fun j q hj => (by cases hj)⟩, fun j q hj => (by cases hj)⟩
set_option maxRecDepth 100000 in
set_option maxHeartbeats 8000000 in
theorem law_run {p : Program} {l : Launch} {e : Env} {s : State} {m : MethodId} {args : Array Value} {below : List Frame} {meth : Method} {c : Code} {A : Nat → Prop} {Q : State → Prop} {D : va_G} {dA : Nat → ClassId} (X : zc p l s m args meth c cL_law RL D dA A) (hNc : zNc s) (hml : c.maxLocals = 7) {b Ls : Nat} {sc : Nat → Int32} (hX : va_X b Ls sc s s.heap) (hbl : b < s.heap.size) (hbA : ¬ A b) (hL2 : Ls ≤ 3584)
    (hline : ∀ {q : Nat} {ar : Nat → Nat} {W : CW} {ad : Adr} {f : Nat → Int64} {ρ : Rho} {t cells slots : Nat}, RelX W ρ t → 7 * t + 7 ≤ Ls → Ls ≤ 3584 → lwI t (E26 ρ) cells slots → (∀ (W' : CW) (ad' : Adr) (f' : Nat → Int64) (ρ' : Rho) (c' s' : Nat), RelX W' ρ' (t + 1) → lwI (t + 1) (E26 ρ') c' s' → zz p l e lwR s m args below meth c A (cx D dA A W'.1 W'.2.1 W'.2.2 ad' ((q, .inl (dA 7, 1, .inr (.inl f'))) :: xR dA ρ' ar)) c' s' Q 2319 [(4, .int (nI (7 * t))), (3, .ref q), (2, .ref (ar 40)), (1, .ref (ad' 11 0)), (0, .ref b)] [] []) → zz p l e lwR s m args below meth c A (cx D dA A W.1 W.2.1 W.2.2 ad ((q, .inl (dA 7, 1, .inr (.inl f))) :: xR dA ρ ar)) cells slots Q 2251 [(4, .int (nI (7 * t))), (3, .ref q), (2, .ref (ar 40)), (1, .ref (ad 11 0)), (0, .ref b)] [] [])
    (kend : ∀ (G : Heap → Prop) (lo : List (Nat × Value)) (cells slots : Nat), cells ≤ 601024 → slots ≤ 7293034 → zz p l e lwR s m args below meth c A G cells slots Q 2325 lo [] []) : zz p l e lwR s m args below meth c A (fun _ => True) 0 0 Q 0 [(0, .ref b)] [] [] := by
  refine zz.conseq (G' := cx D dA A VB LB (nB 0 0 0 0 0 0) (fun _ _ => 0) []) (fun H _ => cx_none) ?_
  refine c_new X 14 (fs := [.null, .null, .null, .null, .null, .null, .null, .int 0, .int 0]) tyX11 rx11_ws rfl tyX11_ok g_36 g_37 g_1 (fun j hj => by rcases (show j = 0 ∨ j = 1 ∨ j = 2 ∨ j = 3 ∨ j = 4 ∨ j = 5 ∨ j = 6 ∨ j = 7 ∨ j = 8 by omega) with rfl | rfl | rfl | rfl | rfl | rfl | rfl | rfl | rfl <;> rfl) ⟨by show _ ≤ 601024; omega, by show _ ≤ 7293034; omega⟩ dL_law_0 (fun q1 => ?_)
  refine z_dup X dL_law_3 rfl ?_
  refine z_callI (As := []) (rest := [.ref q1]) (nA := 0) (mc := 60) (ms := 275) (rm := ({ frames := 240, cells := 60, slots := 275, locals := 2600 } : Room)) (pu := fun (u : Adr) => u 11 0 = q1) (G1 := fun u => cx D dA A VB LB (nB 6 3 8 4 10 1) u []) X (ck_Mesh l X.2.2.2.2.2.2.2.2 X.2.2.2.2.2.2.1 (xs := [])) g_38 g_39 g_1 g_40 hd_yX11_init ⟨rfl, rfl, Nat.le_of_ble_eq_true rfl, Nat.le_of_ble_eq_true rfl⟩ rfl rfl (Nat.le_of_ble_eq_true rfl) dL_law_4 ⟨by show _ ≤ 601024; omega, by show _ ≤ 7293034; omega⟩ (fun u hu => ?_)
  rw [← hu]
  refine z_astore_n X dL_law_7 rfl (by rw [hml]; decide) rfl rfl ?_
  refine c_new X 15 (fs := [.int 0, .int 0, .null, .null, .null, .null, .null, .null, .null, .null, .null, .null, .null, .null, .int 0, .null, .null, .null, .null, .null, .int 0, .null, .int 0, .null, .null, .null, .null, .null, .null, .null, .null, .null, .null, .null, .null, .null, .int 0, .int 0, .int 0, .int 0]) tyX12 rx12_ws rfl tyX12_ok g_1300 g_1301 g_15 (fun j hj => by rcases (show j = 0 ∨ j = 1 ∨ j = 2 ∨ j = 3 ∨ j = 4 ∨ j = 5 ∨ j = 6 ∨ j = 7 ∨ j = 8 ∨ j = 9 ∨ j = 10 ∨ j = 11 ∨ j = 12 ∨ j = 13 ∨ j = 14 ∨ j = 15 ∨ j = 16 ∨ j = 17 ∨ j = 18 ∨ j = 19 ∨ j = 20 ∨ j = 21 ∨ j = 22 ∨ j = 23 ∨ j = 24 ∨ j = 25 ∨ j = 26 ∨ j = 27 ∨ j = 28 ∨ j = 29 ∨ j = 30 ∨ j = 31 ∨ j = 32 ∨ j = 33 ∨ j = 34 ∨ j = 35 ∨ j = 36 ∨ j = 37 ∨ j = 38 ∨ j = 39 by omega) with rfl | rfl | rfl | rfl | rfl | rfl | rfl | rfl | rfl | rfl | rfl | rfl | rfl | rfl | rfl | rfl | rfl | rfl | rfl | rfl | rfl | rfl | rfl | rfl | rfl | rfl | rfl | rfl | rfl | rfl | rfl | rfl | rfl | rfl | rfl | rfl | rfl | rfl | rfl | rfl <;> rfl) ⟨by show _ ≤ 601024; omega, by show _ ≤ 7293034; omega⟩ dL_law_8 (fun q2 => ?_)
  refine z_dup X dL_law_11 rfl ?_
  refine z_callI (As := []) (rest := [.ref q2]) (nA := 0) (mc := 31) (ms := 1378) (rm := ({ frames := 40, cells := 31, slots := 1378, locals := 400 } : Room)) (pu := fun (u : Nat → Nat) => u 40 = q2) (G1 := fun u2 => cx D dA A VB LB (nB 6 3 8 4 10 1) u ([] ++ xR dA (ρS 8 3 10) u2)) X (ck_Ref l X.2.2.2.2.2.2.2.2 X.2.2.2.2.2.2.1 (xs := [])) g_1302 g_1303 g_15 g_1304 hd_yX12_init ⟨rfl, rfl, Nat.le_of_ble_eq_true rfl, Nat.le_of_ble_eq_true rfl⟩ rfl rfl (Nat.le_of_ble_eq_true rfl) dL_law_12 ⟨by show _ ≤ 601024; omega, by show _ ≤ 7293034; omega⟩ (fun ar har => ?_)
  rw [← har]
  refine z_astore_n X dL_law_15 rfl (by rw [hml]; decide) rfl rfl ?_
  refine z_iconst (v := 1) X dL_law_16 (by decide) ?_
  refine c_newLX X (N' := 1) (by decide) (by decide) (by decide) ⟨by show _ ≤ 601024; omega, by show _ ≤ 7293034; omega⟩ dL_law_17 (fun q => ?_)
  refine zz.conseq (fun H hG => cx_rot hG) ?_
  refine z_astore_n X dL_law_19 rfl (by rw [hml]; decide) rfl rfl ?_
  refine z_iconst (v := nI (7 * 0)) X dL_law_20 (by decide) ?_
  refine z_istore X dL_law_21 (by rw [hml]; decide) rfl rfl ?_
  exact law_loop X hNc hml hX hbl hbA hL2 hline (fun W ad f ρ t cells slots h1 h2 => kend _ _ _ _ h1 h2) 512 0 (VB, LB, nB 6 3 8 4 10 1) u (fun _ => 0) (ρS 8 3 10) _ _ rfl RelX_new ⟨by have := @E26_le (ρS 8 3 10); omega, by have := @E26_le (ρS 8 3 10); omega⟩
