/-! THE LAW: rows -/
theorem g_1427 : Cond.arrayClass .int ∈ gT := gT_t 388 (by decide +kernel) rfl
section LR
variable {p : Program} {l : Launch} {e : Env} {R : Room} {s : State} {m : MethodId} {args : Array Value} {below : List Frame} {meth : Method} {c : Code} {A : Nat → Prop} {G : Heap → Prop} {cells slots : Nat} {Q : State → Prop}
variable {cc : ByteArray} {own : String} {D : va_G} {dA : Nat → ClassId} {pc : Nat} {lo lo' : List (Nat × Value)} {ll : List (Nat × Int64)} {rest : List Value} {V : Rho} {L : Lst} {N : Cnt} {ad : Adr} {xs : va_W} {C : String} {T : u_T}
theorem zz.forget (h : ∀ q ∈ lo, q ∈ lo') (k : zz p l e R s m args below meth c A G cells slots Q pc lo ll rest) : zz p l e R s m args below meth c A G cells slots Q pc lo' ll rest :=
  fun H locs ls hG hS hl hc => k H locs ls hG hS ⟨hl.1, hl.2.1, fun q hq => hl.2.2 q ((List.mem_append.mp hq).elim (fun z => List.mem_append_left _ (h q z)) (fun z => List.mem_append_right _ z))⟩ (fun q hq => hc q (h q hq))
theorem z_sld (X : zc p l s m args meth c cc own D dA A) {b Ls : Nat} {sc : Nat → Int32} (hX : va_X b Ls sc s s.heap) (hbl : b < s.heap.size) (hbA : ¬ A b) {x : Int32} (hin : vp_in x Ls) (hdg : decode cc pc = .ok (.iaload, 1))
    (k : zz p l e R s m args below meth c A G cells slots Q (pc + 1) lo ll (.int (sc x.toNatClampNeg) :: rest)) : zz p l e R s m args below meth c A G cells slots Q pc lo ll (.int x :: .ref b :: rest) :=
  fun H locs ls hG hS hl hc => va_sld X.1 X.2.1 hX hbl hbA hS hin hdg (k H locs ls hG hS hl hc)
theorem z_slen (X : zc p l s m args meth c cc own D dA A) {b Ls : Nat} {sc : Nat → Int32} (hX : va_X b Ls sc s s.heap) (hbl : b < s.heap.size) (hbA : ¬ A b) (hdg : decode cc pc = .ok (.arraylength, 1))
    (k : zz p l e R s m args below meth c A G cells slots Q (pc + 1) lo ll (.int (Int32.ofNat Ls) :: rest)) : zz p l e R s m args below meth c A G cells slots Q pc lo ll (.ref b :: rest) :=
  fun H locs ls hG hS hl hc => va_slen X.1 X.2.1 hX hbl hbA hS hdg (k H locs ls hG hS hl hc)
theorem cx_recvX {H : Heap} (X : zc p l s m args meth c cc own D dA A) {j ci a n : Nat} {fs : List Value} (hx9 : xs[j]? = some (a, .inr (ci, fs))) (hcl : vwCl[ci]? = some (C, T, n)) (hG : cx D dA A V L N ad xs H) : ∃ cell : Cell, H[a]? = some cell ∧ cell.vm.isStatics = false ∧ s.vm.findClass C = some cell.cls :=
  va_recv (q := (C, T, n)) (ci := ci) (q0 := 0) X.2.2.2.2.2.1 (zone1 (hG.2.2.2.2.2.2.2.2.2.1 _ _ hx9)) hcl rfl
theorem z_callWi (X : zc p l s m args meth c cc own D dA A) (hNc : zNc s) {y : MethodName} {b : ByteArray} {maxL idx nA mc ms : Nat} {hh : List (Nat × Nat × Nat × Nat)} {ret : Option FieldType} {rm : Room} {As st : List Value} {S : Type} {post : Int32 → S → Prop} {G1 : S → Heap → Prop} (hM : vx_Met l y (.codeWith y b maxL ret hh :: gT) rm (va_Pc As (zBN D dA A s.heap.size G)) (va_Qi post (fun u t => G1 u t.heap) A) (vx_X (fun (_ : Unit) => False) (fun _ _ _ => False) A) mc ms A) (h1 : Cond.methodLink own idx y ∈ gT) (h2 : Cond.static y ∈ gT) (h4 : Cond.initialized y.cls ∈ gT) (h5 : Cond.codeWith y b maxL ret hh ∈ gT) (hd : y.cls ≠ "java/lang/invoke/MethodHandle" ∧ y.cls ≠ "java/lang/invoke/VarHandle" ∧ (parseMethodDescriptor y.desc).map (fun d => d.parameters.length) = some nA) (hrm : rm.cells = mc ∧ rm.slots = ms ∧ rm.frames + 1 ≤ R.frames ∧ 8 + (maxL + 11) + rm.locals ≤ R.locals) (hn : As.length = nA) (hst : st = As.reverse ++ rest) (hcat : (rest.map fun v => v.category).sum ≤ 8) (hdg : decode cc pc = .ok (.invokestatic idx, 3)) (hf : cells + mc ≤ R.cells ∧ slots + ms ≤ R.slots)
    (k : ∀ r u, post r u → zz p l e R s m args below meth c A (G1 u) (cells + mc) (slots + ms) Q (pc + 3) lo ll (.int r :: rest)) : zz p l e R s m args below meth c A G cells slots Q pc lo ll st := by
  subst hst
  intro H locs ls hG hS hl hc
  have key : ∀ w ∈ gT, w ∈ gT ∧ ((w.onTables && w.keeps) = true ∨ ∃ ty, w = .arrayClass ty) := fun w h => ⟨h, gT_good h⟩
  have hgood : GoodIn gT (va_wsS own idx y (.codeWith y b maxL ret hh :: gT)) := by
    intro w hw
    rcases List.mem_append.mp hw with hw | hw
    · simp only [List.mem_cons, List.not_mem_nil, or_false] at hw
      rcases hw with rfl | rfl | rfl
      · exact key _ h1
      · exact key _ h2
      · exact key _ h4
    · rcases List.mem_cons.mp hw with rfl | hw
      · exact key _ h5
      · exact key _ hw
  refine vx_calli (AX := A) (vx_runSX (As := As) (rest := rest) ⟨X.1, X.2.1, rfl, X.2.2.1, X.2.2.2.1⟩ hM (vx_cwSW nA X.2.2.2.1 hgood rfl hrm.1 hrm.2.1 hd hrm.2.2) ⟨zBN_blind, fun U hU hW => ⟨rfl, zB_at X hG hS U hU hW, hNc.moved hW.alike⟩⟩ rfl hn hl.1 rfl (lv_room hcat) hdg hf) hS (fun _ _ h => h) (fun _ h => h) (fun _ _ h => h) ?_ (fun r u t H1 locs1 ht _ hp hB _ _ hS1 => k r u hp H1 locs1 ls (by rw [← ht]; exact hB) hS1 hl hc)
  intro E ce q9 u t H1 locs1 ht _ hp
  exact hp.elim
theorem cx_rot {x : Nat × va_E} {H : Heap} (h : cx D dA A V L N ad (xs ++ [x]) H) : cx D dA A V L N ad (x :: xs) H := by
  have hx := h.2.2.2.2.2.2.2.2.2
  have key : ∀ (j : Nat) (q : Nat × va_E), (x :: xs)[j]? = some q → ∃ i, (xs ++ [x])[i]? = some q ∧ (j = 0 ∧ i = xs.length ∨ j = i + 1 ∧ i < xs.length) := by
    intro j q hj
    cases j with
    | zero => exact ⟨xs.length, by rw [List.getElem?_append_right (by omega), Nat.sub_self]; exact hj, Or.inl ⟨rfl, rfl⟩⟩
    | succ i =>
      have hj : xs[i]? = some q := hj
      have hl := (List.getElem?_eq_some_iff.mp hj).1
      exact ⟨i, by rw [List.getElem?_append_left hl]; exact hj, Or.inr ⟨rfl, hl⟩⟩
  refine ⟨h.1, h.2.1, h.2.2.1, h.2.2.2.1, h.2.2.2.2.1, h.2.2.2.2.2.1, h.2.2.2.2.2.2.1, h.2.2.2.2.2.2.2.1, h.2.2.2.2.2.2.2.2.1, fun j q hj => ?_, ⟨fun i j p q hi hj he => ?_, fun j q hj => ?_⟩, fun j q hj => ?_⟩
  · obtain ⟨i, hi, -⟩ := key j q hj
    exact hx.1 i q hi
  · obtain ⟨i1, h1, e1⟩ := key i p hi
    obtain ⟨j1, h2, e2⟩ := key j q hj
    have := hx.2.1.1 i1 j1 p q h1 h2 he
    omega
  · obtain ⟨i, hi, -⟩ := key j q hj
    exact hx.2.1.2 i q hi
  · obtain ⟨i, hi, -⟩ := key j q hj
    exact hx.2.2 i q hi
theorem c_newIX (X : zc p l s m args meth c cc own D dA A) {N' : Nat} {n : Int32} (hn : ¬ n < 0) (hN : n.toNatClampNeg = N') (hb : N' * componentBytes .int ≤ 536870912) (hcs : cells + 1 ≤ R.cells ∧ slots + N' ≤ R.slots) (hdg : decode cc pc = .ok (.newarray .int, 2))
    (kk : ∀ q : Nat, zz p l e R s m args below meth c A (cx D dA A V L N ad (xs ++ [(q, .inl (dA 0, N', .inl (fun _ => 0)))])) (cells + 1) (slots + N') Q (pc + 2) lo ll (.ref q :: rest)) : zz p l e R s m args below meth c A (cx D dA A V L N ad xs) cells slots Q pc lo ll (.int n :: rest) := by
  intro H locs ls hG hS hl hc
  refine va_newaK (atype := .int) X.1 X.2.1 (X.2.2.2.1 _ g_1427) rfl hdg rfl hn hN hb hcs.1 hcs.2 rfl fun H1 cA e1 z1 o1 hAr hNm => ?_
  have g4 : s.vm.findClass ("[" ++ FieldType.int.toString) = some (dA 0) := (X.2.2.2.2.2.1.2 0 (dA 0, .int) rfl).2
  cases hNm.symm.trans g4
  refine kk H.size H1 locs ls (cx_pushX hG (X.2.2.2.2.2.2.1 _ hS.1) ?_ o1) ⟨Nat.le_trans hS.1 (by omega), fun x h1 h2 => (o1 x (Nat.lt_of_lt_of_le h1 hS.1)).trans (hS.2.1 x h1 h2), hS.2.2⟩ hl hc
  show H1[H.size]? = some (vp_cell _ _)
  rw [vp_cell_i]
  exact e1
end LR
