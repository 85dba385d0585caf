/-! THE LAW'S WORLD: an object of the class and the law's three arrays of ints; the ghost columns of γ from 3 on lie nowhere -/
abbrev GS : Type := CW × Rho
def lx (dA : Nat → ClassId) (γ : Rho) (ar : Nat → Nat) : va_W := [(ar 0, .inl (dA 0, 64, .inl (γ 0))), (ar 1, .inl (dA 0, 64, .inl (γ 1))), (ar 2, .inl (dA 0, 5, .inl (γ 2)))]
def llen (f : Nat) : Nat := [64, 64, 5].getD f 0
def gw (D : va_G) (dA : Nat → ClassId) (A : Nat → Prop) (σ : GS) (ob : Nat) (ar : Nat → Nat) (H : Heap) : Prop := ∃ ad : Adr, (ad 11 0 = ob ∧ 0 < σ.1.2.2 11) ∧ cx D dA A σ.1.1 σ.1.2.1 σ.1.2.2 ad (lx dA σ.2 ar) H
theorem lx_get {dA : Nat → ClassId} {γ : Rho} {ar : Nat → Nat} {f : Nat} (hf : f < 3) : (lx dA γ ar)[f]? = some (ar f, .inl (dA 0, llen f, .inl (γ f))) := by
  rcases (show f = 0 ∨ f = 1 ∨ f = 2 by omega) with rfl | rfl | rfl <;> rfl
theorem lx_set {dA : Nat → ClassId} {γ : Rho} {ar : Nat → Nat} {f i : Nat} {x : Int32} (hf : f < 3) : (lx dA γ ar).set f (ar f, .inl (dA 0, llen f, .inl (upd (γ f) i x))) = lx dA (cs γ f i x) ar := by
  rcases (show f = 0 ∨ f = 1 ∨ f = 2 by omega) with rfl | rfl | rfl
  · unfold lx; rw [rcs_upd, rcs_col (f := 0) (g := 1) (by decide), rcs_col (f := 0) (g := 2) (by decide)]; rfl
  · unfold lx; rw [rcs_upd, rcs_col (f := 1) (g := 0) (by decide), rcs_col (f := 1) (g := 2) (by decide)]; rfl
  · unfold lx; rw [rcs_upd, rcs_col (f := 2) (g := 0) (by decide), rcs_col (f := 2) (g := 1) (by decide)]; rfl
/-- what a state of the law holds beside the world: the three exceptions, the script -/
def zY (s : State) (A : Nat → Prop) (b Ls : Nat) (sc : Nat → Int32) : Prop := zNc s ∧ va_X b Ls sc s s.heap ∧ b < s.heap.size ∧ ¬ A b
def zBL (D : va_G) (dA : Nat → ClassId) (A : Nat → Prop) (n b Ls : Nat) (sc : Nat → Int32) (G : Heap → Prop) (U : State) : Prop := zB D dA A n G U ∧ zNc U ∧ va_X b Ls sc U U.heap ∧ b < U.heap.size
section GW
variable {p : Program} {l : Launch} {e : Env} {R : Room} {s : State} {m : MethodId} {args : Array Value} {below : List Frame} {meth : Method} {c : Code} {A : Nat → Prop} {G : Heap → Prop} {cells slots : Nat} {Q : State → Prop}
variable {cc : ByteArray} {own : String} {D : va_G} {dA : Nat → ClassId} {pc : Nat} {lo : List (Nat × Value)} {ll : List (Nat × Int64)} {rest : List Value} {σ σ' : GS} {ob b Ls : Nat} {sc : Nat → Int32} {ar : Nat → Nat}
theorem z_lsub (X : zc p l s m args meth c cc own D dA A) {x y : Int64} (hdg : decode cc pc = .ok (.lsub, 1)) (k : zz p l e R s m args below meth c A G cells slots Q (pc + 1) lo ll (.long (x - y) :: rest)) : zz p l e R s m args below meth c A G cells slots Q pc lo ll (.long y :: .long x :: rest) :=
  fun H locs ls hG hS hl hc => lv_lsub X.1 X.2.1 hdg (k H locs ls hG hS hl hc)
theorem z_land (X : zc p l s m args meth c cc own D dA A) {x y : Int64} (hdg : decode cc pc = .ok (.land, 1)) (k : zz p l e R s m args below meth c A G cells slots Q (pc + 1) lo ll (.long (x &&& y) :: rest)) : zz p l e R s m args below meth c A G cells slots Q pc lo ll (.long y :: .long x :: rest) :=
  fun H locs ls hG hS hl hc => lv_land X.1 X.2.1 hdg (k H locs ls hG hS hl hc)
theorem gw_any {H : Heap} {γ : Rho} (h0 : γ 0 = σ.2 0) (h1 : γ 1 = σ.2 1) (h2 : γ 2 = σ.2 2) (hG : gw D dA A σ ob ar H) : gw D dA A (σ.1, γ) ob ar H := by
  obtain ⟨ad, ho, hg⟩ := hG
  refine ⟨ad, ho, ?_⟩
  have e : lx dA γ ar = lx dA σ.2 ar := by unfold lx; rw [h0, h1, h2]
  rw [e]
  exact hg
/-- the law's arrays -/
theorem l_ald (X : zc p l s m args meth c cc own D dA A) (f : Nat) {i : Int32} (hf : Nat.ble (f + 1) 3 = true) (hi : ¬ (i < 0 ∨ llen f ≤ i.toNatClampNeg)) (hdg : decode cc pc = .ok (.iaload, 1))
    (k : zz p l e R s m args below meth c A (gw D dA A σ ob ar) cells slots Q (pc + 1) lo ll (.int (σ.2 f i.toNatClampNeg) :: rest)) : zz p l e R s m args below meth c A (gw D dA A σ ob ar) cells slots Q pc lo ll (.int i :: .ref (ar f) :: rest) :=
  fun H locs ls hG hS hl hc => by
    obtain ⟨ad, ho, hg⟩ := hG
    exact va_iald X.1 X.2.1 X.2.2.2.2.2.1 hg.2.2.2.2.2.2.2.2.2.1 f 0 (lx_get (Nat.le_of_ble_eq_true hf)) rfl hi hdg (k H locs ls ⟨ad, ho, hg⟩ hS hl hc)
theorem l_ast (X : zc p l s m args meth c cc own D dA A) (f : Nat) {i x : Int32} (hf : Nat.ble (f + 1) 3 = true) (hi : ¬ (i < 0 ∨ llen f ≤ i.toNatClampNeg)) (he : (σ.1, cs σ.2 f i.toNatClampNeg x) = σ') (hdg : decode cc pc = .ok (.iastore, 1))
    (k : zz p l e R s m args below meth c A (gw D dA A σ' ob ar) cells slots Q (pc + 1) lo ll rest) : zz p l e R s m args below meth c A (gw D dA A σ ob ar) cells slots Q pc lo ll (.int x :: .int i :: .ref (ar f) :: rest) := by
  subst he
  intro H locs ls hG hS hl hc
  obtain ⟨ad, ho, hG⟩ := hG
  have hf := Nat.le_of_ble_eq_true hf
  have hx9 := lx_get (dA := dA) (γ := σ.2) (ar := ar) hf
  have hx := hG.2.2.2.2.2.2.2.2.2
  refine W.iast X.1 X.2.1 (hx.1 _ _ hx9) ((X.2.2.2.2.2.1.2 0 (dA 0, .int) rfl).1 (llen f) (fun q => .int (σ.2 f q))) (fun q => by cases q) (by show ¬ (i < 0 ∨ (arrV _ _ _).slots.size ≤ _); rw [arrV_size]; exact hi) rfl rfl hdg fun H1 e z oq => ?_
  have hG1 := cx_setX (e' := .inl (dA 0, llen f, .inl (upd (σ.2 f) i.toNatClampNeg x))) hG hx9 (by
    show H1[ar f]? = some (vp_cell _ _)
    rw [e, vp_cell_i, vp_cell_i, arrV_store]
    congr 2
    funext q
    by_cases hq : q = i.toNatClampNeg
    · subst hq
      simp [updV, upd]
    · simp [updV, upd, hq]) oq
  rw [lx_set hf] at hG1
  exact k H1 _ ls ⟨ad, ho, hG1⟩ (hS.put z oq (hx.2.1.2 _ _ hx9)) hl hc
theorem zBL_blind {av : List Value} {n : Nat} : FrameBlind (va_Pc av (zBL D dA A n b Ls sc G)) := by
  intro a U g mk h
  obtain ⟨h0, h1, h2, h3, h4⟩ := h
  have h5 := (zB_blind (D := D) (dA := dA) (A := A) (G := G) (av := av) (n := n)) a U g mk ⟨h0, h1⟩
  exact ⟨h5.1, h5.2, zNc.moved (u := U) (U := U.calling g mk a) (Vm.Alike.refl U.vm) h2, va_X.moved (u := U) (U := U.calling g mk a) (Vm.Alike.refl U.vm) h3, h4⟩
theorem zBL_at {H : Heap} {locs : List Loc} (X : zc p l s m args meth c cc own D dA A) (Y : zY s A b Ls sc) (hG : G H) (hS : va_S A s.heap H locs) : ∀ U : State, U.heap = H → s.WarmedH U.vm → zBL D dA A s.heap.size b Ls sc G U := by
  intro U hU hW
  refine ⟨zB_at X hG hS U hU hW, Y.1.moved hW.alike, ?_, ?_⟩
  · rw [hU]
    exact va_X.moved hW.alike (va_X.kept Y.2.1 (hS.2.1 b Y.2.2.1 Y.2.2.2))
  · rw [hU]
    exact Nat.lt_of_lt_of_le Y.2.2.1 hS.1
theorem z_metL {y : MethodName} {maxL : Nat} {ret : Option FieldType} {rm : Room} {av : List Value} {n mc ms : Nat} {Qc : Array Value → State → Outcome → State → Prop} (hy : plainName y.cls = true) (hA : ∀ q, n ≤ q → A q) (hbA : ¬ A b) (hst : l.stackTraces = false) (hav : (lg_sl av).length ≤ maxL) (hc1 : av.all (fun v => v.category == 1) = true) {lo : List (Nat × Value)} (hlo : lv_args 0 av = lo)
    (k : ∀ (p : Program) (e : Env) (s : State) (m : MethodId) (below : List Frame) (meth : Method) (c : Code), zc p l s m av.toArray meth c cc y.cls D dA A → zY s A b Ls sc → c.maxLocals = maxL → meth.sig.returnType = ret → zz p l e rm s m av.toArray below meth c A G 0 0 (MQ below Qc av.toArray s mc ms A) 0 lo [] []) :
    Met l y (.code y cc maxL ret :: gT) rm (va_Pc av (zBL D dA A n b Ls sc G)) Qc mc ms A := by
  refine Met.ofW hy rfl ?_
  intro p e s m args below meth c s₁ B hml hv
  obtain ⟨rfl, ⟨hsz, hK, hSt, hG⟩, hNc, hXs, hbl⟩ := hv
  have hts := atoms_spec (ws := .code y cc maxL ret :: gT) B.pre
  have X : zc p l s m av.toArray meth c cc y.cls D dA A := ⟨B.exec, B.bytes, findClass_of_methodNamed B.named, fun w hw => hts w (List.mem_cons_of_mem _ hw), B.notSynchronized, hK, fun q h => hA q (Nat.le_trans hsz h), hSt, hst⟩
  have hk := k p e s m below meth c X ⟨hNc, hXs, hbl, hbA⟩ hml B.returns
  have hl := lv_entry av (n := maxL) hav
  rw [lg_entry_eq]
  refine hk s.heap [] _ hG va_S.rf ?_ ?_
  · rw [hml, ← hlo]
    simpa using hl
  · rw [← hlo]
    intro q hq
    have key : ∀ (vs : List Value) (i : Nat) (q : Nat × Value), q ∈ lv_args i vs → q.2 ∈ vs := by
      intro vs
      induction vs with
      | nil => intro i q h; cases h
      | cons v t ih =>
        intro i q h
        rcases List.mem_cons.mp h with rfl | h
        · exact List.mem_cons_self
        · exact List.mem_cons_of_mem _ (ih _ q h)
    exact beq_iff_eq.mp (List.all_eq_true.mp hc1 _ (key av 0 q hq))
/-- a call of one of the law's own methods -/
theorem z_lSi (X : zc p l s m args meth c cc own D dA A) (Y : zY s A b Ls sc) {y : MethodName} {bs : ByteArray} {maxL idx nA mc ms : Nat} {ret : Option FieldType} {rm : Room} {As st : List Value} {S : Type} {r0 : Int32} {pu : S → Prop} {G1 : S → Heap → Prop} (hM : Met l y (.code y bs maxL ret :: gT) rm (va_Pc As (zBL D dA A s.heap.size b Ls sc G)) (va_Qi (fun r u => r = r0 ∧ pu u) (fun u t => G1 u t.heap) A) mc ms A) (h1 : Cond.methodLink own idx y ∈ gT) (h2 : Cond.static y ∈ gT) (h4 : Cond.initialized own ∈ gT) (h5 : Cond.code y bs maxL ret ∈ gT) (hd : y.cls = own ∧ y.cls ≠ "java/lang/invoke/MethodHandle" ∧ y.cls ≠ "java/lang/invoke/VarHandle" ∧ (parseMethodDescriptor y.desc).map (fun d => d.parameters.length) = some nA) (hrm : rm.cells = mc ∧ rm.slots = ms ∧ rm.frames + 1 ≤ R.frames ∧ 8 + (maxL + 11) + rm.locals ≤ R.locals) (hn : As.length = nA) (hst : st = As.reverse ++ rest) (hcat : (rest.map fun v => v.category).sum ≤ 8) (hdg : decode cc pc = .ok (.invokestatic idx, 3)) (hf : cells + mc ≤ R.cells ∧ slots + ms ≤ R.slots)
    (k : ∀ u, pu u → zz p l e R s m args below meth c A (G1 u) (cells + mc) (slots + ms) Q (pc + 3) lo ll (.int r0 :: rest)) : zz p l e R s m args below meth c A G cells slots Q pc lo ll st := by
  subst hst
  intro H locs ls hG hS hl hc
  exact va_calli (va_runS (As := As) (rest := rest) ⟨X.1, X.2.1, rfl, X.2.2.1, X.2.2.2.1⟩ hM (cwS nA X.2.2.2.1 (z_gS h1 h2 h4 h5) rfl hrm.1 hrm.2.1 hd hrm.2.2) ⟨zBL_blind, fun U hU hW => ⟨rfl, zBL_at X Y hG hS U hU hW⟩⟩ rfl hn hl.1 rfl (lv_room hcat) hdg hf) hS (fun _ _ h => h) (fun _ h => h) (fun r u t H1 locs1 ht _ hp hB _ _ hS1 => by obtain ⟨rfl, hp⟩ := hp; exact k u hp H1 locs1 ls (by rw [← ht]; exact hB) hS1 hl hc)
theorem z_lSv (X : zc p l s m args meth c cc own D dA A) (Y : zY s A b Ls sc) {y : MethodName} {bs : ByteArray} {maxL idx nA mc ms : Nat} {ret : Option FieldType} {rm : Room} {As st : List Value} {S : Type} {pu : S → Prop} {G1 : S → Heap → Prop} (hM : Met l y (.code y bs maxL ret :: gT) rm (va_Pc As (zBL D dA A s.heap.size b Ls sc G)) (va_Qv pu (fun u t => G1 u t.heap) A) mc ms A) (h1 : Cond.methodLink own idx y ∈ gT) (h2 : Cond.static y ∈ gT) (h4 : Cond.initialized own ∈ gT) (h5 : Cond.code y bs maxL ret ∈ gT) (hd : y.cls = own ∧ y.cls ≠ "java/lang/invoke/MethodHandle" ∧ y.cls ≠ "java/lang/invoke/VarHandle" ∧ (parseMethodDescriptor y.desc).map (fun d => d.parameters.length) = some nA) (hrm : rm.cells = mc ∧ rm.slots = ms ∧ rm.frames + 1 ≤ R.frames ∧ 8 + (maxL + 11) + rm.locals ≤ R.locals) (hn : As.length = nA) (hst : st = As.reverse ++ rest) (hcat : (rest.map fun v => v.category).sum ≤ 8) (hdg : decode cc pc = .ok (.invokestatic idx, 3)) (hf : cells + mc ≤ R.cells ∧ slots + ms ≤ R.slots)
    (k : ∀ u, pu u → zz p l e R s m args below meth c A (G1 u) (cells + mc) (slots + ms) Q (pc + 3) lo ll rest) : zz p l e R s m args below meth c A G cells slots Q pc lo ll st := by
  subst hst
  intro H locs ls hG hS hl hc
  exact va_callv (va_runS (As := As) (rest := rest) ⟨X.1, X.2.1, rfl, X.2.2.1, X.2.2.2.1⟩ hM (cwS nA X.2.2.2.1 (z_gS h1 h2 h4 h5) rfl hrm.1 hrm.2.1 hd hrm.2.2) ⟨zBL_blind, fun U hU hW => ⟨rfl, zBL_at X Y hG hS U hU hW⟩⟩ rfl hn hl.1 rfl (lv_room hcat) hdg hf) hS (fun _ _ h => h) (fun _ h => h) (fun u t H1 locs1 ht _ hp hB _ _ hS1 => k u hp H1 locs1 ls (by rw [← ht]; exact hB) hS1 hl hc)
/-- a call of the class that doesn't throw: what comes back is told by the contract -/
theorem l_call (X : zc p l s m args meth c cc own D dA A) {y : MethodName} {bs : ByteArray} {maxL idx nA mc ms : Nat} {ret : Option FieldType} {rm : Room} {As st : List Value} {S : Type} {r0 : Int32} {rr : S → Int32} {pu : Adr → S → Prop} {px : Nat → Prop} {G1 : Adr → S → Heap → Prop} {GX : Adr → Heap → Prop}
    (hM : ∀ {ad : Adr}, ad 11 0 = ob → 0 < σ.1.2.2 11 → vx_Met l y (.code y bs maxL ret :: gT) rm (va_Pc (.ref (ad 11 0) :: As) (zB D dA A s.heap.size (cx D dA A σ.1.1 σ.1.2.1 σ.1.2.2 ad (lx dA σ.2 ar)))) (va_Qi (fun r u => r = rr u ∧ pu ad u) (fun u t => G1 ad u t.heap) A) (vx_X px (fun E u t => E = exn u ∧ GX ad t.heap) A) mc ms A)
    (hx : ∀ u, ¬ px u) (hg : ∀ (ad : Adr) (u : S), ad 11 0 = ob → 0 < σ.1.2.2 11 → pu ad u → rr u = r0 ∧ ∀ H, G1 ad u H → gw D dA A σ' ob ar H)
    (h1 : Cond.methodLink own idx y ∈ gT) (h2 : Cond.instanceMethod y ∈ gT) (h3 : Cond.selects RX11 y y ∈ gT) (h4 : Cond.initialized RX11 ∈ gT) (h5 : Cond.code y bs maxL ret ∈ gT) (hd : y.cls = RX11 ∧ y.cls ≠ "java/lang/invoke/MethodHandle" ∧ y.cls ≠ "java/lang/invoke/VarHandle" ∧ (parseMethodDescriptor y.desc).map (fun d => d.parameters.length) = some nA) (hrm : rm.cells = mc ∧ rm.slots = ms ∧ rm.frames + 1 ≤ R.frames ∧ 8 + (maxL + 11) + rm.locals ≤ R.locals) (hn : As.length = nA) (hst : st = As.reverse ++ .ref ob :: rest) (hcat : (rest.map fun v => v.category).sum ≤ 8) (hdg : decode cc pc = .ok (.invokevirtual idx, 3)) (hf : cells + mc ≤ R.cells ∧ slots + ms ≤ R.slots)
    (k : zz p l e R s m args below meth c A (gw D dA A σ' ob ar) (cells + mc) (slots + ms) Q (pc + 3) lo ll (.int r0 :: rest)) : zz p l e R s m args below meth c A (gw D dA A σ ob ar) cells slots Q pc lo ll st := by
  subst hst
  intro H locs ls hG hS hl hc
  obtain ⟨ad, ⟨rfl, h11⟩, hG⟩ := hG
  refine vx_calli (AX := A) (vx_runV (As := As) (rest := rest) ⟨X.1, X.2.1, rfl, X.2.2.1, X.2.2.2.1⟩ (hM rfl h11) (cwV nA X.2.2.2.1 (z_gV (x := .tt) h1 h2 h3 h4 h5) rfl hrm.1 hrm.2.1 hd hrm.2.2) ⟨zB_blind, cx_recv X (k := 11) (n := 9) rfl rfl h11 hG, fun U hU hW => ⟨rfl, zB_at X hG hS U hU hW⟩⟩ rfl hn hl.1 rfl (lv_room hcat) hdg hf) hS (fun _ _ h => h) (fun _ h => h) (fun _ _ h => h) ?_ (fun r u t H1 locs1 ht _ hp hB _ _ hS1 => by
      obtain ⟨rfl, hp⟩ := hp
      obtain ⟨e1, e2⟩ := hg ad u rfl h11 hp
      rw [e1]
      exact k H1 locs1 ls (by rw [← ht]; exact e2 _ hB) hS1 hl hc)
  intro E ce q9 u t H1 locs1 ht _ hp
  exact (hx u hp).elim
/-- a question to the class -/
theorem l_q (X : zc p l s m args meth c cc own D dA A) {y : MethodName} {bs : ByteArray} {maxL idx nA mc ms : Nat} {ret : Option FieldType} {rm : Room} {As st : List Value} {r0 : Int32}
    (hM : ∀ {ad : Adr}, ad 11 0 = ob → 0 < σ.1.2.2 11 → vx_Met l y (.code y bs maxL ret :: gT) rm (va_Pc (.ref (ad 11 0) :: As) (zB D dA A s.heap.size (cx D dA A σ.1.1 σ.1.2.1 σ.1.2.2 ad (lx dA σ.2 ar)))) (va_Qi (fun r (w9 : Int32) => r = w9 ∧ (Sum.inl r0 : Int32 ⊕ Nat) = .inl w9 ∧ True) (fun (w9 : Int32) t => cx D dA A σ.1.1 σ.1.2.1 σ.1.2.2 ad (lx dA σ.2 ar) t.heap) A) (vx_X (fun (u : Nat) => (Sum.inl r0 : Int32 ⊕ Nat) = .inr u) (fun E u t => E = exn u ∧ cx D dA A σ.1.1 σ.1.2.1 σ.1.2.2 ad (lx dA σ.2 ar) t.heap) A) mc ms A)
    (h1 : Cond.methodLink own idx y ∈ gT) (h2 : Cond.instanceMethod y ∈ gT) (h3 : Cond.selects RX11 y y ∈ gT) (h4 : Cond.initialized RX11 ∈ gT) (h5 : Cond.code y bs maxL ret ∈ gT) (hd : y.cls = RX11 ∧ y.cls ≠ "java/lang/invoke/MethodHandle" ∧ y.cls ≠ "java/lang/invoke/VarHandle" ∧ (parseMethodDescriptor y.desc).map (fun d => d.parameters.length) = some nA) (hrm : rm.cells = mc ∧ rm.slots = ms ∧ rm.frames + 1 ≤ R.frames ∧ 8 + (maxL + 11) + rm.locals ≤ R.locals) (hn : As.length = nA) (hst : st = As.reverse ++ .ref ob :: rest) (hcat : (rest.map fun v => v.category).sum ≤ 8) (hdg : decode cc pc = .ok (.invokevirtual idx, 3)) (hf : cells + mc ≤ R.cells ∧ slots + ms ≤ R.slots)
    (k : zz p l e R s m args below meth c A (gw D dA A σ ob ar) (cells + mc) (slots + ms) Q (pc + 3) lo ll (.int r0 :: rest)) : zz p l e R s m args below meth c A (gw D dA A σ ob ar) cells slots Q pc lo ll st :=
  l_call (S := Int32) (rr := fun w9 => w9) (pu := fun _ w9 => (Sum.inl r0 : Int32 ⊕ Nat) = .inl w9 ∧ True) (px := fun u => (Sum.inl r0 : Int32 ⊕ Nat) = .inr u) (G1 := fun ad _ H => cx D dA A σ.1.1 σ.1.2.1 σ.1.2.2 ad (lx dA σ.2 ar) H) (GX := fun ad H => cx D dA A σ.1.1 σ.1.2.1 σ.1.2.2 ad (lx dA σ.2 ar) H) X hM (fun u h => nomatch h) (fun ad u ho h11 hp => ⟨(Sum.inl.inj hp.1).symm, fun H hG => ⟨ad, ⟨ho, h11⟩, hG⟩⟩) h1 h2 h3 h4 h5 hd hrm hn hst hcat hdg hf k
/-- a call that changes fields alone -/
theorem l_v (X : zc p l s m args meth c cc own D dA A) {y : MethodName} {bs : ByteArray} {maxL idx nA mc ms : Nat} {ret : Option FieldType} {rm : Room} {As st : List Value} {o : Rho × Int32}
    (hM : ∀ {ad : Adr}, ad 11 0 = ob → 0 < σ.1.2.2 11 → vx_Met l y (.code y bs maxL ret :: gT) rm (va_Pc (.ref (ad 11 0) :: As) (zB D dA A s.heap.size (cx D dA A σ.1.1 σ.1.2.1 σ.1.2.2 ad (lx dA σ.2 ar)))) (va_Qi (fun r (w9 : Rho × Int32) => r = w9.2 ∧ (Sum.inl o : (Rho × Int32) ⊕ Nat) = .inl w9 ∧ True) (fun (w9 : Rho × Int32) t => cx D dA A w9.1 σ.1.2.1 σ.1.2.2 ad (lx dA σ.2 ar) t.heap) A) (vx_X (fun (u : Nat) => (Sum.inl o : (Rho × Int32) ⊕ Nat) = .inr u) (fun E u t => E = exn u ∧ cx D dA A σ.1.1 σ.1.2.1 σ.1.2.2 ad (lx dA σ.2 ar) t.heap) A) mc ms A)
    (h1 : Cond.methodLink own idx y ∈ gT) (h2 : Cond.instanceMethod y ∈ gT) (h3 : Cond.selects RX11 y y ∈ gT) (h4 : Cond.initialized RX11 ∈ gT) (h5 : Cond.code y bs maxL ret ∈ gT) (hd : y.cls = RX11 ∧ y.cls ≠ "java/lang/invoke/MethodHandle" ∧ y.cls ≠ "java/lang/invoke/VarHandle" ∧ (parseMethodDescriptor y.desc).map (fun d => d.parameters.length) = some nA) (hrm : rm.cells = mc ∧ rm.slots = ms ∧ rm.frames + 1 ≤ R.frames ∧ 8 + (maxL + 11) + rm.locals ≤ R.locals) (hn : As.length = nA) (hst : st = As.reverse ++ .ref ob :: rest) (hcat : (rest.map fun v => v.category).sum ≤ 8) (hdg : decode cc pc = .ok (.invokevirtual idx, 3)) (hf : cells + mc ≤ R.cells ∧ slots + ms ≤ R.slots)
    (k : zz p l e R s m args below meth c A (gw D dA A ((o.1, σ.1.2), σ.2) ob ar) (cells + mc) (slots + ms) Q (pc + 3) lo ll (.int o.2 :: rest)) : zz p l e R s m args below meth c A (gw D dA A σ ob ar) cells slots Q pc lo ll st :=
  l_call (S := Rho × Int32) (rr := fun w9 => w9.2) (pu := fun _ w9 => (Sum.inl o : (Rho × Int32) ⊕ Nat) = .inl w9 ∧ True) (px := fun u => (Sum.inl o : (Rho × Int32) ⊕ Nat) = .inr u) (G1 := fun ad w9 H => cx D dA A w9.1 σ.1.2.1 σ.1.2.2 ad (lx dA σ.2 ar) H) (GX := fun ad H => cx D dA A σ.1.1 σ.1.2.1 σ.1.2.2 ad (lx dA σ.2 ar) H) X hM (fun u h => nomatch h) (fun ad u ho h11 hp => by
    obtain rfl := Sum.inl.inj hp.1
    exact ⟨rfl, fun H hG => ⟨ad, ⟨ho, h11⟩, hG⟩⟩) h1 h2 h3 h4 h5 hd hrm hn hst hcat hdg hf k
theorem axt_ob {N : Cnt} {ad ad' : Adr} (h : axt N ad ad') (h11 : 0 < N 11) : ad' 11 0 = ad 11 0 := h 11 0 (ex_obj rfl h11) (by decide)
/-- a call that makes objects -/
theorem l_a (X : zc p l s m args meth c cc own D dA A) {y : MethodName} {bs : ByteArray} {maxL idx nA mc ms : Nat} {ret : Option FieldType} {rm : Room} {As st : List Value} {o : CW × Int32}
    (hM : ∀ {ad : Adr}, ad 11 0 = ob → 0 < σ.1.2.2 11 → vx_Met l y (.code y bs maxL ret :: gT) rm (va_Pc (.ref (ad 11 0) :: As) (zB D dA A s.heap.size (cx D dA A σ.1.1 σ.1.2.1 σ.1.2.2 ad (lx dA σ.2 ar)))) (va_Qi (fun r (w9 : (CW × Int32) × Adr) => r = w9.1.2 ∧ (Sum.inl o : (CW × Int32) ⊕ Nat) = .inl w9.1 ∧ axt σ.1.2.2 ad w9.2 ∧ (∀ k, σ.1.2.2 k ≤ w9.1.1.2.2 k)) (fun (w9 : (CW × Int32) × Adr) t => cx D dA A w9.1.1.1 w9.1.1.2.1 w9.1.1.2.2 w9.2 (lx dA σ.2 ar) t.heap) A) (vx_X (fun (u : Nat) => (Sum.inl o : (CW × Int32) ⊕ Nat) = .inr u) (fun E u t => E = exn u ∧ cx D dA A σ.1.1 σ.1.2.1 σ.1.2.2 ad (lx dA σ.2 ar) t.heap) A) mc ms A)
    (h1 : Cond.methodLink own idx y ∈ gT) (h2 : Cond.instanceMethod y ∈ gT) (h3 : Cond.selects RX11 y y ∈ gT) (h4 : Cond.initialized RX11 ∈ gT) (h5 : Cond.code y bs maxL ret ∈ gT) (hd : y.cls = RX11 ∧ y.cls ≠ "java/lang/invoke/MethodHandle" ∧ y.cls ≠ "java/lang/invoke/VarHandle" ∧ (parseMethodDescriptor y.desc).map (fun d => d.parameters.length) = some nA) (hrm : rm.cells = mc ∧ rm.slots = ms ∧ rm.frames + 1 ≤ R.frames ∧ 8 + (maxL + 11) + rm.locals ≤ R.locals) (hn : As.length = nA) (hst : st = As.reverse ++ .ref ob :: rest) (hcat : (rest.map fun v => v.category).sum ≤ 8) (hdg : decode cc pc = .ok (.invokevirtual idx, 3)) (hf : cells + mc ≤ R.cells ∧ slots + ms ≤ R.slots)
    (k : zz p l e R s m args below meth c A (gw D dA A (o.1, σ.2) ob ar) (cells + mc) (slots + ms) Q (pc + 3) lo ll (.int o.2 :: rest)) : zz p l e R s m args below meth c A (gw D dA A σ ob ar) cells slots Q pc lo ll st :=
  l_call (S := (CW × Int32) × Adr) (rr := fun w9 => w9.1.2) (pu := fun ad w9 => (Sum.inl o : (CW × Int32) ⊕ Nat) = .inl w9.1 ∧ axt σ.1.2.2 ad w9.2 ∧ (∀ k, σ.1.2.2 k ≤ w9.1.1.2.2 k)) (px := fun u => (Sum.inl o : (CW × Int32) ⊕ Nat) = .inr u) (G1 := fun _ w9 H => cx D dA A w9.1.1.1 w9.1.1.2.1 w9.1.1.2.2 w9.2 (lx dA σ.2 ar) H) (GX := fun ad H => cx D dA A σ.1.1 σ.1.2.1 σ.1.2.2 ad (lx dA σ.2 ar) H) X hM (fun u h => nomatch h) (fun ad u ho h11 hp => by
    obtain ⟨w, ad'⟩ := u
    obtain ⟨h1, h2, h3⟩ := hp
    obtain rfl := Sum.inl.inj h1
    exact ⟨rfl, fun H hG => ⟨ad', ⟨(axt_ob h2 h11).trans ho, Nat.lt_of_lt_of_le h11 (h3 11)⟩, hG⟩⟩) h1 h2 h3 h4 h5 hd hrm hn hst hcat hdg hf k
end GW
