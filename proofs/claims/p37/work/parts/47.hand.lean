/-! THE LAW'S STATIC METHODS: a table of handlers, and what is caught -/
theorem g_328 : Cond.castable (exn 1) (exn 1) ∈ gF := List.mem_filter.mpr ⟨List.mem_append_right _ (List.mem_of_getElem? (show tables_1[323]? = some (Cond.castable (exn 1) (exn 1)) by decide +kernel)), by decide +kernel⟩
theorem g_399 : Cond.castable (exn 2) (exn 2) ∈ gF := List.mem_filter.mpr ⟨List.mem_append_right _ (List.mem_of_getElem? (show tables_1[401]? = some (Cond.castable (exn 2) (exn 2)) by decide +kernel)), by decide +kernel⟩
theorem g_419 : Cond.castable (exn 3) (exn 3) ∈ gF := List.mem_filter.mpr ⟨List.mem_append_right _ (List.mem_of_getElem? (show tables_1[417]? = some (Cond.castable (exn 3) (exn 3)) by decide +kernel)), by decide +kernel⟩
/-- none of the three is one of the other two -/
def zNc (U : State) : Prop := ∀ a b, 1 ≤ a → a ≤ 3 → 2 ≤ b → b ≤ 3 → a ≠ b → va_Nc (exn a) (exn b) U
theorem zNc.moved {u U : State} (hvm : u.vm.Alike U.vm) (h : zNc u) : zNc U := fun a b h1 h2 h3 h4 h5 => va_Nc.moved hvm (h a b h1 h2 h3 h4 h5)
def zBN (D : va_G) (dA : Nat → ClassId) (A : Nat → Prop) (n : Nat) (G : Heap → Prop) (U : State) : Prop := zB D dA A n G U ∧ zNc U
/-- the handlers: of which exception, where from, its index in the pool, where the covered part ends -/
def hdT (HL : List (Nat × Nat × Nat × Nat)) : List (Nat × Nat × Nat × Nat) := HL.map (fun z => (0, z.2.2.2, z.2.1, z.2.2.1))
section LW
variable {p : Program} {l : Launch} {e : Env} {R : Room} {s : State} {m : MethodId} {args : Array Value} {below : List Frame} {meth : Method} {c : Code} {A : Nat → Prop} {G : Heap → Prop} {cells slots : Nat} {Q : State → Prop}
variable {cc : ByteArray} {own : String} {D : va_G} {dA : Nat → ClassId} {pc : Nat} {lo : List (Nat × Value)} {ll : List (Nat × Int64)} {rest : List Value} {V : Rho} {L : Lst} {N : Cnt} {ad : Adr} {xs : va_W}
theorem zBN_blind {av : List Value} {n : Nat} : FrameBlind (va_Pc av (zBN D dA A n G)) := by
  intro a U g mk h
  obtain ⟨h0, h1, h2⟩ := h
  have h3 := (zB_blind (D := D) (dA := dA) (A := A) (G := G) (av := av) (n := n)) a U g mk ⟨h0, h1⟩
  exact ⟨h3.1, h3.2, zNc.moved (u := U) (U := U.calling g mk a) (Vm.Alike.refl U.vm) h2⟩
theorem z_metH {y : MethodName} {maxL : Nat} {ret : Option FieldType} {hh : List (Nat × Nat × Nat × Nat)} {rm : Room} {av : List Value} {n mc ms : Nat} {Qc : Array Value → State → Outcome → State → Prop} {XC : String → State → State → Prop} (hy : plainName y.cls = true) (hA : ∀ q, n ≤ q → A q) (hst : l.stackTraces = false) (hav : (lg_sl av).length ≤ maxL) (hc1 : av.all (fun v => v.category == 1) = true) {lo : List (Nat × Value)} (hlo : lv_args 0 av = lo)
    (k : ∀ (p : Program) (e : Env) (s : State) (m : MethodId) (below : List Frame) (meth : Method) (c : Code), zc p l s m av.toArray meth c cc y.cls D dA A → zNc s → c.maxLocals = maxL → meth.sig.returnType = ret → c.exceptionTable.toList.map (fun h => (h.startPc, h.endPc, h.handlerPc, h.catchType)) = hh → zz p l e rm s m av.toArray below meth c A G 0 0 (MQ below Qc av.toArray s mc ms A) 0 lo [] []) :
    vx_Met l y (.codeWith y cc maxL ret hh :: gT) rm (va_Pc av (zBN D dA A n G)) Qc XC mc ms A := by
  refine vx_ofWH hy rfl ?_
  intro p e s m args below meth c s₁ B hml hv
  obtain ⟨rfl, ⟨hsz, hK, hSt, hG⟩, hNc⟩ := hv
  have hts := atoms_spec (ws := .codeWith y cc maxL ret hh :: gT) B.pre
  have hx : c.exceptionTable.toList.map (fun h => (h.startPc, h.endPc, h.handlerPc, h.catchType)) = hh := by
    obtain ⟨m9, meth9, c9, h0, h1, h2, -, -, h5, -⟩ := Cond.codeWith_spec (hts _ List.mem_cons_self)
    cases h0.symm.trans B.named
    cases Option.some.inj (h1.symm.trans B.method)
    cases Option.some.inj (h2.symm.trans (Stand.of_body B).code)
    exact h5
  have X : zc p l s m av.toArray meth c cc y.cls D dA A := ⟨B.exec, B.bytes, findClass_of_methodNamed B.named, fun w hw => hts w (List.mem_cons_of_mem _ hw), B.notSynchronized, hK, fun q h => hA q (Nat.le_trans hsz h), hSt, hst⟩
  have hk := k p e s m below meth c X hNc hml B.returns hx
  have hl := lv_entry av (n := maxL) hav
  rw [lg_entry_eq]
  refine vx_ret (hk s.heap [] _ hG va_S.rf ?_ ?_)
  · rw [hml, ← hlo]
    simpa using hl
  · rw [← hlo]
    intro q hq
    have key : ∀ (vs : List Value) (i : Nat) (q : Nat × Value), q ∈ lv_args i vs → q.2 ∈ vs := by
      intro vs
      induction vs with
      | nil => intro i q h; cases h
      | cons v t ih =>
        intro i q h
        rcases List.mem_cons.mp h with rfl | h
        · exact List.mem_cons_self
        · exact List.mem_cons_of_mem _ (ih _ q h)
    exact beq_iff_eq.mp (List.all_eq_true.mp hc1 _ (key av 0 q hq))
theorem exn_cast (X : zc p l s m args meth c cc own D dA A) {k : Nat} (h1 : 1 ≤ k) (h2 : k ≤ 3) : (Cond.castable (exn k) (exn k)).before args s = true := by
  have h : Cond.castable (exn k) (exn k) ∈ gF := by
    rcases (show k = 1 ∨ k = 2 ∨ k = 3 by omega) with rfl | rfl | rfl
    · exact g_328
    · exact g_399
    · exact g_419
  have h9 := (List.mem_filter.mp h).2
  simp only [Bool.and_eq_true] at h9
  exact va_tabs h9.1 rfl (X.2.2.2.2.2.2.2.1.2.2.2.2.1 _ h)
/-- a call that may throw, of which all is caught -/
theorem z_xVc (X : zc p l s m args meth c cc own D dA A) (hNc : zNc s) (HL : List (Nat × Nat × Nat × Nat)) (hh : c.exceptionTable.toList.map (fun h => (h.startPc, h.endPc, h.handlerPc, h.catchType)) = hdT HL) (hcov : HL.all (fun z => decide (pc < z.2.2.2) && decide (2 ≤ z.1) && decide (z.1 ≤ 3) && decide (z.2.2.1 ≠ 0)) = true) (hln : ∀ z ∈ HL, Cond.classLink own z.2.2.1 (exn z.1) ∈ gT) {y : MethodName} {b : ByteArray} {maxL idx nA mc ms : Nat} {C : String} {ret : Option FieldType} {rm : Room} {a : Nat} {As st : List Value} {px : Nat → Prop} {GX : Heap → Prop} {S : Type} {r0 : S → Int32} {pu : S → Prop} {G1 : S → Heap → Prop} (hM : vx_Met l y (.code y b maxL ret :: gT) rm (va_Pc (.ref a :: As) (zB D dA A s.heap.size G)) (va_Qi (fun r u => r = r0 u ∧ pu u) (fun u t => G1 u t.heap) A) (vx_X px (fun E u t => E = exn u ∧ GX t.heap) A) mc ms A) (h1 : Cond.methodLink own idx y ∈ gT) (h2 : Cond.instanceMethod y ∈ gT) (h3 : Cond.selects C y y ∈ gT) (h4 : Cond.initialized C ∈ gT) (h5 : Cond.code y b maxL ret ∈ gT) (hd : y.cls = C ∧ y.cls ≠ "java/lang/invoke/MethodHandle" ∧ y.cls ≠ "java/lang/invoke/VarHandle" ∧ (parseMethodDescriptor y.desc).map (fun d => d.parameters.length) = some nA) (hrm : rm.cells = mc ∧ rm.slots = ms ∧ rm.frames + 1 ≤ R.frames ∧ 8 + (maxL + 11) + rm.locals ≤ R.locals) (hn : As.length = nA) (hrec : ∀ H, G H → ∃ cell : Cell, H[a]? = some cell ∧ cell.vm.isStatics = false ∧ s.vm.findClass C = some cell.cls) (hst : st = As.reverse ++ .ref a :: rest) (hcat : (rest.map fun v => v.category).sum ≤ 8) (hdg : decode cc pc = .ok (.invokevirtual idx, 3)) (hf : cells + mc ≤ R.cells ∧ slots + ms ≤ R.slots)
    (kx : ∀ u, px u → ∃ pre hpc ct en suf, HL = pre ++ (u, hpc, ct, en) :: suf ∧ (∀ z ∈ pre, z.1 ≠ u) ∧ ∀ q9 : Nat, zz p l e R s m args below meth c A GX (cells + mc) (slots + ms) Q hpc lo ll [.ref q9])
    (k : ∀ u, pu u → zz p l e R s m args below meth c A (G1 u) (cells + mc) (slots + ms) Q (pc + 3) lo ll (.int (r0 u) :: rest)) : zz p l e R s m args below meth c A G cells slots Q pc lo ll st := by
  subst hst
  intro H locs ls hG hS hl hc
  refine vx_calli (AX := A) (vx_runV (As := As) (rest := rest) ⟨X.1, X.2.1, rfl, X.2.2.1, X.2.2.2.1⟩ hM (cwV nA X.2.2.2.1 (z_gV (x := .tt) h1 h2 h3 h4 h5) rfl hrm.1 hrm.2.1 hd hrm.2.2) ⟨zB_blind, hrec H hG, fun U hU hW => ⟨rfl, zB_at X hG hS U hU hW⟩⟩ rfl hn hl.1 rfl (lv_room hcat) hdg hf) hS (fun _ _ h => h) (fun _ h => h) (fun _ _ h => h) ?_ (fun r u t H1 locs1 ht _ hp hB _ _ hS1 => by obtain ⟨rfl, hp⟩ := hp; exact k u hp H1 locs1 ls (by rw [← ht]; exact hB) hS1 hl hc)
  intro E ce q9 u t H1 locs1 ht _ hp hB hz hk hS1 hcell hv hcl
  obtain ⟨rfl, hGX⟩ := hB
  obtain ⟨pre, hpc, ct, en, suf, eHL, hpre, hgo⟩ := kx u hp
  have fact : ∀ z ∈ HL, pc < z.2.2.2 ∧ 2 ≤ z.1 ∧ z.1 ≤ 3 ∧ z.2.2.1 ≠ 0 := by
    intro z hz
    have := List.all_eq_true.mp hcov z hz
    simp only [Bool.and_eq_true, decide_eq_true_eq] at this
    exact ⟨this.1.1.1, this.1.1.2, this.1.2, this.2⟩
  have e9 : c.exceptionTable.toList.map (fun h => (h.startPc, h.endPc, h.handlerPc, h.catchType)) = hdT pre ++ (0, en, hpc, ct) :: hdT suf := by
    rw [hh, eHL]
    simp [hdT]
  obtain ⟨l1, l2, e1, e2, e3⟩ := List.map_eq_append_iff.mp e9
  obtain ⟨x, l3, e4, e5, e6⟩ := List.map_eq_cons_iff.mp e3
  subst e4
  have fx := fact (u, hpc, ct, en) (by rw [eHL]; simp)
  simp only [Prod.mk.injEq] at e5
  obtain ⟨x1, x2, x3, x4⟩ := e5
  refine vx_catch (name := exn u) X.2.2.1 l1 x l3 e1 (fun z hz => ?_) ?_ (by rw [x4]; exact fx.2.2.2) (by rw [x4]; exact X.2.2.2.1 _ (hln (u, hpc, ct, en) (by rw [eHL]; simp))) (exn_cast X (Nat.le_trans (by decide) fx.2.1) fx.2.2.1) hcell hv hcl ?_
  · have hz2 : (z.startPc, z.endPc, z.handlerPc, z.catchType) ∈ hdT pre := by
      rw [← e2]
      exact List.mem_map.mpr ⟨z, hz, rfl⟩
    obtain ⟨w, hw, ew⟩ := List.mem_map.mp hz2
    simp only [Prod.mk.injEq] at ew
    have hwH : w ∈ HL := by rw [eHL]; exact List.mem_append_left _ hw
    have fw := fact w hwH
    refine Or.inr ⟨by rw [← ew.2.2.2]; exact fw.2.2.2, exn w.1, by rw [← ew.2.2.2]; exact X.2.2.2.1 _ (hln w hwH), hNc u w.1 (Nat.le_trans (by decide) fx.2.1) fx.2.2.1 fw.2.1 fw.2.2.1 (fun q => hpre w hw q.symm)⟩
  · unfold covers
    rw [x1, x2]
    have := fx.1
    simp only [decide_eq_true_eq, Bool.and_eq_true]
    first | exact ⟨Nat.zero_le _, this⟩ | simpa using this
  · rw [x3]
    exact hgo q9 H1 locs1 ls (by rw [← ht]; exact hGX) hS1 hl hc
end LW
