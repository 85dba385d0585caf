section
variable {p : Program} {l : Launch} {e : Env} {R : Room} {s : State} {m : MethodId} {args : Array Value} {below : List Frame} {meth : Method} {c : Code} {H : Heap} {locs : List Loc} {cells slots : Nat} {Q : State → Prop}
variable {mc ms : Nat} {free : Addr → Prop} {A0 A1 : Nat → Prop} {H0 : Heap} {a : Array Value} {pc : Nat} {ls : Array Slot} {st0 rest : List Value}
theorem vx_callq {S SX : Type} {post : Option Nat → S → Prop} {px : SX → Prop} {B : S → State → Prop} {BX : String → SX → State → Prop} {AX : Nat → Prop} (hr : vx_Run p l e R s m args below meth c H locs cells slots mc ms (F0 m pc ls st0) rest (va_Qq post B A1 a) (vx_X px BX AX) free) (hS : va_S A0 H0 H locs) (hA : ∀ q, q < H.size → A1 q → A0 q) (hf : ∀ q, free q → A0 q) (hAX : ∀ q, q < H.size → AX q → A0 q)
    (kx : ∀ (E : String) (ce : Cell) (q9 : Addr) (u : SX) (t : State) (H1 : Heap) (locs1 : List Loc), t.heap = H1 → s.vm.Alike t.vm → px u → BX E u t → H.size ≤ H1.size → (∀ q : Nat, q < H.size → ¬ AX q → H1[q]? = H[q]?) → va_S A0 H0 H1 locs1 → H1[q9]? = some ce → ce.vm = .none → s.vm.findClass E = some ce.cls → vx_W p l e R s m args below meth c H1 locs1 (cells + mc) (slots + ms) Q (F0 m pc ls rest) q9)
    (kk : ∀ (r : Option Nat) (u : S) (t : State) (H1 : Heap) (locs1 : List Loc), t.heap = H1 → s.vm.Alike t.vm → post r u → B u t → H.size ≤ H1.size → (∀ q : Nat, q < H.size → ¬ A1 q → H1[q]? = H[q]?) → va_S A0 H0 H1 locs1 → W p l e R s m args below meth c H1 locs1 (cells + mc) (slots + ms) Q (F0 m (pc + 3) ls (va_rf r :: rest))) : W p l e R s m args below meth c H locs cells slots Q (F0 m pc ls st0) := by
  intro T hT X
  rcases hr T hT X with ⟨v, st₀, t, T', L, h0, X', hL, e1, e2, ⟨⟨r, u, hv, hp, hb⟩, hF⟩, st⟩ | ⟨q, st₀, t, T', L, E, ce, h0, X', hL, e1, e2, ⟨u, hp, hb, hF⟩, hce, hcv, hcl, st⟩
  · cases hv
    obtain ⟨k1, k2, k3⟩ := vx_keep h0 e1 hS hA hf hL hF
    obtain ⟨t2, a1, b1⟩ := kk r u t T'.heap (locs ++ L) e1.symm (by rw [← e2]; exact X'.warmed.alike) hp hb k1 k2 k3 T' rfl X'
    exact ⟨t2, st t2 a1, b1⟩
  · obtain ⟨k1, k2, k3⟩ := vx_keep h0 e1 hS hAX hf hL hF
    obtain ⟨t2, a1, b1⟩ := kx E ce q u t T'.heap (locs ++ L) e1.symm (by rw [← e2]; exact X'.warmed.alike) hp hb k1 k2 k3 (by rw [e1]; exact hce) hcv hcl T' rfl X'
    exact ⟨t2, st.trans a1, b1⟩
end
/-! METHODS THAT THROW, in zz's words -/
def exn (k : Nat) : String := ["", "java/lang/IndexOutOfBoundsException", "java/lang/IllegalArgumentException", "java/lang/IllegalStateException"].getD k ""
section ZX
variable {p : Program} {l : Launch} {e : Env} {R : Room} {s : State} {m : MethodId} {args : Array Value} {below : List Frame} {meth : Method} {c : Code} {A : Nat → Prop} {G : Heap → Prop} {cells slots : Nat} {Q : State → Prop}
variable {cc : ByteArray} {own : String} {D : va_G} {dA : Nat → ClassId} {pc : Nat} {lo : List (Nat × Value)} {ll : List (Nat × Int64)} {rest : List Value}
theorem zx_ret {Qc : Array Value → State → Outcome → State → Prop} {XC : String → State → State → Prop} {mc ms : Nat} {st : List Value} (k : zz p l e R s m args below meth c A G cells slots (MQ below Qc args s mc ms A) pc lo ll st) : zz p l e R s m args below meth c A G cells slots (vx_MQ below Qc XC args s mc ms A) pc lo ll st :=
  fun H locs ls hG hS hl hc => vx_ret (k H locs ls hG hS hl hc)
theorem z_hat {L : List Cond} (h : L.all (fun w => decide (w ∈ lw_tbl) && (goodWord w || (w.onTables && w.faceAtom))) = true) (X : zc p l s m args meth c cc own D dA A) : ∀ w ∈ L, w.before args s = true := by
  intro w hw
  have h1 := List.all_eq_true.mp h w hw
  simp only [Bool.and_eq_true, Bool.or_eq_true, decide_eq_true_eq] at h1
  obtain ⟨h2, h3 | h3⟩ := h1
  · exact X.2.2.2.1 w (gT_in h2 h3)
  · exact va_tabs h3.1 rfl (X.2.2.2.2.2.2.2.1.2.2.2.2.1 w (List.mem_filter.mpr ⟨h2, by simp [h3.1, h3.2]⟩))
theorem z_throwS {Qc : Array Value → State → Outcome → State → Prop} {XC : String → State → State → Prop} {mc ms ik is ic k : Nat} {text : String} (X : zc p l s m args meth c cc "MeshBiller" D dA A) (hnil : ∀ x ∈ c.exceptionTable.toList, False) (hgrow : ∀ H H1 : Heap, G H → H.size ≤ H1.size → (∀ q : Nat, q < H.size → H1[q]? = H[q]?) → G H1)
    (hcls : Bundle.fit (exn k) = true) (hk : Cond.classLink "MeshBiller" ik (exn k) ∈ gT) (hini : Cond.initialized (exn k) ∈ gT) (hat : (vx_atS "MeshBiller" ic (exn k) ["java/lang/RuntimeException", "java/lang/Exception"]).all (fun w => decide (w ∈ lw_tbl) && (goodWord w || (w.onTables && w.faceAtom))) = true) (hstr : (is, text) ∈ zstrs)
    (d0 : decode cc pc = .ok (.new ik, 3)) (d3 : decode cc (pc + 3) = .ok (.dup, 1)) (d4 : decode cc (pc + 4) = .ok (.ldc is, 2)) (d6 : decode cc (pc + 6) = .ok (.invokespecial ic, 3)) (d9 : decode cc (pc + 9) = .ok (.athrow, 1))
    (hR : 5 < R.frames ∧ (rest.map fun v => v.category).sum + 82 ≤ R.locals ∧ cells + 1 ≤ R.cells ∧ slots + 6 ≤ R.slots) (hx : ∀ t : State, G t.heap → va_F A s t → XC (exn k) s t) (hc : cells + 1 ≤ mc) (hs : slots + 6 ≤ ms) :
    zz p l e R s m args below meth c A G cells slots (vx_MQ below Qc XC args s mc ms A) pc lo ll rest := by
  intro H locs ls hG hS hl hc1
  obtain ⟨sa, hsa⟩ := X.2.2.2.2.2.2.2.1.2.2.1 _ hstr
  refine vx_throwS (own := "MeshBiller") (cls := exn k) (names := ["java/lang/RuntimeException", "java/lang/Exception"]) (A := A) X.1 X.2.1 X.2.2.2.2.2.2.2.2 X.2.2.1 hcls (by decide) (X.2.2.2.1 _ hk) (X.2.2.2.1 _ hini) hsa (z_hat hat X) ?_ X.2.2.2.2.2.2.2.1.1 X.2.2.2.2.2.2.2.1.2.1 hS hl.1 d0 d3 d4 d6 d9 (fun x hx => (hnil x hx).elim) (by simpa using hR.1) (by simpa using hR.2.1) hR.2.2.1 hR.2.2.2 X.2.2.2.2.1 (fun t _ h1 h2 => hx t (hgrow _ _ hG h1 h2) ⟨Nat.le_trans hS.1 h1, fun q a b => (h2 q (Nat.lt_of_lt_of_le a hS.1)).trans (hS.2.1 q a b)⟩) hS.2.2 hc hs
  intro w hw
  rcases List.mem_cons.mp hw with rfl | hw
  · rfl
  · rcases List.mem_cons.mp hw with rfl | hw
    · rfl
    · have h1 := List.all_eq_true.mp hat w hw
      simp only [Bool.and_eq_true, Bool.or_eq_true] at h1
      unfold vx_ot
      rcases h1.2 with h3 | h3
      · rw [h3]; simp
      · rw [h3.1]; rfl
theorem z_throwSW {Qc : Array Value → State → Outcome → State → Prop} {XC : String → State → State → Prop} {mc ms ik is ic k : Nat} {text : String} (X : zc p l s m args meth c cc "MeshBiller" D dA A) (hnil : ∀ x ∈ c.exceptionTable.toList, False) (hgrow : ∀ H H1 : Heap, G H → H.size ≤ H1.size → (∀ q : Nat, q < H.size → H1[q]? = H[q]?) → G H1)
    (hcls : Bundle.fit (exn k) = true) (hk : Cond.classLink "MeshBiller" ik (exn k) ∈ gT) (hini : Cond.initialized (exn k) ∈ gT) (hat : (vx_atS "MeshBiller" ic (exn k) ["java/lang/RuntimeException", "java/lang/Exception"]).all (fun w => decide (w ∈ lw_tbl) && (goodWord w || (w.onTables && w.faceAtom))) = true) (hstr : (is, text) ∈ zstrs)
    (d0 : decode cc pc = .ok (.new ik, 3)) (d3 : decode cc (pc + 3) = .ok (.dup, 1)) (d4 : decode cc (pc + 4) = .ok (.ldc_w is, 3)) (d6 : decode cc (pc + 7) = .ok (.invokespecial ic, 3)) (d9 : decode cc (pc + 10) = .ok (.athrow, 1))
    (hR : 5 < R.frames ∧ (rest.map fun v => v.category).sum + 82 ≤ R.locals ∧ cells + 1 ≤ R.cells ∧ slots + 6 ≤ R.slots) (hx : ∀ t : State, G t.heap → va_F A s t → XC (exn k) s t) (hc : cells + 1 ≤ mc) (hs : slots + 6 ≤ ms) :
    zz p l e R s m args below meth c A G cells slots (vx_MQ below Qc XC args s mc ms A) pc lo ll rest := by
  intro H locs ls hG hS hl hc1
  obtain ⟨sa, hsa⟩ := X.2.2.2.2.2.2.2.1.2.2.1 _ hstr
  refine vx_throwSW (own := "MeshBiller") (cls := exn k) (names := ["java/lang/RuntimeException", "java/lang/Exception"]) (A := A) X.1 X.2.1 X.2.2.2.2.2.2.2.2 X.2.2.1 hcls (by decide) (X.2.2.2.1 _ hk) (X.2.2.2.1 _ hini) hsa (z_hat hat X) ?_ X.2.2.2.2.2.2.2.1.1 X.2.2.2.2.2.2.2.1.2.1 hS hl.1 d0 d3 d4 d6 d9 (fun x hx => (hnil x hx).elim) (by simpa using hR.1) (by simpa using hR.2.1) hR.2.2.1 hR.2.2.2 X.2.2.2.2.1 (fun t _ h1 h2 => hx t (hgrow _ _ hG h1 h2) ⟨Nat.le_trans hS.1 h1, fun q a b => (h2 q (Nat.lt_of_lt_of_le a hS.1)).trans (hS.2.1 q a b)⟩) hS.2.2 hc hs
  intro w hw
  rcases List.mem_cons.mp hw with rfl | hw
  · rfl
  · rcases List.mem_cons.mp hw with rfl | hw
    · rfl
    · have h1 := List.all_eq_true.mp hat w hw
      simp only [Bool.and_eq_true, Bool.or_eq_true] at h1
      unfold vx_ot
      rcases h1.2 with h3 | h3
      · rw [h3]; simp
      · rw [h3.1]; rfl
theorem zx_met {y : MethodName} {maxL : Nat} {ret : Option FieldType} {rm : Room} {av : List Value} {n mc ms : Nat} {Qc : Array Value → State → Outcome → State → Prop} {XC : String → State → State → Prop} (hy : plainName y.cls = true) (hA : ∀ q, n ≤ q → A q) (hst : l.stackTraces = false) (hav : (lg_sl av).length ≤ maxL) (hc1 : av.all (fun v => v.category == 1) = true) {lo : List (Nat × Value)} (hlo : lv_args 0 av = lo)
    (k : ∀ (p : Program) (e : Env) (s : State) (m : MethodId) (below : List Frame) (meth : Method) (c : Code), zc p l s m av.toArray meth c cc y.cls D dA A → c.maxLocals = maxL → meth.sig.returnType = ret → (∀ x ∈ c.exceptionTable.toList, False) → zz p l e rm s m av.toArray below meth c A G 0 0 (vx_MQ below Qc XC av.toArray s mc ms A) 0 lo [] []) :
    vx_Met l y (.code y cc maxL ret :: gT) rm (va_Pc av (zB D dA A n G)) Qc XC mc ms A := by
  refine vx_ofW hy rfl ?_
  intro p e s m args below meth c s₁ B hml hnil hv
  obtain ⟨rfl, hsz, hK, hSt, hG⟩ := hv
  have hts := atoms_spec (ws := .code y cc maxL ret :: gT) B.pre
  have X : zc p l s m av.toArray meth c cc y.cls D dA A := ⟨B.exec, B.bytes, findClass_of_methodNamed B.named, fun w hw => hts w (List.mem_cons_of_mem _ hw), B.notSynchronized, hK, fun q h => hA q (Nat.le_trans hsz h), hSt, hst⟩
  have hk := k p e s m below meth c X hml B.returns hnil
  have hl := lv_entry av (n := maxL) hav
  rw [lg_entry_eq]
  refine hk s.heap [] _ hG va_S.rf ?_ ?_
  · rw [hml, ← hlo]
    simpa using hl
  · rw [← hlo]
    intro q hq
    have key : ∀ (vs : List Value) (i : Nat) (q : Nat × Value), q ∈ lv_args i vs → q.2 ∈ vs := by
      intro vs
      induction vs with
      | nil => intro i q h; cases h
      | cons v t ih =>
        intro i q h
        rcases List.mem_cons.mp h with rfl | h
        · exact List.mem_cons_self
        · exact List.mem_cons_of_mem _ (ih _ q h)
    exact beq_iff_eq.mp (List.all_eq_true.mp hc1 _ (key av 0 q hq))
theorem z_xVi (X : zc p l s m args meth c cc own D dA A) (hnil : ∀ x ∈ c.exceptionTable.toList, False) {y : MethodName} {b : ByteArray} {maxL idx nA mc ms MC MS : Nat} {C : String} {ret : Option FieldType} {rm : Room} {a : Nat} {As st : List Value} {Qc : Array Value → State → Outcome → State → Prop} {XC : String → State → State → Prop} {px : Nat → Prop} {GX : Heap → Prop} {S : Type} {r0 : S → Int32} {pu : S → Prop} {G1 : S → Heap → Prop} (hM : vx_Met l y (.code y b maxL ret :: gT) rm (va_Pc (.ref a :: As) (zB D dA A s.heap.size G)) (va_Qi (fun r u => r = r0 u ∧ pu u) (fun u t => G1 u t.heap) A) (vx_X px (fun E u t => E = exn u ∧ GX t.heap) A) mc ms A) (h1 : Cond.methodLink own idx y ∈ gT) (h2 : Cond.instanceMethod y ∈ gT) (h3 : Cond.selects C y y ∈ gT) (h4 : Cond.initialized C ∈ gT) (h5 : Cond.code y b maxL ret ∈ gT) (hd : y.cls = C ∧ y.cls ≠ "java/lang/invoke/MethodHandle" ∧ y.cls ≠ "java/lang/invoke/VarHandle" ∧ (parseMethodDescriptor y.desc).map (fun d => d.parameters.length) = some nA) (hrm : rm.cells = mc ∧ rm.slots = ms ∧ rm.frames + 1 ≤ R.frames ∧ 8 + (maxL + 11) + rm.locals ≤ R.locals) (hn : As.length = nA) (hrec : ∀ H, G H → ∃ cell : Cell, H[a]? = some cell ∧ cell.vm.isStatics = false ∧ s.vm.findClass C = some cell.cls) (hst : st = As.reverse ++ .ref a :: rest) (hcat : (rest.map fun v => v.category).sum ≤ 8) (hdg : decode cc pc = .ok (.invokevirtual idx, 3)) (hf : cells + mc ≤ R.cells ∧ slots + ms ≤ R.slots) (hM2 : cells + mc ≤ MC ∧ slots + ms ≤ MS)
    (kx : ∀ u, px u → ∀ t : State, GX t.heap → va_F A s t → XC (exn u) s t)
    (k : ∀ u, pu u → zz p l e R s m args below meth c A (G1 u) (cells + mc) (slots + ms) (vx_MQ below Qc XC args s MC MS A) (pc + 3) lo ll (.int (r0 u) :: rest)) : zz p l e R s m args below meth c A G cells slots (vx_MQ below Qc XC args s MC MS A) pc lo ll st := by
  subst hst
  intro H locs ls hG hS hl hc
  refine vx_calli (AX := A) (vx_runV (As := As) (rest := rest) ⟨X.1, X.2.1, rfl, X.2.2.1, X.2.2.2.1⟩ hM (cwV nA X.2.2.2.1 (z_gV (x := .tt) h1 h2 h3 h4 h5) rfl hrm.1 hrm.2.1 hd hrm.2.2) ⟨zB_blind, hrec H hG, fun U hU hW => ⟨rfl, zB_at X hG hS U hU hW⟩⟩ rfl hn hl.1 rfl (lv_room hcat) hdg hf) hS (fun _ _ h => h) (fun _ h => h) (fun _ _ h => h) ?_ (fun r u t H1 locs1 ht _ hp hB _ _ hS1 => by obtain ⟨rfl, hp⟩ := hp; exact k u hp H1 locs1 ls (by rw [← ht]; exact hB) hS1 hl hc)
  intro E ce q9 u t H1 locs1 ht _ hp hB hz hk hS1 hcell hv hcl
  obtain ⟨rfl, hGX⟩ := hB
  refine vx_out (fun x hx => (hnil x hx).elim) X.2.2.2.2.1 hcell hv hcl (fun t2 ht2 _ => kx u hp t2 (by rw [ht2, ← ht]; exact hGX) ⟨?_, fun q a b => ?_⟩) hS1.2.2 hM2.1 hM2.2
  · rw [ht2]; exact hS1.1
  · rw [ht2]; exact hS1.2.1 q a b
theorem z_xVq (X : zc p l s m args meth c cc own D dA A) (hnil : ∀ x ∈ c.exceptionTable.toList, False) {y : MethodName} {b : ByteArray} {maxL idx nA mc ms MC MS : Nat} {C : String} {ret : Option FieldType} {rm : Room} {a : Nat} {As st : List Value} {Qc : Array Value → State → Outcome → State → Prop} {XC : String → State → State → Prop} {px : Nat → Prop} {GX : Heap → Prop} {S : Type} {r0 : S → Option Nat} {pu : S → Prop} {G1 : S → Heap → Prop} (hM : vx_Met l y (.code y b maxL ret :: gT) rm (va_Pc (.ref a :: As) (zB D dA A s.heap.size G)) (va_Qq (fun r u => r = r0 u ∧ pu u) (fun u t => G1 u t.heap) A) (vx_X px (fun E u t => E = exn u ∧ GX t.heap) A) mc ms A) (h1 : Cond.methodLink own idx y ∈ gT) (h2 : Cond.instanceMethod y ∈ gT) (h3 : Cond.selects C y y ∈ gT) (h4 : Cond.initialized C ∈ gT) (h5 : Cond.code y b maxL ret ∈ gT) (hd : y.cls = C ∧ y.cls ≠ "java/lang/invoke/MethodHandle" ∧ y.cls ≠ "java/lang/invoke/VarHandle" ∧ (parseMethodDescriptor y.desc).map (fun d => d.parameters.length) = some nA) (hrm : rm.cells = mc ∧ rm.slots = ms ∧ rm.frames + 1 ≤ R.frames ∧ 8 + (maxL + 11) + rm.locals ≤ R.locals) (hn : As.length = nA) (hrec : ∀ H, G H → ∃ cell : Cell, H[a]? = some cell ∧ cell.vm.isStatics = false ∧ s.vm.findClass C = some cell.cls) (hst : st = As.reverse ++ .ref a :: rest) (hcat : (rest.map fun v => v.category).sum ≤ 8) (hdg : decode cc pc = .ok (.invokevirtual idx, 3)) (hf : cells + mc ≤ R.cells ∧ slots + ms ≤ R.slots) (hM2 : cells + mc ≤ MC ∧ slots + ms ≤ MS)
    (kx : ∀ u, px u → ∀ t : State, GX t.heap → va_F A s t → XC (exn u) s t)
    (k : ∀ u, pu u → zz p l e R s m args below meth c A (G1 u) (cells + mc) (slots + ms) (vx_MQ below Qc XC args s MC MS A) (pc + 3) lo ll (va_rf (r0 u) :: rest)) : zz p l e R s m args below meth c A G cells slots (vx_MQ below Qc XC args s MC MS A) pc lo ll st := by
  subst hst
  intro H locs ls hG hS hl hc
  refine vx_callq (AX := A) (vx_runV (As := As) (rest := rest) ⟨X.1, X.2.1, rfl, X.2.2.1, X.2.2.2.1⟩ hM (cwV nA X.2.2.2.1 (z_gV (x := .tt) h1 h2 h3 h4 h5) rfl hrm.1 hrm.2.1 hd hrm.2.2) ⟨zB_blind, hrec H hG, fun U hU hW => ⟨rfl, zB_at X hG hS U hU hW⟩⟩ rfl hn hl.1 rfl (lv_room hcat) hdg hf) hS (fun _ _ h => h) (fun _ h => h) (fun _ _ h => h) ?_ (fun r u t H1 locs1 ht _ hp hB _ _ hS1 => by obtain ⟨rfl, hp⟩ := hp; exact k u hp H1 locs1 ls (by rw [← ht]; exact hB) hS1 hl hc)
  intro E ce q9 u t H1 locs1 ht _ hp hB hz hk hS1 hcell hv hcl
  obtain ⟨rfl, hGX⟩ := hB
  refine vx_out (fun x hx => (hnil x hx).elim) X.2.2.2.2.1 hcell hv hcl (fun t2 ht2 _ => kx u hp t2 (by rw [ht2, ← ht]; exact hGX) ⟨?_, fun q a b => ?_⟩) hS1.2.2 hM2.1 hM2.2
  · rw [ht2]; exact hS1.1
  · rw [ht2]; exact hS1.2.1 q a b
end ZX
theorem cx_grow {D : va_G} {dA : Nat → ClassId} {A : Nat → Prop} {V : Rho} {L : Lst} {N : Cnt} {ad : Adr} {xs : va_W} : ∀ H H1 : Heap, cx D dA A V L N ad xs H → H.size ≤ H1.size → (∀ q : Nat, q < H.size → H1[q]? = H[q]?) → cx D dA A V L N ad xs H1 := by
  intro H H1 h _ h2
  have hx := h.2.2.2.2.2.2.2.2.2
  exact h.kept h.2.2.2.2.1 (fun k i hl => h2 _ (h.lt hl)) ⟨hx.1.kept (fun j q hj => h2 _ (hx.1 j q hj).lt), hx.2⟩
