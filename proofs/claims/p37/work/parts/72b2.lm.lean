/-! a question that throws nothing -/
section LM
variable {p : Program} {l : Launch} {e : Env} {R : Room} {s : State} {m : MethodId} {args : Array Value} {below : List Frame} {meth : Method} {c : Code} {A : Nat → Prop} {cells slots : Nat} {Q : State → Prop}
variable {cc : ByteArray} {own : String} {D : va_G} {dA : Nat → ClassId} {pc : Nat} {lo : List (Nat × Value)} {ll : List (Nat × Int64)} {rest : List Value} {σ : GS} {ob : Nat} {ar : Nat → Nat}
theorem l_m (X : zc p l s m args meth c cc own D dA A) {y : MethodName} {bs : ByteArray} {maxL idx nA mc ms : Nat} {ret : Option FieldType} {rm : Room} {As st : List Value} {r0 : Int32}
    (hM : ∀ {ad : Adr}, ad 11 0 = ob → 0 < σ.1.2.2 11 → Met l y (.code y bs maxL ret :: gT) rm (va_Pc (.ref (ad 11 0) :: As) (zB D dA A s.heap.size (cx D dA A σ.1.1 σ.1.2.1 σ.1.2.2 ad (lx dA σ.2 ar)))) (va_Qi (fun r (_ : Unit) => r = r0 ∧ True) (fun (_ : Unit) t => cx D dA A σ.1.1 σ.1.2.1 σ.1.2.2 ad (lx dA σ.2 ar) t.heap) A) mc ms A)
    (h1 : Cond.methodLink own idx y ∈ gT) (h2 : Cond.instanceMethod y ∈ gT) (h3 : Cond.selects RX11 y y ∈ gT) (h4 : Cond.initialized RX11 ∈ gT) (h5 : Cond.code y bs maxL ret ∈ gT) (hd : y.cls = RX11 ∧ y.cls ≠ "java/lang/invoke/MethodHandle" ∧ y.cls ≠ "java/lang/invoke/VarHandle" ∧ (parseMethodDescriptor y.desc).map (fun d => d.parameters.length) = some nA) (hrm : rm.cells = mc ∧ rm.slots = ms ∧ rm.frames + 1 ≤ R.frames ∧ 8 + (maxL + 11) + rm.locals ≤ R.locals) (hn : As.length = nA) (hst : st = As.reverse ++ .ref ob :: rest) (hcat : (rest.map fun v => v.category).sum ≤ 8) (hdg : decode cc pc = .ok (.invokevirtual idx, 3)) (hf : cells + mc ≤ R.cells ∧ slots + ms ≤ R.slots)
    (k : zz p l e R s m args below meth c A (gw D dA A σ ob ar) (cells + mc) (slots + ms) Q (pc + 3) lo ll (.int r0 :: rest)) : zz p l e R s m args below meth c A (gw D dA A σ ob ar) cells slots Q pc lo ll st := by
  refine zz.ex (G' := fun ad H => (ad 11 0 = ob ∧ 0 < σ.1.2.2 11) ∧ cx D dA A σ.1.1 σ.1.2.1 σ.1.2.2 ad (lx dA σ.2 ar) H) (fun ad => ?_)
  refine zz.pre (fun H hG => hG.1) (fun hoh => ?_)
  refine zz.conseq (fun H hG => hG.2) ?_
  obtain ⟨rfl, h11⟩ := hoh
  exact z_callVi (As := As) (rest := rest) (S := Unit) (r0 := r0) (pu := fun _ => True) (G1 := fun _ => cx D dA A σ.1.1 σ.1.2.1 σ.1.2.2 ad (lx dA σ.2 ar)) X (hM rfl h11) h1 h2 h3 h4 h5 hd hrm hn (fun _ hG => cx_recv X (k := 11) (n := 9) rfl rfl h11 hG) hst hcat hdg hf (fun _ _ => zz.conseq (fun H hG => ⟨ad, ⟨rfl, h11⟩, hG⟩) k)
end LM
