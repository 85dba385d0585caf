/-! STRINGBUILDER in open worlds: rows, and the smallest members -/
theorem g_1284 : Cond.methodLink RJ0 1059 yJ3_checkIndex_8e157 ∈ gT := gT_t 1082 (by decide +kernel) rfl
theorem g_594 : Cond.fieldLink RJ5 18 "java/lang/String" "COMPACT_STRINGS" "Z" ∈ gT := gT_t 984 (by decide +kernel) rfl
theorem g_603 : Cond.fieldLink RJ5 15 "java/lang/AbstractStringBuilder" "value" "[B" ∈ gT := gT_t 993 (by decide +kernel) rfl
theorem g_604 : Cond.fieldLink RJ5 22 "java/lang/AbstractStringBuilder" "coder" "B" ∈ gT := gT_t 994 (by decide +kernel) rfl
theorem g_636 : Cond.methodLink RJ5 114 yJ8_newLength_cabcc ∈ gT := gT_t 1020 (by decide +kernel) rfl
theorem g_637 : Jvm.Cond.constant RJ5 39 2147483647 ∈ gT := gT_t 1021 (by decide +kernel) rfl
theorem g_665 : Cond.fieldLink RJ0 1053 "jdk/internal/util/Preconditions" "SIOOBE_FORMATTER" "Ljava/util/function/BiFunction;" ∈ gT := gT_t 1059 (by decide +kernel) rfl
theorem rj4_ws : ∀ w ∈ u_ws RJ4 TJ4 4, w ∈ gT := fun w h => gT_in ((show ∀ w ∈ u_ws RJ4 TJ4 4, w ∈ lw_tbl by decide +kernel) w h) ((show ∀ w ∈ u_ws RJ4 TJ4 4, goodWord w = true by decide +kernel) w h)
theorem g_393 : Cond.arrayClass .byte ∈ gT := gT_t 389 (by decide +kernel) rfl
theorem g_586 : Cond.instantiable RJ4 4 ∈ gT := gT_t 976 (by decide +kernel) rfl
section SB
variable {p : Program} {l : Launch} {e : Env} {R : Room} {s : State} {m : MethodId} {args : Array Value} {below : List Frame} {meth : Method} {c : Code} {A : Nat → Prop} {G : Heap → Prop} {cells slots : Nat} {Q : State → Prop}
variable {cc : ByteArray} {own : String} {D : va_G} {dA : Nat → ClassId} {pc : Nat} {lo lo' : List (Nat × Value)} {ll : List (Nat × Int64)} {rest : List Value} {zs : va_W} {K : Heap → Prop}
theorem z_ineg (X : zc p l s m args meth c cc own D dA A) {x : Int32} (hdg : decode cc pc = .ok (.ineg, 1)) (k : zz p l e R s m args below meth c A G cells slots Q (pc + 1) lo ll (.int (-x) :: rest)) : zz p l e R s m args below meth c A G cells slots Q pc lo ll (.int x :: rest) :=
  fun H locs ls hG hS hl hc => lv_ineg X.1 X.2.1 hdg (k H locs ls hG hS hl hc)
theorem z_i2c (X : zc p l s m args meth c cc own D dA A) {x v : Int32} (hv : (x.toUInt32 % 65536).toInt32 = v) (hdg : decode cc pc = .ok (.i2c, 1)) (k : zz p l e R s m args below meth c A G cells slots Q (pc + 1) lo ll (.int v :: rest)) : zz p l e R s m args below meth c A G cells slots Q pc lo ll (.int x :: rest) :=
  fun H locs ls hG hS hl hc => lv_i2c X.1 X.2.1 hdg hv (k H locs ls hG hS hl hc)
theorem w_alenB (X : zc p l s m args meth c cc own D dA A) (q0 : Nat) {a n : Nat} {f : Nat → Int32} {v : Int32} (hx : zs[q0]? = some (a, .inl (dA 6, n, .inl f))) (hn : nI n = v) (hdg : decode cc pc = .ok (.arraylength, 1))
    (kk : zz p l e R s m args below meth c A (zw D A zs K) cells slots Q (pc + 1) lo ll (.int v :: rest)) : zz p l e R s m args below meth c A (zw D A zs K) cells slots Q pc lo ll (.ref a :: rest) :=
  fun H locs ls hG hS hl hc => va_alen X.1 X.2.1 X.2.2.2.2.2.1 hG.1 q0 6 hx rfl hn hdg (kk H locs ls hG hS hl hc)
theorem w_bald (X : zc p l s m args meth c cc own D dA A) (q0 : Nat) {a n : Nat} {f : Nat → Int32} {i o : Int32} (hx : zs[q0]? = some (a, .inl (dA 6, n, .inl f))) (hi : vp_in i n) (ho : f i.toNatClampNeg = o) (hdg : decode cc pc = .ok (.baload, 1))
    (kk : zz p l e R s m args below meth c A (zw D A zs K) cells slots Q (pc + 1) lo ll (.int o :: rest)) : zz p l e R s m args below meth c A (zw D A zs K) cells slots Q pc lo ll (.int i :: .ref a :: rest) := by
  subst ho
  exact fun H locs ls hG hS hl hc => va_bald X.1 X.2.1 X.2.2.2.2.2.1 hG.1 q0 6 hx rfl hi hdg (kk H locs ls hG hS hl hc)
theorem w_bast (hf : kf A K) (X : zc p l s m args meth c cc own D dA A) (q0 : Nat) {a n : Nat} {f : Nat → Int32} {i x y : Int32} {zs' : va_W} (hx : zs[q0]? = some (a, .inl (dA 6, n, .inl f))) (hi : vp_in i n) (hy : vp_nar .byte x = y) (he : zs.set q0 (a, .inl (dA 6, n, .inl (upd f i.toNatClampNeg y))) = zs') (hdg : decode cc pc = .ok (.bastore, 1))
    (kk : zz p l e R s m args below meth c A (zw D A zs' K) cells slots Q (pc + 1) lo ll rest) : zz p l e R s m args below meth c A (zw D A zs K) cells slots Q pc lo ll (.int x :: .int i :: .ref a :: rest) := by
  subst he hy
  intro H locs ls hG hS hl hc
  exact va_bast X.1 X.2.1 X.2.2.2.2.2.1 hG.1 hG.2.1 hS q0 6 hx rfl hi hdg (fun H1 locs1 h1 h2 h3 => kk H1 locs1 ls ⟨h1, h2, hf.go X hS h3 hG.2.2⟩ h3 hl hc)
theorem w_newB (hf : kf A K) (X : zc p l s m args meth c cc own D dA A) {N' : Nat} {n : Int32} (hn : ¬ n < 0) (hN : n.toNatClampNeg = N') (hb : N' * componentBytes .byte ≤ 536870912) (hcs : cells + 1 ≤ R.cells ∧ slots + N' ≤ R.slots) (hdg : decode cc pc = .ok (.newarray .byte, 2))
    (kk : ∀ q : Nat, zz p l e R s m args below meth c A (zw D A (zs ++ [(q, .inl (dA 6, N', .inl (fun _ => 0)))]) K) (cells + 1) (slots + N') Q (pc + 2) lo ll (.ref q :: rest)) : zz p l e R s m args below meth c A (zw D A zs K) cells slots Q pc lo ll (.int n :: rest) := by
  intro H locs ls hG hS hl hc
  refine va_newa (atype := .byte) (ty := .byte) (a0 := (N', .inl (fun _ => 0))) X.1 X.2.1 (X.2.2.2.1 _ g_393) rfl X.2.2.2.2.2.1 hG.1 hG.2.1 hS X.2.2.2.2.2.2.1 (fun _ => rfl) hn hN hb hcs.1 hcs.2 hdg fun q cA H1 hK h1 h2 h3 => ?_
  have e1 := (hK.2 8 (cA, .byte) rfl).2
  have e2 := (X.2.2.2.2.2.1.2 6 (dA 6, .byte) rfl).2
  cases e1.symm.trans e2
  exact kk q H1 locs ls ⟨h1, h2, hf.go X hS h3 hG.2.2⟩ h3 hl hc
theorem w_copyB (hf : kf A K) (X : zc p l s m args meth c cc own D dA A) (q0 q1 : Nat) {a0 a n0 n1 idx : Nat} {f g : Nat → Int32} {sp dp n : Int32} {zs' : va_W} (h1 : Cond.methodLink own idx arraycopyName ∈ gT) (h2 : Cond.native arraycopyName ∈ gT) (h3 : Cond.static arraycopyName ∈ gT) (h4 : Cond.initialized "java/lang/System" ∈ gT) (hx : zs[q0]? = some (a0, .inl (dA 6, n0, .inl f))) (hy : zs[q1]? = some (a, .inl (dA 6, n1, .inl g))) (i1 : ¬ sp < 0) (i2 : ¬ dp < 0) (i3 : ¬ n < 0) (i4 : sp.toNatClampNeg + n.toNatClampNeg ≤ n0) (i5 : dp.toNatClampNeg + n.toNatClampNeg ≤ n1) (hfit : sb_Fit f) (hfr : 1 ≤ R.frames) (hlo : (rest.map fun v => v.category).sum + (nativeFrameWords "java/lang/System" "arraycopy" 5 + 11) ≤ R.locals) (he : zs.set q1 (a, .inl (dA 6, n1, .inl (va_cpy f g sp.toNatClampNeg dp.toNatClampNeg n.toNatClampNeg))) = zs') (hdg : decode cc pc = .ok (.invokestatic idx, 3))
    (kk : zz p l e R s m args below meth c A (zw D A zs' K) cells slots Q (pc + 3) lo ll rest) : zz p l e R s m args below meth c A (zw D A zs K) cells slots Q pc lo ll (.int n :: .int dp :: .ref a :: .int sp :: .ref a0 :: rest) := by
  subst he
  intro H locs ls hG hS hl hc
  exact va_copyi X.1 X.2.1 hl.1.symm X.2.2.1 (X.2.2.2.1 _ h1) (X.2.2.2.1 _ h2) (X.2.2.2.1 _ h3) (X.2.2.2.1 _ h4) X.2.2.2.2.2.1 hG.1 hG.2.1 hS q0 q1 6 6 hx hy rfl rfl rfl i1 i2 i3 i4 i5 (fun i _ => hfit _) hfr hlo hdg (fun H1 locs1 h1 h2 h3 => kk H1 locs1 ls ⟨h1, h2, hf.go X hS h3 hG.2.2⟩ h3 hl hc)
theorem z_compact (X : zc p l s m args meth c cc own D dA A) {idx : Nat} (hw : Cond.fieldLink own idx "java/lang/String" "COMPACT_STRINGS" "Z" ∈ gT) (hdg : decode cc pc = .ok (.getstatic idx, 3)) (k : zz p l e R s m args below meth c A G cells slots Q (pc + 3) lo ll (.int 1 :: rest)) : zz p l e R s m args below meth c A G cells slots Q pc lo ll rest :=
  fun H locs ls hG hS hl hc => va_gets (C := "java/lang/String") X.1 X.2.1 X.2.2.2.2.2.2.2.1.2.2.2.2.2.2.2.1.1 hS X.2.2.1 (X.2.2.2.1 _ hw) (fun _ h => h) hdg (k H locs ls hG hS hl hc)
theorem z_onesS (X : zc p l s m args meth c cc own D dA A) {idx : Nat} (hw : Cond.fieldLink own idx "java/lang/Integer" "DigitOnes" "[B" ∈ gT) (hdg : decode cc pc = .ok (.getstatic idx, 3)) (k : zz p l e R s m args below meth c A G cells slots Q (pc + 3) lo ll (.ref (dA 97) :: rest)) : zz p l e R s m args below meth c A G cells slots Q pc lo ll rest :=
  fun H locs ls hG hS hl hc => va_gets (C := "java/lang/Integer") X.1 X.2.1 X.2.2.2.2.2.2.2.1.2.2.2.2.2.2.2.2.1 hS X.2.2.1 (X.2.2.2.1 _ hw) (fun _ h => h) hdg (k H locs ls hG hS hl hc)
theorem z_tensS (X : zc p l s m args meth c cc own D dA A) {idx : Nat} (hw : Cond.fieldLink own idx "java/lang/Integer" "DigitTens" "[B" ∈ gT) (hdg : decode cc pc = .ok (.getstatic idx, 3)) (k : zz p l e R s m args below meth c A G cells slots Q (pc + 3) lo ll (.ref (dA 96) :: rest)) : zz p l e R s m args below meth c A G cells slots Q pc lo ll rest :=
  fun H locs ls hG hS hl hc => va_gets (C := "java/lang/Integer") X.1 X.2.1 X.2.2.2.2.2.2.2.1.2.2.2.2.2.2.2.2.2.2.1 hS X.2.2.1 (X.2.2.2.1 _ hw) (fun _ h => h) hdg (k H locs ls hG hS hl hc)
theorem z_ones (X : zc p l s m args meth c cc own D dA A) {w : Nat} (hw : w < 100) (hdg : decode cc pc = .ok (.baload, 1)) (k : zz p l e R s m args below meth c A G cells slots Q (pc + 1) lo ll (.int (nI (48 + w % 10)) :: rest)) : zz p l e R s m args below meth c A G cells slots Q pc lo ll (.int (nI w) :: .ref (dA 97) :: rest) :=
  fun H locs ls hG hS hl hc => va_tb X.1 X.2.1 X.2.2.2.2.2.2.2.1.2.2.2.2.2.2.2.2.2.1 hS (vp_in_nI hw (by decide)) (by rw [nI_clamp (by omega)]) hdg (k H locs ls hG hS hl hc)
theorem z_tens (X : zc p l s m args meth c cc own D dA A) {w : Nat} (hw : w < 100) (hdg : decode cc pc = .ok (.baload, 1)) (k : zz p l e R s m args below meth c A G cells slots Q (pc + 1) lo ll (.int (nI (48 + w / 10)) :: rest)) : zz p l e R s m args below meth c A G cells slots Q pc lo ll (.int (nI w) :: .ref (dA 96) :: rest) :=
  fun H locs ls hG hS hl hc => va_tb X.1 X.2.1 X.2.2.2.2.2.2.2.1.2.2.2.2.2.2.2.2.2.2.2.1 hS (vp_in_nI hw (by decide)) (by rw [nI_clamp (by omega)]) hdg (k H locs ls hG hS hl hc)
theorem z_sioobe (X : zc p l s m args meth c cc own D dA A) {idx : Nat} (hw : Cond.fieldLink own idx "jdk/internal/util/Preconditions" "SIOOBE_FORMATTER" "Ljava/util/function/BiFunction;" ∈ gT) (hdg : decode cc pc = .ok (.getstatic idx, 3)) (k : ∀ o : Option Nat, zz p l e R s m args below meth c A G cells slots Q (pc + 3) lo ll (va_rf o :: rest)) : zz p l e R s m args below meth c A G cells slots Q pc lo ll rest := by
  intro H locs ls hG hS hl hc
  rcases X.2.2.2.2.2.2.2.1.2.2.2.2.2.2.2.1.2.1 with h | ⟨t, h⟩
  · exact va_gets (C := "jdk/internal/util/Preconditions") X.1 X.2.1 h hS X.2.2.1 (X.2.2.2.1 _ hw) (fun _ h => h) hdg (k none H locs ls hG hS hl hc)
  · exact va_gets (C := "jdk/internal/util/Preconditions") X.1 X.2.1 h hS X.2.2.1 (X.2.2.2.1 _ hw) (fun _ h => h) hdg (k (some t) H locs ls hG hS hl hc)
/-- a private method is what its name selects, whatever the receiver's class -/
theorem z_selP {y : MethodName} {C : String} {n : Nat} (hy : y.cls ≠ "java/lang/invoke/MethodHandle" ∧ y.cls ≠ "java/lang/invoke/VarHandle") (h1 : (Cond.instantiable C n).before args s = true) (h2 : (Cond.privateMethod y).before args s = true) (h3 : (Cond.instanceMethod y).before args s = true) (h4 : (Cond.sameMethod y.cls y.cls y.name y.desc).before args s = true) : (Cond.selects C y y).before args s = true := by
  obtain ⟨c, k, hc, hk, -, hniab, -, -⟩ := Cond.instantiable_spec h1
  obtain ⟨mk, methM, hnamed, hmethM, -, -⟩ := Cond.instanceMethod_spec h3
  have hfound : s.methodFound? y.cls y.name y.desc = some mk := State.methodFound?_of_named hnamed hy
  obtain ⟨c2, ck, r2, hc2, hck, hni, -, -⟩ := Cond.sameMethod_found h4
  have hcls : mk.cls = c2 := Option.some.inj ((findClass_of_methodNamed hnamed).symm.trans hc2)
  have hsel : selectMethod {} s.vm c mk = .method mk := selectMethod_private hmethM (Cond.privateMethod_at h2 mk methM hnamed hmethM)
  simp only [Cond.before, Cond.holds, Cond.value, hc, hfound, hnamed, hsel, hcls, hck]
  simp; exact hni
theorem z_callPi (X : zc p l s m args meth c cc own D dA A) {y : MethodName} {b : ByteArray} {maxL idx nA mc ms : Nat} {C : String} {ret : Option FieldType} {rm : Room} {a : Nat} {As st : List Value} {S : Type} {r0 : Int32} {pu : S → Prop} {G1 : S → Heap → Prop} (hM : Met l y (.code y b maxL ret :: gT) rm (va_Pc (.ref a :: As) (zB D dA A s.heap.size G)) (va_Qi (fun r u => r = r0 ∧ pu u) (fun u t => G1 u t.heap) A) mc ms A) (h1 : Cond.methodLink own idx y ∈ gT) (h2 : Cond.instanceMethod y ∈ gT) (h3 : (Cond.selects C y y).before args s = true) (h4 : Cond.initialized y.cls ∈ gT) (h5 : Cond.code y b maxL ret ∈ gT) (hd : y.cls ≠ "java/lang/invoke/MethodHandle" ∧ y.cls ≠ "java/lang/invoke/VarHandle" ∧ (parseMethodDescriptor y.desc).map (fun d => d.parameters.length) = some nA) (hrm : rm.cells = mc ∧ rm.slots = ms ∧ rm.frames + 1 ≤ R.frames ∧ 8 + (maxL + 11) + rm.locals ≤ R.locals) (hn : As.length = nA) (hrec : ∀ H, G H → ∃ cell : Cell, H[a]? = some cell ∧ cell.vm.isStatics = false ∧ s.vm.findClass C = some cell.cls) (hst : st = As.reverse ++ .ref a :: rest) (hcat : (rest.map fun v => v.category).sum ≤ 8) (hdg : decode cc pc = .ok (.invokevirtual idx, 3)) (hf : cells + mc ≤ R.cells ∧ slots + ms ≤ R.slots)
    (k : ∀ u, pu u → zz p l e R s m args below meth c A (G1 u) (cells + mc) (slots + ms) Q (pc + 3) lo ll (.int r0 :: rest)) : zz p l e R s m args below meth c A G cells slots Q pc lo ll st := by
  subst hst
  intro H locs ls hG hS hl hc
  exact va_calli (va_runV (As := As) (rest := rest) ⟨X.1, X.2.1, rfl, X.2.2.1, X.2.2.2.1⟩ hM ⟨callB_of nA X.2.2.2.1 (z_gC h5) rfl hrm.1 hrm.2.1 (X.2.2.2.1 _ h4) (X.2.2.2.1 _ h1) hd hrm.2.2, X.2.2.2.1 _ h2, h3⟩ ⟨zB_blind, hrec H hG, fun U hU hW => ⟨rfl, zB_at X hG hS U hU hW⟩⟩ rfl hn hl.1 rfl (lv_room hcat) hdg hf) hS (fun _ _ h => h) (fun _ h => h) (fun r u t H1 locs1 ht _ hp hB _ _ hS1 => by obtain ⟨rfl, hp⟩ := hp; exact k u hp H1 locs1 ls (by rw [← ht]; exact hB) hS1 hl hc)
theorem z_callPv (X : zc p l s m args meth c cc own D dA A) {y : MethodName} {b : ByteArray} {maxL idx nA mc ms : Nat} {C : String} {ret : Option FieldType} {rm : Room} {a : Nat} {As st : List Value} {S : Type} {pu : S → Prop} {G1 : S → Heap → Prop} (hM : Met l y (.code y b maxL ret :: gT) rm (va_Pc (.ref a :: As) (zB D dA A s.heap.size G)) (va_Qv pu (fun u t => G1 u t.heap) A) mc ms A) (h1 : Cond.methodLink own idx y ∈ gT) (h2 : Cond.instanceMethod y ∈ gT) (h3 : (Cond.selects C y y).before args s = true) (h4 : Cond.initialized y.cls ∈ gT) (h5 : Cond.code y b maxL ret ∈ gT) (hd : y.cls ≠ "java/lang/invoke/MethodHandle" ∧ y.cls ≠ "java/lang/invoke/VarHandle" ∧ (parseMethodDescriptor y.desc).map (fun d => d.parameters.length) = some nA) (hrm : rm.cells = mc ∧ rm.slots = ms ∧ rm.frames + 1 ≤ R.frames ∧ 8 + (maxL + 11) + rm.locals ≤ R.locals) (hn : As.length = nA) (hrec : ∀ H, G H → ∃ cell : Cell, H[a]? = some cell ∧ cell.vm.isStatics = false ∧ s.vm.findClass C = some cell.cls) (hst : st = As.reverse ++ .ref a :: rest) (hcat : (rest.map fun v => v.category).sum ≤ 8) (hdg : decode cc pc = .ok (.invokevirtual idx, 3)) (hf : cells + mc ≤ R.cells ∧ slots + ms ≤ R.slots)
    (k : ∀ u, pu u → zz p l e R s m args below meth c A (G1 u) (cells + mc) (slots + ms) Q (pc + 3) lo ll rest) : zz p l e R s m args below meth c A G cells slots Q pc lo ll st := by
  subst hst
  intro H locs ls hG hS hl hc
  exact va_callv (va_runV (As := As) (rest := rest) ⟨X.1, X.2.1, rfl, X.2.2.1, X.2.2.2.1⟩ hM ⟨callB_of nA X.2.2.2.1 (z_gC h5) rfl hrm.1 hrm.2.1 (X.2.2.2.1 _ h4) (X.2.2.2.1 _ h1) hd hrm.2.2, X.2.2.2.1 _ h2, h3⟩ ⟨zB_blind, hrec H hG, fun U hU hW => ⟨rfl, zB_at X hG hS U hU hW⟩⟩ rfl hn hl.1 rfl (lv_room hcat) hdg hf) hS (fun _ _ h => h) (fun _ h => h) (fun u t H1 locs1 ht _ hp hB _ _ hS1 => k u hp H1 locs1 ls (by rw [← ht]; exact hB) hS1 hl hc)
theorem z_cS (X : zc p l s m args meth c cc own D dA A) {y : MethodName} {b : ByteArray} {maxL idx nA mc ms : Nat} {ret : Option FieldType} {rm : Room} (h1 : Cond.methodLink own idx y ∈ gT) (h2 : Cond.instanceMethod y ∈ gT) (h3 : (Cond.sameMethod y.cls y.cls y.name y.desc).before args s = true) (h6 : (Cond.superclass own y.cls).before args s = true) (h4 : Cond.initialized y.cls ∈ gT) (h5 : Cond.code y b maxL ret ∈ gT) (hno : y.name ≠ "<init>") (hd : y.cls ≠ "java/lang/invoke/MethodHandle" ∧ y.cls ≠ "java/lang/invoke/VarHandle" ∧ (parseMethodDescriptor y.desc).map (fun d => d.parameters.length) = some nA) (hrm : rm.cells = mc ∧ rm.slots = ms ∧ rm.frames + 1 ≤ R.frames ∧ 8 + (maxL + 11) + rm.locals ≤ R.locals) : va_CS R s args own idx y b maxL ret (.code y b maxL ret :: gT) rm mc ms nA := by
  obtain ⟨a1, a2, a3, a4, a5, a6, a7, a8, -, a10, a11⟩ := callB_of (own := own) (index := idx) (y := y) (bytes := b) (maxL := maxL) (ret := ret) (rm := rm) (R := R) nA X.2.2.2.1 (z_gC h5) rfl hrm.1 hrm.2.1 (X.2.2.2.1 _ h4) (X.2.2.2.1 _ h1) hd hrm.2.2
  exact ⟨⟨a1, a2, a3, a4, a5, a6⟩, a11, h3, h6, X.2.2.2.1 _ h2, a8, a7, hno, a10⟩
theorem z_at4 (X : zc p l s m args meth c cc own D dA A) : ClassAt s RJ4 (D.1 1) := (X.2.2.2.2.2.1.1 1 (RJ4, TJ4, 4) rfl).2
theorem z_callUi (X : zc p l s m args meth c cc own D dA A) {y : MethodName} {b : ByteArray} {maxL idx nA mc ms : Nat} {ret : Option FieldType} {rm : Room} {a : Nat} {As st : List Value} {S : Type} {r0 : Int32} {pu : S → Prop} {G1 : S → Heap → Prop} (hM : Met l y (.code y b maxL ret :: gT) rm (va_Pc (.ref a :: As) (zB D dA A s.heap.size G)) (va_Qi (fun r u => r = r0 ∧ pu u) (fun u t => G1 u t.heap) A) mc ms A) (cw : va_CS R s args own idx y b maxL ret (.code y b maxL ret :: gT) rm mc ms nA) (hn : As.length = nA) (hrec : ∀ H, G H → ∃ cell : Cell, H[a]? = some cell ∧ cell.vm.isStatics = false ∧ s.vm.findClass RJ4 = some cell.cls) (hst : st = As.reverse ++ .ref a :: rest) (hcat : (rest.map fun v => v.category).sum ≤ 8) (hdg : decode cc pc = .ok (.invokespecial idx, 3)) (hf : cells + mc ≤ R.cells ∧ slots + ms ≤ R.slots)
    (k : ∀ u, pu u → zz p l e R s m args below meth c A (G1 u) (cells + mc) (slots + ms) Q (pc + 3) lo ll (.int r0 :: rest)) : zz p l e R s m args below meth c A G cells slots Q pc lo ll st := by
  subst hst
  intro H locs ls hG hS hl hc
  exact va_calli (va_runSU (As := As) (rest := rest) (z_at4 X) ⟨X.1, X.2.1, rfl, X.2.2.1, X.2.2.2.1⟩ hM cw ⟨zB_blind, hrec H hG, fun U hU hW => ⟨rfl, zB_at X hG hS U hU hW⟩⟩ rfl hn hl.1 rfl (lv_room hcat) hdg hf) hS (fun _ _ h => h) (fun _ h => h) (fun r u t H1 locs1 ht _ hp hB _ _ hS1 => by obtain ⟨rfl, hp⟩ := hp; exact k u hp H1 locs1 ls (by rw [← ht]; exact hB) hS1 hl hc)
theorem z_callUq (X : zc p l s m args meth c cc own D dA A) {y : MethodName} {b : ByteArray} {maxL idx nA mc ms : Nat} {ret : Option FieldType} {rm : Room} {a : Nat} {As st : List Value} {S : Type} {ro : S → Option Nat} {pu : S → Prop} {G1 : S → Heap → Prop} (hM : Met l y (.code y b maxL ret :: gT) rm (va_Pc (.ref a :: As) (zB D dA A s.heap.size G)) (va_Qq (fun r u => r = ro u ∧ pu u) (fun u t => G1 u t.heap) A) mc ms A) (cw : va_CS R s args own idx y b maxL ret (.code y b maxL ret :: gT) rm mc ms nA) (hn : As.length = nA) (hrec : ∀ H, G H → ∃ cell : Cell, H[a]? = some cell ∧ cell.vm.isStatics = false ∧ s.vm.findClass RJ4 = some cell.cls) (hst : st = As.reverse ++ .ref a :: rest) (hcat : (rest.map fun v => v.category).sum ≤ 8) (hdg : decode cc pc = .ok (.invokespecial idx, 3)) (hf : cells + mc ≤ R.cells ∧ slots + ms ≤ R.slots)
    (k : ∀ u, pu u → zz p l e R s m args below meth c A (G1 u) (cells + mc) (slots + ms) Q (pc + 3) lo ll (va_rf (ro u) :: rest)) : zz p l e R s m args below meth c A G cells slots Q pc lo ll st := by
  subst hst
  intro H locs ls hG hS hl hc
  exact va_callq (va_runSU (As := As) (rest := rest) (z_at4 X) ⟨X.1, X.2.1, rfl, X.2.2.1, X.2.2.2.1⟩ hM cw ⟨zB_blind, hrec H hG, fun U hU hW => ⟨rfl, zB_at X hG hS U hU hW⟩⟩ rfl hn hl.1 rfl (lv_room hcat) hdg hf) hS (fun _ _ h => h) (fun _ h => h) (fun r u t H1 locs1 ht _ hp hB _ _ hS1 => by obtain ⟨rfl, hp⟩ := hp; exact k u hp H1 locs1 ls (by rw [← ht]; exact hB) hS1 hl hc)
end SB
/-- the cells of a builder: its bytes, itself -/
def sbz (dA : Nat → ClassId) (b m : Nat) (f : Nat → Int32) (q n : Nat) : va_W := [(b, .inl (dA 6, m, .inl f)), (q, .inr (1, [.ref b, .int 0, .int 0, .int (nI n)]))]
def sbK : Heap → Prop := fun _ => True
theorem kf_sbK {A : Nat → Prop} : kf A sbK := fun _ _ _ _ => trivial
theorem sb_recv {p : Program} {l : Launch} {s : State} {m : MethodId} {args : Array Value} {meth : Method} {c : Code} {A : Nat → Prop} {cc : ByteArray} {own : String} {D : va_G} {dA : Nat → ClassId} (X : zc p l s m args meth c cc own D dA A) {b k : Nat} {f : Nat → Int32} {q n : Nat} : ∀ H, zw D A (sbz dA b k f q n) sbK H → ∃ cell : Cell, H[q]? = some cell ∧ cell.vm.isStatics = false ∧ s.vm.findClass RJ4 = some cell.cls :=
  fun _ hG => va_recv (q := (RJ4, TJ4, 4)) (ci := 1) (q0 := 1) X.2.2.2.2.2.1 hG.1 rfl rfl
section SM
variable {l : Launch} {D : va_G} {dA : Nat → ClassId} {A : Nat → Prop} {n : Nat}
theorem sb_isL (hst : l.stackTraces = false) (hA : ∀ q, n ≤ q → A q) {b m : Nat} {f : Nat → Int32} {q k : Nat} : Met l yJ5_isLatin1_aae02 (.code yJ5_isLatin1_aae02 cJ5_isLatin1_aae02 1 (some .boolean) :: gT) ({ frames := 1, cells := 0, slots := 0, locals := 42 } : Room) (va_Pc [.ref q] (zB D dA A n (zw D A (sbz dA b m f q k) sbK))) (va_Qi (fun r (_ : Unit) => r = 1 ∧ True) (fun (_ : Unit) t => zw D A (sbz dA b m f q k) sbK t.heap) A) 0 0 A :=
  z_met (by decide) hA hst (Nat.le_of_ble_eq_true rfl) rfl rfl (fun p e s m below meth c X hml hr _ => by
    refine z_compact X g_594 dJ5_isLatin1_aae02_0 ?_
    refine z_if_eq (tgt := 17) X dJ5_isLatin1_aae02_3 (by decide) (fun q => absurd q (by decide)) (fun _ => ?_)
    refine z_aload_n X dJ5_isLatin1_aae02_6 rfl rfl ?_
    refine w_get X 1 1 rj4_ws rfl rfl rfl g_604 (Or.inl rfl) rfl dJ5_isLatin1_aae02_7 ?_
    refine z_if_ne (tgt := 17) X dJ5_isLatin1_aae02_10 (by decide) (fun _ => ?_) (fun q => absurd rfl q)
    refine z_iconst (v := 1) X dJ5_isLatin1_aae02_13 (by decide) ?_
    refine z_goto (tgt := 18) X dJ5_isLatin1_aae02_14 (by decide) ?_
    exact z_iret X hr rfl (fun t hG hF _ => ⟨⟨_, (), rfl, ⟨rfl, trivial⟩, hG⟩, hF⟩) dJ5_isLatin1_aae02_18)
theorem sb_enc (hst : l.stackTraces = false) (hA : ∀ q, n ≤ q → A q) {G : Heap → Prop} {x : Int32} (hx : ¬ 255 < x) : Met l yJ1_canEncode_fc78d (.code yJ1_canEncode_fc78d cJ1_canEncode_fc78d 1 (some .boolean) :: gT) ({ frames := 1, cells := 0, slots := 0, locals := 42 } : Room) (va_Pc [.int x] (zB D dA A n G)) (va_Qi (fun r (_ : Unit) => r = 1 ∧ True) (fun (_ : Unit) t => G t.heap) A) 0 0 A :=
  z_met (by decide) hA hst (Nat.le_of_ble_eq_true rfl) rfl rfl (fun p e s m below meth c X hml hr _ => by
    refine z_iload_n X dJ1_canEncode_fc78d_0 rfl rfl ?_
    refine z_sipush (v := 255) X dJ1_canEncode_fc78d_1 (by decide) ?_
    refine z_icmp_gt (tgt := 11) X dJ1_canEncode_fc78d_4 (by decide) (fun q => absurd q hx) (fun _ => ?_)
    refine z_iconst (v := 1) X dJ1_canEncode_fc78d_7 (by decide) ?_
    refine z_goto (tgt := 12) X dJ1_canEncode_fc78d_8 (by decide) ?_
    exact z_iret X hr rfl (fun t hG hF _ => ⟨⟨_, (), rfl, ⟨rfl, trivial⟩, hG⟩, hF⟩) dJ1_canEncode_fc78d_12)
theorem sb_grow1 : ∀ k, k < 35 → 16 < k → nI 16 + (if nI k - nI 16 < nI 16 + 2 <<< ((0 : Int32) &&& 31) then nI 16 + 2 <<< ((0 : Int32) &&& 31) else nI k - nI 16) = nI 34 := by decide +kernel
theorem sb_cap2 (hst : l.stackTraces = false) (hA : ∀ q, n ≤ q → A q) {b : Nat} {f : Nat → Int32} {q j k : Nat} (h1 : 16 < k) (h2 : k ≤ 34) : Met l yJ5_newCapacity_0f7a4 (.code yJ5_newCapacity_0f7a4 cJ5_newCapacity_0f7a4 6 (some .int) :: gT) ({ frames := 5, cells := 0, slots := 0, locals := 210 } : Room) (va_Pc [.ref q, .int (nI k)] (zB D dA A n (zw D A (sbz dA b 16 f q j) sbK))) (va_Qi (fun r (_ : Unit) => r = nI 34 ∧ True) (fun (_ : Unit) t => zw D A (sbz dA b 16 f q j) sbK t.heap) A) 0 0 A :=
  z_met (by decide) hA hst (Nat.le_of_ble_eq_true rfl) rfl rfl (fun p e s m below meth c X hml hr _ => by
    have gV := g_603
    have gC := g_604
    refine z_aload_n X dJ5_newCapacity_0f7a4_0 rfl rfl ?_
    refine w_get X 1 0 rj4_ws rfl rfl rfl gV (Or.inl rfl) rfl dJ5_newCapacity_0f7a4_1 ?_
    refine w_alenB X 0 rfl rfl dJ5_newCapacity_0f7a4_4 ?_
    refine z_istore_n (lo' := [(2, .int (nI 16)), (0, .ref q), (1, .int (nI k))]) X dJ5_newCapacity_0f7a4_5 rfl (by rw [hml]; decide) rfl rfl ?_
    refine z_iload_n X dJ5_newCapacity_0f7a4_6 rfl rfl ?_
    refine z_aload_n X dJ5_newCapacity_0f7a4_7 rfl rfl ?_
    refine w_get X 1 1 rj4_ws rfl rfl rfl gC (Or.inl rfl) rfl dJ5_newCapacity_0f7a4_8 ?_
    refine z_ishl X dJ5_newCapacity_0f7a4_11 ?_
    rw [sb_shl0]
    refine z_istore_n (lo' := [(3, .int (nI k)), (2, .int (nI 16)), (0, .ref q), (1, .int (nI k))]) X dJ5_newCapacity_0f7a4_12 rfl (by rw [hml]; decide) rfl rfl ?_
    refine z_iload_n X dJ5_newCapacity_0f7a4_13 rfl rfl ?_
    refine z_iload_n X dJ5_newCapacity_0f7a4_14 rfl rfl ?_
    refine z_isub X dJ5_newCapacity_0f7a4_15 ?_
    refine z_istore (lo' := [(4, .int (nI k - nI 16)), (3, .int (nI k)), (2, .int (nI 16)), (0, .ref q), (1, .int (nI k))]) X dJ5_newCapacity_0f7a4_16 (by rw [hml]; decide) rfl rfl ?_
    refine z_iload_n X dJ5_newCapacity_0f7a4_18 rfl rfl ?_
    refine z_iload X dJ5_newCapacity_0f7a4_19 rfl ?_
    refine z_iload_n X dJ5_newCapacity_0f7a4_21 rfl rfl ?_
    refine z_iconst (v := 2) X dJ5_newCapacity_0f7a4_22 (by decide) ?_
    refine z_aload_n X dJ5_newCapacity_0f7a4_23 rfl rfl ?_
    refine w_get X 1 1 rj4_ws rfl rfl rfl gC (Or.inl rfl) rfl dJ5_newCapacity_0f7a4_24 ?_
    refine z_ishl X dJ5_newCapacity_0f7a4_27 ?_
    refine z_iadd X dJ5_newCapacity_0f7a4_28 ?_
    refine z_callTi (As := [.int (nI 16), .int (nI k - nI 16), .int (nI 16 + 2 <<< ((0 : Int32) &&& 31))]) (rest := []) (nA := 3) (mc := 0) (ms := 0) (rm := ({ frames := 4, cells := 0, slots := 0, locals := 168 } : Room)) (r0 := nI 34) (pu := (fun (_ : Unit) => True)) (G1 := (fun _ => zw D A (sbz dA b 16 f q j) sbK)) X (jl_newLen X.2.2.2.2.2.2.2.2 X.2.2.2.2.2.2.1 (sb_grow1 k (by omega) h1) (by decide) (by decide)) g_636 g_123 g_8 g_124 hd_yJ8_newLength_cabcc.2 ⟨rfl, rfl, Nat.le_of_ble_eq_true rfl, Nat.le_of_ble_eq_true rfl⟩ rfl rfl (Nat.le_of_ble_eq_true rfl) dJ5_newCapacity_0f7a4_29 ⟨Nat.le_of_ble_eq_true rfl, Nat.le_of_ble_eq_true rfl⟩ (fun _ _ => ?_)
    refine z_istore (lo' := [(5, .int (nI 34)), (4, .int (nI k - nI 16)), (3, .int (nI k)), (2, .int (nI 16)), (0, .ref q), (1, .int (nI k))]) X dJ5_newCapacity_0f7a4_32 (by rw [hml]; decide) rfl rfl ?_
    refine z_iload X dJ5_newCapacity_0f7a4_34 rfl ?_
    refine z_ldc X g_637 dJ5_newCapacity_0f7a4_36 ?_
    refine z_icmp_ne (tgt := 51) X dJ5_newCapacity_0f7a4_38 (by decide) (fun q => absurd q (by decide)) (fun _ => ?_)
    refine z_iload X dJ5_newCapacity_0f7a4_51 rfl ?_
    refine z_aload_n X dJ5_newCapacity_0f7a4_53 rfl rfl ?_
    refine w_get X 1 1 rj4_ws rfl rfl rfl gC (Or.inl rfl) rfl dJ5_newCapacity_0f7a4_54 ?_
    refine z_ishr X dJ5_newCapacity_0f7a4_57 ?_
    exact z_iret X hr rfl (fun t hG hF _ => ⟨⟨_, (), rfl, ⟨sb_shr0 _, trivial⟩, hG⟩, hF⟩) dJ5_newCapacity_0f7a4_58)
theorem sb_cpy2 (hst : l.stackTraces = false) (hA : ∀ q, n ≤ q → A q) {b : Nat} {f : Nat → Int32} {q j : Nat} (hf : sb_Fit f) : Met l yJ7_copyOf_9075b (.code yJ7_copyOf_9075b cJ7_copyOf_9075b 3 (some (.array .byte)) :: gT) ({ frames := 3, cells := 1, slots := 34, locals := 126 } : Room) (va_Pc [.ref b, .int (nI 34)] (zB D dA A n (zw D A (sbz dA b 16 f q j) sbK))) (va_Qq (fun r (u : Nat) => r = some u ∧ True) (fun (u : Nat) t => zw D A (sbz dA b 16 f q j ++ [(u, .inl (dA 6, 34, .inl (va_cpy f (fun _ => 0) 0 0 16)))]) sbK t.heap) A) 1 34 A :=
  z_met (by decide) hA hst (Nat.le_of_ble_eq_true rfl) rfl rfl (fun p e s m below meth c X hml hr _ => by
    refine z_iload_n X dJ7_copyOf_9075b_0 rfl rfl ?_
    refine z_aload_n X dJ7_copyOf_9075b_1 rfl rfl ?_
    refine w_alenB X 0 rfl rfl dJ7_copyOf_9075b_2 ?_
    refine z_icmp_ne (tgt := 14) X dJ7_copyOf_9075b_3 (by decide) (fun q => absurd q (by decide)) (fun _ => ?_)
    refine z_iload_n X dJ7_copyOf_9075b_14 rfl rfl ?_
    refine w_newB kf_sbK X (N' := 34) (by decide) (by decide) (by decide) ⟨Nat.le_refl _, Nat.le_refl _⟩ dJ7_copyOf_9075b_15 (fun u => ?_)
    refine z_astore_n (lo' := [(2, .ref u), (0, .ref b), (1, .int (nI 34))]) X dJ7_copyOf_9075b_17 rfl (by rw [hml]; decide) rfl rfl ?_
    refine z_aload_n X dJ7_copyOf_9075b_18 rfl rfl ?_
    refine z_iconst (v := 0) X dJ7_copyOf_9075b_19 (by decide) ?_
    refine z_aload_n X dJ7_copyOf_9075b_20 rfl rfl ?_
    refine z_iconst (v := 0) X dJ7_copyOf_9075b_21 (by decide) ?_
    refine z_aload_n X dJ7_copyOf_9075b_22 rfl rfl ?_
    refine w_alenB X 0 rfl rfl dJ7_copyOf_9075b_23 ?_
    refine z_iload_n X dJ7_copyOf_9075b_24 rfl rfl ?_
    refine z_min X g_164 g_165 g_9 g_166 (Nat.le_of_ble_eq_true rfl) (Nat.le_of_ble_eq_true rfl) ⟨Nat.le_refl _, Nat.le_refl _⟩ dJ7_copyOf_9075b_25 ?_
    rw [if_neg (show ¬ nI 34 < nI 16 by decide)]
    refine w_copyB kf_sbK X 0 2 g_167 g_169 g_168 g_11 rfl rfl (by decide) (by decide) (by decide) (by decide) (by decide) hf (Nat.le_of_ble_eq_true rfl) (Nat.le_of_ble_eq_true rfl) (zs' := sbz dA b 16 f q j ++ [(u, .inl (dA 6, 34, .inl (va_cpy f (fun _ => 0) 0 0 16)))]) rfl dJ7_copyOf_9075b_28 ?_
    refine z_aload_n X dJ7_copyOf_9075b_31 rfl rfl ?_
    exact z_aret (o := some u) X hr (Or.inr ⟨_, rfl⟩) (fun t hG hF _ => ⟨⟨_, u, rfl, ⟨rfl, trivial⟩, hG⟩, hF⟩) dJ7_copyOf_9075b_32)
theorem sb_chk3' (hst : l.stackTraces = false) (hA : ∀ q, n ≤ q → A q) {G : Heap → Prop} {x y : Int32} {o : Nat} (q1 : ¬ x < 0) (q2 : x < y) : Met l yJ3_checkIndex_8e157 (.code yJ3_checkIndex_8e157 cJ3_checkIndex_8e157 3 (some .int) :: gT) ({ frames := 6, cells := 0, slots := 0, locals := 252 } : Room) (va_Pc [.int x, .int y, .ref o] (zB D dA A n G)) (va_Qi (fun r (_ : Unit) => r = x ∧ True) (fun (_ : Unit) t => G t.heap) A) 0 0 A :=
  z_met (by decide) hA hst (Nat.le_of_ble_eq_true rfl) rfl rfl (fun p e s m below meth c X hml hr _ => by
    refine z_iload_n X dJ3_checkIndex_8e157_0 rfl rfl ?_
    refine z_if_lt (tgt := 9) X dJ3_checkIndex_8e157_1 (by decide) (fun q => absurd q q1) (fun q => ?_)
    refine z_iload_n X dJ3_checkIndex_8e157_4 rfl rfl ?_
    refine z_iload_n X dJ3_checkIndex_8e157_5 rfl rfl ?_
    refine z_icmp_lt (tgt := 16) X dJ3_checkIndex_8e157_6 (by decide) (fun q => ?_) (fun q => absurd q2 q)
    refine z_iload_n X dJ3_checkIndex_8e157_16 rfl rfl ?_
    exact z_iret X hr rfl (fun t hG hF _ => ⟨⟨_, (), rfl, ⟨rfl, trivial⟩, hG⟩, hF⟩) dJ3_checkIndex_8e157_17)
theorem sb_chk3 (hst : l.stackTraces = false) (hA : ∀ q, n ≤ q → A q) {G : Heap → Prop} {x y : Int32} {o : Option Nat} (q1 : ¬ x < 0) (q2 : x < y) : Met l yJ3_checkIndex_8e157 (.code yJ3_checkIndex_8e157 cJ3_checkIndex_8e157 3 (some .int) :: gT) ({ frames := 6, cells := 0, slots := 0, locals := 252 } : Room) (va_Pc [.int x, .int y, va_rf o] (zB D dA A n G)) (va_Qi (fun r (_ : Unit) => r = x ∧ True) (fun (_ : Unit) t => G t.heap) A) 0 0 A := by
  cases o with
  | none => exact jl_chk2 hst hA q1 q2
  | some t => exact sb_chk3' hst hA q1 q2
theorem sb_chk (hst : l.stackTraces = false) (hA : ∀ q, n ≤ q → A q) {G : Heap → Prop} {x y : Int32} (q1 : ¬ x < 0) (q2 : x < y) : Met l yJ0_checkIndex_df160 (.code yJ0_checkIndex_df160 cJ0_checkIndex_df160 2 none :: gT) ({ frames := 7, cells := 0, slots := 0, locals := 294 } : Room) (va_Pc [.int x, .int y] (zB D dA A n G)) (va_Qv (fun (_ : Unit) => True) (fun (_ : Unit) t => G t.heap) A) 0 0 A :=
  z_met (by decide) hA hst (Nat.le_of_ble_eq_true rfl) rfl rfl (fun p e s m below meth c X hml hr _ => by
    refine z_iload_n X dJ0_checkIndex_df160_0 rfl rfl ?_
    refine z_iload_n X dJ0_checkIndex_df160_1 rfl rfl ?_
    refine z_sioobe X g_665 dJ0_checkIndex_df160_2 (fun o => ?_)
    refine z_callTi (As := [.int x, .int y, va_rf o]) (rest := []) (nA := 3) (mc := 0) (ms := 0) (rm := ({ frames := 6, cells := 0, slots := 0, locals := 252 } : Room)) (r0 := x) (pu := (fun (_ : Unit) => True)) (G1 := (fun _ => G)) X (sb_chk3 X.2.2.2.2.2.2.2.2 X.2.2.2.2.2.2.1 q1 q2) g_1284 g_561 g_24 g_562 hd_yJ3_checkIndex_8e157.2 ⟨rfl, rfl, Nat.le_of_ble_eq_true rfl, Nat.le_of_ble_eq_true rfl⟩ rfl rfl (Nat.le_of_ble_eq_true rfl) dJ0_checkIndex_df160_5 ⟨Nat.le_of_ble_eq_true rfl, Nat.le_of_ble_eq_true rfl⟩ (fun _ _ => ?_)
    refine z_pop X dJ0_checkIndex_df160_8 rfl ?_
    exact z_vret X hr (fun t hG hF _ => ⟨⟨(), rfl, trivial, hG⟩, hF⟩) dJ0_checkIndex_df160_9)
end SM
