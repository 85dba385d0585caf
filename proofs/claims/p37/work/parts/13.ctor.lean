theorem g_196 : Cond.methodLink RX2 3 Lib.objectInit ∈ gT := gT_t 196 (by decide +kernel) rfl
theorem g_2 : Cond.initialized RJxa1e45 ∈ gT := gT_t 2 (by decide +kernel) rfl
theorem g_200 : Cond.fieldLink RX2 21 "MeshBiller$Cell" "zone" "LMeshBiller$Zone;" ∈ gT := gT_t 200 (by decide +kernel) rfl
theorem g_202 : Cond.fieldLink RX2 9 "MeshBiller$Cell" "channels" "I" ∈ gT := gT_t 202 (by decide +kernel) rfl
theorem g_204 : Cond.fieldLink RX2 15 "MeshBiller$Cell" "guarded" "I" ∈ gT := gT_t 204 (by decide +kernel) rfl
theorem g_219 : Cond.methodLink RX9 1 Lib.objectInit ∈ gT := gT_t 219 (by decide +kernel) rfl
theorem g_220 : Cond.classLink RX9 7 "java/util/ArrayList" ∈ gT := gT_t 220 (by decide +kernel) rfl
theorem g_221 : Cond.methodLink RX9 9 yJx4a65c_init_da8c8 ∈ gT := gT_t 221 (by decide +kernel) rfl
theorem g_222 : Cond.fieldLink RX9 23 "MeshBiller$Wallet" "number" "I" ∈ gT := gT_t 222 (by decide +kernel) rfl
theorem g_225 : Cond.fieldLink RX9 16 "MeshBiller$Wallet" "money" "I" ∈ gT := gT_t 225 (by decide +kernel) rfl
theorem g_227 : Cond.fieldLink RX9 20 "MeshBiller$Wallet" "chargedSoFar" "I" ∈ gT := gT_t 227 (by decide +kernel) rfl
theorem g_243 : Cond.methodLink RX5 3 Lib.objectInit ∈ gT := gT_t 243 (by decide +kernel) rfl
theorem g_244 : Cond.fieldLink RX5 25 "MeshBiller$Phone" "number" "I" ∈ gT := gT_t 244 (by decide +kernel) rfl
theorem g_247 : Cond.fieldLink RX5 28 "MeshBiller$Phone" "cell" "LMeshBiller$Cell;" ∈ gT := gT_t 247 (by decide +kernel) rfl
theorem g_249 : Cond.fieldLink RX5 32 "MeshBiller$Phone" "wallet" "LMeshBiller$Wallet;" ∈ gT := gT_t 249 (by decide +kernel) rfl
theorem g_253 : Cond.fieldLink RX5 15 "MeshBiller$Phone" "leg" "LMeshBiller$Leg;" ∈ gT := gT_t 253 (by decide +kernel) rfl
theorem g_3 : Cond.initialized RJxc12de ∈ gT := gT_t 3 (by decide +kernel) rfl
theorem g_42 : Cond.instanceMethod Lib.objectInit ∈ gT := gT_t 44 (by decide +kernel) rfl
theorem g_43 : Cond.code Lib.objectInit ⟨#[0xb1]⟩ 1 none ∈ gT := gT_t 45 (by decide +kernel) rfl
theorem g_53 : Cond.instantiable RJx4a65c 3 ∈ gT := gT_t 55 (by decide +kernel) rfl
theorem g_531 : Cond.methodLink RX0 1 Lib.objectInit ∈ gT := gT_t 824 (by decide +kernel) rfl
theorem g_535 : Cond.fieldLink RX0 13 "MeshBiller$Bundle" "seconds" "I" ∈ gT := gT_t 828 (by decide +kernel) rfl
theorem g_55 : Cond.instanceMethod yJx4a65c_init_da8c8 ∈ gT := gT_t 57 (by decide +kernel) rfl
theorem g_56 : Cond.code yJx4a65c_init_da8c8 cJx4a65c_init_da8c8 1 none ∈ gT := gT_t 58 (by decide +kernel) rfl
theorem g_57 : Cond.methodLink RJx4a65c 1 yJxc12de_init_da8c8 ∈ gT := gT_t 59 (by decide +kernel) rfl
theorem g_58 : Cond.instanceMethod yJxc12de_init_da8c8 ∈ gT := gT_t 60 (by decide +kernel) rfl
theorem g_59 : Cond.code yJxc12de_init_da8c8 cJxc12de_init_da8c8 1 none ∈ gT := gT_t 61 (by decide +kernel) rfl
theorem g_60 : Cond.methodLink RJxc12de 1 yJxa1e45_init_da8c8 ∈ gT := gT_t 62 (by decide +kernel) rfl
theorem g_61 : Cond.instanceMethod yJxa1e45_init_da8c8 ∈ gT := gT_t 63 (by decide +kernel) rfl
theorem g_62 : Cond.code yJxa1e45_init_da8c8 cJxa1e45_init_da8c8 1 none ∈ gT := gT_t 64 (by decide +kernel) rfl
theorem g_63 : Cond.methodLink RJxa1e45 1 Lib.objectInit ∈ gT := gT_t 65 (by decide +kernel) rfl
theorem g_68 : Cond.fieldLink RJxc12de 7 "java/util/AbstractList" "modCount" "I" ∈ gT := gT_t 70 (by decide +kernel) rfl
theorem g_877 : Cond.methodLink RX1 3 Lib.objectInit ∈ gT := gT_t 450 (by decide +kernel) rfl
theorem g_878 : Cond.classLink RX1 9 "java/util/ArrayList" ∈ gT := gT_t 451 (by decide +kernel) rfl
theorem g_879 : Cond.methodLink RX1 11 yJx4a65c_init_da8c8 ∈ gT := gT_t 452 (by decide +kernel) rfl
theorem g_880 : Cond.fieldLink RX1 18 "MeshBiller$Call" "number" "I" ∈ gT := gT_t 453 (by decide +kernel) rfl
theorem g_882 : Cond.fieldLink RX1 22 "MeshBiller$Call" "host" "LMeshBiller$Phone;" ∈ gT := gT_t 455 (by decide +kernel) rfl
theorem g_902 : Cond.methodLink RX4 3 Lib.objectInit ∈ gT := gT_t 476 (by decide +kernel) rfl
theorem g_903 : Cond.classLink RX4 9 "MeshBiller$Slice" ∈ gT := gT_t 477 (by decide +kernel) rfl
theorem g_904 : Cond.instantiable RX8 3 ∈ gT := gT_t 478 (by decide +kernel) rfl
theorem g_906 : Cond.instanceMethod yX8_init ∈ gT := gT_t 480 (by decide +kernel) rfl
theorem g_907 : Cond.code yX8_init cX8_init 1 none ∈ gT := gT_t 481 (by decide +kernel) rfl
theorem g_908 : Cond.methodLink RX8 1 Lib.objectInit ∈ gT := gT_t 482 (by decide +kernel) rfl
theorem g_924 : Cond.classLink RX4 18 "java/util/ArrayList" ∈ gT := gT_t 498 (by decide +kernel) rfl
theorem g_925 : Cond.methodLink RX4 20 yJx4a65c_init_da8c8 ∈ gT := gT_t 499 (by decide +kernel) rfl
theorem g_926 : Cond.fieldLink RX4 38 "MeshBiller$Leg" "number" "I" ∈ gT := gT_t 500 (by decide +kernel) rfl
theorem g_930 : Cond.fieldLink RX4 45 "MeshBiller$Leg" "call" "LMeshBiller$Call;" ∈ gT := gT_t 504 (by decide +kernel) rfl
theorem g_939 : Cond.fieldLink RX4 25 "MeshBiller$Leg" "state" "I" ∈ gT := gT_t 513 (by decide +kernel) rfl
theorem g_96 : Cond.methodLink RX7 1 Lib.objectInit ∈ gT := gT_t 98 (by decide +kernel) rfl
theorem g_97 : Cond.fieldLink RX7 7 "MeshBiller$RateStep" "since" "I" ∈ gT := gT_t 99 (by decide +kernel) rfl
theorem g_985 : Cond.methodLink RX3 1 Lib.objectInit ∈ gT := gT_t 559 (by decide +kernel) rfl
theorem g_986 : Cond.fieldLink RX3 7 "MeshBiller$Event" "kind" "I" ∈ gT := gT_t 560 (by decide +kernel) rfl
theorem g_989 : Cond.fieldLink RX3 13 "MeshBiller$Event" "second" "I" ∈ gT := gT_t 563 (by decide +kernel) rfl
theorem g_99 : Cond.fieldLink RX7 13 "MeshBiller$RateStep" "rate" "I" ∈ gT := gT_t 101 (by decide +kernel) rfl
theorem g_992 : Cond.fieldLink RX3 16 "MeshBiller$Event" "cell" "LMeshBiller$Cell;" ∈ gT := gT_t 566 (by decide +kernel) rfl
theorem hd_yJx4a65c_init_da8c8 : yJx4a65c_init_da8c8.name = "<init>" ∧ yJx4a65c_init_da8c8.cls ≠ "java/lang/invoke/MethodHandle" ∧ yJx4a65c_init_da8c8.cls ≠ "java/lang/invoke/VarHandle" ∧ (parseMethodDescriptor yJx4a65c_init_da8c8.desc).map (fun d => d.parameters.length) = some 0 := by decide +kernel
theorem hd_yJxa1e45_init_da8c8 : yJxa1e45_init_da8c8.name = "<init>" ∧ yJxa1e45_init_da8c8.cls ≠ "java/lang/invoke/MethodHandle" ∧ yJxa1e45_init_da8c8.cls ≠ "java/lang/invoke/VarHandle" ∧ (parseMethodDescriptor yJxa1e45_init_da8c8.desc).map (fun d => d.parameters.length) = some 0 := by decide +kernel
theorem hd_yJxc12de_init_da8c8 : yJxc12de_init_da8c8.name = "<init>" ∧ yJxc12de_init_da8c8.cls ≠ "java/lang/invoke/MethodHandle" ∧ yJxc12de_init_da8c8.cls ≠ "java/lang/invoke/VarHandle" ∧ (parseMethodDescriptor yJxc12de_init_da8c8.desc).map (fun d => d.parameters.length) = some 0 := by decide +kernel
theorem hd_yX8_init : yX8_init.name = "<init>" ∧ yX8_init.cls ≠ "java/lang/invoke/MethodHandle" ∧ yX8_init.cls ≠ "java/lang/invoke/VarHandle" ∧ (parseMethodDescriptor yX8_init.desc).map (fun d => d.parameters.length) = some 0 := by decide +kernel
section CT
variable {p : Program} {l : Launch} {e : Env} {R : Room} {s : State} {m : MethodId} {args : Array Value} {below : List Frame} {meth : Method} {c : Code} {A : Nat → Prop} {G : Heap → Prop} {cells slots : Nat} {Q : State → Prop}
variable {cc : ByteArray} {own : String} {D : va_G} {dA : Nat → ClassId} {pc : Nat} {lo : List (Nat × Value)} {ll : List (Nat × Int64)} {rest : List Value} {V V' : Rho} {L : Lst} {N : Cnt} {ad : Adr} {xs : va_W} {C : String} {T : u_T}
theorem z_objInit (X : zc p l s m args meth c cc own D dA A) {a idx : Nat} (h1 : Cond.methodLink own idx Lib.objectInit ∈ gT) (h2 : Cond.instanceMethod Lib.objectInit ∈ gT) (h3 : Cond.code Lib.objectInit ⟨#[0xb1]⟩ 1 none ∈ gT) (hR : 1 ≤ R.frames ∧ (rest.map fun v => v.category).sum + 12 ≤ R.locals) (hdg : decode cc pc = .ok (.invokespecial idx, 3)) (k : zz p l e R s m args below meth c A G cells slots Q (pc + 3) lo ll rest) : zz p l e R s m args below meth c A G cells slots Q pc lo ll (.ref a :: rest) :=
  fun H locs ls hG hS hl hc => W.objInit X.1 X.2.1 X.2.2.1 (X.2.2.2.1 _ h1) (X.2.2.2.1 _ h2) (X.2.2.2.1 _ h3) rfl hl.1 rfl hdg hR.1 (by show 2 * 0 + _ + 12 ≤ _; have := hR.2; omega) (k H locs ls hG hS hl hc)
theorem z_callI (X : zc p l s m args meth c cc own D dA A) {y : MethodName} {b : ByteArray} {maxL idx nA mc ms : Nat} {rm : Room} {a : Nat} {As st : List Value} {S : Type} {pu : S → Prop} {G1 : S → Heap → Prop} (hM : Met l y (.code y b maxL none :: gT) rm (va_Pc (.ref a :: As) (zB D dA A s.heap.size G)) (va_Qv pu (fun u t => G1 u t.heap) A) mc ms A) (h1 : Cond.methodLink own idx y ∈ gT) (h2 : Cond.instanceMethod y ∈ gT) (h4 : Cond.initialized y.cls ∈ gT) (h5 : Cond.code y b maxL none ∈ gT) (hd : y.name = "<init>" ∧ y.cls ≠ "java/lang/invoke/MethodHandle" ∧ y.cls ≠ "java/lang/invoke/VarHandle" ∧ (parseMethodDescriptor y.desc).map (fun d => d.parameters.length) = some nA) (hrm : rm.cells = mc ∧ rm.slots = ms ∧ rm.frames + 1 ≤ R.frames ∧ 8 + (maxL + 11) + rm.locals ≤ R.locals) (hn : As.length = nA) (hst : st = As.reverse ++ .ref a :: rest) (hcat : (rest.map fun v => v.category).sum ≤ 8) (hdg : decode cc pc = .ok (.invokespecial idx, 3)) (hf : cells + mc ≤ R.cells ∧ slots + ms ≤ R.slots)
    (k : ∀ u, pu u → zz p l e R s m args below meth c A (G1 u) (cells + mc) (slots + ms) Q (pc + 3) lo ll rest) : zz p l e R s m args below meth c A G cells slots Q pc lo ll st := by
  subst hst
  intro H locs ls hG hS hl hc
  exact va_callv (va_runI (As := As) (rest := rest) ⟨X.1, X.2.1, rfl, X.2.2.1, X.2.2.2.1⟩ hM (cwI nA X.2.2.2.1 (z_gC h5) rfl hrm.1 hrm.2.1 (X.2.2.2.1 _ h4) (X.2.2.2.1 _ h1) (X.2.2.2.1 _ h2) hd.1 hd.2 hrm.2.2) ⟨zB_blind, fun U hU hW => ⟨rfl, zB_at X hG hS U hU hW⟩⟩ rfl hn hl.1 rfl (lv_room hcat) hdg hf) hS (fun _ _ h => h) (fun _ h => h) (fun u t H1 locs1 ht _ hp hB _ _ hS1 => k u hp H1 locs1 ls (by rw [← ht]; exact hB) hS1 hl hc)
theorem z_callIN (X : zc p l s m args meth c cc own D dA A) {y : MethodName} {host : String} {b : ByteArray} {maxL idx nA mc ms : Nat} {rm : Room} {a : Nat} {As st : List Value} {S : Type} {pu : S → Prop} {G1 : S → Heap → Prop} (hM : Met l y (.code y b maxL none :: gT) rm (va_Pc (.ref a :: As) (zB D dA A s.heap.size G)) (va_Qv pu (fun u t => G1 u t.heap) A) mc ms A) (h1 : (Cond.methodLinkNest own idx y host).before #[] s = true) (h2 : Cond.instanceMethod y ∈ gT) (h4 : Cond.initialized y.cls ∈ gT) (h5 : Cond.code y b maxL none ∈ gT) (hd : y.name = "<init>" ∧ y.cls ≠ "java/lang/invoke/MethodHandle" ∧ y.cls ≠ "java/lang/invoke/VarHandle" ∧ (parseMethodDescriptor y.desc).map (fun d => d.parameters.length) = some nA) (hrm : rm.cells = mc ∧ rm.slots = ms ∧ rm.frames + 1 ≤ R.frames ∧ 8 + (maxL + 11) + rm.locals ≤ R.locals) (hn : As.length = nA) (hst : st = As.reverse ++ .ref a :: rest) (hcat : (rest.map fun v => v.category).sum ≤ 8) (hdg : decode cc pc = .ok (.invokespecial idx, 3)) (hf : cells + mc ≤ R.cells ∧ slots + ms ≤ R.slots)
    (k : ∀ u, pu u → zz p l e R s m args below meth c A (G1 u) (cells + mc) (slots + ms) Q (pc + 3) lo ll rest) : zz p l e R s m args below meth c A G cells slots Q pc lo ll st := by
  subst hst
  intro H locs ls hG hS hl hc
  exact va_callv (va_runIN (As := As) (rest := rest) ⟨X.1, X.2.1, rfl, X.2.2.1, X.2.2.2.1⟩ hM ⟨va_cnB nA X.2.2.2.1 (z_gC h5) rfl hrm.1 hrm.2.1 h1 (X.2.2.2.1 _ h4) hd.2 hrm.2.2, hd.1, X.2.2.2.1 _ h2⟩ ⟨zB_blind, fun U hU hW => ⟨rfl, zB_at X hG hS U hU hW⟩⟩ rfl hn hl.1 rfl (lv_room hcat) hdg hf) hS (fun _ _ h => h) (fun _ h => h) (fun u t H1 locs1 ht _ hp hB _ _ hS1 => k u hp H1 locs1 ls (by rw [← ht]; exact hB) hS1 hl hc)
end CT
theorem xa2 {α : Type} {xs : List α} {a b : α} : (xs ++ [a] ++ [b])[xs.length]? = some a := by simp
theorem xa3 {α : Type} {xs : List α} {a b d : α} : (xs ++ [a] ++ [b] ++ [d])[xs.length]? = some a := by simp
theorem xe2 {α : Type} {xs : List α} {a a' b : α} : (xs ++ [a] ++ [b]).set xs.length a' = xs ++ [a'] ++ [b] := by simp
theorem xe3 {α : Type} {xs : List α} {a a' b d : α} : (xs ++ [a] ++ [b] ++ [d]).set xs.length a' = xs ++ [a'] ++ [b] ++ [d] := by simp
theorem cx_swap {D : va_G} {dA : Nat → ClassId} {A : Nat → Prop} {V : Rho} {L : Lst} {N : Cnt} {ad : Adr} {xs : va_W} {a b : Nat × va_E} {H : Heap} (h : cx D dA A V L N ad (xs ++ [a] ++ [b]) H) : cx D dA A V L N ad (xs ++ [b] ++ [a]) H := by
  have hx := h.2.2.2.2.2.2.2.2.2
  have key : ∀ (j : Nat) (q : Nat × va_E), (xs ++ [b] ++ [a])[j]? = some q → ∃ i, (xs ++ [a] ++ [b])[i]? = some q ∧ (i = j ∧ j < xs.length ∨ i = xs.length + 1 ∧ j = xs.length ∨ i = xs.length ∧ j = xs.length + 1) := by
    intro j q hj
    by_cases h1 : j < xs.length
    · refine ⟨j, ?_, Or.inl ⟨rfl, h1⟩⟩
      rw [List.append_assoc, List.getElem?_append_left h1] at hj ⊢
      exact hj
    · have hl := (List.getElem?_eq_some_iff.mp hj).1
      simp at hl
      by_cases h2 : j = xs.length
      · subst h2
        refine ⟨xs.length + 1, ?_, Or.inr (Or.inl ⟨rfl, rfl⟩)⟩
        simp at hj ⊢
        exact hj
      · have h3 : j = xs.length + 1 := by omega
        subst h3
        refine ⟨xs.length, ?_, Or.inr (Or.inr ⟨rfl, rfl⟩)⟩
        simp at hj ⊢
        exact hj
  refine ⟨h.1, h.2.1, h.2.2.1, h.2.2.2.1, h.2.2.2.2.1, h.2.2.2.2.2.1, h.2.2.2.2.2.2.1, h.2.2.2.2.2.2.2.1, h.2.2.2.2.2.2.2.2.1, fun j q hj => ?_, ⟨fun i j p q hi hj he => ?_, fun j q hj => ?_⟩, fun j q hj => ?_⟩
  · obtain ⟨i, hi, -⟩ := key j q hj
    exact hx.1 i q hi
  · obtain ⟨i1, h1, e1⟩ := key i p hi
    obtain ⟨j1, h2, e2⟩ := key j q hj
    have := hx.2.1.1 i1 j1 p q h1 h2 he
    omega
  · obtain ⟨i, hi, -⟩ := key j q hj
    exact hx.2.1.2 i q hi
  · obtain ⟨i, hi, -⟩ := key j q hj
    exact hx.2.2 i q hi
theorem cs_new {V : Rho} {N : Cnt} {k f0 k' f i : Nat} {x : Int32} (hf0 : f0 < 20) (hf : f < nfl k') (hi : i < N k') : cs V (20 * k + f0) (N k) x (20 * k' + f) i = V (20 * k' + f) i := by
  have := @nfl_le k'
  refine if_neg fun z => ?_
  have : k' = k := by omega
  subst this
  omega
theorem cnum_nup {N : Cnt} {k : Nat} (h : cnum N) (hb : ¬ 100000 ≤ N k) (h11 : k ≠ 11) (hk : 0 < N 11 → k ≠ 10 ∧ k ≠ 2 ∧ k ≠ 9 ∧ k ≠ 5 ∧ k ≠ 6) (h4 : k = 4 → N 4 < N 8) (h10 : k = 10 → 2 * N 10 + 2 ≤ N 6) : cnum (nup N k) := by
  refine ⟨fun z => ?_, ?_, ?_, fun j => ?_⟩
  · rw [nup_ne (Ne.symm h11)] at z
    have h1 := h.1 z
    have h2 := hk z
    rw [nup_ne (Ne.symm h11), nup_ne h2.1.symm, nup_ne h2.2.1.symm, nup_ne h2.2.2.1.symm, nup_ne h2.2.2.2.1.symm, nup_ne h2.2.2.2.2.symm]
    exact h1
  · have := h.2.1
    by_cases e : k = 4
    · subst e
      rw [nup_self, nup_ne (by decide)]
      have := h4 rfl
      omega
    · rw [nup_ne (Ne.symm e)]
      exact Nat.le_trans this nup_le
  · have := h.2.2.1
    by_cases e : k = 10
    · subst e
      rw [nup_self, nup_ne (by decide)]
      have := h10 rfl
      omega
    · rw [nup_ne (Ne.symm e)]
      exact Nat.le_trans this nup_le
  · have := h.2.2.2 j
    by_cases e : j = k
    · subst e
      rw [nup_self]
      omega
    · rw [nup_ne e]
      exact this
theorem vp_new {N : Cnt} {k : Nat} (h : ¬ 100000 ≤ N k) : vp_in (nI (N k)) (nup N k k) ∧ (nI (N k)).toNatClampNeg = N k := by
  rw [nup_self]
  exact ⟨vp_in_nI (by omega) (by omega), nI_clamp (by omega)⟩

set_option maxRecDepth 100000 in
set_option maxHeartbeats 4000000 in
theorem ck_AC (l : Launch) {D : va_G} {dA : Nat → ClassId} {A : Nat → Prop} {n : Nat} (hst : l.stackTraces = false) (hA : ∀ q, n ≤ q → A q) {V : Rho} {L : Lst} {N : Cnt} {ad : Adr} {xs : va_W} {q : Nat} {mo sz : Int32} {el : Value} : Met l yJxa1e45_init_da8c8 (.code yJxa1e45_init_da8c8 cJxa1e45_init_da8c8 1 none :: gT) ({ frames := 1, cells := 0, slots := 0, locals := 42 } : Room) (va_Pc [.ref q] (zB D dA A n (cx D dA A V L N ad (xs ++ [(q, .inr (2, [.int mo, el, .int sz]))])))) (va_Qv (fun (_ : Unit) => True) (fun _ t => cx D dA A V L N ad (xs ++ [(q, .inr (2, [.int mo, el, .int sz]))]) t.heap) A) 0 0 A := by
  refine z_met (by decide) hA hst (Nat.le_of_ble_eq_true rfl) rfl rfl (fun p e s m below meth c X hml hr hnm => ?_)
  refine z_aload_n X dJxa1e45_init_da8c8_0 rfl rfl ?_
  refine z_objInit X g_63 g_42 g_43 ⟨Nat.le_of_ble_eq_true rfl, Nat.le_of_ble_eq_true rfl⟩ dJxa1e45_init_da8c8_1 ?_
  exact z_vret X hr (fun t hG hF _ => ⟨⟨(), rfl, trivial, hG⟩, hF⟩) dJxa1e45_init_da8c8_4
set_option maxRecDepth 100000 in
set_option maxHeartbeats 4000000 in
theorem ck_AL (l : Launch) {D : va_G} {dA : Nat → ClassId} {A : Nat → Prop} {n : Nat} (hst : l.stackTraces = false) (hA : ∀ q, n ≤ q → A q) {V : Rho} {L : Lst} {N : Cnt} {ad : Adr} {xs : va_W} {q : Nat} {mo sz : Int32} {el : Value} : Met l yJxc12de_init_da8c8 (.code yJxc12de_init_da8c8 cJxc12de_init_da8c8 1 none :: gT) ({ frames := 2, cells := 0, slots := 0, locals := 84 } : Room) (va_Pc [.ref q] (zB D dA A n (cx D dA A V L N ad (xs ++ [(q, .inr (2, [.int mo, el, .int sz]))])))) (va_Qv (fun (_ : Unit) => True) (fun _ t => cx D dA A V L N ad (xs ++ [(q, .inr (2, [.int 0, el, .int sz]))]) t.heap) A) 0 0 A := by
  refine z_met (by decide) hA hst (Nat.le_of_ble_eq_true rfl) rfl rfl (fun p e s m below meth c X hml hr hnm => ?_)
  refine z_aload_n X dJxc12de_init_da8c8_0 rfl rfl ?_
  refine z_callI (As := []) (rest := []) (nA := 0) (mc := 0) (ms := 0) (pu := fun (_ : Unit) => True) (G1 := fun _ => cx D dA A V L N ad (xs ++ [(q, .inr (2, [.int mo, el, .int sz]))])) X (ck_AC l X.2.2.2.2.2.2.2.2 X.2.2.2.2.2.2.1) g_60 g_61 g_2 g_62 hd_yJxa1e45_init_da8c8 ⟨rfl, rfl, Nat.le_of_ble_eq_true rfl, Nat.le_of_ble_eq_true rfl⟩ rfl rfl (Nat.le_of_ble_eq_true rfl) dJxc12de_init_da8c8_1 ⟨Nat.le_refl _, Nat.le_refl _⟩ (fun _ _ => ?_)
  refine z_aload_n X dJxc12de_init_da8c8_4 rfl rfl ?_
  refine z_iconst (v := 0) X dJxc12de_init_da8c8_5 (by decide) ?_
  refine c_putX X xs.length 2 0 (v := .int 0) (xs' := xs ++ [(q, .inr (2, [.int 0, el, .int sz]))]) (ty := .int) rj_ws rfl tyJx4a65c_ok nmJx4a65c rfl xa1 rfl (Or.inl rfl) g_68 rfl rfl rfl xe1 dJxc12de_init_da8c8_6 ?_
  exact z_vret X hr (fun t hG hF _ => ⟨⟨(), rfl, trivial, hG⟩, hF⟩) dJxc12de_init_da8c8_9
set_option maxRecDepth 100000 in
set_option maxHeartbeats 4000000 in
theorem ck_List (l : Launch) {D : va_G} {dA : Nat → ClassId} {A : Nat → Prop} {n : Nat} (hst : l.stackTraces = false) (hA : ∀ q, n ≤ q → A q) {V : Rho} {L : Lst} {N : Cnt} {ad : Adr} {xs : va_W} {q : Nat} {mo sz : Int32} {el : Value} : Met l yJx4a65c_init_da8c8 (.code yJx4a65c_init_da8c8 cJx4a65c_init_da8c8 1 none :: gT) ({ frames := 3, cells := 0, slots := 0, locals := 126 } : Room) (va_Pc [.ref q] (zB D dA A n (cx D dA A V L N ad (xs ++ [(q, .inr (2, [.int mo, el, .int sz]))])))) (va_Qv (fun (_ : Unit) => True) (fun _ t => cx D dA A V L N ad (xs ++ [(q, .inr (2, [.int 0, .ref (dA 99), .int sz]))]) t.heap) A) 0 0 A := by
  refine z_met (by decide) hA hst (Nat.le_of_ble_eq_true rfl) rfl rfl (fun p e s m below meth c X hml hr hnm => ?_)
  refine z_aload_n X dJx4a65c_init_da8c8_0 rfl rfl ?_
  refine z_callI (As := []) (rest := []) (nA := 0) (mc := 0) (ms := 0) (pu := fun (_ : Unit) => True) (G1 := fun _ => cx D dA A V L N ad (xs ++ [(q, .inr (2, [.int 0, el, .int sz]))])) X (ck_AL l X.2.2.2.2.2.2.2.2 X.2.2.2.2.2.2.1) g_57 g_58 g_3 g_59 hd_yJxc12de_init_da8c8 ⟨rfl, rfl, Nat.le_of_ble_eq_true rfl, Nat.le_of_ble_eq_true rfl⟩ rfl rfl (Nat.le_of_ble_eq_true rfl) dJx4a65c_init_da8c8_1 ⟨Nat.le_refl _, Nat.le_refl _⟩ (fun _ _ => ?_)
  refine z_aload_n X dJx4a65c_init_da8c8_4 rfl rfl ?_
  refine c_empty X g_64 dJx4a65c_init_da8c8_5 ?_
  refine c_putX X xs.length 2 1 (v := .ref (dA 99)) (xs' := xs ++ [(q, .inr (2, [.int 0, .ref (dA 99), .int sz]))]) (ty := .array (.object "java/lang/Object")) rj_ws rfl tyJx4a65c_ok nmJx4a65c rfl xa1 rfl (Or.inl rfl) g_66 rfl rfl rfl xe1 dJx4a65c_init_da8c8_8 ?_
  exact z_vret X hr (fun t hG hF _ => ⟨⟨(), rfl, trivial, hG⟩, hF⟩) dJx4a65c_init_da8c8_11
set_option maxRecDepth 100000 in
set_option maxHeartbeats 4000000 in
theorem ck_Slice (l : Launch) {D : va_G} {dA : Nat → ClassId} {A : Nat → Prop} {n : Nat} (hst : l.stackTraces = false) (hA : ∀ q, n ≤ q → A q) {V : Rho} {L : Lst} {N : Cnt} {ad : Adr} {xs : va_W} {q : Nat} : Met l yX8_init (.code yX8_init cX8_init 1 none :: gT) ({ frames := 1, cells := 0, slots := 0, locals := 42 } : Room) (va_Pc [.ref q] (zB D dA A n (cx D dA A V L N ad (xs ++ [(q, .inr (11, [.int 0, .int 0, .null]))])))) (va_Qv (fun (u : Unit) => True) (fun u t => cx D dA A V L N ad (xs ++ [(q, .inr (11, [.int 0, .int 0, .null]))]) t.heap) A) 0 0 A := by
  refine z_met (by decide) hA hst (Nat.le_of_ble_eq_true rfl) rfl rfl (fun p e s m below meth c X hml hr hnm => ?_)
  refine z_aload_n X dX8_init_0 rfl rfl ?_
  refine z_objInit X g_908 g_42 g_43 ⟨Nat.le_of_ble_eq_true rfl, Nat.le_of_ble_eq_true rfl⟩ dX8_init_1 ?_
  refine z_aload_n X dX8_init_4 rfl rfl ?_
  refine z_iconst (v := 0) X dX8_init_5 (by decide) ?_
  refine c_putX X xs.length 11 0 (v := .int 0) (xs' := xs ++ [(q, .inr (11, [.int 0, .int 0, .null]))]) (ty := .int) rx8_ws rfl tyX8_ok nmX8 rfl xa1 rfl (Or.inl rfl) g_909 rfl rfl rfl xe1 dX8_init_6 ?_
  refine z_aload_n X dX8_init_9 rfl rfl ?_
  refine z_iconst (v := 0) X dX8_init_10 (by decide) ?_
  refine c_putX X xs.length 11 1 (v := .int 0) (xs' := xs ++ [(q, .inr (11, [.int 0, .int 0, .null]))]) (ty := .int) rx8_ws rfl tyX8_ok nmX8 rfl xa1 rfl (Or.inl rfl) g_912 rfl rfl rfl xe1 dX8_init_11 ?_
  refine z_aload_n X dX8_init_14 rfl rfl ?_
  refine z_null X dX8_init_15 ?_
  refine c_putX X xs.length 11 2 (v := .null) (xs' := xs ++ [(q, .inr (11, [.int 0, .int 0, .null]))]) (ty := (.object "MeshBiller$Bundle")) rx8_ws rfl tyX8_ok nmX8 rfl xa1 rfl (Or.inl rfl) g_914 rfl rfl rfl xe1 dX8_init_16 ?_
  exact z_vret X hr (fun t hG hF _ => ⟨⟨(), rfl, trivial, hG⟩, hF⟩) dX8_init_19
set_option maxRecDepth 100000 in
set_option maxHeartbeats 4000000 in
theorem ck_Event (l : Launch) {D : va_G} {dA : Nat → ClassId} {A : Nat → Prop} {n : Nat} (hst : l.stackTraces = false) (hA : ∀ q, n ≤ q → A q) {V : Rho} {L : Lst} {N : Cnt} {ad : Adr} {xs : va_W} {q : Nat} {a1 : Int32} {a2 : Int32} {a3 : Int32} (va3 : vp_in a3 (N 2)) : Met l yX3_init (.code yX3_init cX3_init 4 none :: gT) ({ frames := 1, cells := 0, slots := 0, locals := 42 } : Room) (va_Pc [.ref q, .int a1, .int a2, .ref (ad 2 a3.toNatClampNeg)] (zB D dA A n (cx D dA A V L N ad (xs ++ [(q, .inr (6, [.int 0, .int 0, .null]))])))) (va_Qv (fun (u : Unit) => True) (fun u t => cx D dA A V L N ad (xs ++ [(q, .inr (6, [.int a1, .int a2, .ref (ad 2 a3.toNatClampNeg)]))]) t.heap) A) 0 0 A := by
  refine z_met (by decide) hA hst (Nat.le_of_ble_eq_true rfl) rfl rfl (fun p e s m below meth c X hml hr hnm => ?_)
  refine z_aload_n X dX3_init_0 rfl rfl ?_
  refine z_objInit X g_985 g_42 g_43 ⟨Nat.le_of_ble_eq_true rfl, Nat.le_of_ble_eq_true rfl⟩ dX3_init_1 ?_
  refine z_aload_n X dX3_init_4 rfl rfl ?_
  refine z_iload_n X dX3_init_5 rfl rfl ?_
  refine c_putX X xs.length 6 0 (v := .int a1) (xs' := xs ++ [(q, .inr (6, [.int a1, .int 0, .null]))]) (ty := .int) rx3_ws rfl tyX3_ok nmX3 rfl xa1 rfl (Or.inr ⟨rfl, hnm, rfl⟩) g_986 rfl rfl rfl xe1 dX3_init_6 ?_
  refine z_aload_n X dX3_init_9 rfl rfl ?_
  refine z_iload_n X dX3_init_10 rfl rfl ?_
  refine c_putX X xs.length 6 1 (v := .int a2) (xs' := xs ++ [(q, .inr (6, [.int a1, .int a2, .null]))]) (ty := .int) rx3_ws rfl tyX3_ok nmX3 rfl xa1 rfl (Or.inr ⟨rfl, hnm, rfl⟩) g_989 rfl rfl rfl xe1 dX3_init_11 ?_
  refine z_aload_n X dX3_init_14 rfl rfl ?_
  refine z_aload_n X dX3_init_15 rfl rfl ?_
  refine c_putX X xs.length 6 2 (v := .ref (ad 2 a3.toNatClampNeg)) (xs' := xs ++ [(q, .inr (6, [.int a1, .int a2, .ref (ad 2 a3.toNatClampNeg)]))]) (ty := (.object "MeshBiller$Cell")) rx3_ws rfl tyX3_ok nmX3 rfl xa1 rfl (Or.inr ⟨rfl, hnm, rfl⟩) g_992 rfl rfl rfl xe1 dX3_init_16 ?_
  exact z_vret X hr (fun t hG hF _ => ⟨⟨(), rfl, trivial, hG⟩, hF⟩) dX3_init_19
set_option maxRecDepth 100000 in
set_option maxHeartbeats 4000000 in
theorem ck_RateStep (l : Launch) {D : va_G} {dA : Nat → ClassId} {A : Nat → Prop} {n : Nat} (hst : l.stackTraces = false) (hA : ∀ q, n ≤ q → A q) {V : Rho} {L : Lst} {N : Cnt} {ad : Adr} {xs : va_W} {q : Nat} {a1 : Int32} {a2 : Int32} : Met l yX7_init (.code yX7_init cX7_init 3 none :: gT) ({ frames := 1, cells := 0, slots := 0, locals := 42 } : Room) (va_Pc [.ref q, .int a1, .int a2] (zB D dA A n (cx D dA A V L N ad (xs ++ [(q, .inr (10, [.int 0, .int 0]))])))) (va_Qv (fun (u : Unit) => True) (fun u t => cx D dA A V L N ad (xs ++ [(q, .inr (10, [.int a1, .int a2]))]) t.heap) A) 0 0 A := by
  refine z_met (by decide) hA hst (Nat.le_of_ble_eq_true rfl) rfl rfl (fun p e s m below meth c X hml hr hnm => ?_)
  refine z_aload_n X dX7_init_0 rfl rfl ?_
  refine z_objInit X g_96 g_42 g_43 ⟨Nat.le_of_ble_eq_true rfl, Nat.le_of_ble_eq_true rfl⟩ dX7_init_1 ?_
  refine z_aload_n X dX7_init_4 rfl rfl ?_
  refine z_iload_n X dX7_init_5 rfl rfl ?_
  refine c_putX X xs.length 10 0 (v := .int a1) (xs' := xs ++ [(q, .inr (10, [.int a1, .int 0]))]) (ty := .int) rx7_ws rfl tyX7_ok nmX7 rfl xa1 rfl (Or.inr ⟨rfl, hnm, rfl⟩) g_97 rfl rfl rfl xe1 dX7_init_6 ?_
  refine z_aload_n X dX7_init_9 rfl rfl ?_
  refine z_iload_n X dX7_init_10 rfl rfl ?_
  refine c_putX X xs.length 10 1 (v := .int a2) (xs' := xs ++ [(q, .inr (10, [.int a1, .int a2]))]) (ty := .int) rx7_ws rfl tyX7_ok nmX7 rfl xa1 rfl (Or.inr ⟨rfl, hnm, rfl⟩) g_99 rfl rfl rfl xe1 dX7_init_11 ?_
  exact z_vret X hr (fun t hG hF _ => ⟨⟨(), rfl, trivial, hG⟩, hF⟩) dX7_init_14
set_option maxRecDepth 100000 in
set_option maxHeartbeats 4000000 in
theorem ck_Bundle (l : Launch) {D : va_G} {dA : Nat → ClassId} {A : Nat → Prop} {n : Nat} (hst : l.stackTraces = false) (hA : ∀ q, n ≤ q → A q) {V : Rho} {L : Lst} {N : Cnt} {ad : Adr} {xs : va_W} {q : Nat} {a1 : Int32} {a2 : Int32} {a3 : Int32} {a4 : Int32} : Met l yX0_init (.code yX0_init cX0_init 5 none :: gT) ({ frames := 1, cells := 0, slots := 0, locals := 42 } : Room) (va_Pc [.ref q, .int a1, .int a2, .int a3, .int a4] (zB D dA A n (cx D dA A V L N ad (xs ++ [(q, .inr (3, [.int 0, .int 0, .int 0, .int 0]))])))) (va_Qv (fun (u : Unit) => True) (fun u t => cx D dA A V L N ad (xs ++ [(q, .inr (3, [.int a1, .int a3, .int a4, .int a2]))]) t.heap) A) 0 0 A := by
  refine z_met (by decide) hA hst (Nat.le_of_ble_eq_true rfl) rfl rfl (fun p e s m below meth c X hml hr hnm => ?_)
  refine z_aload_n X dX0_init_0 rfl rfl ?_
  refine z_objInit X g_531 g_42 g_43 ⟨Nat.le_of_ble_eq_true rfl, Nat.le_of_ble_eq_true rfl⟩ dX0_init_1 ?_
  refine z_aload_n X dX0_init_4 rfl rfl ?_
  refine z_iload_n X dX0_init_5 rfl rfl ?_
  refine c_putX X xs.length 3 0 (v := .int a1) (xs' := xs ++ [(q, .inr (3, [.int a1, .int 0, .int 0, .int 0]))]) (ty := .int) rx0_ws rfl tyX0_ok nmX0 rfl xa1 rfl (Or.inr ⟨rfl, hnm, rfl⟩) g_532 rfl rfl rfl xe1 dX0_init_6 ?_
  refine z_aload_n X dX0_init_9 rfl rfl ?_
  refine z_iload_n X dX0_init_10 rfl rfl ?_
  refine c_putX X xs.length 3 3 (v := .int a2) (xs' := xs ++ [(q, .inr (3, [.int a1, .int 0, .int 0, .int a2]))]) (ty := .int) rx0_ws rfl tyX0_ok nmX0 rfl xa1 rfl (Or.inl rfl) g_535 rfl rfl rfl xe1 dX0_init_11 ?_
  refine z_aload_n X dX0_init_14 rfl rfl ?_
  refine z_iload_n X dX0_init_15 rfl rfl ?_
  refine c_putX X xs.length 3 1 (v := .int a3) (xs' := xs ++ [(q, .inr (3, [.int a1, .int a3, .int 0, .int a2]))]) (ty := .int) rx0_ws rfl tyX0_ok nmX0 rfl xa1 rfl (Or.inr ⟨rfl, hnm, rfl⟩) g_533 rfl rfl rfl xe1 dX0_init_16 ?_
  refine z_aload_n X dX0_init_19 rfl rfl ?_
  refine z_iload X dX0_init_20 rfl ?_
  refine c_putX X xs.length 3 2 (v := .int a4) (xs' := xs ++ [(q, .inr (3, [.int a1, .int a3, .int a4, .int a2]))]) (ty := .int) rx0_ws rfl tyX0_ok nmX0 rfl xa1 rfl (Or.inr ⟨rfl, hnm, rfl⟩) g_534 rfl rfl rfl xe1 dX0_init_22 ?_
  exact z_vret X hr (fun t hG hF _ => ⟨⟨(), rfl, trivial, hG⟩, hF⟩) dX0_init_25
set_option maxRecDepth 100000 in
set_option maxHeartbeats 4000000 in
theorem ck_Cell (l : Launch) {D : va_G} {dA : Nat → ClassId} {A : Nat → Prop} {n : Nat} (hst : l.stackTraces = false) (hA : ∀ q, n ≤ q → A q) {V : Rho} {L : Lst} {N : Cnt} {ad : Adr} {xs : va_W} {q : Nat} {a1 : Int32} {a2 : Int32} (va2 : vp_in a2 (N 10)) : Met l yX2_init (.code yX2_init cX2_init 3 none :: gT) ({ frames := 1, cells := 0, slots := 0, locals := 42 } : Room) (va_Pc [.ref q, .int a1, .ref (ad 10 a2.toNatClampNeg)] (zB D dA A n (cx D dA A V L N ad (xs ++ [(q, .inr (5, [.int 0, .null, .int 0, .int 0]))])))) (va_Qv (fun (u : Unit) => True) (fun u t => cx D dA A V L N ad (xs ++ [(q, .inr (5, [.int a1, .ref (ad 10 a2.toNatClampNeg), .int 3, .int 0]))]) t.heap) A) 0 0 A := by
  refine z_met (by decide) hA hst (Nat.le_of_ble_eq_true rfl) rfl rfl (fun p e s m below meth c X hml hr hnm => ?_)
  refine z_aload_n X dX2_init_0 rfl rfl ?_
  refine z_objInit X g_196 g_42 g_43 ⟨Nat.le_of_ble_eq_true rfl, Nat.le_of_ble_eq_true rfl⟩ dX2_init_1 ?_
  refine z_aload_n X dX2_init_4 rfl rfl ?_
  refine z_iconst (v := 3) X dX2_init_5 (by decide) ?_
  refine c_putX X xs.length 5 2 (v := .int 3) (xs' := xs ++ [(q, .inr (5, [.int 0, .null, .int 3, .int 0]))]) (ty := .int) rx2_ws rfl tyX2_ok nmX2 rfl xa1 rfl (Or.inl rfl) g_202 rfl rfl rfl xe1 dX2_init_6 ?_
  refine z_aload_n X dX2_init_9 rfl rfl ?_
  refine z_iconst (v := 0) X dX2_init_10 (by decide) ?_
  refine c_putX X xs.length 5 3 (v := .int 0) (xs' := xs ++ [(q, .inr (5, [.int 0, .null, .int 3, .int 0]))]) (ty := .int) rx2_ws rfl tyX2_ok nmX2 rfl xa1 rfl (Or.inl rfl) g_204 rfl rfl rfl xe1 dX2_init_11 ?_
  refine z_aload_n X dX2_init_14 rfl rfl ?_
  refine z_iload_n X dX2_init_15 rfl rfl ?_
  refine c_putX X xs.length 5 0 (v := .int a1) (xs' := xs ++ [(q, .inr (5, [.int a1, .null, .int 3, .int 0]))]) (ty := .int) rx2_ws rfl tyX2_ok nmX2 rfl xa1 rfl (Or.inr ⟨rfl, hnm, rfl⟩) g_197 rfl rfl rfl xe1 dX2_init_16 ?_
  refine z_aload_n X dX2_init_19 rfl rfl ?_
  refine z_aload_n X dX2_init_20 rfl rfl ?_
  refine c_putX X xs.length 5 1 (v := .ref (ad 10 a2.toNatClampNeg)) (xs' := xs ++ [(q, .inr (5, [.int a1, .ref (ad 10 a2.toNatClampNeg), .int 3, .int 0]))]) (ty := (.object "MeshBiller$Zone")) rx2_ws rfl tyX2_ok nmX2 rfl xa1 rfl (Or.inl rfl) g_200 rfl rfl rfl xe1 dX2_init_21 ?_
  exact z_vret X hr (fun t hG hF _ => ⟨⟨(), rfl, trivial, hG⟩, hF⟩) dX2_init_24
set_option maxRecDepth 100000 in
set_option maxHeartbeats 4000000 in
theorem ck_Phone (l : Launch) {D : va_G} {dA : Nat → ClassId} {A : Nat → Prop} {n : Nat} (hst : l.stackTraces = false) (hA : ∀ q, n ≤ q → A q) {V : Rho} {L : Lst} {N : Cnt} {ad : Adr} {xs : va_W} {q : Nat} {a1 : Int32} {a2 : Int32} {a3 : Int32} (va2 : vp_in a2 (N 2)) (va3 : vp_in a3 (N 9)) : Met l yX5_init (.code yX5_init cX5_init 4 none :: gT) ({ frames := 1, cells := 0, slots := 0, locals := 42 } : Room) (va_Pc [.ref q, .int a1, .ref (ad 2 a2.toNatClampNeg), .ref (ad 9 a3.toNatClampNeg)] (zB D dA A n (cx D dA A V L N ad (xs ++ [(q, .inr (8, [.int 0, .null, .null, .int 0, .null, .int 0, .int 0]))])))) (va_Qv (fun (u : Unit) => True) (fun u t => cx D dA A V L N ad (xs ++ [(q, .inr (8, [.int a1, .ref (ad 2 a2.toNatClampNeg), .ref (ad 9 a3.toNatClampNeg), .int (-1), .null, .int 0, .int 0]))]) t.heap) A) 0 0 A := by
  refine z_met (by decide) hA hst (Nat.le_of_ble_eq_true rfl) rfl rfl (fun p e s m below meth c X hml hr hnm => ?_)
  refine z_aload_n X dX5_init_0 rfl rfl ?_
  refine z_objInit X g_243 g_42 g_43 ⟨Nat.le_of_ble_eq_true rfl, Nat.le_of_ble_eq_true rfl⟩ dX5_init_1 ?_
  refine z_aload_n X dX5_init_4 rfl rfl ?_
  refine z_iconst (v := (-1)) X dX5_init_5 (by decide) ?_
  refine c_putX X xs.length 8 3 (v := .int (-1)) (xs' := xs ++ [(q, .inr (8, [.int 0, .null, .null, .int (-1), .null, .int 0, .int 0]))]) (ty := .int) rx5_ws rfl tyX5_ok nmX5 rfl xa1 rfl (Or.inl rfl) g_251 rfl rfl rfl xe1 dX5_init_6 ?_
  refine z_aload_n X dX5_init_9 rfl rfl ?_
  refine z_null X dX5_init_10 ?_
  refine c_putX X xs.length 8 4 (v := .null) (xs' := xs ++ [(q, .inr (8, [.int 0, .null, .null, .int (-1), .null, .int 0, .int 0]))]) (ty := (.object "MeshBiller$Leg")) rx5_ws rfl tyX5_ok nmX5 rfl xa1 rfl (Or.inl rfl) g_253 rfl rfl rfl xe1 dX5_init_11 ?_
  refine z_aload_n X dX5_init_14 rfl rfl ?_
  refine z_iconst (v := 0) X dX5_init_15 (by decide) ?_
  refine c_putX X xs.length 8 5 (v := .int 0) (xs' := xs ++ [(q, .inr (8, [.int 0, .null, .null, .int (-1), .null, .int 0, .int 0]))]) (ty := .int) rx5_ws rfl tyX5_ok nmX5 rfl xa1 rfl (Or.inl rfl) g_255 rfl rfl rfl xe1 dX5_init_16 ?_
  refine z_aload_n X dX5_init_19 rfl rfl ?_
  refine z_iconst (v := 0) X dX5_init_20 (by decide) ?_
  refine c_putX X xs.length 8 6 (v := .int 0) (xs' := xs ++ [(q, .inr (8, [.int 0, .null, .null, .int (-1), .null, .int 0, .int 0]))]) (ty := .int) rx5_ws rfl tyX5_ok nmX5 rfl xa1 rfl (Or.inl rfl) g_256 rfl rfl rfl xe1 dX5_init_21 ?_
  refine z_aload_n X dX5_init_24 rfl rfl ?_
  refine z_iload_n X dX5_init_25 rfl rfl ?_
  refine c_putX X xs.length 8 0 (v := .int a1) (xs' := xs ++ [(q, .inr (8, [.int a1, .null, .null, .int (-1), .null, .int 0, .int 0]))]) (ty := .int) rx5_ws rfl tyX5_ok nmX5 rfl xa1 rfl (Or.inr ⟨rfl, hnm, rfl⟩) g_244 rfl rfl rfl xe1 dX5_init_26 ?_
  refine z_aload_n X dX5_init_29 rfl rfl ?_
  refine z_aload_n X dX5_init_30 rfl rfl ?_
  refine c_putX X xs.length 8 1 (v := .ref (ad 2 a2.toNatClampNeg)) (xs' := xs ++ [(q, .inr (8, [.int a1, .ref (ad 2 a2.toNatClampNeg), .null, .int (-1), .null, .int 0, .int 0]))]) (ty := (.object "MeshBiller$Cell")) rx5_ws rfl tyX5_ok nmX5 rfl xa1 rfl (Or.inl rfl) g_247 rfl rfl rfl xe1 dX5_init_31 ?_
  refine z_aload_n X dX5_init_34 rfl rfl ?_
  refine z_aload_n X dX5_init_35 rfl rfl ?_
  refine c_putX X xs.length 8 2 (v := .ref (ad 9 a3.toNatClampNeg)) (xs' := xs ++ [(q, .inr (8, [.int a1, .ref (ad 2 a2.toNatClampNeg), .ref (ad 9 a3.toNatClampNeg), .int (-1), .null, .int 0, .int 0]))]) (ty := (.object "MeshBiller$Wallet")) rx5_ws rfl tyX5_ok nmX5 rfl xa1 rfl (Or.inl rfl) g_249 rfl rfl rfl xe1 dX5_init_36 ?_
  exact z_vret X hr (fun t hG hF _ => ⟨⟨(), rfl, trivial, hG⟩, hF⟩) dX5_init_39
set_option maxRecDepth 100000 in
set_option maxHeartbeats 4000000 in
theorem ck_Call (l : Launch) {D : va_G} {dA : Nat → ClassId} {A : Nat → Prop} {n : Nat} (hst : l.stackTraces = false) (hA : ∀ q, n ≤ q → A q) {V : Rho} {L : Lst} {N : Cnt} {ad : Adr} {xs : va_W} {q : Nat} {a1 : Int32} {a2 : Int32} (va2 : vp_in a2 (N 5)) : Met l yX1_init (.code yX1_init cX1_init 3 none :: gT) ({ frames := 4, cells := 1, slots := 3, locals := 168 } : Room) (va_Pc [.ref q, .int a1, .ref (ad 5 a2.toNatClampNeg)] (zB D dA A n (cx D dA A V L N ad (xs ++ [(q, .inr (4, [.int 0, .null, .null]))])))) (va_Qv (fun (u : Nat) => True) (fun u t => cx D dA A V L N ad (xs ++ [(q, .inr (4, [.int a1, .ref (ad 5 a2.toNatClampNeg), .ref u]))] ++ [(u, .inr (2, [.int 0, .ref (dA 99), .int 0]))]) t.heap) A) 1 3 A := by
  refine z_met (by decide) hA hst (Nat.le_of_ble_eq_true rfl) rfl rfl (fun p e s m below meth c X hml hr hnm => ?_)
  refine z_aload_n X dX1_init_0 rfl rfl ?_
  refine z_objInit X g_877 g_42 g_43 ⟨Nat.le_of_ble_eq_true rfl, Nat.le_of_ble_eq_true rfl⟩ dX1_init_1 ?_
  refine z_aload_n X dX1_init_4 rfl rfl ?_
  refine c_new X 2 (fs := [.int 0, .null, .int 0]) tyJx4a65c rj_ws rfl tyJx4a65c_ok g_878 g_53 g_4 (fun j hj => by rcases (show j = 0 ∨ j = 1 ∨ j = 2 by omega) with rfl | rfl | rfl <;> rfl) ⟨by show _ ≤ 1; omega, by show _ ≤ 3; omega⟩ dX1_init_5 (fun q1 => ?_)
  refine z_dup X dX1_init_8 rfl ?_
  refine z_callI (As := []) (rest := [.ref q1, .ref q]) (nA := 0) (mc := 0) (ms := 0) (pu := fun (_ : Unit) => True) (G1 := fun _ => cx D dA A V L N ad (xs ++ [(q, .inr (4, [.int 0, .null, .null]))] ++ [(q1, .inr (2, [.int 0, .ref (dA 99), .int 0]))])) X (ck_List l X.2.2.2.2.2.2.2.2 X.2.2.2.2.2.2.1) g_879 g_55 g_4 g_56 hd_yJx4a65c_init_da8c8 ⟨rfl, rfl, Nat.le_of_ble_eq_true rfl, Nat.le_of_ble_eq_true rfl⟩ rfl rfl (Nat.le_of_ble_eq_true rfl) dX1_init_9 ⟨by show _ ≤ 1; omega, by show _ ≤ 3; omega⟩ (fun _ _ => ?_)
  refine c_putX X xs.length 4 2 (v := .ref q1) (xs' := xs ++ [(q, .inr (4, [.int 0, .null, .ref q1]))] ++ [(q1, .inr (2, [.int 0, .ref (dA 99), .int 0]))]) (ty := (.object "java/util/ArrayList")) rx1_ws rfl tyX1_ok nmX1 rfl xa2 rfl (Or.inr ⟨rfl, hnm, rfl⟩) g_884 rfl rfl rfl xe2 dX1_init_12 ?_
  refine z_aload_n X dX1_init_15 rfl rfl ?_
  refine z_iload_n X dX1_init_16 rfl rfl ?_
  refine c_putX X xs.length 4 0 (v := .int a1) (xs' := xs ++ [(q, .inr (4, [.int a1, .null, .ref q1]))] ++ [(q1, .inr (2, [.int 0, .ref (dA 99), .int 0]))]) (ty := .int) rx1_ws rfl tyX1_ok nmX1 rfl xa2 rfl (Or.inr ⟨rfl, hnm, rfl⟩) g_880 rfl rfl rfl xe2 dX1_init_17 ?_
  refine z_aload_n X dX1_init_20 rfl rfl ?_
  refine z_aload_n X dX1_init_21 rfl rfl ?_
  refine c_putX X xs.length 4 1 (v := .ref (ad 5 a2.toNatClampNeg)) (xs' := xs ++ [(q, .inr (4, [.int a1, .ref (ad 5 a2.toNatClampNeg), .ref q1]))] ++ [(q1, .inr (2, [.int 0, .ref (dA 99), .int 0]))]) (ty := (.object "MeshBiller$Phone")) rx1_ws rfl tyX1_ok nmX1 rfl xa2 rfl (Or.inr ⟨rfl, hnm, rfl⟩) g_882 rfl rfl rfl xe2 dX1_init_22 ?_
  refine zz.widen (k := 1) (n := 3) (by omega) (by omega) ?_
  exact z_vret X hr (fun t hG hF _ => ⟨⟨q1, rfl, trivial, hG⟩, hF⟩) dX1_init_25
set_option maxRecDepth 100000 in
set_option maxHeartbeats 4000000 in
theorem ck_Wallet (l : Launch) {D : va_G} {dA : Nat → ClassId} {A : Nat → Prop} {n : Nat} (hst : l.stackTraces = false) (hA : ∀ q, n ≤ q → A q) {V : Rho} {L : Lst} {N : Cnt} {ad : Adr} {xs : va_W} {q : Nat} {a1 : Int32} : Met l yX9_init (.code yX9_init cX9_init 2 none :: gT) ({ frames := 4, cells := 1, slots := 3, locals := 168 } : Room) (va_Pc [.ref q, .int a1] (zB D dA A n (cx D dA A V L N ad (xs ++ [(q, .inr (12, [.int 0, .null, .int 0, .int 0]))])))) (va_Qv (fun (u : Nat) => True) (fun u t => cx D dA A V L N ad (xs ++ [(q, .inr (12, [.int a1, .ref u, .int 0, .int 0]))] ++ [(u, .inr (2, [.int 0, .ref (dA 99), .int 0]))]) t.heap) A) 1 3 A := by
  refine z_met (by decide) hA hst (Nat.le_of_ble_eq_true rfl) rfl rfl (fun p e s m below meth c X hml hr hnm => ?_)
  refine z_aload_n X dX9_init_0 rfl rfl ?_
  refine z_objInit X g_219 g_42 g_43 ⟨Nat.le_of_ble_eq_true rfl, Nat.le_of_ble_eq_true rfl⟩ dX9_init_1 ?_
  refine z_aload_n X dX9_init_4 rfl rfl ?_
  refine c_new X 2 (fs := [.int 0, .null, .int 0]) tyJx4a65c rj_ws rfl tyJx4a65c_ok g_220 g_53 g_4 (fun j hj => by rcases (show j = 0 ∨ j = 1 ∨ j = 2 by omega) with rfl | rfl | rfl <;> rfl) ⟨by show _ ≤ 1; omega, by show _ ≤ 3; omega⟩ dX9_init_5 (fun q1 => ?_)
  refine z_dup X dX9_init_8 rfl ?_
  refine z_callI (As := []) (rest := [.ref q1, .ref q]) (nA := 0) (mc := 0) (ms := 0) (pu := fun (_ : Unit) => True) (G1 := fun _ => cx D dA A V L N ad (xs ++ [(q, .inr (12, [.int 0, .null, .int 0, .int 0]))] ++ [(q1, .inr (2, [.int 0, .ref (dA 99), .int 0]))])) X (ck_List l X.2.2.2.2.2.2.2.2 X.2.2.2.2.2.2.1) g_221 g_55 g_4 g_56 hd_yJx4a65c_init_da8c8 ⟨rfl, rfl, Nat.le_of_ble_eq_true rfl, Nat.le_of_ble_eq_true rfl⟩ rfl rfl (Nat.le_of_ble_eq_true rfl) dX9_init_9 ⟨by show _ ≤ 1; omega, by show _ ≤ 3; omega⟩ (fun _ _ => ?_)
  refine c_putX X xs.length 12 1 (v := .ref q1) (xs' := xs ++ [(q, .inr (12, [.int 0, .ref q1, .int 0, .int 0]))] ++ [(q1, .inr (2, [.int 0, .ref (dA 99), .int 0]))]) (ty := (.object "java/util/ArrayList")) rx9_ws rfl tyX9_ok nmX9 rfl xa2 rfl (Or.inr ⟨rfl, hnm, rfl⟩) g_224 rfl rfl rfl xe2 dX9_init_12 ?_
  refine z_aload_n X dX9_init_15 rfl rfl ?_
  refine z_iconst (v := 0) X dX9_init_16 (by decide) ?_
  refine c_putX X xs.length 12 2 (v := .int 0) (xs' := xs ++ [(q, .inr (12, [.int 0, .ref q1, .int 0, .int 0]))] ++ [(q1, .inr (2, [.int 0, .ref (dA 99), .int 0]))]) (ty := .int) rx9_ws rfl tyX9_ok nmX9 rfl xa2 rfl (Or.inl rfl) g_225 rfl rfl rfl xe2 dX9_init_17 ?_
  refine z_aload_n X dX9_init_20 rfl rfl ?_
  refine z_iconst (v := 0) X dX9_init_21 (by decide) ?_
  refine c_putX X xs.length 12 3 (v := .int 0) (xs' := xs ++ [(q, .inr (12, [.int 0, .ref q1, .int 0, .int 0]))] ++ [(q1, .inr (2, [.int 0, .ref (dA 99), .int 0]))]) (ty := .int) rx9_ws rfl tyX9_ok nmX9 rfl xa2 rfl (Or.inl rfl) g_227 rfl rfl rfl xe2 dX9_init_22 ?_
  refine z_aload_n X dX9_init_25 rfl rfl ?_
  refine z_iload_n X dX9_init_26 rfl rfl ?_
  refine c_putX X xs.length 12 0 (v := .int a1) (xs' := xs ++ [(q, .inr (12, [.int a1, .ref q1, .int 0, .int 0]))] ++ [(q1, .inr (2, [.int 0, .ref (dA 99), .int 0]))]) (ty := .int) rx9_ws rfl tyX9_ok nmX9 rfl xa2 rfl (Or.inr ⟨rfl, hnm, rfl⟩) g_222 rfl rfl rfl xe2 dX9_init_27 ?_
  refine zz.widen (k := 1) (n := 3) (by omega) (by omega) ?_
  exact z_vret X hr (fun t hG hF _ => ⟨⟨q1, rfl, trivial, hG⟩, hF⟩) dX9_init_30
set_option maxRecDepth 100000 in
set_option maxHeartbeats 4000000 in
theorem ck_Leg (l : Launch) {D : va_G} {dA : Nat → ClassId} {A : Nat → Prop} {n : Nat} (hst : l.stackTraces = false) (hA : ∀ q, n ≤ q → A q) {V : Rho} {L : Lst} {N : Cnt} {ad : Adr} {xs : va_W} {q : Nat} {a1 : Int32} {a2 : Int32} {a3 : Int32} {a4 : Int32} {a5 : Int32} (va2 : vp_in a2 (N 5)) (va3 : vp_in a3 (N 1)) (va4 : vp_in a4 (N 9)) : Met l yX4_init (.code yX4_init cX4_init 6 none :: gT) ({ frames := 4, cells := 2, slots := 6, locals := 168 } : Room) (va_Pc [.ref q, .int a1, .ref (ad 5 a2.toNatClampNeg), .ref (ad 1 a3.toNatClampNeg), .ref (ad 9 a4.toNatClampNeg), .int a5] (zB D dA A n (cx D dA A V L N ad (xs ++ [(q, .inr (7, [.int 0, .null, .null, .null, .int 0, .null, .null, .int 0, .int 0, .int 0, .int 0, .int 0]))])))) (va_Qv (fun (u : Nat × Nat) => True) (fun u t => cx D dA A V L N ad (xs ++ [(q, .inr (7, [.int a1, .ref (ad 5 a2.toNatClampNeg), .ref (ad 1 a3.toNatClampNeg), .ref (ad 9 a4.toNatClampNeg), .int a5, .ref u.1, .ref u.2, .int 0, .int 0, .int 0, .int 0, .int ((V 100 a2.toNatClampNeg)).toInt8.toInt32]))] ++ [(u.1, .inr (11, [.int 0, .int 0, .null]))] ++ [(u.2, .inr (2, [.int 0, .ref (dA 99), .int 0]))]) t.heap) A) 2 6 A := by
  refine z_met (by decide) hA hst (Nat.le_of_ble_eq_true rfl) rfl rfl (fun p e s m below meth c X hml hr hnm => ?_)
  refine z_aload_n X dX4_init_0 rfl rfl ?_
  refine z_objInit X g_902 g_42 g_43 ⟨Nat.le_of_ble_eq_true rfl, Nat.le_of_ble_eq_true rfl⟩ dX4_init_1 ?_
  refine z_aload_n X dX4_init_4 rfl rfl ?_
  refine c_new X 11 (fs := [.int 0, .int 0, .null]) tyX8 rx8_ws rfl tyX8_ok g_903 g_904 g_34 (fun j hj => by rcases (show j = 0 ∨ j = 1 ∨ j = 2 by omega) with rfl | rfl | rfl <;> rfl) ⟨by show _ ≤ 2; omega, by show _ ≤ 6; omega⟩ dX4_init_5 (fun q1 => ?_)
  refine z_dup X dX4_init_8 rfl ?_
  refine z_callIN (As := []) (rest := [.ref q1, .ref q]) (nA := 0) (mc := 0) (ms := 0) (pu := fun (_ : Unit) => True) (G1 := fun _ => cx D dA A V L N ad (xs ++ [(q, .inr (7, [.int 0, .null, .null, .null, .int 0, .null, .null, .int 0, .int 0, .int 0, .int 0, .int 0]))] ++ [(q1, .inr (11, [.int 0, .int 0, .null]))])) X (ck_Slice l X.2.2.2.2.2.2.2.2 X.2.2.2.2.2.2.1) X.2.2.2.2.2.2.2.1.2.2.2.2.2.1 g_906 g_34 g_907 hd_yX8_init ⟨rfl, rfl, Nat.le_of_ble_eq_true rfl, Nat.le_of_ble_eq_true rfl⟩ rfl rfl (Nat.le_of_ble_eq_true rfl) dX4_init_9 ⟨by show _ ≤ 2; omega, by show _ ≤ 6; omega⟩ (fun _ _ => ?_)
  refine c_putX X xs.length 7 5 (v := .ref q1) (xs' := xs ++ [(q, .inr (7, [.int 0, .null, .null, .null, .int 0, .ref q1, .null, .int 0, .int 0, .int 0, .int 0, .int 0]))] ++ [(q1, .inr (11, [.int 0, .int 0, .null]))]) (ty := (.object "MeshBiller$Slice")) rx4_ws rfl tyX4_ok nmX4 rfl xa2 rfl (Or.inr ⟨rfl, hnm, rfl⟩) g_935 rfl rfl rfl xe2 dX4_init_12 ?_
  refine z_aload_n X dX4_init_15 rfl rfl ?_
  refine c_new X 2 (fs := [.int 0, .null, .int 0]) tyJx4a65c rj_ws rfl tyJx4a65c_ok g_924 g_53 g_4 (fun j hj => by rcases (show j = 0 ∨ j = 1 ∨ j = 2 by omega) with rfl | rfl | rfl <;> rfl) ⟨by show _ ≤ 2; omega, by show _ ≤ 6; omega⟩ dX4_init_16 (fun q2 => ?_)
  refine z_dup X dX4_init_19 rfl ?_
  refine z_callI (As := []) (rest := [.ref q2, .ref q]) (nA := 0) (mc := 0) (ms := 0) (pu := fun (_ : Unit) => True) (G1 := fun _ => cx D dA A V L N ad (xs ++ [(q, .inr (7, [.int 0, .null, .null, .null, .int 0, .ref q1, .null, .int 0, .int 0, .int 0, .int 0, .int 0]))] ++ [(q1, .inr (11, [.int 0, .int 0, .null]))] ++ [(q2, .inr (2, [.int 0, .ref (dA 99), .int 0]))])) X (ck_List l X.2.2.2.2.2.2.2.2 X.2.2.2.2.2.2.1) g_925 g_55 g_4 g_56 hd_yJx4a65c_init_da8c8 ⟨rfl, rfl, Nat.le_of_ble_eq_true rfl, Nat.le_of_ble_eq_true rfl⟩ rfl rfl (Nat.le_of_ble_eq_true rfl) dX4_init_20 ⟨by show _ ≤ 2; omega, by show _ ≤ 6; omega⟩ (fun _ _ => ?_)
  refine c_putX X xs.length 7 6 (v := .ref q2) (xs' := xs ++ [(q, .inr (7, [.int 0, .null, .null, .null, .int 0, .ref q1, .ref q2, .int 0, .int 0, .int 0, .int 0, .int 0]))] ++ [(q1, .inr (11, [.int 0, .int 0, .null]))] ++ [(q2, .inr (2, [.int 0, .ref (dA 99), .int 0]))]) (ty := (.object "java/util/ArrayList")) rx4_ws rfl tyX4_ok nmX4 rfl xa3 rfl (Or.inr ⟨rfl, hnm, rfl⟩) g_937 rfl rfl rfl xe3 dX4_init_23 ?_
  refine z_aload_n X dX4_init_26 rfl rfl ?_
  refine z_iconst (v := 0) X dX4_init_27 (by decide) ?_
  refine c_putX X xs.length 7 7 (v := .int 0) (xs' := xs ++ [(q, .inr (7, [.int 0, .null, .null, .null, .int 0, .ref q1, .ref q2, .int 0, .int 0, .int 0, .int 0, .int 0]))] ++ [(q1, .inr (11, [.int 0, .int 0, .null]))] ++ [(q2, .inr (2, [.int 0, .ref (dA 99), .int 0]))]) (ty := .int) rx4_ws rfl tyX4_ok nmX4 rfl xa3 rfl (Or.inl rfl) g_939 rfl rfl rfl xe3 dX4_init_28 ?_
  refine z_aload_n X dX4_init_31 rfl rfl ?_
  refine z_iconst (v := 0) X dX4_init_32 (by decide) ?_
  refine c_putX X xs.length 7 8 (v := .int 0) (xs' := xs ++ [(q, .inr (7, [.int 0, .null, .null, .null, .int 0, .ref q1, .ref q2, .int 0, .int 0, .int 0, .int 0, .int 0]))] ++ [(q1, .inr (11, [.int 0, .int 0, .null]))] ++ [(q2, .inr (2, [.int 0, .ref (dA 99), .int 0]))]) (ty := .int) rx4_ws rfl tyX4_ok nmX4 rfl xa3 rfl (Or.inl rfl) g_942 rfl rfl rfl xe3 dX4_init_33 ?_
  refine z_aload_n X dX4_init_36 rfl rfl ?_
  refine z_iconst (v := 0) X dX4_init_37 (by decide) ?_
  refine c_putX X xs.length 7 9 (v := .int 0) (xs' := xs ++ [(q, .inr (7, [.int 0, .null, .null, .null, .int 0, .ref q1, .ref q2, .int 0, .int 0, .int 0, .int 0, .int 0]))] ++ [(q1, .inr (11, [.int 0, .int 0, .null]))] ++ [(q2, .inr (2, [.int 0, .ref (dA 99), .int 0]))]) (ty := .int) rx4_ws rfl tyX4_ok nmX4 rfl xa3 rfl (Or.inl rfl) g_944 rfl rfl rfl xe3 dX4_init_38 ?_
  refine z_aload_n X dX4_init_41 rfl rfl ?_
  refine z_iconst (v := 0) X dX4_init_42 (by decide) ?_
  refine c_putX X xs.length 7 10 (v := .int 0) (xs' := xs ++ [(q, .inr (7, [.int 0, .null, .null, .null, .int 0, .ref q1, .ref q2, .int 0, .int 0, .int 0, .int 0, .int 0]))] ++ [(q1, .inr (11, [.int 0, .int 0, .null]))] ++ [(q2, .inr (2, [.int 0, .ref (dA 99), .int 0]))]) (ty := .int) rx4_ws rfl tyX4_ok nmX4 rfl xa3 rfl (Or.inl rfl) g_946 rfl rfl rfl xe3 dX4_init_43 ?_
  refine z_aload_n X dX4_init_46 rfl rfl ?_
  refine z_iload_n X dX4_init_47 rfl rfl ?_
  refine c_putX X xs.length 7 0 (v := .int a1) (xs' := xs ++ [(q, .inr (7, [.int a1, .null, .null, .null, .int 0, .ref q1, .ref q2, .int 0, .int 0, .int 0, .int 0, .int 0]))] ++ [(q1, .inr (11, [.int 0, .int 0, .null]))] ++ [(q2, .inr (2, [.int 0, .ref (dA 99), .int 0]))]) (ty := .int) rx4_ws rfl tyX4_ok nmX4 rfl xa3 rfl (Or.inr ⟨rfl, hnm, rfl⟩) g_926 rfl rfl rfl xe3 dX4_init_48 ?_
  refine z_aload_n X dX4_init_51 rfl rfl ?_
  refine z_aload_n X dX4_init_52 rfl rfl ?_
  refine c_putX X xs.length 7 1 (v := .ref (ad 5 a2.toNatClampNeg)) (xs' := xs ++ [(q, .inr (7, [.int a1, .ref (ad 5 a2.toNatClampNeg), .null, .null, .int 0, .ref q1, .ref q2, .int 0, .int 0, .int 0, .int 0, .int 0]))] ++ [(q1, .inr (11, [.int 0, .int 0, .null]))] ++ [(q2, .inr (2, [.int 0, .ref (dA 99), .int 0]))]) (ty := (.object "MeshBiller$Phone")) rx4_ws rfl tyX4_ok nmX4 rfl xa3 rfl (Or.inr ⟨rfl, hnm, rfl⟩) g_928 rfl rfl rfl xe3 dX4_init_53 ?_
  refine z_aload_n X dX4_init_56 rfl rfl ?_
  refine z_aload_n X dX4_init_57 rfl rfl ?_
  refine c_putX X xs.length 7 2 (v := .ref (ad 1 a3.toNatClampNeg)) (xs' := xs ++ [(q, .inr (7, [.int a1, .ref (ad 5 a2.toNatClampNeg), .ref (ad 1 a3.toNatClampNeg), .null, .int 0, .ref q1, .ref q2, .int 0, .int 0, .int 0, .int 0, .int 0]))] ++ [(q1, .inr (11, [.int 0, .int 0, .null]))] ++ [(q2, .inr (2, [.int 0, .ref (dA 99), .int 0]))]) (ty := (.object "MeshBiller$Call")) rx4_ws rfl tyX4_ok nmX4 rfl xa3 rfl (Or.inr ⟨rfl, hnm, rfl⟩) g_930 rfl rfl rfl xe3 dX4_init_58 ?_
  refine z_aload_n X dX4_init_61 rfl rfl ?_
  refine z_aload X dX4_init_62 rfl ?_
  refine c_putX X xs.length 7 3 (v := .ref (ad 9 a4.toNatClampNeg)) (xs' := xs ++ [(q, .inr (7, [.int a1, .ref (ad 5 a2.toNatClampNeg), .ref (ad 1 a3.toNatClampNeg), .ref (ad 9 a4.toNatClampNeg), .int 0, .ref q1, .ref q2, .int 0, .int 0, .int 0, .int 0, .int 0]))] ++ [(q1, .inr (11, [.int 0, .int 0, .null]))] ++ [(q2, .inr (2, [.int 0, .ref (dA 99), .int 0]))]) (ty := (.object "MeshBiller$Wallet")) rx4_ws rfl tyX4_ok nmX4 rfl xa3 rfl (Or.inr ⟨rfl, hnm, rfl⟩) g_932 rfl rfl rfl xe3 dX4_init_64 ?_
  refine z_aload_n X dX4_init_67 rfl rfl ?_
  refine z_iload X dX4_init_68 rfl ?_
  refine c_putX X xs.length 7 4 (v := .int a5) (xs' := xs ++ [(q, .inr (7, [.int a1, .ref (ad 5 a2.toNatClampNeg), .ref (ad 1 a3.toNatClampNeg), .ref (ad 9 a4.toNatClampNeg), .int a5, .ref q1, .ref q2, .int 0, .int 0, .int 0, .int 0, .int 0]))] ++ [(q1, .inr (11, [.int 0, .int 0, .null]))] ++ [(q2, .inr (2, [.int 0, .ref (dA 99), .int 0]))]) (ty := .int) rx4_ws rfl tyX4_ok nmX4 rfl xa3 rfl (Or.inr ⟨rfl, hnm, rfl⟩) g_934 rfl rfl rfl xe3 dX4_init_70 ?_
  refine z_aload_n X dX4_init_73 rfl rfl ?_
  refine z_aload_n X dX4_init_74 rfl rfl ?_
  refine c_get X 5 0 (v := .int (V 100 a2.toNatClampNeg)) rx5_ws rfl rfl rfl (vp_lt va2) g_245 rfl dX4_init_75 ?_
  refine z_i2b X dX4_init_78 ?_
  refine c_putX X xs.length 7 11 (v := .int ((V 100 a2.toNatClampNeg)).toInt8.toInt32) (xs' := xs ++ [(q, .inr (7, [.int a1, .ref (ad 5 a2.toNatClampNeg), .ref (ad 1 a3.toNatClampNeg), .ref (ad 9 a4.toNatClampNeg), .int a5, .ref q1, .ref q2, .int 0, .int 0, .int 0, .int 0, .int ((V 100 a2.toNatClampNeg)).toInt8.toInt32]))] ++ [(q1, .inr (11, [.int 0, .int 0, .null]))] ++ [(q2, .inr (2, [.int 0, .ref (dA 99), .int 0]))]) (ty := .byte) rx4_ws rfl tyX4_ok nmX4 rfl xa3 rfl (Or.inl rfl) g_948 rfl (pk_nb _) (pk_fb _) xe3 dX4_init_79 ?_
  refine zz.widen (k := 2) (n := 6) (by omega) (by omega) ?_
  exact z_vret X hr (fun t hG hF _ => ⟨⟨(q1, q2), rfl, trivial, hG⟩, hF⟩) dX4_init_82
