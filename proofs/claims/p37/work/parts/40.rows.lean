/-! CONSTRUCTORS: rows about cells beside the tables, the rate histories and the zones -/
theorem g_180 : Cond.fieldLink RX10 7 "MeshBiller$Zone" "number" "I" ∈ gT := gT_t 180 (by decide +kernel) rfl
theorem g_82 : Cond.methodLink RX10 1 Lib.objectInit ∈ gT := gT_t 84 (by decide +kernel) rfl
theorem g_83 : Cond.classLink RX10 13 "MeshBiller$RateHistory" ∈ gT := gT_t 85 (by decide +kernel) rfl
theorem g_84 : Cond.instantiable RX6 2 ∈ gT := gT_t 86 (by decide +kernel) rfl
theorem g_85 : Cond.methodLink RX10 15 yX6_init ∈ gT := gT_t 87 (by decide +kernel) rfl
theorem g_86 : Cond.instanceMethod yX6_init ∈ gT := gT_t 88 (by decide +kernel) rfl
theorem g_87 : Cond.code yX6_init cX6_init 2 none ∈ gT := gT_t 89 (by decide +kernel) rfl
theorem g_88 : Cond.methodLink RX6 3 Lib.objectInit ∈ gT := gT_t 90 (by decide +kernel) rfl
theorem g_89 : Cond.classLink RX6 9 "java/util/ArrayList" ∈ gT := gT_t 91 (by decide +kernel) rfl
theorem g_90 : Cond.methodLink RX6 11 yJx4a65c_init_da8c8 ∈ gT := gT_t 92 (by decide +kernel) rfl
theorem hd_yX6_init : yX6_init.name = "<init>" ∧ yX6_init.cls ≠ "java/lang/invoke/MethodHandle" ∧ yX6_init.cls ≠ "java/lang/invoke/VarHandle" ∧ (parseMethodDescriptor yX6_init.desc).map (fun d => d.parameters.length) = some 1 := by decide +kernel
section CX
variable {p : Program} {l : Launch} {e : Env} {R : Room} {s : State} {m : MethodId} {args : Array Value} {below : List Frame} {meth : Method} {c : Code} {A : Nat → Prop} {G : Heap → Prop} {cells slots : Nat} {Q : State → Prop}
variable {cc : ByteArray} {own : String} {D : va_G} {dA : Nat → ClassId} {pc : Nat} {lo : List (Nat × Value)} {ll : List (Nat × Int64)} {rest : List Value} {V V' : Rho} {L : Lst} {N : Cnt} {ad : Adr} {xs : va_W} {C : String} {T : u_T}
theorem cx_setX {H H1 : Heap} {j a : Nat} {e0 e' : va_E} (hG : cx D dA A V L N ad xs H) (hx9 : xs[j]? = some (a, e0)) (h1 : va_at D vwCl (a, e') H1) (o : ∀ q, q ≠ a → H1[q]? = H[q]?) : cx D dA A V L N ad (xs.set j (a, e')) H1 := by
  have hx := hG.2.2.2.2.2.2.2.2.2
  refine hG.kept hG.2.2.2.2.1 (fun k i h => o _ (fun z => hx.2.2 j _ hx9 k i h z)) ⟨hx.1.set hx.2.1 hx9 h1 o, hx.2.1.set hx9, ?_⟩
  intro j2 q hj2 k i h
  by_cases hjj : j2 = j
  · subst hjj
    rw [List.getElem?_set_self (List.getElem?_eq_some_iff.mp hx9).1] at hj2
    cases hj2
    exact hx.2.2 j2 _ hx9 k i h
  · rw [List.getElem?_set_ne (Ne.symm hjj)] at hj2
    exact hx.2.2 j2 q hj2 k i h
theorem cx_pushX {H H1 : Heap} {e' : va_E} (hG : cx D dA A V L N ad xs H) (hA : A H.size) (h1 : va_at D vwCl (H.size, e') H1) (o : ∀ q, q < H.size → H1[q]? = H[q]?) : cx D dA A V L N ad (xs ++ [(H.size, e')]) H1 := by
  have hlv : ∀ k i, live L N k i → ad k i < H.size := fun k i h => hG.lt h
  have hx := hG.2.2.2.2.2.2.2.2.2
  have hP1 : va_P D vwCl xs H1 := hx.1.kept (fun j q hj => o _ (hx.1 j q hj).lt)
  refine hG.kept hG.2.2.2.2.1 (fun k i h => o _ (hlv k i h)) ⟨hP1.app (zone1 h1), hx.2.1.push hx.1 rfl hA, ?_⟩
  intro j q hj k i h
  by_cases hjl : j < xs.length
  · rw [List.getElem?_append_left hjl] at hj
    exact hx.2.2 j q hj k i h
  · rw [List.getElem?_append_right (by omega)] at hj
    have hz : j - xs.length < 1 := (List.getElem?_eq_some_iff.mp hj).1
    rw [show j - xs.length = 0 by omega] at hj
    cases hj
    exact fun z => by have := hlv k i h; rw [z] at this; exact absurd this (Nat.lt_irrefl _)
theorem c_getX (X : zc p l s m args meth c cc own D dA A) (j ci f : Nat) {a idx n : Nat} {fs : List Value} {v : Value} (hin : ∀ w ∈ u_ws C T n, w ∈ gT) (hcl : vwCl[ci]? = some (C, T, n)) (hf : Nat.ble (f + 1) n = true) (hx9 : xs[j]? = some (a, .inr (ci, fs))) (hw : Cond.fieldLink own idx (T f).1 (T f).2.1 (T f).2.2.1 ∈ gT) (hv : fs[f]? = some v) (hdg : decode cc pc = .ok (.getfield idx, 3))
    (kk : zz p l e R s m args below meth c A (cx D dA A V L N ad xs) cells slots Q (pc + 3) lo ll (v :: rest)) : zz p l e R s m args below meth c A (cx D dA A V L N ad xs) cells slots Q pc lo ll (.ref a :: rest) :=
  fun H locs ls hG hS hl hc => va_get X.1 X.2.1 X.2.2.2.1 hin X.2.2.1 X.2.2.2.2.2.1 hG.2.2.2.2.2.2.2.2.2.1 j hx9 hcl f (Nat.le_of_ble_eq_true hf) (X.2.2.2.1 _ hw) (fun _ h => h) hv hdg (kk H locs ls hG hS hl hc)
theorem c_aaldX (X : zc p l s m args meth c cc own D dA A) (j t : Nat) {a n : Nat} {f : Nat → Option Nat} {i : Int32} {o : Option Nat} (ht : (ztys dA)[t]? = some (dA t, .object C)) (hx9 : xs[j]? = some (a, .inl (dA t, n, .inr (.inr (.inr (.inr f)))))) (hi : vp_in i n) (ho : f i.toNatClampNeg = o) (hdg : decode cc pc = .ok (.aaload, 1))
    (kk : zz p l e R s m args below meth c A (cx D dA A V L N ad xs) cells slots Q (pc + 1) lo ll (va_rf o :: rest)) : zz p l e R s m args below meth c A (cx D dA A V L N ad xs) cells slots Q pc lo ll (.int i :: .ref a :: rest) := by
  subst ho
  exact fun H locs ls hG hS hl hc => va_aldq X.1 X.2.1 X.2.2.2.2.2.1 hG.2.2.2.2.2.2.2.2.2.1 j t hx9 ht hi hdg (kk H locs ls hG hS hl hc)
theorem c_newqX (X : zc p l s m args meth c cc own D dA A) (t : Nat) {idx N' : Nat} {n : Int32} (ht : (ztys dA)[t]? = some (dA t, .object C)) (hza : C ∈ zarrs) (hw : Cond.classLink own idx C ∈ gT) (hn : ¬ n < 0) (hN : n.toNatClampNeg = N') (hb : N' * 4 ≤ 536870912) (hcs : cells + 1 ≤ R.cells ∧ slots + N' ≤ R.slots) (hdg : decode cc pc = .ok (.anewarray idx, 3))
    (kk : ∀ q : Nat, zz p l e R s m args below meth c A (cx D dA A V L N ad (xs ++ [(q, .inl (dA t, N', .inr (.inr (.inr (.inr (fun _ => none))))))])) (cells + 1) (slots + N') Q (pc + 3) lo ll (.ref q :: rest)) : zz p l e R s m args below meth c A (cx D dA A V L N ad xs) cells slots Q pc lo ll (.int n :: rest) := by
  subst hN
  intro H locs ls hG hS hl hc
  refine W.anew X.1 X.2.1 X.2.2.1 (X.2.2.2.1 _ hw) (va_AO.use (X.2.2.2.2.2.2.2.1.2.2.2.2.2.2.2.2.2.2.2.2 _ hza)) rfl hdg rfl hn hb hcs.1 hcs.2 fun cA kA comp f1 f2 f3 f4 => ?_
  obtain ⟨-, -, -, -, -, g4⟩ := (X.2.2.2.2.2.1.2 t _ ht).2
  cases f1.symm.trans g4
  generalize hH1 : H.push ({ cls := dA t, slots := Array.replicate n.toNatClampNeg .null, vm := .none } : Cell) = H1
  have z1 : H1.size = H.size + 1 := by rw [← hH1, Array.size_push]
  have e1 : H1[H.size]? = some (arrV (dA t) n.toNatClampNeg (fun _ => .null)) := by rw [← hH1, Array.getElem?_push_size, ← arrV_new]
  have o1 : ∀ q : Nat, q < H.size → H1[q]? = H[q]? := fun q hq => by rw [← hH1, Array.getElem?_push, if_neg (Nat.ne_of_lt hq)]
  refine kk H.size H1 locs ls (cx_pushX hG (X.2.2.2.2.2.2.1 _ hS.1) ?_ o1) ⟨Nat.le_trans hS.1 (by omega), fun x h1 h2 => (o1 x (Nat.lt_of_lt_of_le h1 hS.1)).trans (hS.2.1 x h1 h2), hS.2.2⟩ hl hc
  show H1[H.size]? = some (vp_cell _ _)
  rw [vp_cell_q]
  exact e1
theorem c_aastX (X : zc p l s m args meth c cc own D dA A) (j t k : Nat) {a n w i : Nat} {f : Nat → Option Nat} {x : Int32} {xs' : va_W} (ht : (ztys dA)[t]? = some (dA t, .object C)) (hx9 : xs[j]? = some (a, .inl (dA t, n, .inr (.inr (.inr (.inr f)))))) (hcl : vwCl[k + 3]? = some (C, T, w)) (hk : Nat.ble (k + 1) 12 = true) (hi : i < N k) (hin : vp_in x n) (he : xs.set j (a, .inl (dA t, n, .inr (.inr (.inr (.inr (va_up f x.toNatClampNeg (some (ad k i)))))))) = xs') (hdg : decode cc pc = .ok (.aastore, 1))
    (kk : zz p l e R s m args below meth c A (cx D dA A V L N ad xs') cells slots Q (pc + 1) lo ll rest) : zz p l e R s m args below meth c A (cx D dA A V L N ad xs) cells slots Q pc lo ll (.ref (ad k i) :: .int x :: .ref a :: rest) := by
  subst he
  intro H locs ls hG hS hl hc
  have hx := hG.2.2.2.2.2.2.2.2.2
  have hlt : x.toNatClampNeg < n := Nat.not_le.mp fun q => hin (Or.inr q)
  have h0 : ¬ x < 0 := fun q => hin (Or.inl q)
  obtain ⟨cellV, g1, g3, g2⟩ := cx_recv X hcl hk hi hG
  obtain ⟨kA, comp, k1, k2, k3, -⟩ := (X.2.2.2.2.2.1.2 t _ ht).2
  have hcls := (X.2.2.2.2.2.1.1 _ _ hcl).2
  have ec : cellV.cls = D.1 (k + 3) := Option.some.inj (g2.symm.trans hcls.1)
  have em : comp = D.1 (k + 3) := Option.some.inj (k3.symm.trans hcls.1)
  subst em
  obtain ⟨kC, hkC, -⟩ := hcls.2
  refine W.aast X.1 X.2.1 (hx.1 j _ hx9) (fun q h => by cases h) (fun h => by cases h) k1 k2 rfl hkC ⟨h0, by show _ < (arrV _ _ _).slots.size; rw [arrV_size]; exact hlt⟩ g1 (fun q h => by rw [h] at g3; cases g3) (by rw [ec]; exact hkC) (by rw [ec]; exact va_assign hcls) rfl rfl hdg fun H1 e z oq => ?_
  refine kk H1 _ ls (cx_setX hG hx9 ?_ oq) (hS.put z oq (hx.2.1.2 j _ hx9)) hl hc
  show H1[a]? = some (vp_cell _ _)
  rw [e]
  rw [vp_cell_q, vp_cell_q, arrV_store]
  congr 2
  funext q
  by_cases hq : q = x.toNatClampNeg
  · subst hq
    simp [updV, va_up, va_rf]
  · simp [updV, va_up, hq]
end CX
def hV (V : Rho) (N : Cnt) (a : Int32) : Rho := cs (cs (cs V 121 (N 6) a) 140 (N 7) 0) 141 (N 7) a
def hL (L : Lst) (N : Cnt) : Lst := lput (lput L 16 (N 6) []) 16 (N 6) [nI (N 7)]
def hN (N : Cnt) : Cnt := nup (nup N 6) 7
theorem mk_Hist {D : va_G} {dA : Nat → ClassId} {A : Nat → Prop} {V : Rho} {L : Lst} {N : Cnt} {ad ad' : Adr} {xs : va_W} {H : Heap} {q q2 : Nat} {a1 : Int32} (h11 : N 11 = 0) (hb : N 6 < 100000) (ead : ad' = adu (adu ad 6 (N 6) q) 16 (N 6) q2) (hG : cx D dA A V L N ad (xs ++ [(q, .inr (9, [.ref q2, .int a1]))] ++ [(q2, .inr (2, [.int 0, .ref (dA 99), .int 0]))]) H) : cx D dA A (cs V 121 (N 6) a1) (lput L 16 (N 6) []) (nup N 6) ad' xs H := by
  subst ead
  refine cx_new2 (k := 6) (lk := 16) (by omega) hG (fun k' i f h1 h2 h3 => ?_) ?_ (fun f hf => ?_) (cnum_nup hG.2.2.2.2.2.2.2.2.1 (by omega) (by decide) (fun z => by omega) (fun z => absurd z (by decide)) (fun z => absurd z (by decide)))
  · rw [cs_new (k := 6) (f0 := 1) (by decide) h2 h3]
  · show _ = [cv (adu (adu ad 6 (N 6) q) 16 (N 6) q2) 3016 (cs V 121 (N 6) a1 120 (N 6)) (N 6), cv (adu (adu ad 6 (N 6) q) 16 (N 6) q2) 0 (cs V 121 (N 6) a1 121 (N 6)) (N 6)]
    rw [cs_at]
    show _ = ([.ref ((adu (adu ad 6 (N 6) q) 16 (N 6) q2) 16 (N 6)), .int a1] : List Value)
    rw [adu_self]
  · have hf : f < 2 := hf
    rcases (show f = 0 ∨ f = 1 by omega) with rfl | rfl
    · trivial
    · trivial
set_option maxRecDepth 100000 in
set_option maxHeartbeats 4000000 in
theorem ck_Hist (l : Launch) {D : va_G} {dA : Nat → ClassId} {A : Nat → Prop} {n : Nat} (hst : l.stackTraces = false) (hA : ∀ q, n ≤ q → A q) {V : Rho} {L : Lst} {N : Cnt} {ad : Adr} {xs : va_W} {q : Nat} {a1 : Int32} (h11 : N 11 = 0) (hb6 : N 6 < 1000) (hb7 : N 7 < 1000) : Met l yX6_init (.code yX6_init cX6_init 2 none :: gT) ({ frames := 9, cells := 3, slots := 15, locals := 378 } : Room) (va_Pc [.ref q, .int a1] (zB D dA A n (cx D dA A V L N ad (xs ++ [(q, .inr (9, [.null, .int 0]))])))) (va_Qv (fun (u : Adr) => axt N ad u ∧ u 6 (N 6) = q) (fun u t => cx D dA A (hV V N a1) (hL L N) (hN N) u xs t.heap) A) 3 15 A := by
  refine z_met (by decide) hA hst (Nat.le_of_ble_eq_true rfl) rfl rfl (fun p e s m below meth c X hml hr hnm => ?_)
  refine z_aload_n X dX6_init_0 rfl rfl ?_
  refine z_objInit X g_88 g_42 g_43 ⟨Nat.le_of_ble_eq_true rfl, Nat.le_of_ble_eq_true rfl⟩ dX6_init_1 ?_
  refine z_aload_n X dX6_init_4 rfl rfl ?_
  refine c_new X 2 (fs := [.int 0, .null, .int 0]) tyJx4a65c rj_ws rfl tyJx4a65c_ok g_89 g_53 g_4 (fun j hj => by rcases (show j = 0 ∨ j = 1 ∨ j = 2 by omega) with rfl | rfl | rfl <;> rfl) ⟨by show _ ≤ 3; omega, by show _ ≤ 15; omega⟩ dX6_init_5 (fun q1 => ?_)
  refine z_dup X dX6_init_8 rfl ?_
  refine z_callI (As := []) (rest := [.ref q1, .ref q]) (nA := 0) (mc := 0) (ms := 0) (pu := fun (_ : Unit) => True) (G1 := fun _ => cx D dA A V L N ad (xs ++ [(q, .inr (9, [.null, .int 0]))] ++ [(q1, .inr (2, [.int 0, .ref (dA 99), .int 0]))])) X (ck_List l X.2.2.2.2.2.2.2.2 X.2.2.2.2.2.2.1) g_90 g_55 g_4 g_56 hd_yJx4a65c_init_da8c8 ⟨rfl, rfl, Nat.le_of_ble_eq_true rfl, Nat.le_of_ble_eq_true rfl⟩ rfl rfl (Nat.le_of_ble_eq_true rfl) dX6_init_9 ⟨by show _ ≤ 3; omega, by show _ ≤ 15; omega⟩ (fun _ _ => ?_)
  refine c_putX X xs.length 9 0 (v := .ref q1) (xs' := xs ++ [(q, .inr (9, [.ref q1, .int 0]))] ++ [(q1, .inr (2, [.int 0, .ref (dA 99), .int 0]))]) (ty := (.object "java/util/ArrayList")) rx6_ws rfl tyX6_ok nmX6 rfl xa2 rfl (Or.inr ⟨rfl, hnm, rfl⟩) g_172 rfl rfl rfl xe2 dX6_init_12 ?_
  refine z_aload_n X dX6_init_15 rfl rfl ?_
  refine z_iload_n X dX6_init_16 rfl rfl ?_
  refine c_putX X xs.length 9 1 (v := .int a1) (xs' := xs ++ [(q, .inr (9, [.ref q1, .int a1]))] ++ [(q1, .inr (2, [.int 0, .ref (dA 99), .int 0]))]) (ty := .int) rx6_ws rfl tyX6_ok nmX6 rfl xa2 rfl (Or.inl rfl) g_173 rfl rfl rfl xe2 dX6_init_17 ?_
  obtain ⟨ad1, ead1⟩ : ∃ z, z = adu (adu ad 6 (N 6) q) 16 (N 6) q1 := ⟨_, rfl⟩
  have e6 : ad1 6 (N 6) = q := by rw [ead1, adu_ne (by omega), adu_self]
  have hx1 : axt N ad ad1 := by rw [ead1]; exact axt_adu2 (by omega)
  refine zz.conseq (fun H hG => mk_Hist h11 (by omega) ead1 hG) ?_
  clear ead1
  have hi6 : N 6 < nup N 6 6 := by rw [nup_self]; omega
  have hi16 : N 6 < nup N 6 (ow 16) := hi6
  refine z_aload_n X dX6_init_20 rfl rfl ?_
  rw [← e6] at X ⊢
  refine c_get X 6 0 (v := .ref (ad1 16 (N 6))) rx6_ws rfl rfl rfl hi6 g_172 rfl dX6_init_21 ?_
  refine c_new X 10 (fs := [.int 0, .int 0]) tyX7 rx7_ws rfl tyX7_ok g_91 g_92 g_7 (fun j hj => by rcases (show j = 0 ∨ j = 1 by omega) with rfl | rfl <;> rfl) ⟨by show _ ≤ 3; omega, by show _ ≤ 15; omega⟩ dX6_init_24 (fun q3 => ?_)
  refine z_dup X dX6_init_27 rfl ?_
  refine z_iconst (v := 0) X dX6_init_28 (by decide) ?_
  refine z_iload_n X dX6_init_29 rfl rfl ?_
  refine z_callI (As := [.int 0, .int a1]) (rest := [.ref q3, .ref (ad1 16 (N 6))]) (nA := 2) (mc := 0) (ms := 0) (rm := ({ frames := 1, cells := 0, slots := 0, locals := 42 } : Room)) (pu := fun (u : Unit) => True) (G1 := fun u => cx D dA A (cs V 121 (N 6) a1) (lput L 16 (N 6) []) (nup N 6) ad1 (xs ++ [(q3, .inr (10, [.int 0, .int a1]))])) X (ck_RateStep l X.2.2.2.2.2.2.2.2 X.2.2.2.2.2.2.1) g_93 g_94 g_7 g_95 hd_yX7_init ⟨rfl, rfl, Nat.le_of_ble_eq_true rfl, Nat.le_of_ble_eq_true rfl⟩ rfl rfl (Nat.le_of_ble_eq_true rfl) dX6_init_30 ⟨by show _ ≤ 3; omega, by show _ ≤ 15; omega⟩ (fun u _ => ?_)
  obtain ⟨ad2, ead2⟩ : ∃ z, z = adu ad1 7 (N 7) q3 := ⟨_, rfl⟩
  have e7 : ad2 7 (nI (N 7)).toNatClampNeg = q3 := by rw [nI_clamp (by omega), ead2, adu_self]
  have hx2 : axt (nup N 6) ad1 ad2 := by rw [ead2]; exact axt_adu (k := 7) (by decide)
  refine zz.conseq (G' := cx D dA A (hV V N a1) (lput L 16 (N 6) []) (hN N) ad2 xs) (fun H hG => mk_RateStep (N := nup N 6) (by show ¬ 100000 ≤ N 7; omega) rfl rfl ead2 hG) ?_
  rw [← e7]
  clear e7 ead2
  have hn : ∀ k, nup N 6 k ≤ hN N k := fun k => nup_le
  have hi16 : N 6 < hN N (ow 16) := Nat.lt_of_lt_of_le hi16 (hn _)
  have hi7 : vp_in (nI (N 7)) (hN N 7) := by
    have : hN N 7 = N 7 + 1 := nup_self
    rw [this]
    exact vp_in_nI (by omega) (by omega)
  have hxL : (lput L 16 (N 6) []) 16 (N 6) = [] := if_pos ⟨rfl, rfl⟩
  rw [← hx2 16 (N 6) ⟨by decide, by rw [show ow 16 = 6 from rfl]; exact hi6⟩ (by decide)]
  refine z_callVi (As := [.ref (ad2 7 (nI (N 7)).toNatClampNeg)]) (rest := []) (nA := 1) (mc := 1) (ms := 10) (rm := ({ frames := 8, cells := 1, slots := 10, locals := 336 } : Room)) (r0 := 1) (pu := fun (u : Adr) => axt (hN N) ad2 u ∧ (∀ k, hN N k ≤ hN N k)) (G1 := fun u => cx D dA A (hV V N a1) (hL L N) (hN N) u xs) X (cl_add l X.2.2.2.2.2.2.2.2 X.2.2.2.2.2.2.1 (k := 16) (i := N 6) (x := nI (N 7)) rfl rfl hi16 hi7 (by rw [hxL]; decide) (b := 10) (by rw [hxL]; decide) (by rw [hxL]; rfl)) g_106 g_107 g_108 g_4 g_109 hd_yJx4a65c_add_9ea2d ⟨rfl, rfl, Nat.le_of_ble_eq_true rfl, Nat.le_of_ble_eq_true rfl⟩ rfl (fun _ hG => cx_recvL X (k := 16) rfl rfl hi16 hG) rfl (Nat.le_of_ble_eq_true rfl) dX6_init_33 ⟨by show _ ≤ 3; omega, by show _ ≤ 15; omega⟩ (fun ad3 h9 => ?_)
  refine z_pop X dX6_init_36 rfl ?_
  refine zz.widen (k := 3) (n := 15) (by omega) (by omega) ?_
  have ha : axt N ad ad3 := (hx1.comp (hx2.mono (fun _ => nup_le))).comp (h9.1.mono (fun k => Nat.le_trans nup_le (hn k)))
  have hz : ad3 6 (N 6) = ad1 6 (N 6) := (h9.1 6 (N 6) (ex_k (by decide) (Nat.lt_of_lt_of_le hi6 (hn 6))) (by decide)).trans (hx2 6 (N 6) (ex_k (by decide) hi6) (by decide))
  exact z_vret X hr (fun t hG hF _ => ⟨⟨ad3, rfl, ⟨ha, hz⟩, hG⟩, hF⟩) dX6_init_37
