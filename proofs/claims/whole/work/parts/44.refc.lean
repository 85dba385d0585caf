/-! CONSTRUCTORS: the reference's cells beside the tables of the class -/
theorem g_1427 : Cond.arrayClass .int ∈ gT := gT_t 1427 (by decide +kernel) rfl
def FL : List Nat := [2, 3, 4, 5, 6, 7, 8, 9, 10, 11, 12, 13, 15, 16, 17, 18, 19, 21, 23, 24, 25, 26, 27, 28, 29, 30, 31, 32, 33, 34, 35]
def fl (j : Nat) : Nat := FL.getD j 0
theorem FL_get {j : Nat} (hj : j < 31) : FL[j]? = some (fl j) := by
  have h : j < FL.length := hj
  unfold fl
  rw [List.getD_eq_getElem?_getD, List.getElem?_eq_getElem h]
  rfl
theorem fl_facts : ∀ j, j < 31 → fl j < 40 ∧ rlen (fl j) ≠ 1 ∧ fl j ≠ 40 ∧ fl j ∉ FL.take j ∧ FL.take (j + 1) = FL.take j ++ [fl j] := by decide
theorem fl_inj : ∀ i, i < 31 → ∀ j, j < 31 → fl i = fl j → i = j := by decide
theorem fl_all : ∀ f, f < 40 → rlen f ≠ 1 → ∃ j, j < 31 ∧ fl j = f := by
  have key : ∀ f, f < 40 → rlen f ≠ 1 → (List.range 31).any (fun j => fl j == f) = true := by decide
  intro f hf h
  obtain ⟨j, hj, e⟩ := List.any_eq_true.mp (key f hf h)
  exact ⟨j, List.mem_range.mp hj, by simpa using e⟩
def rfP (j : Nat) (ad : Nat → Nat) : List Value := (List.range 40).map (fun f => if rlen f = 1 then .int (if f = 1 then 20 else 0) else if f ∈ FL.take j then .ref (ad f) else .null)
def xP (dA : Nat → ClassId) (j : Nat) (ad : Nat → Nat) : va_W := (ad 40, .inr (15, rfP j ad)) :: (FL.take j).map (fun f => (ad f, .inl (dA 0, rlen f, .inl (fun _ => 0))))
def xR (dA : Nat → ClassId) (ρ : Rho) (ad : Nat → Nat) : va_W := (ad 40, .inr (15, rfs ρ ad)) :: FL.map (fun f => (ad f, .inl (dA 0, rlen f, .inl (ρ f))))
def ρz : Rho := fun c j => if c = 1 ∧ j = 0 then 20 else 0
def updN (f : Nat → Nat) (k x : Nat) : Nat → Nat := fun j => if j = k then x else f j
theorem rfP_get {j f : Nat} {ad : Nat → Nat} (hf : f < 40) : (rfP j ad)[f]? = some (if rlen f = 1 then .int (if f = 1 then 20 else 0) else if f ∈ FL.take j then .ref (ad f) else .null) := by
  unfold rfP
  rw [List.getElem?_map, List.getElem?_range hf]
  rfl
theorem rfP_len {j : Nat} {ad : Nat → Nat} : (rfP j ad).length = 40 := by simp [rfP]
theorem rfP_step {j a : Nat} {ad : Nat → Nat} (hj : j < 31) : rfP (j + 1) (updN ad (fl j) a) = (rfP j ad).set (fl j) (.ref a) := by
  obtain ⟨h1, h2, h3, h4, h5⟩ := fl_facts j hj
  apply List.ext_getElem?
  intro g
  by_cases hg : g < 40
  · rw [rfP_get hg]
    by_cases e : g = fl j
    · rw [e, List.getElem?_set_self (by rw [rfP_len]; exact h1), if_neg h2, h5, if_pos (by simp)]
      simp [updN]
    · rw [List.getElem?_set_ne (Ne.symm e), rfP_get hg, h5]
      simp [updN, e]
  · rw [List.getElem?_eq_none (by rw [rfP_len]; omega), List.getElem?_eq_none (by rw [List.length_set, rfP_len]; omega)]
theorem xP_step {dA : Nat → ClassId} {j a : Nat} {ad : Nat → Nat} (hj : j < 31) : xP dA (j + 1) (updN ad (fl j) a) = (ad 40, .inr (15, (rfP j ad).set (fl j) (.ref a))) :: ((FL.take j).map (fun f => (ad f, (.inl (dA 0, rlen f, .inl (fun _ => 0)) : va_E))) ++ [(a, .inl (dA 0, rlen (fl j), .inl (fun _ => 0)))]) := by
  obtain ⟨h1, h2, h3, h4, h5⟩ := fl_facts j hj
  unfold xP
  rw [rfP_step hj, h5, List.map_append]
  refine congr (congrArg List.cons ?_) (congr (congrArg _ ?_) ?_)
  · simp only [updN]
    rw [if_neg (Ne.symm h3)]
  · refine List.map_congr_left fun f hf => ?_
    simp only [updN]
    rw [if_neg (fun z => h4 (by rw [← z]; exact hf))]
  · simp [updN]
theorem xP_all {dA : Nat → ClassId} {ad : Nat → Nat} : xP dA 31 ad = xR dA ρz ad := by
  unfold xP xR
  rw [show FL.take 31 = FL from rfl]
  refine congr (congrArg List.cons ?_) ?_
  · congr 3
  · refine List.map_congr_left fun f hf => ?_
    have hf1 : f ≠ 1 := fun z => by rw [z] at hf; revert hf; decide
    have : (fun _ => 0 : Nat → Int32) = ρz f := by
      funext j
      simp [ρz, hf1]
    rw [this]
theorem xR_get {dA : Nat → ClassId} {ρ : Rho} {ad : Nat → Nat} {j : Nat} (hj : j < 31) : (xR dA ρ ad)[j + 1]? = some (ad (fl j), .inl (dA 0, rlen (fl j), .inl (ρ (fl j)))) := by
  show (FL.map _)[j]? = _
  rw [List.getElem?_map, FL_get hj]
  rfl
theorem xR_len {dA : Nat → ClassId} {ρ : Rho} {ad : Nat → Nat} : (xR dA ρ ad).length = 32 := by simp [xR, FL]
theorem xR_set {dA : Nat → ClassId} {ρ : Rho} {ad : Nat → Nat} {j i : Nat} {x : Int32} (hj : j < 31) : (xR dA ρ ad).set (j + 1) (ad (fl j), .inl (dA 0, rlen (fl j), .inl (upd (ρ (fl j)) i x))) = xR dA (cs ρ (fl j) i x) ad := by
  obtain ⟨h1, h2, -, -, -⟩ := fl_facts j hj
  apply List.ext_getElem?
  intro g
  by_cases hg : g = j + 1
  · subst hg
    rw [List.getElem?_set_self (by rw [xR_len]; omega), xR_get hj, rcs_upd]
  · rw [List.getElem?_set_ne (Ne.symm hg)]
    by_cases h0 : g = 0
    · subst h0
      show some (ad 40, (.inr (15, rfs ρ ad) : va_E)) = some (ad 40, .inr (15, rfs (cs ρ (fl j) i x) ad))
      rw [rcs_fs2 h2]
    · obtain ⟨g', rfl⟩ : ∃ g', g = g' + 1 := ⟨g - 1, by omega⟩
      by_cases hg9 : g' < 31
      · rw [xR_get hg9, xR_get hg9, rcs_col (fun z => hg (by rw [fl_inj g' hg9 j hj z]))]
      · rw [List.getElem?_eq_none (by rw [xR_len]; omega), List.getElem?_eq_none (by rw [xR_len]; omega)]
section CR
variable {p : Program} {l : Launch} {e : Env} {R : Room} {s : State} {m : MethodId} {args : Array Value} {below : List Frame} {meth : Method} {c : Code} {A : Nat → Prop} {G : Heap → Prop} {cells slots : Nat} {Q : State → Prop}
variable {cc : ByteArray} {own : String} {D : va_G} {dA : Nat → ClassId} {pc : Nat} {lo : List (Nat × Value)} {ll : List (Nat × Int64)} {rest : List Value} {V : Rho} {L : Lst} {N : Cnt} {ad : Adr} {xs : va_W} {ρ ρ' : Rho} {ar : Nat → Nat}
theorem c_newIX (X : zc p l s m args meth c cc own D dA A) {N' : Nat} {n : Int32} (hn : ¬ n < 0) (hN : n.toNatClampNeg = N') (hb : N' * componentBytes .int ≤ 536870912) (hcs : cells + 1 ≤ R.cells ∧ slots + N' ≤ R.slots) (hdg : decode cc pc = .ok (.newarray .int, 2))
    (kk : ∀ q : Nat, zz p l e R s m args below meth c A (cx D dA A V L N ad (xs ++ [(q, .inl (dA 0, N', .inl (fun _ => 0)))])) (cells + 1) (slots + N') Q (pc + 2) lo ll (.ref q :: rest)) : zz p l e R s m args below meth c A (cx D dA A V L N ad xs) cells slots Q pc lo ll (.int n :: rest) := by
  intro H locs ls hG hS hl hc
  refine va_newaK (atype := .int) X.1 X.2.1 (X.2.2.2.1 _ g_1427) rfl hdg rfl hn hN hb hcs.1 hcs.2 rfl fun H1 cA e1 z1 o1 hAr hNm => ?_
  have g4 : s.vm.findClass ("[" ++ FieldType.int.toString) = some (dA 0) := (X.2.2.2.2.2.1.2 0 (dA 0, .int) rfl).2
  cases hNm.symm.trans g4
  refine kk H.size H1 locs ls (cx_pushX hG (X.2.2.2.2.2.2.1 _ hS.1) ?_ o1) ⟨Nat.le_trans hS.1 (by omega), fun x h1 h2 => (o1 x (Nat.lt_of_lt_of_le h1 hS.1)).trans (hS.2.1 x h1 h2), hS.2.2⟩ hl hc
  show H1[H.size]? = some (vp_cell _ _)
  rw [vp_cell_i]
  exact e1
theorem cr_get (X : zc p l s m args meth c cc own D dA A) (f : Nat) {idx : Nat} (hf : Nat.ble (f + 1) 40 = true) (h1 : (rlen f == 1) = false) (hw : Cond.fieldLink own idx (TX12 f).1 (TX12 f).2.1 (TX12 f).2.2.1 ∈ gT) (hdg : decode cc pc = .ok (.getfield idx, 3))
    (kk : zz p l e R s m args below meth c A (cx D dA A V L N ad (xs ++ xR dA ρ ar)) cells slots Q (pc + 3) lo ll (.ref (ar f) :: rest)) : zz p l e R s m args below meth c A (cx D dA A V L N ad (xs ++ xR dA ρ ar)) cells slots Q pc lo ll (.ref (ar 40) :: rest) :=
  c_getX X (xs.length + 0) 15 f rx12_ws rfl hf (xq_get.trans rfl) hw (by rw [rfs_get (Nat.le_of_ble_eq_true hf), if_neg (by simpa using h1)]) hdg kk
theorem cr_ast (X : zc p l s m args meth c cc own D dA A) (f j : Nat) {i x : Int32} (hfj : fl j = f) (hj : Nat.ble (j + 1) 31 = true) (hi : vp_in i (rlen f)) (he : cs ρ f i.toNatClampNeg x = ρ') (hdg : decode cc pc = .ok (.iastore, 1))
    (kk : zz p l e R s m args below meth c A (cx D dA A V L N ad (xs ++ xR dA ρ' ar)) cells slots Q (pc + 1) lo ll rest) : zz p l e R s m args below meth c A (cx D dA A V L N ad (xs ++ xR dA ρ ar)) cells slots Q pc lo ll (.int x :: .int i :: .ref (ar f) :: rest) := by
  subst he
  subst hfj
  intro H locs ls hG hS hl hc
  have hj := Nat.le_of_ble_eq_true hj
  have hx9 : (xs ++ xR dA ρ ar)[xs.length + (j + 1)]? = some (ar (fl j), .inl (dA 0, rlen (fl j), .inl (ρ (fl j)))) := by rw [xq_get, xR_get hj]
  have hx := hG.2.2.2.2.2.2.2.2.2
  refine W.iast X.1 X.2.1 (hx.1 _ _ hx9) ((X.2.2.2.2.2.1.2 0 (dA 0, .int) rfl).1 (rlen (fl j)) (fun q => .int (ρ (fl j) q))) (fun q => by cases q) (by show ¬ (i < 0 ∨ (arrV _ _ _).slots.size ≤ _); rw [arrV_size]; exact hi) rfl rfl hdg fun H1 e z oq => ?_
  have hG1 := cx_setX (e' := .inl (dA 0, rlen (fl j), .inl (upd (ρ (fl j)) i.toNatClampNeg x))) hG hx9 (by
    show H1[ar (fl j)]? = some (vp_cell _ _)
    rw [e, vp_cell_i, vp_cell_i, arrV_store]
    congr 2
    funext q
    by_cases hq : q = i.toNatClampNeg
    · subst hq
      simp [updV, upd]
    · simp [updV, upd, hq]) oq
  rw [xq_set, xR_set hj] at hG1
  exact kk H1 _ ls hG1 (hS.put z oq (hx.2.1.2 _ _ hx9)) hl hc
/-- a new row of ints for field fl j -/
theorem mstep (X : zc p l s m args meth c cX12_init own D dA A) (own9 : own = RX12) (hnm : meth.name = "<init>") (j : Nat) {n : Int32} {idx q N' : Nat} (hj : Nat.ble (j + 1) 31 = true) (hn : ¬ n < 0) (hN : n.toNatClampNeg = N') (hr : rlen (fl j) = N') (hb : N' * componentBytes .int ≤ 536870912) (hw : Cond.fieldLink own idx (TX12 (fl j)).1 (TX12 (fl j)).2.1 (TX12 (fl j)).2.2.1 ∈ gT) (hty : (parseFieldDescriptor (TX12 (fl j)).2.2.1) = some (.array .int)) (hfi : (TX12 (fl j)).1 = RX12) (hq : ar 40 = q) (hcs : cells + 1 ≤ R.cells ∧ slots + N' ≤ R.slots) (hd1 : decode cX12_init pc = .ok (.newarray .int, 2)) (hd2 : decode cX12_init (pc + 2) = .ok (.putfield idx, 3))
    (kk : ∀ ar', ar' 40 = q → zz p l e R s m args below meth c A (cx D dA A V L N ad (xs ++ xP dA (j + 1) ar')) (cells + 1) (slots + N') Q (pc + 2 + 3) lo ll rest) : zz p l e R s m args below meth c A (cx D dA A V L N ad (xs ++ xP dA j ar)) cells slots Q pc lo ll (.int n :: .ref q :: rest) := by
  have hj := Nat.le_of_ble_eq_true hj
  obtain ⟨h1, h2, h3, h4, h5⟩ := fl_facts j hj
  subst hq
  subst own9
  refine c_newIX X hn hN hb hcs hd1 (fun a => ?_)
  have e0 : xs ++ xP dA j ar ++ [(a, .inl (dA 0, N', .inl (fun _ => 0)))] = xs ++ ((ar 40, .inr (15, rfP j ar)) :: ((FL.take j).map (fun f => (ar f, (.inl (dA 0, rlen f, .inl (fun _ => 0)) : va_E))) ++ [(a, .inl (dA 0, rlen (fl j), .inl (fun _ => 0)))])) := by
    rw [hr, List.append_assoc]
    rfl
  refine c_putX X (xs.length + 0) 15 (fl j) (a := ar 40) (fs := rfP j ar) (v := .ref a) (xs' := xs ++ xP dA (j + 1) (updN ar (fl j) a)) (ty := .array .int) rx12_ws rfl tyX12_ok nmX12 (Nat.ble_eq_true_of_le h1) (by rw [e0, xq_get]; rfl) (by rw [rfP_len]; exact Nat.ble_eq_true_of_le h1) ?_ hw (Option.some.inj ((tyX12_ok _ h1).symm.trans hty)) rfl rfl (by rw [e0, xq_set, xP_step hj]; rfl) hd2 (kk _ (by simp only [updN]; rw [if_neg (Ne.symm h3)]))
  by_cases hf : (TX12 (fl j)).2.2.2 = false
  · exact Or.inl hf
  · exact Or.inr ⟨by simpa using hf, hnm, hfi⟩
end CR
