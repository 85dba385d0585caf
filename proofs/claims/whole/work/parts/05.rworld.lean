/-! THE REFERENCE: its world as a table of columns (a column a field, a row an index), and what each method does -/
abbrev Rho : Type := Nat → Nat → Int32
def rlen (f : Nat) : Nat := [1, 1, 8, 8, 8, 6, 10, 10, 10, 10, 10, 10, 4, 4, 1, 40, 40, 40, 40, 40, 1, 40, 1, 80, 80, 80, 80, 80, 80, 80, 80, 80, 80, 80, 80, 80, 1, 1, 1, 1].getD f 0
def rfs (ρ : Rho) (ad : Nat → Nat) : List Value := (List.range 40).map (fun f => if rlen f = 1 then .int (ρ f 0) else .ref (ad f))
def rlv (f : Nat) : Prop := f = 40 ∨ (f < 40 ∧ rlen f ≠ 1)
def rw (D : va_G) (dA : Nat → ClassId) (A : Nat → Prop) (ρ : Rho) (ad : Nat → Nat) (H : Heap) : Prop :=
  va_at D vwCl (ad 40, .inr (15, rfs ρ ad)) H ∧ (∀ f, f < 40 → rlen f ≠ 1 → va_at D vwCl (ad f, .inl (dA 0, rlen f, .inl (ρ f))) H) ∧ (∀ f g, rlv f → rlv g → ad f = ad g → f = g) ∧ ∀ f, rlv f → A (ad f)
theorem rx12_ws : ∀ w ∈ u_ws RX12 TX12 40, w ∈ gT := fun w h => gT_in ((show ∀ w ∈ u_ws RX12 TX12 40, w ∈ lw_tbl by decide +kernel) w h) ((show ∀ w ∈ u_ws RX12 TX12 40, goodWord w = true by decide +kernel) w h)
theorem rfs_get {ρ : Rho} {ad : Nat → Nat} {f : Nat} (hf : f < 40) : (rfs ρ ad)[f]? = some (if rlen f = 1 then .int (ρ f 0) else .ref (ad f)) := by
  unfold rfs
  rw [List.getElem?_map, List.getElem?_range hf]
  rfl
theorem zone1 {D : va_G} {q : Nat × va_E} {H : Heap} (h : va_at D vwCl q H) : va_P D vwCl [q] H := by
  intro k x hx
  have hz : k < 1 := (List.getElem?_eq_some_iff.mp hx).1
  rw [show k = 0 by omega] at hx
  cases hx
  exact h
theorem zdone1 {A : Nat → Prop} {q : Nat × va_E} (h : A q.1) : va_D A [q] := by
  refine ⟨fun i j x y hi hj _ => ?_, fun k x hx => ?_⟩
  · have h1 : i < 1 := (List.getElem?_eq_some_iff.mp hi).1
    have h2 : j < 1 := (List.getElem?_eq_some_iff.mp hj).1
    omega
  · have hz : k < 1 := (List.getElem?_eq_some_iff.mp hx).1
    rw [show k = 0 by omega] at hx
    cases hx
    exact h
theorem rcs_fs {ρ : Rho} {ad : Nat → Nat} {f : Nat} {x : Int32} (hf : f < 40) (h1 : rlen f = 1) : rfs (cs ρ f 0 x) ad = (rfs ρ ad).set f (.int x) := by
  apply List.ext_getElem?
  intro i
  by_cases hi : i < 40
  · rw [rfs_get hi]
    by_cases e : i = f
    · subst e
      rw [List.getElem?_set_self (by simp [rfs]; exact hi), h1]
      simp [cs]
    · rw [List.getElem?_set_ne (Ne.symm e), rfs_get hi]
      simp [cs, e]
  · rw [List.getElem?_eq_none (by simp [rfs]; omega), List.getElem?_eq_none (by simp [rfs]; omega)]
theorem rcs_fs2 {ρ : Rho} {ad : Nat → Nat} {f i : Nat} {x : Int32} (h1 : rlen f ≠ 1) : rfs (cs ρ f i x) ad = rfs ρ ad := by
  unfold rfs
  refine List.map_congr_left fun g _ => ?_
  by_cases e : g = f
  · subst e
    rw [if_neg h1, if_neg h1]
  · by_cases h : rlen g = 1
    · rw [if_pos h, if_pos h]
      simp [cs, e]
    · rw [if_neg h, if_neg h]
theorem rcs_col {ρ : Rho} {f g i : Nat} {x : Int32} (h : g ≠ f) : cs ρ f i x g = ρ g := by
  funext j
  simp [cs, h]
theorem rcs_upd {ρ : Rho} {f i : Nat} {x : Int32} : cs ρ f i x f = upd (ρ f) i x := by
  funext j
  simp [cs, upd]
section RR
variable {p : Program} {l : Launch} {e : Env} {R : Room} {s : State} {m : MethodId} {args : Array Value} {below : List Frame} {meth : Method} {c : Code} {A : Nat → Prop} {cells slots : Nat} {Q : State → Prop}
variable {cc : ByteArray} {own : String} {D : va_G} {dA : Nat → ClassId} {pc : Nat} {lo : List (Nat × Value)} {ll : List (Nat × Int64)} {rest : List Value} {ρ ρ' : Rho} {ad : Nat → Nat}
theorem rw_recv {H : Heap} (X : zc p l s m args meth c cc own D dA A) (hG : rw D dA A ρ ad H) : ∃ cell : Cell, H[ad 40]? = some cell ∧ cell.vm.isStatics = false ∧ s.vm.findClass RX12 = some cell.cls :=
  va_recv (q := (RX12, TX12, 40)) (ci := 15) (q0 := 0) X.2.2.2.2.2.1 (zone1 hG.1) rfl rfl
theorem rsame {f : Nat} {s : State} : ∀ x, s.fieldFound? (TX12 f).1 (TX12 f).2.1 (TX12 f).2.2.1 = some x → s.fieldFound? (TX12 f).1 (TX12 f).2.1 (TX12 f).2.2.1 = some x := fun _ h => h
theorem r_getS (X : zc p l s m args meth c cc own D dA A) (f : Nat) {idx : Nat} (hf : Nat.ble (f + 1) 40 = true) (h1 : rlen f = 1) (hw : Cond.fieldLink own idx (TX12 f).1 (TX12 f).2.1 (TX12 f).2.2.1 ∈ gT) (hdg : decode cc pc = .ok (.getfield idx, 3))
    (k : zz p l e R s m args below meth c A (rw D dA A ρ ad) cells slots Q (pc + 3) lo ll (.int (ρ f 0) :: rest)) : zz p l e R s m args below meth c A (rw D dA A ρ ad) cells slots Q pc lo ll (.ref (ad 40) :: rest) :=
  fun H locs ls hG hS hl hc => va_get (D := D) (ci := 15) (v := .int (ρ f 0)) (C := RX12) (T := TX12) (N := 40) X.1 X.2.1 X.2.2.2.1 rx12_ws X.2.2.1 X.2.2.2.2.2.1 (zone1 hG.1) 0 rfl rfl f (Nat.le_of_ble_eq_true hf) (X.2.2.2.1 _ hw) rsame (by rw [rfs_get (Nat.le_of_ble_eq_true hf), if_pos h1]) hdg (k H locs ls hG hS hl hc)
theorem r_getA (X : zc p l s m args meth c cc own D dA A) (f : Nat) {idx : Nat} (hf : Nat.ble (f + 1) 40 = true) (h1 : (rlen f == 1) = false) (hw : Cond.fieldLink own idx (TX12 f).1 (TX12 f).2.1 (TX12 f).2.2.1 ∈ gT) (hdg : decode cc pc = .ok (.getfield idx, 3))
    (k : zz p l e R s m args below meth c A (rw D dA A ρ ad) cells slots Q (pc + 3) lo ll (.ref (ad f) :: rest)) : zz p l e R s m args below meth c A (rw D dA A ρ ad) cells slots Q pc lo ll (.ref (ad 40) :: rest) :=
  fun H locs ls hG hS hl hc => va_get (D := D) (ci := 15) (v := .ref (ad f)) (C := RX12) (T := TX12) (N := 40) X.1 X.2.1 X.2.2.2.1 rx12_ws X.2.2.1 X.2.2.2.2.2.1 (zone1 hG.1) 0 rfl rfl f (Nat.le_of_ble_eq_true hf) (X.2.2.2.1 _ hw) rsame (by rw [rfs_get (Nat.le_of_ble_eq_true hf), if_neg (by simpa using h1)]) hdg (k H locs ls hG hS hl hc)
theorem rw_other {H1 H : Heap} {a : Nat} (hG : rw D dA A ρ ad H) (f0 : Nat) (hf0 : rlv f0) (ha : a = ad f0) (oq : ∀ q, q ≠ a → H1[q]? = H[q]?) : (f0 ≠ 40 → va_at D vwCl (ad 40, .inr (15, rfs ρ ad)) H1) ∧ ∀ f, f < 40 → rlen f ≠ 1 → f ≠ f0 → va_at D vwCl (ad f, .inl (dA 0, rlen f, .inl (ρ f))) H1 := by
  subst ha
  exact ⟨fun h => hG.1.kept (oq _ (fun z => h (hG.2.2.1 _ _ (Or.inl rfl) hf0 z).symm)), fun f h1 h2 h3 => (hG.2.1 f h1 h2).kept (oq _ (fun z => h3 (hG.2.2.1 _ _ (Or.inr ⟨h1, h2⟩) hf0 z)))⟩
theorem r_putS (X : zc p l s m args meth c cc own D dA A) (f : Nat) {idx : Nat} {x : Int32} (hf : Nat.ble (f + 1) 40 = true) (h1 : rlen f = 1) (h2 : ((TX12 f).2.2.2, (TX12 f).2.2.1) = (false, "I")) (hw : Cond.fieldLink own idx (TX12 f).1 (TX12 f).2.1 (TX12 f).2.2.1 ∈ gT) (he : cs ρ f 0 x = ρ') (hdg : decode cc pc = .ok (.putfield idx, 3))
    (k : zz p l e R s m args below meth c A (rw D dA A ρ' ad) cells slots Q (pc + 3) lo ll rest) : zz p l e R s m args below meth c A (rw D dA A ρ ad) cells slots Q pc lo ll (.int x :: .ref (ad 40) :: rest) := by
  subst he
  intro H locs ls hG hS hl hc
  have hf := Nat.le_of_ble_eq_true hf
  have h2a : (TX12 f).2.2.2 = false := congrArg Prod.fst h2
  have h2b : (TX12 f).2.2.1 = "I" := congrArg Prod.snd h2
  have hin := rx12_ws
  have hap := va_apart (own := own) X.2.2.2.1 hin tyX12 tyX12_ok nmX12 X.2.2.2.2.2.1 (ci := 15) rfl
  obtain ⟨r, hr1, cell, q1, q2, q3, q4⟩ := hG.1
  have hr : r = (RX12, TX12, 40) := (Option.some.inj hr1).symm
  subst hr
  obtain ⟨hS9, hfc, kC, hkC, hkind⟩ := X.2.2.2.2.2.1.1 15 (RX12, TX12, 40) rfl
  obtain ⟨cf, kf, fi, fd, hi, hsl⟩ := hS9 f hf
  have hlay := X.2.2.2.1 _ (hin _ (u_in_lay hf))
  unfold u_lay at hlay
  rw [if_neg (by rw [h2a]; decide)] at hlay
  have hst := (u_facts hfc hkC (u_lays X.2.2.2.1 hin hf) hi).1
  have h6 := u_store (v := .int x) (ty := .int) hfc hkC hkind hlay hi (by show parseFieldDescriptor (TX12 f).2.2.1 = _; rw [h2b]; decide) rfl rfl
  refine W.putK X.1 X.2.1 (f := fd) ⟨X.2.2.1, X.2.2.2.1 _ hw, ⟨_, _, _, hi⟩, hst⟩ (by rw [q2]; exact h6) q1 q3 (by rw [hsl]; exact k2_hasslot (q4 f hf)) rfl rfl hdg fun H' e1 e2 e3 => ?_
  rw [hsl] at e1
  have ho := rw_other hG 40 (Or.inl rfl) rfl e3
  refine k H' _ ls ⟨?_, fun g hg h3 => ?_, hG.2.2⟩ (hS.put e2 e3 (hG.2.2.2 _ (Or.inl rfl))) hl hc
  · rw [rcs_fs hf h1]
    exact ⟨_, rfl, t_OB.to (V := updV (vp_V (rfs ρ ad)) f (.int x)) ⟨_, e1, q2, q3, t_set q4 hap hf (.int x)⟩ (fun j _ => vp_updV_set (by simp [rfs]; exact hf) (.int x) j)⟩
  · rw [rcs_col (fun z => h3 (by rw [z]; exact h1))]
    exact ho.2 g hg h3 (by omega)
theorem r_ald (X : zc p l s m args meth c cc own D dA A) (f : Nat) {i : Int32} (hf : Nat.ble (f + 1) 40 = true) (h1 : (rlen f == 1) = false) (hi : ¬ (i < 0 ∨ rlen f ≤ i.toNatClampNeg)) (hdg : decode cc pc = .ok (.iaload, 1))
    (k : zz p l e R s m args below meth c A (rw D dA A ρ ad) cells slots Q (pc + 1) lo ll (.int (ρ f i.toNatClampNeg) :: rest)) : zz p l e R s m args below meth c A (rw D dA A ρ ad) cells slots Q pc lo ll (.int i :: .ref (ad f) :: rest) :=
  fun H locs ls hG hS hl hc => va_iald X.1 X.2.1 X.2.2.2.2.2.1 (zone1 (hG.2.1 f (Nat.le_of_ble_eq_true hf) (by simpa using h1))) 0 0 rfl rfl hi hdg (k H locs ls hG hS hl hc)
theorem r_ast (X : zc p l s m args meth c cc own D dA A) (f : Nat) {i x : Int32} (hf : Nat.ble (f + 1) 40 = true) (h1 : (rlen f == 1) = false) (hi : ¬ (i < 0 ∨ rlen f ≤ i.toNatClampNeg)) (he : cs ρ f i.toNatClampNeg x = ρ') (hdg : decode cc pc = .ok (.iastore, 1))
    (k : zz p l e R s m args below meth c A (rw D dA A ρ' ad) cells slots Q (pc + 1) lo ll rest) : zz p l e R s m args below meth c A (rw D dA A ρ ad) cells slots Q pc lo ll (.int x :: .int i :: .ref (ad f) :: rest) := by
  subst he
  intro H locs ls hG hS hl hc
  have hf := Nat.le_of_ble_eq_true hf
  have h1 : rlen f ≠ 1 := by simpa using h1
  have ha : va_at D vwCl (ad f, .inl (dA 0, rlen f, .inl (ρ f))) H := hG.2.1 f hf h1
  refine W.iast X.1 X.2.1 ha ((X.2.2.2.2.2.1.2 0 (dA 0, .int) rfl).1 (rlen f) (fun j => .int (ρ f j))) (fun q => by cases q) (by show ¬ (i < 0 ∨ (arrV _ _ _).slots.size ≤ _); rw [arrV_size]; exact hi) rfl rfl hdg fun H1 e z oq => ?_
  have ho := rw_other hG f (Or.inr ⟨hf, h1⟩) rfl oq
  refine k H1 _ ls ⟨?_, fun g hg h3 => ?_, hG.2.2⟩ (hS.put z oq (hG.2.2.2 _ (Or.inr ⟨hf, h1⟩))) hl hc
  · rw [rcs_fs2 h1]
    exact ho.1 (by omega)
  · by_cases hgf : g = f
    · subst hgf
      show H1[ad g]? = some (vp_cell _ _)
      rw [e, rcs_upd, vp_cell_i, vp_cell_i, arrV_store]
      congr 2
      funext q
      by_cases hq : q = i.toNatClampNeg
      · subst hq
        simp [updV, upd]
      · simp [updV, upd, hq]
    · rw [rcs_col hgf]
      exact ho.2 g hg h3 hgf
end RR
