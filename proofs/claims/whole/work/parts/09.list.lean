/-! ARRAYLIST over the tables -/
def lput (L : Lst) (k i : Nat) (v : List Int32) : Lst := fun k' i' => if k' = k ∧ i' = i then v else L k' i'
section LS
variable {p : Program} {l : Launch} {e : Env} {R : Room} {s : State} {m : MethodId} {args : Array Value} {below : List Frame} {meth : Method} {c : Code} {A : Nat → Prop} {cells slots : Nat} {Q : State → Prop}
variable {cc : ByteArray} {own : String} {D : va_G} {dA : Nat → ClassId} {pc : Nat} {lo : List (Nat × Value)} {ll : List (Nat × Int64)} {rest : List Value} {V V' : Rho} {L : Lst} {N : Cnt} {ad : Adr} {xs : va_W} {C : String} {T : u_T}
theorem cx_recvL {H : Heap} {k i : Nat} (X : zc p l s m args meth c cc own D dA A) (h1 : Nat.ble 12 k = true) (h2 : Nat.ble (k + 1) 19 = true) (hi : i < N (ow k)) (hG : cx D dA A V L N ad xs H) : ∃ cell : Cell, H[ad k i]? = some cell ∧ cell.vm.isStatics = false ∧ s.vm.findClass RJx4a65c = some cell.cls := by
  obtain ⟨mo, a, -⟩ := hG.2.1 k i (Nat.le_of_ble_eq_true h1) (Nat.le_of_ble_eq_true h2) hi
  exact va_recv (q := (RJx4a65c, TJx4a65c, 3)) (ci := 2) (q0 := 0) X.2.2.2.2.2.1 (zone1 a) rfl rfl
theorem cx_elt {H : Heap} {k i : Nat} {x : Int32} (h1 : Nat.ble 12 k = true) (h2 : Nat.ble (k + 1) 19 = true) (hi : i < N (ow k)) (q : ¬ (x < 0 ∨ (L k i).length ≤ x.toNatClampNeg)) (hG : cx D dA A V L N ad xs H) : vp_in ((L k i).getD x.toNatClampNeg 0) (N (lel k)) := by
  have hlt : x.toNatClampNeg < (L k i).length := Nat.not_le.mp fun z => q (Or.inr z)
  refine hG.2.2.2.2.2.2.1 k i _ (Nat.le_of_ble_eq_true h1) (Nat.le_of_ble_eq_true h2) hi ?_
  rw [List.getD_eq_getElem?_getD, List.getElem?_eq_getElem hlt]
  exact List.getElem_mem hlt
end LS
theorem axt.trans9 {N0 N : Cnt} {ad0 ad ad9 : Adr} (h : axt N0 ad0 ad) (hN : ∀ k, N0 k ≤ N k) (h9 : axt N ad ad9) : axt N0 ad0 ad9 := fun k i hex hk => (h9 k i ⟨hex.1, Nat.lt_of_lt_of_le hex.2 (hN _)⟩ hk).trans (h k i hex hk)
theorem qn_axt {N : Cnt} {ad ad9 : Adr} {k : Nat} {x : Int32} (hk : Nat.ble (k + 1) 12 = true) (h : x = -1 ∨ vp_in x (N k)) (h9 : axt N ad ad9) : qn (ad9 k) x = qn (ad k) x := by
  by_cases q : x = -1
  · rw [q, qn_null, qn_null]
  · rw [qn_some q, qn_some q, h9 k _ ⟨by have := Nat.le_of_ble_eq_true hk; omega, by rw [ow_self (Nat.le_of_ble_eq_true hk)]; exact vp_lt (h.resolve_left q)⟩ (fun z => by have := Nat.le_of_ble_eq_true hk; omega)]
theorem len600 {x : Int32} {n : Nat} (e : nI n = x) (q : ¬ 600 ≤ x) (q2 : ¬ 1000 ≤ n) : n + n / 2 + 10 ≤ 910 := by
  rw [← e] at q
  have h : n < 600 := Nat.lt_of_not_le (fun z => q (nI_le (a := 600) z (by omega)))
  omega
section LC
variable (l : Launch) {D : va_G} {dA : Nat → ClassId} {A : Nat → Prop} {n : Nat} (hst : l.stackTraces = false) (hA : ∀ q, n ≤ q → A q) {V : Rho} {L L1 : Lst} {N : Cnt} {ad : Adr} {xs : va_W} {k i : Nat}
theorem cl_size (hst : l.stackTraces = false) (hA : ∀ q, n ≤ q → A q) (h1 : Nat.ble 12 k = true) (h2 : Nat.ble (k + 1) 19 = true) (hi : i < N (ow k)) : Met l yJx4a65c_size_8abf5 (.code yJx4a65c_size_8abf5 cJx4a65c_size_8abf5 1 (some .int) :: gT) ({ frames := 160, cells := 0, slots := 0, locals := 1600 } : Room) (va_Pc [.ref (ad k i)] (zB D dA A n (cx D dA A V L N ad xs))) (va_Qi (fun r (_ : Unit) => r = nI (L k i).length ∧ True) (fun (_ : Unit) t => cx D dA A V L N ad xs t.heap) A) 0 0 A := by
  sorry
theorem cl_isEmpty (hst : l.stackTraces = false) (hA : ∀ q, n ≤ q → A q) (h1 : Nat.ble 12 k = true) (h2 : Nat.ble (k + 1) 19 = true) (hi : i < N (ow k)) : Met l yJx4a65c_isEmpty_aae02 (.code yJx4a65c_isEmpty_aae02 cJx4a65c_isEmpty_aae02 1 (some .boolean) :: gT) ({ frames := 160, cells := 0, slots := 0, locals := 1600 } : Room) (va_Pc [.ref (ad k i)] (zB D dA A n (cx D dA A V L N ad xs))) (va_Qi (fun r (_ : Unit) => r = (if (L k i).length = 0 then (1 : Int32) else 0) ∧ True) (fun (_ : Unit) t => cx D dA A V L N ad xs t.heap) A) 0 0 A := by
  sorry
theorem cl_get (hst : l.stackTraces = false) (hA : ∀ q, n ≤ q → A q) (h1 : Nat.ble 12 k = true) (h2 : Nat.ble (k + 1) 19 = true) (hi : i < N (ow k)) {x : Int32} (q : ¬ (x < 0 ∨ (L k i).length ≤ x.toNatClampNeg)) : Met l yJx4a65c_get_915e3 (.code yJx4a65c_get_915e3 cJx4a65c_get_915e3 2 (some (.object "java/lang/Object")) :: gT) ({ frames := 160, cells := 0, slots := 0, locals := 1600 } : Room) (va_Pc [.ref (ad k i), .int x] (zB D dA A n (cx D dA A V L N ad xs))) (va_Qq (fun r (_ : Unit) => r = some (ad (lel k) ((L k i).getD x.toNatClampNeg 0).toNatClampNeg) ∧ True) (fun (_ : Unit) t => cx D dA A V L N ad xs t.heap) A) 0 0 A := by
  sorry
theorem cl_add (hst : l.stackTraces = false) (hA : ∀ q, n ≤ q → A q) (h1 : Nat.ble 12 k = true) (h2 : Nat.ble (k + 1) 19 = true) (hi : i < N (ow k)) {x : Int32} (hx : vp_in x (N (lel k))) (q : ¬ 1000 ≤ (L k i).length) {b : Nat} (hb : (L k i).length + (L k i).length / 2 + 10 ≤ b) (e : lput L k i (L k i ++ [x]) = L1) : Met l yJx4a65c_add_9ea2d (.code yJx4a65c_add_9ea2d cJx4a65c_add_9ea2d 2 (some .boolean) :: gT) ({ frames := 160, cells := 1, slots := b, locals := 1600 } : Room) (va_Pc [.ref (ad k i), .ref (ad (lel k) x.toNatClampNeg)] (zB D dA A n (cx D dA A V L N ad xs))) (va_Qi (fun r (u : Adr) => r = 1 ∧ axt N ad u ∧ ∀ k, N k ≤ N k) (fun (u : Adr) t => cx D dA A V L1 N u xs t.heap) A) 1 b A := by
  sorry
theorem cl_addAt (hst : l.stackTraces = false) (hA : ∀ q, n ≤ q → A q) (h1 : Nat.ble 12 k = true) (h2 : Nat.ble (k + 1) 19 = true) (hi : i < N (ow k)) {j x : Int32} (hx : vp_in x (N (lel k))) (q2 : ¬ (j < 0 ∨ (L k i).length < j.toNatClampNeg)) (q : ¬ 1000 ≤ (L k i).length) (e : lput L k i ((L k i).take j.toNatClampNeg ++ x :: (L k i).drop j.toNatClampNeg) = L1) : Met l yJx4a65c_add_7a177 (.code yJx4a65c_add_7a177 cJx4a65c_add_7a177 5 none :: gT) ({ frames := 160, cells := 1, slots := 1510, locals := 1600 } : Room) (va_Pc [.ref (ad k i), .int j, .ref (ad (lel k) x.toNatClampNeg)] (zB D dA A n (cx D dA A V L N ad xs))) (va_Qv (fun (u : Adr) => axt N ad u ∧ ∀ k, N k ≤ N k) (fun (u : Adr) t => cx D dA A V L1 N u xs t.heap) A) 1 1510 A := by
  sorry
end LC
