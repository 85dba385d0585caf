/-! ARRAYLIST over the tables -/
def lput (L : Lst) (k i : Nat) (v : List Int32) : Lst := fun k' i' => if k' = k ∧ i' = i then v else L k' i'
section LS
variable {p : Program} {l : Launch} {e : Env} {R : Room} {s : State} {m : MethodId} {args : Array Value} {below : List Frame} {meth : Method} {c : Code} {A : Nat → Prop} {cells slots : Nat} {Q : State → Prop}
variable {cc : ByteArray} {own : String} {D : va_G} {dA : Nat → ClassId} {pc : Nat} {lo : List (Nat × Value)} {ll : List (Nat × Int64)} {rest : List Value} {V V' : Rho} {L : Lst} {N : Cnt} {ad : Adr} {xs : va_W} {C : String} {T : u_T}
theorem cx_recvL {H : Heap} {k i : Nat} (X : zc p l s m args meth c cc own D dA A) (h1 : Nat.ble 12 k = true) (h2 : Nat.ble (k + 1) 19 = true) (hi : i < N (ow k)) (hG : cx D dA A V L N ad xs H) : ∃ cell : Cell, H[ad k i]? = some cell ∧ cell.vm.isStatics = false ∧ s.vm.findClass RJx4a65c = some cell.cls := by
  obtain ⟨mo, a, -⟩ := hG.2.1 k i (Nat.le_of_ble_eq_true h1) (Nat.le_of_ble_eq_true h2) hi
  exact va_recv (q := (RJx4a65c, TJx4a65c, 3)) (ci := 2) (q0 := 0) X.2.2.2.2.2.1 (zone1 a) rfl rfl
theorem cx_elt {H : Heap} {k i : Nat} {x : Int32} (h1 : Nat.ble 12 k = true) (h2 : Nat.ble (k + 1) 19 = true) (hi : i < N (ow k)) (q : ¬ (x < 0 ∨ (L k i).length ≤ x.toNatClampNeg)) (hG : cx D dA A V L N ad xs H) : vp_in ((L k i).getD x.toNatClampNeg 0) (N (lel k)) := by
  have hlt : x.toNatClampNeg < (L k i).length := Nat.not_le.mp fun z => q (Or.inr z)
  refine hG.2.2.2.2.2.2.1 k i _ (Nat.le_of_ble_eq_true h1) (Nat.le_of_ble_eq_true h2) hi ?_
  rw [List.getD_eq_getElem?_getD, List.getElem?_eq_getElem hlt]
  exact List.getElem_mem hlt
end LS
theorem axt.trans9 {N0 N : Cnt} {ad0 ad ad9 : Adr} (h : axt N0 ad0 ad) (hN : ∀ k, N0 k ≤ N k) (h9 : axt N ad ad9) : axt N0 ad0 ad9 := fun k i hex hk => (h9 k i ⟨hex.1, Nat.lt_of_lt_of_le hex.2 (hN _)⟩ hk).trans (h k i hex hk)
theorem qn_axt {N : Cnt} {ad ad9 : Adr} {k : Nat} {x : Int32} (hk : Nat.ble (k + 1) 12 = true) (h : x = -1 ∨ vp_in x (N k)) (h9 : axt N ad ad9) : qn (ad9 k) x = qn (ad k) x := by
  by_cases q : x = -1
  · rw [q, qn_null, qn_null]
  · rw [qn_some q, qn_some q, h9 k _ ⟨by have := Nat.le_of_ble_eq_true hk; omega, by rw [ow_self (Nat.le_of_ble_eq_true hk)]; exact vp_lt (h.resolve_left q)⟩ (fun z => by have := Nat.le_of_ble_eq_true hk; omega)]
theorem len600 {x : Int32} {n : Nat} (e : nI n = x) (q : ¬ 600 ≤ x) (q2 : ¬ 1000 ≤ n) : n + n / 2 + 10 ≤ 910 := by
  rw [← e] at q
  have h : n < 600 := Nat.lt_of_not_le (fun z => q (nI_le (a := 600) z (by omega)))
  omega
