theorem rx0_ws : ∀ w ∈ u_ws RX0 TX0 4, w ∈ gT := fun w h => gT_in ((show ∀ w ∈ u_ws RX0 TX0 4, w ∈ lw_tbl by decide +kernel) w h) ((show ∀ w ∈ u_ws RX0 TX0 4, goodWord w = true by decide +kernel) w h)
theorem rx1_ws : ∀ w ∈ u_ws RX1 TX1 3, w ∈ gT := fun w h => gT_in ((show ∀ w ∈ u_ws RX1 TX1 3, w ∈ lw_tbl by decide +kernel) w h) ((show ∀ w ∈ u_ws RX1 TX1 3, goodWord w = true by decide +kernel) w h)
theorem rx2_ws : ∀ w ∈ u_ws RX2 TX2 4, w ∈ gT := fun w h => gT_in ((show ∀ w ∈ u_ws RX2 TX2 4, w ∈ lw_tbl by decide +kernel) w h) ((show ∀ w ∈ u_ws RX2 TX2 4, goodWord w = true by decide +kernel) w h)
theorem rx3_ws : ∀ w ∈ u_ws RX3 TX3 3, w ∈ gT := fun w h => gT_in ((show ∀ w ∈ u_ws RX3 TX3 3, w ∈ lw_tbl by decide +kernel) w h) ((show ∀ w ∈ u_ws RX3 TX3 3, goodWord w = true by decide +kernel) w h)
theorem rx4_ws : ∀ w ∈ u_ws RX4 TX4 12, w ∈ gT := fun w h => gT_in ((show ∀ w ∈ u_ws RX4 TX4 12, w ∈ lw_tbl by decide +kernel) w h) ((show ∀ w ∈ u_ws RX4 TX4 12, goodWord w = true by decide +kernel) w h)
theorem rx5_ws : ∀ w ∈ u_ws RX5 TX5 7, w ∈ gT := fun w h => gT_in ((show ∀ w ∈ u_ws RX5 TX5 7, w ∈ lw_tbl by decide +kernel) w h) ((show ∀ w ∈ u_ws RX5 TX5 7, goodWord w = true by decide +kernel) w h)
theorem rx6_ws : ∀ w ∈ u_ws RX6 TX6 2, w ∈ gT := fun w h => gT_in ((show ∀ w ∈ u_ws RX6 TX6 2, w ∈ lw_tbl by decide +kernel) w h) ((show ∀ w ∈ u_ws RX6 TX6 2, goodWord w = true by decide +kernel) w h)
theorem rx7_ws : ∀ w ∈ u_ws RX7 TX7 2, w ∈ gT := fun w h => gT_in ((show ∀ w ∈ u_ws RX7 TX7 2, w ∈ lw_tbl by decide +kernel) w h) ((show ∀ w ∈ u_ws RX7 TX7 2, goodWord w = true by decide +kernel) w h)
theorem rx8_ws : ∀ w ∈ u_ws RX8 TX8 3, w ∈ gT := fun w h => gT_in ((show ∀ w ∈ u_ws RX8 TX8 3, w ∈ lw_tbl by decide +kernel) w h) ((show ∀ w ∈ u_ws RX8 TX8 3, goodWord w = true by decide +kernel) w h)
theorem rx9_ws : ∀ w ∈ u_ws RX9 TX9 4, w ∈ gT := fun w h => gT_in ((show ∀ w ∈ u_ws RX9 TX9 4, w ∈ lw_tbl by decide +kernel) w h) ((show ∀ w ∈ u_ws RX9 TX9 4, goodWord w = true by decide +kernel) w h)
theorem rx10_ws : ∀ w ∈ u_ws RX10 TX10 3, w ∈ gT := fun w h => gT_in ((show ∀ w ∈ u_ws RX10 TX10 3, w ∈ lw_tbl by decide +kernel) w h) ((show ∀ w ∈ u_ws RX10 TX10 3, goodWord w = true by decide +kernel) w h)
theorem rx11_ws : ∀ w ∈ u_ws RX11 TX11 9, w ∈ gT := fun w h => gT_in ((show ∀ w ∈ u_ws RX11 TX11 9, w ∈ lw_tbl by decide +kernel) w h) ((show ∀ w ∈ u_ws RX11 TX11 9, goodWord w = true by decide +kernel) w h)
/-! THE CLASS'S WORLD: kinds of objects (0 Bundle, 1 Call, 2 Cell, 3 Event, 4 Leg, 5 Phone, 6 RateHistory, 7 RateStep, 8 Slice, 9 Wallet, 10 Zone, 11 MeshBiller; 12 to 18 lists, 19 to 25 their rows, 26 to 29 arrays), each numbered; V: column 20 * kind + field, by number; L: the lists; N: how many of a kind; ad: where each lies -/
abbrev Lst : Type := Nat → Nat → List Int32
abbrev Cnt : Type := Nat → Nat
abbrev Adr : Type := Nat → Nat → Nat
abbrev CW : Type := Rho × Lst × Cnt
def nfl (k : Nat) : Nat := [4, 3, 4, 3, 12, 7, 2, 2, 3, 4, 3, 9].getD k 0
def fty (c : Nat) : Nat := [0, 0, 0, 0, 0, 0, 0, 0, 0, 0, 0, 0, 0, 0, 0, 0, 0, 0, 0, 0, 0, 1005, 3017, 0, 0, 0, 0, 0, 0, 0, 0, 0, 0, 0, 0, 0, 0, 0, 0, 0, 0, 1010, 0, 0, 0, 0, 0, 0, 0, 0, 0, 0, 0, 0, 0, 0, 0, 0, 0, 0, 0, 0, 1002, 0, 0, 0, 0, 0, 0, 0, 0, 0, 0, 0, 0, 0, 0, 0, 0, 0, 0, 1005, 1001, 1009, 0, 3008, 3018, 0, 0, 0, 0, 0, 0, 0, 0, 0, 0, 0, 0, 0, 0, 1002, 1009, 0, 2004, 0, 0, 0, 0, 0, 0, 0, 0, 0, 0, 0, 0, 0, 0, 0, 3016, 0, 0, 0, 0, 0, 0, 0, 0, 0, 0, 0, 0, 0, 0, 0, 0, 0, 0, 0, 0, 0, 0, 0, 0, 0, 0, 0, 0, 0, 0, 0, 0, 0, 0, 0, 0, 0, 0, 0, 0, 0, 2000, 0, 0, 0, 0, 0, 0, 0, 0, 0, 0, 0, 0, 0, 0, 0, 0, 0, 0, 3015, 0, 0, 0, 0, 0, 0, 0, 0, 0, 0, 0, 0, 0, 0, 0, 0, 0, 0, 0, 4006, 5006, 0, 0, 0, 0, 0, 0, 0, 0, 0, 0, 0, 0, 0, 0, 0, 0, 0, 3026, 3027, 3028, 3029, 3012, 3013, 3014, 0, 0, 0, 0, 0, 0, 0, 0, 0, 0, 0, 0, 0].getD c 0
def ow (k : Nat) : Nat := [0, 1, 2, 3, 4, 5, 6, 7, 8, 9, 10, 11, 11, 11, 11, 9, 6, 1, 4, 11, 11, 11, 9, 6, 1, 4, 11, 11, 11, 11].getD k 0
def lel (k : Nat) : Nat := [0, 0, 0, 0, 0, 0, 0, 0, 0, 0, 0, 0, 0, 1, 4, 0, 7, 4, 3, 0, 0, 0, 0, 0, 0, 0, 10, 2, 9, 5].getD k 0
def alen (k : Nat) : Nat := [0, 0, 0, 0, 0, 0, 0, 0, 0, 0, 0, 0, 0, 0, 0, 0, 0, 0, 0, 0, 0, 0, 0, 0, 0, 0, 3, 8, 4, 10].getD k 0
/-- a pointer that may be null, as a number (-1: null) -/
def qn (f : Nat → Nat) (x : Int32) : Option Nat := if x = -1 then none else some (f x.toNatClampNeg)
theorem qn_null {f : Nat → Nat} : qn f (-1) = none := if_pos rfl
theorem qn_some {f : Nat → Nat} {x : Int32} (h : ¬ x = -1) : qn f x = some (f x.toNatClampNeg) := if_neg h
theorem qn_ref {f : Nat → Nat} {x : Int32} (h : ¬ x = -1) : va_rf (qn f x) = .ref (f x.toNatClampNeg) := by rw [qn_some h]; rfl
/-- a number of a kind of which there are n -/
theorem vp_lt {x : Int32} {n : Nat} (h : vp_in x n) : x.toNatClampNeg < n := Nat.not_le.mp fun q => h (Or.inr q)
theorem vp_ne {x : Int32} {n : Nat} (h : vp_in x n) : ¬ x = -1 := fun q => h (Or.inl (by rw [q]; decide))
theorem vp_mono {x : Int32} {n k : Nat} (h : vp_in x n) (hn : n ≤ k) : vp_in x k := fun q => h (q.elim Or.inl fun z => Or.inr (Nat.le_trans hn z))
theorem vp_inj {x y : Int32} {n k : Nat} (h : vp_in x n) (h2 : vp_in y k) (e : x.toNatClampNeg = y.toNatClampNeg) : x = y := by
  have hx : ¬ x < 0 := fun q => h (Or.inl q)
  have hy : ¬ y < 0 := fun q => h2 (Or.inl q)
  obtain ⟨a, ha, rfl⟩ := nI_of hx
  obtain ⟨b, hb, rfl⟩ := nI_of hy
  rw [nI_clamp ha, nI_clamp hb] at e
  rw [e]
def cv (ad : Adr) (t : Nat) (x : Int32) (i : Nat) : Value :=
  cond (Nat.ble t 0) (.int x) (cond (Nat.ble t 1999) (.ref (ad (t - 1000) x.toNatClampNeg)) (cond (Nat.ble t 2999) (va_rf (qn (ad (t - 2000)) x)) (cond (Nat.ble t 3999) (.ref (ad (t - 3000) i)) (cond (Nat.ble t 4999) (.ref (ad (t - 4000) (2 * i))) (.ref (ad (t - 5000) (2 * i + 1)))))))
/-- what a pointer's number may be -/
def fok (N : Cnt) (t : Nat) (x : Int32) : Prop :=
  cond (Nat.ble t 0) True (cond (Nat.ble t 1999) (vp_in x (N (t - 1000))) (cond (Nat.ble t 2999) (x = -1 ∨ vp_in x (N (t - 2000))) True))
def cfs (V : Rho) (ad : Adr) (k i : Nat) : List Value := (List.range (nfl k)).map (fun f => cv ad (fty (20 * k + f)) (V (20 * k + f) i) i)
def ex (N : Cnt) (k i : Nat) : Prop := k < 30 ∧ i < N (ow k)
def live (L : Lst) (N : Cnt) (k i : Nat) : Prop := ex N k i ∧ (19 ≤ k → k < 26 → L (k - 7) i ≠ [])
/-- a list: its object, and, behind its first element, the row of its elements -/
def clist (D : va_G) (dA : Nat → ClassId) (L : Lst) (ad : Adr) (k i : Nat) (H : Heap) : Prop :=
  ∃ (mo : Int32), va_at D vwCl (ad k i, .inr (2, [.int mo, .ref (if L k i = [] then dA 99 else ad (k + 7) i), .int (nI (L k i).length)])) H ∧
    (L k i ≠ [] → ∃ cap : Nat, va_at D vwCl (ad (k + 7) i, .inl (dA 5, cap, .inr (.inr (.inr (.inr (fun j => ((L k i)[j]?).map (fun x => ad (lel k) x.toNatClampNeg))))))) H ∧ (L k i).length ≤ cap ∧ cap ≤ 2 * (L k i).length + 10)
/-- how many there must be -/
def cnum (N : Cnt) : Prop := (0 < N 11 → N 11 = 1 ∧ N 10 = 3 ∧ N 2 = 8 ∧ N 9 = 4 ∧ N 5 = 10 ∧ N 6 = 6) ∧ N 4 ≤ N 8 ∧ 2 * N 10 ≤ N 6 ∧ ∀ k, N k ≤ 100000
/-- further cells, apart from those: what is just being made, and what others hold -/
def xok (D : va_G) (A : Nat → Prop) (L : Lst) (N : Cnt) (ad : Adr) (xs : va_W) (H : Heap) : Prop := va_P D vwCl xs H ∧ va_D A xs ∧ ∀ (j : Nat) (q : Nat × va_E), xs[j]? = some q → ∀ k i, live L N k i → ad k i ≠ q.1
def cx (D : va_G) (dA : Nat → ClassId) (A : Nat → Prop) (V : Rho) (L : Lst) (N : Cnt) (ad : Adr) (xs : va_W) (H : Heap) : Prop :=
  (∀ k i, k < 12 → i < N k → va_at D vwCl (ad k i, .inr (k + 3, cfs V ad k i)) H) ∧
  (∀ k i, 12 ≤ k → k < 19 → i < N (ow k) → clist D dA L ad k i H) ∧
  (∀ k, 26 ≤ k → k < 30 → 0 < N 11 → va_at D vwCl (ad k 0, .inl (dA (k - 25), alen k, .inr (.inr (.inr (.inr (fun j => some (ad (lel k) j))))))) H) ∧
  (∀ k i k' i', live L N k i → live L N k' i' → ad k i = ad k' i' → k = k' ∧ i = i') ∧
  (∀ k i, live L N k i → A (ad k i)) ∧
  (∀ k i f, k < 12 → i < N k → f < nfl k → fok N (fty (20 * k + f)) (V (20 * k + f) i)) ∧
  (∀ k i x, 12 ≤ k → k < 19 → i < N (ow k) → x ∈ L k i → vp_in x (N (lel k))) ∧
  (∀ k i, 12 ≤ k → k < 19 → i < N (ow k) → (L k i).length ≤ 1000) ∧ cnum N ∧ xok D A L N ad xs H
/-- later addresses: what there was stays where it was -/
def axt (N : Cnt) (ad ad' : Adr) : Prop := ∀ k i, ex N k i → ¬ (19 ≤ k ∧ k < 26) → ad' k i = ad k i
theorem ow_self {k : Nat} (h : k < 12) : ow k = k := by
  have : k = 0 ∨ k = 1 ∨ k = 2 ∨ k = 3 ∨ k = 4 ∨ k = 5 ∨ k = 6 ∨ k = 7 ∨ k = 8 ∨ k = 9 ∨ k = 10 ∨ k = 11 := by omega
  rcases this with rfl | rfl | rfl | rfl | rfl | rfl | rfl | rfl | rfl | rfl | rfl | rfl <;> rfl
theorem live_obj {L : Lst} {N : Cnt} {k i : Nat} (h : k < 12) (hi : i < N k) : live L N k i := ⟨⟨by omega, by rw [ow_self h]; exact hi⟩, fun h1 => by omega⟩
theorem live_list {L : Lst} {N : Cnt} {k i : Nat} (h1 : 12 ≤ k) (h2 : k < 19) (hi : i < N (ow k)) : live L N k i := ⟨⟨by omega, hi⟩, fun h3 => by omega⟩
theorem ow_row {k : Nat} (h1 : 12 ≤ k) (h2 : k < 19) : ow (k + 7) = ow k := by
  have : k = 12 ∨ k = 13 ∨ k = 14 ∨ k = 15 ∨ k = 16 ∨ k = 17 ∨ k = 18 := by omega
  rcases this with rfl | rfl | rfl | rfl | rfl | rfl | rfl <;> rfl
theorem live_row {L : Lst} {N : Cnt} {k i : Nat} (h1 : 12 ≤ k) (h2 : k < 19) (hi : i < N (ow k)) (hL : L k i ≠ []) : live L N (k + 7) i := ⟨⟨by omega, by rw [ow_row h1 h2]; exact hi⟩, fun h3 h4 => by rw [Nat.add_sub_cancel]; exact hL⟩
theorem ow_arr {k : Nat} (h1 : 26 ≤ k) (h2 : k < 30) : ow k = 11 := by
  have : k = 26 ∨ k = 27 ∨ k = 28 ∨ k = 29 := by omega
  rcases this with rfl | rfl | rfl | rfl <;> rfl
theorem live_arr {L : Lst} {N : Cnt} {k : Nat} (h1 : 26 ≤ k) (h2 : k < 30) (hi : 0 < N 11) : live L N k 0 := ⟨⟨by omega, by rw [ow_arr h1 h2]; exact hi⟩, fun h3 h4 => by omega⟩
theorem nfl_le {k : Nat} : nfl k ≤ 12 := by
  by_cases h : k < 12
  · have : k = 0 ∨ k = 1 ∨ k = 2 ∨ k = 3 ∨ k = 4 ∨ k = 5 ∨ k = 6 ∨ k = 7 ∨ k = 8 ∨ k = 9 ∨ k = 10 ∨ k = 11 := by omega
    rcases this with rfl | rfl | rfl | rfl | rfl | rfl | rfl | rfl | rfl | rfl | rfl | rfl <;> decide
  · unfold nfl
    rw [List.getD_eq_getElem?_getD, List.getElem?_eq_none (by simp; omega)]
    decide
theorem cfs_get {V : Rho} {ad : Adr} {k i f : Nat} (hf : f < nfl k) : (cfs V ad k i)[f]? = some (cv ad (fty (20 * k + f)) (V (20 * k + f) i) i) := by
  unfold cfs
  rw [List.getElem?_map, List.getElem?_range hf]
  rfl
theorem cfs_set {V : Rho} {ad : Adr} {k i f : Nat} {x : Int32} (hf : f < nfl k) : cfs (cs V (20 * k + f) i x) ad k i = (cfs V ad k i).set f (cv ad (fty (20 * k + f)) x i) := by
  apply List.ext_getElem?
  intro j
  by_cases hj : j < nfl k
  · rw [cfs_get hj]
    by_cases e : j = f
    · subst e
      rw [List.getElem?_set_self (by simp [cfs]; exact hj)]
      simp [cs]
    · rw [List.getElem?_set_ne (Ne.symm e), cfs_get hj]
      simp [cs, e]
  · rw [List.getElem?_eq_none (by simp [cfs]; omega), List.getElem?_eq_none (by simp [cfs]; omega)]
theorem cfs_other {V : Rho} {ad : Adr} {k i f k' i' : Nat} {x : Int32} (hf : f < nfl k) (h : ¬ (k' = k ∧ i' = i)) : cfs (cs V (20 * k + f) i x) ad k' i' = cfs V ad k' i' := by
  unfold cfs
  refine List.map_congr_left fun g hg => ?_
  have hg := List.mem_range.mp hg
  have h1 := @nfl_le k
  have h2 := @nfl_le k'
  have h3 : ¬ (20 * k' + g = 20 * k + f ∧ i' = i) := fun q => h ⟨by omega, q.2⟩
  show cv ad _ (if 20 * k' + g = 20 * k + f ∧ i' = i then x else V (20 * k' + g) i') i' = _
  rw [if_neg h3]
theorem cs_other {V : Rho} {k i f k' i' g : Nat} {x : Int32} (hf : f < nfl k) (hg : g < nfl k') (h : ¬ (k' = k ∧ i' = i)) : cs V (20 * k + f) i x (20 * k' + g) i' = V (20 * k' + g) i' := by
  have h1 := @nfl_le k
  have h2 := @nfl_le k'
  exact if_neg fun q => h ⟨by omega, q.2⟩
theorem cfs_len {V : Rho} {ad : Adr} {k i : Nat} : (cfs V ad k i).length = nfl k := by simp [cfs]
theorem clist.kept {D : va_G} {dA : Nat → ClassId} {L : Lst} {N : Cnt} {ad : Adr} {k i : Nat} {H H1 : Heap} (h : clist D dA L ad k i H) (h1 : 12 ≤ k) (h2 : k < 19) (hi : i < N (ow k)) (hq : ∀ k i, live L N k i → H1[ad k i]? = H[ad k i]?) : clist D dA L ad k i H1 := by
  obtain ⟨mo, a, b⟩ := h
  exact ⟨mo, a.kept (hq _ _ (live_list h1 h2 hi)), fun z => (b z).elim fun cap c => ⟨cap, c.1.kept (hq _ _ (live_row h1 h2 hi z)), c.2⟩⟩
theorem cx.kept {D : va_G} {dA : Nat → ClassId} {A A' : Nat → Prop} {V : Rho} {L : Lst} {N : Cnt} {ad : Adr} {xs : va_W} {H H1 : Heap} (h : cx D dA A V L N ad xs H) (hA : ∀ k i, live L N k i → A' (ad k i)) (hq : ∀ k i, live L N k i → H1[ad k i]? = H[ad k i]?) {xs' : va_W} (hx : xok D A' L N ad xs' H1) : cx D dA A' V L N ad xs' H1 :=
  ⟨fun k i hk hi => (h.1 k i hk hi).kept (hq _ _ (live_obj hk hi)), fun k i h1 h2 hi => (h.2.1 k i h1 h2 hi).kept h1 h2 hi hq, fun k h1 h2 h3 => (h.2.2.1 k h1 h2 h3).kept (hq _ _ (live_arr h1 h2 h3)), h.2.2.2.1, hA, h.2.2.2.2.2.1, h.2.2.2.2.2.2.1, h.2.2.2.2.2.2.2.1, h.2.2.2.2.2.2.2.2.1, hx⟩
/-- every live address lies in the heap -/
theorem cx.lt {D : va_G} {dA : Nat → ClassId} {A : Nat → Prop} {V : Rho} {L : Lst} {N : Cnt} {ad : Adr} {xs : va_W} {H : Heap} (h : cx D dA A V L N ad xs H) {k i : Nat} (hl : live L N k i) : ad k i < H.size := by
  obtain ⟨⟨hk, hi⟩, hr⟩ := hl
  by_cases h1 : k < 12
  · rw [ow_self h1] at hi
    exact (h.1 k i h1 hi).lt
  · by_cases h2 : k < 19
    · obtain ⟨mo, a, -⟩ := h.2.1 k i (by omega) h2 hi
      exact a.lt
    · by_cases h3 : k < 26
      · obtain ⟨k', rfl⟩ : ∃ k', k = k' + 7 := ⟨k - 7, by omega⟩
        rw [ow_row (by omega) (by omega)] at hi
        obtain ⟨mo, -, b⟩ := h.2.1 k' i (by omega) (by omega) hi
        obtain ⟨cap, c, -⟩ := b (by have := hr (by omega) h3; rwa [Nat.add_sub_cancel] at this)
        exact c.lt
      · rw [ow_arr (by omega) hk] at hi
        have hn := (h.2.2.2.2.2.2.2.2.1.1 (by omega)).1
        have : i = 0 := by omega
        subst this
        exact (h.2.2.1 k (by omega) hk hi).lt
theorem zone1' {D : va_G} {q : Nat × va_E} {H : Heap} (h : va_at D vwCl q H) : va_P D vwCl [q] H := zone1 h
section CC
variable {p : Program} {l : Launch} {e : Env} {R : Room} {s : State} {m : MethodId} {args : Array Value} {below : List Frame} {meth : Method} {c : Code} {A : Nat → Prop} {cells slots : Nat} {Q : State → Prop}
variable {cc : ByteArray} {own : String} {D : va_G} {dA : Nat → ClassId} {pc : Nat} {lo : List (Nat × Value)} {ll : List (Nat × Int64)} {rest : List Value} {V V' : Rho} {L : Lst} {N : Cnt} {ad : Adr} {xs : va_W} {C : String} {T : u_T}
theorem cx_recv {H : Heap} {k i n : Nat} (X : zc p l s m args meth c cc own D dA A) (hcl : vwCl[k + 3]? = some (C, T, n)) (hk : Nat.ble (k + 1) 12 = true) (hi : i < N k) (hG : cx D dA A V L N ad xs H) : ∃ cell : Cell, H[ad k i]? = some cell ∧ cell.vm.isStatics = false ∧ s.vm.findClass C = some cell.cls :=
  va_recv (q := (C, T, n)) (ci := k + 3) (q0 := 0) X.2.2.2.2.2.1 (zone1 (hG.1 k i (Nat.le_of_ble_eq_true hk) hi)) hcl rfl
theorem cx_fact {H : Heap} {k i f : Nat} (hk : Nat.ble (k + 1) 12 = true) (hi : i < N k) (hf : Nat.ble (f + 1) (nfl k) = true) (hG : cx D dA A V L N ad xs H) : fok N (fty (20 * k + f)) (V (20 * k + f) i) :=
  hG.2.2.2.2.2.1 k i f (Nat.le_of_ble_eq_true hk) hi (Nat.le_of_ble_eq_true hf)
theorem c_get (X : zc p l s m args meth c cc own D dA A) (k f : Nat) {i idx : Nat} {v : Value} (hin : ∀ w ∈ u_ws C T (nfl k), w ∈ gT) (hcl : vwCl[k + 3]? = some (C, T, nfl k)) (hk : Nat.ble (k + 1) 12 = true) (hf : Nat.ble (f + 1) (nfl k) = true) (hi : i < N k) (hw : Cond.fieldLink own idx (T f).1 (T f).2.1 (T f).2.2.1 ∈ gT) (hv : cv ad (fty (20 * k + f)) (V (20 * k + f) i) i = v) (hdg : decode cc pc = .ok (.getfield idx, 3))
    (kk : zz p l e R s m args below meth c A (cx D dA A V L N ad xs) cells slots Q (pc + 3) lo ll (v :: rest)) : zz p l e R s m args below meth c A (cx D dA A V L N ad xs) cells slots Q pc lo ll (.ref (ad k i) :: rest) := by
  subst hv
  intro H locs ls hG hS hl hc
  exact va_get (D := D) (ci := k + 3) (C := C) (T := T) (N := nfl k) X.1 X.2.1 X.2.2.2.1 hin X.2.2.1 X.2.2.2.2.2.1 (zone1 (hG.1 k i (Nat.le_of_ble_eq_true hk) hi)) 0 rfl hcl f (Nat.le_of_ble_eq_true hf) (X.2.2.2.1 _ hw) (fun _ h => h) (cfs_get (Nat.le_of_ble_eq_true hf)) hdg (kk H locs ls hG hS hl hc)
theorem c_put (X : zc p l s m args meth c cc own D dA A) (k f : Nat) {i idx : Nat} {x : Int32} {v : Value} {ty0 : Nat → FieldType} {ty : FieldType} (hin : ∀ w ∈ u_ws C T (nfl k), w ∈ gT) (hcl : vwCl[k + 3]? = some (C, T, nfl k)) (hty : ∀ j, j < nfl k → parseFieldDescriptor (T j).2.2.1 = some (ty0 j)) (hnm : ∀ a, a < nfl k → ∀ b, b < nfl k → a ≠ b → (T a).2.1 ≠ (T b).2.1) (hk : Nat.ble (k + 1) 12 = true) (hf : Nat.ble (f + 1) (nfl k) = true) (hi : i < N k) (hfin : (T f).2.2.2 = false) (hw : Cond.fieldLink own idx (T f).1 (T f).2.1 (T f).2.2.1 ∈ gT) (hv : cv ad (fty (20 * k + f)) x i = v) (hok : fok N (fty (20 * k + f)) x) (hd : ty0 f = ty) (hn : narrow ty v = v) (hfit : fits ty v = true) (he : cs V (20 * k + f) i x = V') (hdg : decode cc pc = .ok (.putfield idx, 3))
    (kk : zz p l e R s m args below meth c A (cx D dA A V' L N ad xs) cells slots Q (pc + 3) lo ll rest) : zz p l e R s m args below meth c A (cx D dA A V L N ad xs) cells slots Q pc lo ll (v :: .ref (ad k i) :: rest) := by
  subst he
  subst hd
  intro H locs ls hG hS hl hc
  have hf := Nat.le_of_ble_eq_true hf
  have hk := Nat.le_of_ble_eq_true hk
  have hap := va_apart (own := own) X.2.2.2.1 hin ty0 hty hnm X.2.2.2.2.2.1 hcl
  obtain ⟨r, hr1, cell, q1, q2, q3, q4⟩ := hG.1 k i hk hi
  have hr : r = (C, T, nfl k) := Option.some.inj (hr1.symm.trans hcl)
  subst hr
  obtain ⟨hS9, hfc, kC, hkC, hkind⟩ := X.2.2.2.2.2.1.1 _ _ hcl
  obtain ⟨cf, kf, fi, fd, hi9, hsl⟩ := hS9 f hf
  have hlay := X.2.2.2.1 _ (hin _ (u_in_lay hf))
  unfold u_lay at hlay
  rw [if_neg (by rw [hfin]; decide)] at hlay
  have hst := (u_facts hfc hkC (u_lays X.2.2.2.1 hin hf) hi9).1
  have h6 := u_store (v := v) hfc hkC hkind hlay hi9 (hty f hf) hn hfit
  refine W.putK X.1 X.2.1 (f := fd) ⟨X.2.2.1, X.2.2.2.1 _ hw, ⟨_, _, _, hi9⟩, hst⟩ (by rw [q2]; exact h6) q1 q3 (by rw [hsl]; exact k2_hasslot (q4 f hf)) rfl rfl hdg fun H' e1 e2 e3 => ?_
  rw [hsl] at e1
  have hlv : live L N k i := live_obj hk hi
  have hoth : ∀ k' i', live L N k' i' → ¬ (k' = k ∧ i' = i) → H'[ad k' i']? = H[ad k' i']? := fun k' i' h1 h2 => e3 _ (fun z => h2 (hG.2.2.2.1 _ _ _ _ h1 hlv z))
  refine kk H' _ ls ⟨fun k' i' h1 h2 => ?_, fun k' i' h1 h2 h3 => ?_, fun k' h1 h2 h3 => ?_, hG.2.2.2.1, hG.2.2.2.2.1, fun k' i' g h1 h2 h3 => ?_, hG.2.2.2.2.2.2.1, hG.2.2.2.2.2.2.2.1, hG.2.2.2.2.2.2.2.2.1, hG.2.2.2.2.2.2.2.2.2.1.kept (fun j q hj => e3 _ (fun z => hG.2.2.2.2.2.2.2.2.2.2.2 j q hj _ _ hlv z.symm)), hG.2.2.2.2.2.2.2.2.2.2⟩ (hS.put e2 e3 (hG.2.2.2.2.1 _ _ hlv)) hl hc
  · by_cases h : k' = k ∧ i' = i
    · obtain ⟨rfl, rfl⟩ := h
      rw [cfs_set hf, hv]
      exact ⟨_, hcl, t_OB.to (V := updV (vp_V (cfs V ad k' i')) f v) ⟨_, e1, q2, q3, t_set q4 hap hf v⟩ (fun j _ => vp_updV_set (by rw [cfs_len]; exact hf) v j)⟩
    · rw [cfs_other hf h]
      exact (hG.1 k' i' h1 h2).kept (hoth _ _ (live_obj h1 h2) h)
  · obtain ⟨mo, a, b⟩ := hG.2.1 k' i' h1 h2 h3
    exact ⟨mo, a.kept (hoth _ _ (live_list h1 h2 h3) (fun z => by omega)), fun z => (b z).elim fun cap c => ⟨cap, c.1.kept (hoth _ _ (live_row h1 h2 h3 z) (fun z => by omega)), c.2⟩⟩
  · exact (hG.2.2.1 k' h1 h2 h3).kept (hoth _ _ (live_arr h1 h2 h3) (fun z => by omega))
  · by_cases h : k' = k ∧ i' = i
    · obtain ⟨rfl, rfl⟩ := h
      by_cases hgf : g = f
      · subst hgf
        rw [show cs V (20 * k' + g) i' x (20 * k' + g) i' = x from if_pos ⟨rfl, rfl⟩]
        exact hok
      · rw [show cs V (20 * k' + f) i' x (20 * k' + g) i' = V (20 * k' + g) i' from if_neg (fun z => hgf (by omega))]
        exact hG.2.2.2.2.2.1 k' i' g h1 h2 h3
    · rw [cs_other hf h3 h]
      exact hG.2.2.2.2.2.1 k' i' g h1 h2 h3
/-- the array of the phones, and its like -/
theorem c_alen (X : zc p l s m args meth c cc own D dA A) (k : Nat) {n : Int32} (h1 : Nat.ble 26 k = true) (h2 : Nat.ble (k + 1) 30 = true) (ht : (ztys dA)[k - 25]? = some (dA (k - 25), .object C)) (hN : 0 < N 11) (hn : Int32.ofNat (alen k) = n) (hdg : decode cc pc = .ok (.arraylength, 1))
    (kk : zz p l e R s m args below meth c A (cx D dA A V L N ad xs) cells slots Q (pc + 1) lo ll (.int n :: rest)) : zz p l e R s m args below meth c A (cx D dA A V L N ad xs) cells slots Q pc lo ll (.ref (ad k 0) :: rest) :=
  fun H locs ls hG hS hl hc => va_alen X.1 X.2.1 X.2.2.2.2.2.1 (zone1 (hG.2.2.1 k (Nat.le_of_ble_eq_true h1) (Nat.le_of_ble_eq_true h2) hN)) 0 (k - 25) rfl ht hn hdg (kk H locs ls hG hS hl hc)
theorem c_aald (X : zc p l s m args meth c cc own D dA A) (k : Nat) {i : Int32} (h1 : Nat.ble 26 k = true) (h2 : Nat.ble (k + 1) 30 = true) (ht : (ztys dA)[k - 25]? = some (dA (k - 25), .object C)) (hN : 0 < N 11) (hi : ¬ (i < 0 ∨ alen k ≤ i.toNatClampNeg)) (hdg : decode cc pc = .ok (.aaload, 1))
    (kk : zz p l e R s m args below meth c A (cx D dA A V L N ad xs) cells slots Q (pc + 1) lo ll (.ref (ad (lel k) i.toNatClampNeg) :: rest)) : zz p l e R s m args below meth c A (cx D dA A V L N ad xs) cells slots Q pc lo ll (.int i :: .ref (ad k 0) :: rest) :=
  fun H locs ls hG hS hl hc => va_aldq X.1 X.2.1 X.2.2.2.2.2.1 (zone1 (hG.2.2.1 k (Nat.le_of_ble_eq_true h1) (Nat.le_of_ble_eq_true h2) hN)) 0 (k - 25) rfl ht hi hdg (kk H locs ls hG hS hl hc)
theorem c_ifnull (X : zc p l s m args meth c cc own D dA A) {G : Heap → Prop} {f : Nat → Nat} {x : Int32} {off : Int} {tgt : Nat} (hdg : decode cc pc = .ok (.ifnull off, 3)) (ht : (pc : Int) + off = (tgt : Int)) (kt : x = -1 → zz p l e R s m args below meth c A G cells slots Q tgt lo ll rest) (kf : ¬ x = -1 → zz p l e R s m args below meth c A G cells slots Q (pc + 3) lo ll rest) : zz p l e R s m args below meth c A G cells slots Q pc lo ll (va_rf (qn f x) :: rest) :=
  z_ifnull X hdg ht (fun h => kt (by by_cases q : x = -1; exact q; rw [qn_some q] at h; cases h)) (fun a h => kf (fun q => by rw [q, qn_null] at h; cases h))
theorem c_ifnonnull (X : zc p l s m args meth c cc own D dA A) {G : Heap → Prop} {f : Nat → Nat} {x : Int32} {off : Int} {tgt : Nat} (hdg : decode cc pc = .ok (.ifnonnull off, 3)) (ht : (pc : Int) + off = (tgt : Int)) (kf : x = -1 → zz p l e R s m args below meth c A G cells slots Q (pc + 3) lo ll rest) (kt : ¬ x = -1 → zz p l e R s m args below meth c A G cells slots Q tgt lo ll rest) : zz p l e R s m args below meth c A G cells slots Q pc lo ll (va_rf (qn f x) :: rest) :=
  z_ifnonnull X hdg ht (fun h => kf (by by_cases q : x = -1; exact q; rw [qn_some q] at h; cases h)) (fun a h => kt (fun q => by rw [q, qn_null] at h; cases h))
theorem live_inj {H : Heap} {k : Nat} {x y : Int32} (hk : Nat.ble (k + 1) 12 = true) (hG : cx D dA A V L N ad xs H) (hx : vp_in x (N k)) (hy : vp_in y (N k)) (h : ad k x.toNatClampNeg = ad k y.toNatClampNeg) : x = y :=
  vp_inj hx hy (hG.2.2.2.1 _ _ _ _ (live_obj (Nat.le_of_ble_eq_true hk) (vp_lt hx)) (live_obj (Nat.le_of_ble_eq_true hk) (vp_lt hy)) h).2
theorem c_acmp_eq (X : zc p l s m args meth c cc own D dA A) {k : Nat} {x y : Int32} {off : Int} {tgt : Nat} (hk : Nat.ble (k + 1) 12 = true) (hx : vp_in x (N k)) (hy : vp_in y (N k)) (hdg : decode cc pc = .ok (.if_acmp .eq off, 3)) (ht : (pc : Int) + off = (tgt : Int)) (kt : x = y → zz p l e R s m args below meth c A (cx D dA A V L N ad xs) cells slots Q tgt lo ll rest) (kf : ¬ x = y → zz p l e R s m args below meth c A (cx D dA A V L N ad xs) cells slots Q (pc + 3) lo ll rest) : zz p l e R s m args below meth c A (cx D dA A V L N ad xs) cells slots Q pc lo ll (.ref (ad k y.toNatClampNeg) :: .ref (ad k x.toNatClampNeg) :: rest) := by
  intro H locs ls hG hS hl hc
  exact z_acmp_eq (x := some (ad k x.toNatClampNeg)) (y := some (ad k y.toNatClampNeg)) X hdg ht (fun h => kt (live_inj hk hG hx hy (Option.some.inj h))) (fun h => kf (fun q => h (by rw [q]))) H locs ls hG hS hl hc
theorem c_acmp_ne (X : zc p l s m args meth c cc own D dA A) {k : Nat} {x y : Int32} {off : Int} {tgt : Nat} (hk : Nat.ble (k + 1) 12 = true) (hx : vp_in x (N k)) (hy : vp_in y (N k)) (hdg : decode cc pc = .ok (.if_acmp .ne off, 3)) (ht : (pc : Int) + off = (tgt : Int)) (kf : x = y → zz p l e R s m args below meth c A (cx D dA A V L N ad xs) cells slots Q (pc + 3) lo ll rest) (kt : ¬ x = y → zz p l e R s m args below meth c A (cx D dA A V L N ad xs) cells slots Q tgt lo ll rest) : zz p l e R s m args below meth c A (cx D dA A V L N ad xs) cells slots Q pc lo ll (.ref (ad k y.toNatClampNeg) :: .ref (ad k x.toNatClampNeg) :: rest) := by
  intro H locs ls hG hS hl hc
  exact z_acmp_ne (x := some (ad k x.toNatClampNeg)) (y := some (ad k y.toNatClampNeg)) X hdg ht (fun h => kf (live_inj hk hG hx hy (Option.some.inj h))) (fun h => kt (fun q => h (by rw [q]))) H locs ls hG hS hl hc
theorem c_cast (X : zc p l s m args meth c cc own D dA A) {k i n idx : Nat} (hcl : vwCl[k + 3]? = some (C, T, n)) (hk : Nat.ble (k + 1) 12 = true) (hi : i < N k) (hw : Cond.classLink own idx C ∈ gT) (hdg : decode cc pc = .ok (.checkcast idx, 3))
    (kk : zz p l e R s m args below meth c A (cx D dA A V L N ad xs) cells slots Q (pc + 3) lo ll (.ref (ad k i) :: rest)) : zz p l e R s m args below meth c A (cx D dA A V L N ad xs) cells slots Q pc lo ll (.ref (ad k i) :: rest) :=
  fun H locs ls hG hS hl hc => va_castS (nm := C) X.1 X.2.1 X.2.2.1 (X.2.2.2.1 _ hw) (X.2.2.2.2.2.1.1 _ _ hcl).2 (cx_recv X hcl hk hi hG) hdg (kk H locs ls hG hS hl hc)
/-- a new object, beside the tables -/
theorem c_new (X : zc p l s m args meth c cc own D dA A) (ci : Nat) {idx n : Nat} {fs : List Value} (ty : Nat → FieldType) (hin : ∀ w ∈ u_ws C T n, w ∈ gT) (hcl : vwCl[ci]? = some (C, T, n)) (hty : ∀ k, k < n → parseFieldDescriptor (T k).2.2.1 = some (ty k)) (h1 : Cond.classLink own idx C ∈ gT) (h2 : Cond.instantiable C n ∈ gT) (h3 : Cond.initialized C ∈ gT) (hfs : ∀ j, j < n → defaultValue (ty j) = vp_V fs j) (hcs : cells + 1 ≤ R.cells ∧ slots + n ≤ R.slots) (hdg : decode cc pc = .ok (.new idx, 3))
    (kk : ∀ q : Nat, zz p l e R s m args below meth c A (cx D dA A V L N ad (xs ++ [(q, .inr (ci, fs))])) (cells + 1) (slots + n) Q (pc + 3) lo ll (.ref q :: rest)) : zz p l e R s m args below meth c A (cx D dA A V L N ad xs) cells slots Q pc lo ll rest := by
  intro H locs ls hG hS hl hc
  have hKn := X.2.2.2.2.2.1.1 _ _ hcl
  refine W.newcK X.1 X.2.1 X.2.2.1 (X.2.2.2.1 _ h1) (X.2.2.2.1 _ h2) (X.2.2.2.1 _ h3) rfl hdg hcs.1 hcs.2 hKn.2.1 rfl fun H1 kC hkC e1 z1 o1 => ?_
  have hlv : ∀ k i, live L N k i → ad k i < H.size := fun k i h => hG.lt h
  have hAq : A H.size := X.2.2.2.2.2.2.1 _ hS.1
  have hx := hG.2.2.2.2.2.2.2.2.2
  have hP1 : va_P D vwCl xs H1 := hx.1.kept (fun j q hj => o1 _ (hx.1 j q hj).lt)
  have hD1 : va_D A (xs ++ [(H.size, .inr (ci, fs))]) := hx.2.1.push hx.1 rfl hAq
  have hP2 : va_P D vwCl (xs ++ [(H.size, .inr (ci, fs))]) H1 := hP1.app (zone1 ⟨_, hcl, (u_born ty X.2.2.2.1 hin hKn hkC e1 hty).to hfs⟩)
  refine kk H.size H1 locs ls (hG.kept hG.2.2.2.2.1 (fun k i h => o1 _ (hlv k i h)) ⟨hP2, hD1, ?_⟩) ⟨Nat.le_trans hS.1 (by omega), fun x a b => (o1 x (Nat.lt_of_lt_of_le a hS.1)).trans (hS.2.1 x a b), hS.2.2⟩ hl hc
  intro j q hj k i h
  by_cases hjl : j < xs.length
  · rw [List.getElem?_append_left hjl] at hj
    exact hx.2.2 j q hj k i h
  · rw [List.getElem?_append_right (by omega)] at hj
    have hz : j - xs.length < 1 := (List.getElem?_eq_some_iff.mp hj).1
    rw [show j - xs.length = 0 by omega] at hj
    cases hj
    exact fun z => by have := hlv k i h; rw [z] at this; exact absurd this (Nat.lt_irrefl _)
/-- a field of a cell beside the tables -/
theorem c_putX (X : zc p l s m args meth c cc own D dA A) (j ci f : Nat) {a idx n : Nat} {fs : List Value} {v : Value} {xs' : va_W} {ty0 : Nat → FieldType} {ty : FieldType} (hin : ∀ w ∈ u_ws C T n, w ∈ gT) (hcl : vwCl[ci]? = some (C, T, n)) (hty : ∀ j, j < n → parseFieldDescriptor (T j).2.2.1 = some (ty0 j)) (hnm : ∀ a, a < n → ∀ b, b < n → a ≠ b → (T a).2.1 ≠ (T b).2.1) (hf : Nat.ble (f + 1) n = true) (hx9 : xs[j]? = some (a, .inr (ci, fs))) (hfl : Nat.ble (f + 1) fs.length = true) (hfin : (T f).2.2.2 = false ∨ ((T f).2.2.2 = true ∧ meth.name = "<init>" ∧ (T f).1 = own)) (hw : Cond.fieldLink own idx (T f).1 (T f).2.1 (T f).2.2.1 ∈ gT) (hd : ty0 f = ty) (hn : narrow ty v = v) (hfit : fits ty v = true) (he : xs.set j (a, .inr (ci, fs.set f v)) = xs') (hdg : decode cc pc = .ok (.putfield idx, 3))
    (kk : zz p l e R s m args below meth c A (cx D dA A V L N ad xs') cells slots Q (pc + 3) lo ll rest) : zz p l e R s m args below meth c A (cx D dA A V L N ad xs) cells slots Q pc lo ll (v :: .ref a :: rest) := by
  subst he
  subst hd
  intro H locs ls hG hS hl hc
  have hf := Nat.le_of_ble_eq_true hf
  have hfl := Nat.le_of_ble_eq_true hfl
  have hx := hG.2.2.2.2.2.2.2.2.2
  have hap := va_apart (own := own) X.2.2.2.1 hin ty0 hty hnm X.2.2.2.2.2.1 hcl
  obtain ⟨r, hr1, cell, q1, q2, q3, q4⟩ := hx.1 j _ hx9
  have hr : r = (C, T, n) := Option.some.inj (hr1.symm.trans hcl)
  subst hr
  obtain ⟨hS9, hfc, kC, hkC, hkind⟩ := X.2.2.2.2.2.1.1 _ _ hcl
  obtain ⟨cf, kf, fi, fd, hi9, hsl⟩ := hS9 f hf
  have hst := (u_facts hfc hkC (u_lays X.2.2.2.1 hin hf) hi9).1
  have hlay := X.2.2.2.1 _ (hin _ (u_in_lay hf))
  have fin : ∀ (H' : Heap) (locs' : List Loc), H'[a]? = some (cell.setSlot fd.slot v) → H'.size = H.size → (∀ q, q ≠ a → H'[q]? = H[q]?) → (∀ q ∈ locs', A q.base) → W p l e R s m args below meth c H' locs' cells slots Q (F0 m (pc + 3) ls rest) := by
    intro H' locs' e1 e2 e3 hlA
    rw [hsl] at e1
    have hA9 : A a := hx.2.1.2 j _ hx9
    refine kk H' locs' ls (hG.kept hG.2.2.2.2.1 (fun k i h => e3 _ (fun z => hx.2.2 j _ hx9 k i h z)) ⟨hx.1.set hx.2.1 hx9 ?_ e3, hx.2.1.set hx9, ?_⟩) ⟨Nat.le_trans hS.1 (by omega), fun x h1 h2 => (e3 x (fun z => h2 (by rw [z]; exact hA9))).trans (hS.2.1 x h1 h2), hlA⟩ hl hc
    · exact ⟨_, hcl, t_OB.to (V := updV (vp_V fs) f v) ⟨_, e1, q2, q3, t_set q4 hap hf v⟩ (fun j _ => vp_updV_set hfl v j)⟩
    · intro j2 q hj2 k i h
      by_cases hjj : j2 = j
      · subst hjj
        rw [List.getElem?_set_self (List.getElem?_eq_some_iff.mp hx9).1] at hj2
        cases hj2
        exact hx.2.2 j2 _ hx9 k i h
      · rw [List.getElem?_set_ne (Ne.symm hjj)] at hj2
        exact hx.2.2 j2 q hj2 k i h
  have hlocs : ∀ i : Nat, ∀ q ∈ locs ++ [⟨a, i⟩], A q.base := by
    intro i q hq
    rcases List.mem_append.mp hq with h | h
    · exact hS.2.2 q h
    · rw [List.mem_singleton.mp h]
      exact hx.2.1.2 j _ hx9
  rcases hfin with hfin | ⟨hfin, hin2, hdecl⟩
  · unfold u_lay at hlay
    rw [if_neg (by rw [hfin]; decide)] at hlay
    have h6 := u_store (v := v) hfc hkC hkind hlay hi9 (hty f hf) hn hfit
    exact W.putK X.1 X.2.1 (f := fd) ⟨X.2.2.1, X.2.2.2.1 _ hw, ⟨_, _, _, hi9⟩, hst⟩ (by rw [q2]; exact h6) q1 q3 (by rw [hsl]; exact k2_hasslot (q4 f hf)) rfl rfl hdg fun H' e1 e2 e3 => fin H' _ e1 e2 e3 (hlocs _)
  · unfold u_lay at hlay
    rw [if_pos hfin] at hlay
    have hcf : m.cls = cf := by
      obtain ⟨_, _, c', _, _, _, -, -, hf', -, -, -, hown2, -⟩ := Cond.laysFinal_spec hlay
      have e1 : c' = cf := by have := hi9.symm.trans hf'; simp at this; exact this.1.symm
      rw [hdecl] at hown2
      rw [← e1]; exact Option.some.inj (X.2.2.1.symm.trans hown2)
    have h6 := u_fits (v := v) hfc hkC hkind (Or.inr hlay) hi9 (hty f hf) hn hfit
    exact W.putFinK X.1 X.2.1 X.2.2.1 (X.2.2.2.1 _ hw) hi9 hst hcf hin2 (by rw [q2]; exact h6) q1 q3 (by rw [hsl]; exact k2_hasslot (q4 f hf)) rfl rfl hdg fun H' e1 e2 e3 => fin H' _ e1 e2 e3 (hlocs _)
end CC
