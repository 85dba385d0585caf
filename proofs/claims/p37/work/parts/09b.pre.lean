/-! early, for the lists: rows that later parts use too -/
theorem g_126 : Cond.static Lib.Math.max.name ∈ gT := gT_t 128 (by decide +kernel) rfl
theorem g_127 : Cond.code Lib.Math.max.name Lib.Math.max.code 2 (some .int) ∈ gT := gT_t 129 (by decide +kernel) rfl
theorem g_165 : Cond.static Lib.Math.min.name ∈ gT := gT_t 165 (by decide +kernel) rfl
theorem g_166 : Cond.code Lib.Math.min.name Lib.Math.min.code 2 (some .int) ∈ gT := gT_t 166 (by decide +kernel) rfl
theorem g_4 : Cond.initialized RJx4a65c ∈ gT := gT_t 4 (by decide +kernel) rfl
theorem g_9 : Cond.initialized "java/lang/Math" ∈ gT := gT_t 9 (by decide +kernel) rfl
def adu (ad : Adr) (k i q : Nat) : Adr := fun k' i' => if k' = k ∧ i' = i then q else ad k' i'
theorem adu_self {ad : Adr} {k i q : Nat} : adu ad k i q k i = q := if_pos ⟨rfl, rfl⟩
theorem adu_ne {ad : Adr} {k i q k' i' : Nat} (h : ¬ (k' = k ∧ i' = i)) : adu ad k i q k' i' = ad k' i' := if_neg h
def ftb (t k : Nat) : Bool := decide (t = 0) || decide (1000 ≤ t ∧ t - 1000 < 12 ∧ t ≤ 1999) || decide (2000 ≤ t ∧ t - 2000 < 12 ∧ t ≤ 2999) || (decide (3000 ≤ t ∧ t ≤ 3999 ∧ t - 3000 < 30) && decide (¬ (19 ≤ t - 3000 ∧ t - 3000 < 26)) && decide (ow (t - 3000) = k ∨ (k = 4 ∧ t = 3008))) || decide (k = 10 ∧ (t = 4006 ∨ t = 5006))
theorem fty_tab0 : ∀ k, k < 12 → ∀ g, g < nfl k → ftb (fty (20 * k + g)) k = true := by decide +kernel
theorem fty_tab (k : Nat) (hk : k < 12) (g : Nat) (hg : g < nfl k) : fty (20 * k + g) = 0 ∨ (1000 ≤ fty (20 * k + g) ∧ fty (20 * k + g) - 1000 < 12 ∧ fty (20 * k + g) ≤ 1999) ∨ (2000 ≤ fty (20 * k + g) ∧ fty (20 * k + g) - 2000 < 12 ∧ fty (20 * k + g) ≤ 2999) ∨ (3000 ≤ fty (20 * k + g) ∧ fty (20 * k + g) ≤ 3999 ∧ fty (20 * k + g) - 3000 < 30 ∧ ¬ (19 ≤ fty (20 * k + g) - 3000 ∧ fty (20 * k + g) - 3000 < 26) ∧ (ow (fty (20 * k + g) - 3000) = k ∨ (k = 4 ∧ fty (20 * k + g) = 3008))) ∨ (k = 10 ∧ (fty (20 * k + g) = 4006 ∨ fty (20 * k + g) = 5006)) := by
  have h := fty_tab0 k hk g hg
  generalize fty (20 * k + g) = t at h ⊢
  simp only [ftb, Bool.or_eq_true, Bool.and_eq_true, decide_eq_true_eq] at h
  rcases h with (((h | h) | h) | h) | h
  · exact Or.inl h
  · exact Or.inr (Or.inl h)
  · exact Or.inr (Or.inr (Or.inl h))
  · exact Or.inr (Or.inr (Or.inr (Or.inl ⟨h.1.1.1, h.1.1.2.1, h.1.1.2.2, h.1.2, h.2⟩)))
  · exact Or.inr (Or.inr (Or.inr (Or.inr h)))
theorem ex_k {N : Cnt} {k i : Nat} (hk : k < 12) (hi : i < N k) : ex N k i := ⟨by omega, by rw [ow_self hk]; exact hi⟩
theorem cv_axt {N : Cnt} {ad ad' : Adr} {V : Rho} {k i g : Nat} (h : axt N ad ad') (h48 : N 4 ≤ N 8) (h106 : 2 * N 10 ≤ N 6) (hk : k < 12) (hi : i < N k) (hg : g < nfl k) (hf : fok N (fty (20 * k + g)) (V (20 * k + g) i)) : cv ad' (fty (20 * k + g)) (V (20 * k + g) i) i = cv ad (fty (20 * k + g)) (V (20 * k + g) i) i := by
  have key := fty_tab k hk g hg
  generalize fty (20 * k + g) = t at key hf ⊢
  generalize V (20 * k + g) i = x at hf ⊢
  have ble : ∀ a b : Nat, a ≤ b → Nat.ble a b = true := fun a b h => Nat.ble_eq_true_of_le h
  have nble : ∀ a b : Nat, b < a → Nat.ble a b = false := fun a b h => by cases e : Nat.ble a b with | false => rfl | true => exact absurd (Nat.le_of_ble_eq_true e) (by omega)
  rcases key with rfl | ⟨h1, h2, h3⟩ | ⟨h1, h2, h3⟩ | ⟨h1, h2, h3, h4, h5⟩ | ⟨rfl, h5⟩
  · rfl
  · unfold cv fok at *
    rw [nble _ _ (by omega), ble _ _ h3] at hf ⊢
    show Value.ref _ = Value.ref _
    rw [h _ _ (ex_k h2 (vp_lt hf)) (by omega)]
  · unfold cv fok at *
    rw [nble _ _ (by omega), nble _ _ (by omega), ble _ _ h3] at hf ⊢
    show va_rf _ = va_rf _
    rw [qn_axt (ble _ _ h2) hf h]
  · unfold cv
    rw [nble _ _ (by omega), nble _ _ (by omega), nble _ _ (by omega), ble _ _ h2]
    show Value.ref _ = Value.ref _
    rw [h _ _ ⟨h3, ?_⟩ h4]
    rcases h5 with h5 | ⟨rfl, rfl⟩
    · rw [h5]; exact hi
    · exact Nat.lt_of_lt_of_le hi h48
  · rcases h5 with rfl | rfl
    · show Value.ref (ad' 6 (2 * i)) = Value.ref (ad 6 (2 * i))
      rw [h 6 _ (ex_k (by decide) (by omega)) (by decide)]
    · show Value.ref (ad' 6 (2 * i + 1)) = Value.ref (ad 6 (2 * i + 1))
      rw [h 6 _ (ex_k (by decide) (by omega)) (by decide)]
theorem cfs_axt {N : Cnt} {ad ad' : Adr} {V V' : Rho} {k i : Nat} (h : axt N ad ad') (h48 : N 4 ≤ N 8) (h106 : 2 * N 10 ≤ N 6) (hk : k < 12) (hi : i < N k) (hf : ∀ f, f < nfl k → fok N (fty (20 * k + f)) (V (20 * k + f) i)) (hV : ∀ f, f < nfl k → V' (20 * k + f) i = V (20 * k + f) i) : cfs V' ad' k i = cfs V ad k i := by
  unfold cfs
  refine List.map_congr_left fun g hg => ?_
  have hg := List.mem_range.mp hg
  rw [hV g hg]
  exact cv_axt h h48 h106 hk hi hg (hf g hg)
theorem g_64 : Cond.fieldLink RJx4a65c 39 "java/util/ArrayList" "DEFAULTCAPACITY_EMPTY_ELEMENTDATA" "[Ljava/lang/Object;" ∈ gT := gT_t 66 (by decide +kernel) rfl
theorem g_66 : Cond.fieldLink RJx4a65c 9 "java/util/ArrayList" "elementData" "[Ljava/lang/Object;" ∈ gT := gT_t 68 (by decide +kernel) rfl
theorem xa1 {α : Type} {xs : List α} {a : α} : (xs ++ [a])[xs.length]? = some a := by simp
theorem xe1 {α : Type} {xs : List α} {a a' : α} : (xs ++ [a]).set xs.length a' = xs ++ [a'] := by simp
theorem rj_ws : ∀ w ∈ u_ws RJx4a65c TJx4a65c 3, w ∈ gT := fun w h => gT_in ((show ∀ w ∈ u_ws RJx4a65c TJx4a65c 3, w ∈ lw_tbl by decide +kernel) w h) ((show ∀ w ∈ u_ws RJx4a65c TJx4a65c 3, goodWord w = true by decide +kernel) w h)
theorem c_empty {p : Program} {l : Launch} {e : Env} {R : Room} {s : State} {m : MethodId} {args : Array Value} {below : List Frame} {meth : Method} {c : Code} {A : Nat → Prop} {G : Heap → Prop} {cells slots idx : Nat} {Q : State → Prop} {cc : ByteArray} {D : va_G} {dA : Nat → ClassId} {pc : Nat} {lo : List (Nat × Value)} {ll : List (Nat × Int64)} {rest : List Value} (X : zc p l s m args meth c cc RJx4a65c D dA A) (hw : Cond.fieldLink RJx4a65c idx "java/util/ArrayList" "DEFAULTCAPACITY_EMPTY_ELEMENTDATA" "[Ljava/lang/Object;" ∈ gT) (hdg : decode cc pc = .ok (.getstatic idx, 3)) (k : zz p l e R s m args below meth c A G cells slots Q (pc + 3) lo ll (.ref (dA 99) :: rest)) : zz p l e R s m args below meth c A G cells slots Q pc lo ll rest :=
  fun H locs ls hG hS hl hc => va_gets (C := "java/util/ArrayList") X.1 X.2.1 X.2.2.2.2.2.2.2.1.2.2.2.1.1 hS X.2.2.1 (X.2.2.2.1 _ hw) (fun _ h => h) hdg (k H locs ls hG hS hl hc)
