/-! THE RELATION between the class's state (V, L, N) and the reference's (ρ); t: how many calls were made; nw: the second; i: phones below i have lived it -/
/-- agreeing columns, and what changed -/
def agr (cols : List Nat) (V V' : Rho) : Prop := ∀ c ∈ cols, V' c = V c
def chg (C : List Nat) (V V' : Rho) : Prop := ∀ c, c ∉ C → V' c = V c
theorem chg.rf {C : List Nat} {V : Rho} : chg C V V := fun _ _ => rfl
theorem chg.tr {C C' : List Nat} {V V' V'' : Rho} (h : chg C V V') (h' : chg C' V' V'') : chg (C ++ C') V V'' := fun c hc => (h' c (fun z => hc (List.mem_append_right _ z))).trans (h c (fun z => hc (List.mem_append_left _ z)))
theorem chg.st {C : List Nat} {V V' : Rho} {c i : Nat} {x : Int32} (h : chg C V V') (hc : c ∈ C) : chg C V (cs V' c i x) := fun d hd => (rcs_col (g := d) (f := c) (fun z => hd (by rw [z]; exact hc))).trans (h d hd)
theorem chg.sub {C C' : List Nat} {V V' : Rho} (h : chg C V V') (hs : ∀ c ∈ C, c ∈ C') : chg C' V V' := fun c hc => h c (fun z => hc (hs c z))
theorem chg.agr {C : List Nat} {V V' : Rho} (h : chg C V V') {cols : List Nat} (hd : ∀ c ∈ cols, c ∉ C) : agr cols V V' := fun c hc => h c (hd c hc)
theorem cs_comm {V : Rho} {c d i j : Nat} {x y : Int32} (h : c ≠ d) : cs (cs V c i x) d j y = cs (cs V d j y) c i x := by
  funext a b
  unfold cs
  by_cases h1 : a = d ∧ b = j
  · rw [if_pos h1, if_neg (fun z => h (z.1.symm.trans h1.1)), if_pos h1]
  · rw [if_neg h1, if_neg h1]
/-- columns that are the same on both sides -/
def eqT : List (Nat × Nat) := [(41, 2), (42, 3), (43, 4), (101, 6), (102, 7), (103, 8), (104, 9), (105, 11), (106, 10), (182, 12), (183, 13), (81, 23), (82, 24), (83, 25), (87, 26), (88, 27), (89, 28), (90, 29), (91, 30), (160, 34), (0, 16), (1, 18), (2, 19), (21, 21), (227, 1), (228, 0)]
theorem eqT_inj : ∀ q ∈ eqT, ∀ r ∈ eqT, (q.1 = r.1 → q.2 = r.2) ∧ (q.2 = r.2 → q.1 = r.1) := by decide +kernel
def R1 (V ρ : Rho) : Prop := ∀ q ∈ eqT, V q.1 = ρ q.2
theorem R1.both {V ρ : Rho} (h : R1 V ρ) {c d i : Nat} {x : Int32} (hc : (c, d) ∈ eqT) : R1 (cs V c i x) (cs ρ d i x) := by
  intro q hq
  have k := eqT_inj q hq (c, d) hc
  by_cases e : q.1 = c
  · rw [e, k.1 e, rcs_upd, rcs_upd, h (c, d) hc]
  · rw [rcs_col e, rcs_col (fun z => e (k.2 z))]
    exact h q hq
theorem R1.left {V ρ : Rho} (h : R1 V ρ) {c i : Nat} {x : Int32} (hc : ∀ q ∈ eqT, q.1 ≠ c) : R1 (cs V c i x) ρ := fun q hq => (rcs_col (hc q hq)).trans (h q hq)
theorem R1.right {V ρ : Rho} (h : R1 V ρ) {d i : Nat} {x : Int32} (hd : ∀ q ∈ eqT, q.2 ≠ d) : R1 V (cs ρ d i x) := fun q hq => (h q hq).trans (rcs_col (hd q hq)).symm
def idT : List Nat := [40, 100, 180, 200, 20, 80]
/-- what is its own number -/
def R2 (V : Rho) (N : Cnt) : Prop := ∀ c ∈ idT, ∀ i, i < N (c / 20) → V c i = nI i
theorem R2.congr {V V' : Rho} {N : Cnt} (h : R2 V N) (hV : agr idT V V') : R2 V' N := fun c hc i hi => by rw [hV c hc]; exact h c hc i hi
/-- how many there are -/
def R3 (L : Lst) (N : Cnt) (ρ : Rho) : Prop := (N 11 = 1 ∧ N 10 = 3 ∧ N 2 = 8 ∧ N 9 = 4 ∧ N 5 = 10 ∧ N 6 = 6) ∧ (N 8 = N 4 ∧ N 0 ≤ 40 ∧ N 1 ≤ 40 ∧ N 4 ≤ 80) ∧ (ρ 14 0 = nI (N 0) ∧ ρ 20 0 = nI (N 1) ∧ ρ 22 0 = nI (N 4)) ∧ (L 12 0 = iot (N 0) ∧ L 13 0 = iot (N 1) ∧ L 14 0 = iot (N 4))
theorem R3.congr {L : Lst} {N : Cnt} {ρ ρ' : Rho} (h : R3 L N ρ) (hr : agr [14, 20, 22] ρ ρ') : R3 L N ρ' := by
  refine ⟨h.1, h.2.1, ?_, h.2.2.2⟩
  rw [hr 14 (by decide), hr 20 (by decide), hr 22 (by decide)]
  exact h.2.2.1
/-- the rates as they are -/
def R4 (V ρ : Rho) : Prop := (∀ z, z < 3 → V 121 (2 * z) = ρ 5 (3 + z) ∧ V 121 (2 * z + 1) = ρ 5 z) ∧ ∀ j, j < 6 → vp_in (ρ 5 j) 1001
theorem R4.congr {V V' ρ ρ' : Rho} (h : R4 V ρ) (hV : agr [121] V V') (hr : agr [5] ρ ρ') : R4 V' ρ' := by
  unfold R4
  rw [hV 121 (by decide), hr 5 (by decide)]
  exact h
/-- ranges -/
def R5 (N : Cnt) (ρ : Rho) (nw : Nat) : Prop := (∀ c, c < 8 → vp_in (ρ 2 c) 3 ∧ vp_in (ρ 3 c) 11 ∧ vp_in (ρ 4 c) 11) ∧ (∀ p, p < 10 → vp_in (ρ 6 p) 8 ∧ vp_in (ρ 7 p) 4) ∧ (∀ k, k < N 4 → vp_in (ρ 23 k) 10 ∧ vp_in (ρ 24 k) (N 1) ∧ vp_in (ρ 25 k) 4) ∧ (∀ c, c < N 1 → vp_in (ρ 21 c) 10) ∧ (∀ b, b < N 0 → vp_in (ρ 15 b) 4) ∧ (vp_in (ρ 1 0) 101 ∧ 0 < (ρ 1 0).toNatClampNeg) ∧ ρ 0 0 = nI nw ∧ nw ≤ 50000
theorem R5.congr {N : Cnt} {ρ ρ' : Rho} {nw : Nat} (h : R5 N ρ nw) (hr : agr [0, 1, 2, 3, 4, 6, 7, 15, 21, 23, 24, 25] ρ ρ') : R5 N ρ' nw := by
  unfold R5
  rw [hr 2 (by decide), hr 3 (by decide), hr 4 (by decide), hr 6 (by decide), hr 7 (by decide), hr 23 (by decide), hr 24 (by decide), hr 25 (by decide), hr 21 (by decide), hr 15 (by decide), hr 1 (by decide), hr 0 (by decide)]
  exact h
theorem R6.congr {N : Cnt} {ρ ρ' : Rho} (h : R6 N ρ) (hr : agr [9, 26, 23] ρ ρ') : R6 N ρ' := by
  unfold R6
  rw [hr 9 (by decide), hr 26 (by decide), hr 23 (by decide)]
  exact h
/-- one leg's slice -/
def R7k (V : Rho) (N : Cnt) (ρ : Rho) (k : Nat) : Prop := vp_in (ρ 34 k) 101 ∧ (ρ 33 k = -2 ∨ ρ 33 k = -1 ∨ vp_in (ρ 33 k) (N 0)) ∧ (V 162 k = -1 ∨ vp_in (V 162 k) (N 0)) ∧ vp_in (ρ 35 k) 1001 ∧ (ρ 34 k = 0 ∨ (ρ 26 k = 0 ∧ ((ρ 33 k = -1 ∧ V 162 k = -1 ∧ V 161 k = ρ 35 k) ∨ (vp_in (ρ 33 k) (N 0) ∧ V 162 k = ρ 33 k))))
def R7 (V : Rho) (N : Cnt) (ρ : Rho) : Prop := ∀ k, k < N 4 → R7k V N ρ k
theorem R7.congr {V V' : Rho} {N : Cnt} {ρ ρ' : Rho} (h : R7 V N ρ) (hV : agr [161, 162] V V') (hr : agr [26, 33, 34, 35] ρ ρ') : R7 V' N ρ' := by
  unfold R7 R7k
  rw [hV 161 (by decide), hV 162 (by decide), hr 26 (by decide), hr 33 (by decide), hr 34 (by decide), hr 35 (by decide)]
  exact h
/-- one leg's slice changed -/
theorem R7.at {V V' : Rho} {N : Cnt} {ρ ρ' : Rho} (h : R7 V N ρ) (k : Nat) (hk : R7k V' N ρ' k) (ho : ∀ j, j < N 4 → j ≠ k → V' 161 j = V 161 j ∧ V' 162 j = V 162 j ∧ ρ' 26 j = ρ 26 j ∧ ρ' 33 j = ρ 33 j ∧ ρ' 34 j = ρ 34 j ∧ ρ' 35 j = ρ 35 j) : R7 V' N ρ' := by
  intro j hj
  by_cases e : j = k
  · subst e; exact hk
  · obtain ⟨a, b, c, d, e, f⟩ := ho j hj e
    unfold R7k
    rw [a, b, c, d, e, f]
    exact h j hj
/-- bundles that are not over -/
def R8 (V : Rho) (N : Cnt) (ρ : Rho) : Prop := ∀ b, b < N 0 → ρ 0 0 / 2400 < ρ 18 b → V 3 b = ρ 17 b
theorem R8.congr {V V' : Rho} {N : Cnt} {ρ ρ' : Rho} (h : R8 V N ρ) (hV : agr [3] V V') (hr : agr [0, 17, 18] ρ ρ') : R8 V' N ρ' := by
  unfold R8
  rw [hV 3 (by decide), hr 0 (by decide), hr 17 (by decide), hr 18 (by decide)]
  exact h
/-- the order of use -/
def ahd (ρ : Rho) (a b : Nat) : Prop := ρ 19 a < ρ 19 b ∨ (ρ 19 a = ρ 19 b ∧ (ρ 18 a < ρ 18 b ∨ (ρ 18 a = ρ 18 b ∧ a < b)))
def R9 (L : Lst) (N : Cnt) (ρ : Rho) : Prop := ∀ w, w < 4 → ∃ l : List Nat, L 15 w = l.map nI ∧ l.Pairwise (ahd ρ) ∧ l.length ≤ N 0 ∧ ∀ b, b ∈ l ↔ (b < N 0 ∧ ρ 15 b = nI w)
theorem R9.congr {L : Lst} {N : Cnt} {ρ ρ' : Rho} (h : R9 L N ρ) (hr : agr [15, 18, 19] ρ ρ') : R9 L N ρ' := by
  unfold R9 ahd
  rw [hr 15 (by decide), hr 18 (by decide), hr 19 (by decide)]
  exact h
/-- the legs of a call -/
def mem (ρ : Rho) (n c : Nat) : List Nat := (List.range n).filter (fun k => ρ 24 k = nI c)
def R10 (L : Lst) (N : Cnt) (ρ : Rho) : Prop := ∀ c, c < N 1 → L 17 c = (mem ρ (N 4) c).map nI
theorem R10.congr {L : Lst} {N : Cnt} {ρ ρ' : Rho} (h : R10 L N ρ) (hr : agr [24] ρ ρ') : R10 L N ρ' := by
  unfold R10 mem
  rw [hr 24 (by decide)]
  exact h
/-- the first second for which a leg is not rated -/
def R11k (V ρ : Rho) (nw i k : Nat) : Prop := vp_in (ρ 32 k) (nw + 1 + (if i = 0 then 0 else 1)) ∧ (ρ 26 k = 0 → V 84 k + ρ 27 k = ρ 32 k ∧ ρ 32 k = nI (nw + (if (ρ 23 k).toNatClampNeg < i then 1 else 0)))
def R11 (V : Rho) (N : Cnt) (ρ : Rho) (nw i : Nat) : Prop := ∀ k, k < N 4 → R11k V ρ nw i k
theorem R11.congr {V V' : Rho} {N : Cnt} {ρ ρ' : Rho} {nw i : Nat} (h : R11 V N ρ nw i) (hV : agr [84] V V') (hr : agr [23, 26, 27, 32] ρ ρ') : R11 V' N ρ' nw i := by
  unfold R11 R11k
  rw [hV 84 (by decide), hr 23 (by decide), hr 26 (by decide), hr 27 (by decide), hr 32 (by decide)]
  exact h
/-- events and the seal -/
def trn (x : Int32) : Int32 := (x <<< (5 &&& 31)) ||| ((x.toUInt32 >>> ((27 : Int32).toUInt32 &&& Int32.toUInt32 31)).toInt32)
def seF (V : Rho) (m e : Int32) : Int32 := (trn m + 31 * V 61 e.toNatClampNeg) ^^^ (8 * V 60 e.toNatClampNeg + V 62 e.toNatClampNeg)
def R12k (V : Rho) (L : Lst) (N : Cnt) (ρ : Rho) (t k : Nat) : Prop := (∀ x ∈ L 18 k, vp_in x (N 3) ∧ vp_in (V 62 x.toNatClampNeg) 8) ∧ (L 18 k).length ≤ t + 1 + (if ρ 26 k = 0 then 0 else 1) ∧ (L 18 k).foldl (seF V) (ρ 23 k) = ρ 31 k
def R12 (V : Rho) (L : Lst) (N : Cnt) (ρ : Rho) (t : Nat) : Prop := (∀ k, k < N 4 → R12k V L N ρ t k) ∧ N 3 ≤ sumN (fun k => (L 18 k).length) (N 4)
theorem R12.congr {V V' : Rho} {L : Lst} {N : Cnt} {ρ ρ' : Rho} {t : Nat} (h : R12 V L N ρ t) (hV : agr [60, 61, 62] V V') (hr : agr [23, 26, 31] ρ ρ') : R12 V' L N ρ' t := by
  unfold R12 R12k seF
  rw [hV 60 (by decide), hV 61 (by decide), hV 62 (by decide), hr 23 (by decide), hr 26 (by decide), hr 31 (by decide)]
  exact h
/-- legs rated again -/
def R13k (V : Rho) (L : Lst) (ρ : Rho) (F : Nat → Nat → Int32) (k : Nat) : Prop := evok V (ρ 32 k).toNatClampNeg (L 18 k) ∧ ρ 28 k + ρ 29 k = evs V F (ρ 32 k).toNatClampNeg (L 18 k) ∧ ∃ es x, L 18 k = es ++ [x] ∧ (ρ 26 k = 0 → ¬ V 60 x.toNatClampNeg = 2 ∧ V 62 x.toNatClampNeg = ρ 6 (ρ 23 k).toNatClampNeg) ∧ (¬ ρ 26 k = 0 → V 60 x.toNatClampNeg = 2)
def R13h (V : Rho) (L : Lst) (N : Cnt) (t nw : Nat) (F : Nat → Nat → Int32) : Prop := (∀ h, h < 6 → Hs V (L 16 h) (F h) ∧ (L 16 h).length ≤ t + 1 ∧ (∀ x ∈ L 16 h, vp_in x (N 7) ∧ (V 140 x.toNatClampNeg).toNatClampNeg ≤ nw) ∧ ∀ s, nw ≤ s → F h s = V 121 h) ∧ N 7 ≤ 6 + t
def R13 (V : Rho) (L : Lst) (N : Cnt) (ρ : Rho) (t nw : Nat) : Prop := ∃ F : Nat → Nat → Int32, R13h V L N t nw F ∧ ∀ k, k < N 4 → R13k V L ρ F k
theorem evs_agr {V V' : Rho} (h : agr [41, 60, 61, 62] V V') {F : Nat → Nat → Int32} {U : Nat} {es : List Int32} : evs V' F U es = evs V F U es := evs_V (fun c => by rw [h 41 (by decide)]) (fun x _ => ⟨by rw [h 60 (by decide)], by rw [h 61 (by decide)], by rw [h 62 (by decide)]⟩)
theorem evok_agr {V V' : Rho} (h : agr [41, 60, 61, 62] V V') {U : Nat} {es : List Int32} (k : evok V U es) : evok V' U es := evok_V (fun c => by rw [h 41 (by decide)]) (fun x _ => ⟨by rw [h 60 (by decide)], by rw [h 61 (by decide)], by rw [h 62 (by decide)]⟩) k
theorem R13k.congr {V V' : Rho} {L : Lst} {ρ ρ' : Rho} {F : Nat → Nat → Int32} {k : Nat} (h : R13k V L ρ F k) (hV : agr [41, 60, 61, 62] V V') (hr : ρ' 32 k = ρ 32 k ∧ ρ' 28 k = ρ 28 k ∧ ρ' 29 k = ρ 29 k ∧ ρ' 26 k = ρ 26 k ∧ ρ' 23 k = ρ 23 k ∧ ρ' 6 = ρ 6) : R13k V' L ρ' F k := by
  obtain ⟨a, b, c, d, e, f⟩ := hr
  obtain ⟨h1, h2, h3⟩ := h
  unfold R13k
  rw [a, b, c, d, e, f, evs_agr hV, hV 60 (by decide), hV 62 (by decide)]
  exact ⟨evok_agr hV h1, h2, h3⟩
theorem R13h.congr {V V' : Rho} {L : Lst} {N : Cnt} {t nw : Nat} {F : Nat → Nat → Int32} (h : R13h V L N t nw F) (hV : agr [121, 140, 141] V V') : R13h V' L N t nw F := by
  unfold R13h Hs
  rw [hV 121 (by decide), hV 140 (by decide), hV 141 (by decide)]
  exact h
theorem R13.congr {V V' : Rho} {L : Lst} {N : Cnt} {ρ ρ' : Rho} {t nw : Nat} (h : R13 V L N ρ t nw) (hV : agr [41, 60, 61, 62, 121, 140, 141] V V') (hr : agr [6, 23, 26, 28, 29, 32] ρ ρ') : R13 V' L N ρ' t nw := by
  obtain ⟨F, h1, h2⟩ := h
  refine ⟨F, h1.congr (fun c hc => hV c (by revert c; decide)), fun k hk => (h2 k hk).congr (fun c hc => hV c (by revert c; decide)) ⟨?_, ?_, ?_, ?_, ?_, hr 6 (by decide)⟩⟩
  · rw [hr 32 (by decide)]
  · rw [hr 28 (by decide)]
  · rw [hr 29 (by decide)]
  · rw [hr 26 (by decide)]
  · rw [hr 23 (by decide)]
/-- money -/
def mIn (ρ : Rho) (k : Nat) : Nat := if ρ 33 k = -1 then (ρ 34 k).toNatClampNeg * (ρ 35 k).toNatClampNeg else 0
def fre (ρ : Rho) (w : Nat) : Nat := (ρ 12 w).toNatClampNeg
def R14 (N : Cnt) (ρ : Rho) (t : Nat) : Prop := (∀ w, w < 4 → ¬ ρ 12 w < 0) ∧ sumN (fre ρ) 4 + sumN (mIn ρ) (N 4) ≤ 1000000 * t
theorem R14.congr {N : Cnt} {ρ ρ' : Rho} {t : Nat} (h : R14 N ρ t) (hr : agr [12, 33, 34, 35] ρ ρ') : R14 N ρ' t := by
  unfold R14 fre mIn
  rw [hr 12 (by decide), hr 33 (by decide), hr 34 (by decide), hr 35 (by decide)]
  exact h
/-- a call's parties -/
def R15 (N : Cnt) (ρ : Rho) : Prop := ∀ c, c < N 1 → cntN (ptR ρ (nI c)) 10 ≤ 4
theorem R15.congr {N : Cnt} {ρ ρ' : Rho} (h : R15 N ρ) (hr : agr [9, 24] ρ ρ') : R15 N ρ' := by
  unfold R15 ptR
  rw [hr 9 (by decide), hr 24 (by decide)]
  exact h
/-- nothing beyond -/
def R16 (N : Cnt) (ρ : Rho) : Prop := ∀ c ∈ [26, 27, 28, 29, 34, 35], ∀ k, N 4 ≤ k → ρ c k = 0
theorem R16.congr {N : Cnt} {ρ ρ' : Rho} (h : R16 N ρ) (hr : agr [26, 27, 28, 29, 34, 35] ρ ρ') : R16 N ρ' := fun c hc k hk => by rw [hr c hc]; exact h c hc k hk
theorem R16.st {N : Cnt} {ρ : Rho} (h : R16 N ρ) {d i : Nat} {x : Int32} (hi : i < N 4) : R16 N (cs ρ d i x) := fun c hc k hk => by
  show (if c = d ∧ k = i then x else ρ c k) = 0
  rw [if_neg (fun z => by omega)]
  exact h c hc k hk
theorem R16.st2 {N : Cnt} {ρ : Rho} (h : R16 N ρ) {d i : Nat} {x : Int32} (hd : d ∉ [26, 27, 28, 29, 34, 35]) : R16 N (cs ρ d i x) := h.congr (fun c hc => rcs_col (g := c) (f := d) (fun z => hd (by rw [← z]; exact hc)))
/-- what a leg shows is bounded by the first second for which it was not rated -/
def bdd (x u : Int32) (m : Nat) : Prop := ¬ x < 0 ∧ x.toNatClampNeg ≤ m * u.toNatClampNeg
theorem bdd0 {u : Int32} {m : Nat} : bdd 0 u m := ⟨by decide, by rw [show (0 : Int32).toNatClampNeg = 0 by decide]; exact Nat.zero_le _⟩
theorem bdd_in {x : Int32} {n m : Nat} (h : bdd x (nI n) m) (hn : n ≤ 50000) (hm : m ≤ 1000) : vp_in x 50000001 := by
  obtain ⟨h1, h2⟩ := h
  rw [nI_clamp (by omega)] at h2
  have h3 := Nat.mul_le_mul hm hn
  exact fun z => z.elim h1 (fun q => by omega)
theorem bdd_up {x : Int32} {n m : Nat} (h : bdd x (nI n) m) (hn : n ≤ 50000) : bdd x (nI (n + 1)) m := by
  obtain ⟨h1, h2⟩ := h
  rw [nI_clamp (by omega)] at h2
  refine ⟨h1, ?_⟩
  rw [nI_clamp (by omega), Nat.mul_succ]
  omega
theorem bdd_add {x r : Int32} {n m : Nat} (h : bdd x (nI n) m) (hr : vp_in r (m + 1)) (hn : n ≤ 50000) (hm : m ≤ 1000) : bdd (x + r) (nI (n + 1)) m := by
  obtain ⟨a, ha, ha2, ea⟩ := pn_of (bdd_in h hn hm)
  obtain ⟨b, hb, hb2, eb⟩ := pn_of hr
  obtain ⟨-, h2⟩ := h
  rw [nI_clamp (by omega), ea, nI_clamp ha2] at h2
  subst ea eb
  rw [nI_add]
  refine ⟨fun z => (vp_in_nI (n := a + b) (N := 60000000) (by omega) (by omega)) (Or.inl z), ?_⟩
  rw [nI_clamp (by omega), nI_clamp (by omega), Nat.mul_succ]
  omega
theorem vp04 : vp_in 0 4 := vp_in_nI (n := 0) (by decide) (by decide)
def R17 (ρ : Rho) : Prop := ∀ k, vp_in (ρ 26 k) 4 ∧ bdd (ρ 27 k) (ρ 32 k) 1 ∧ bdd (ρ 28 k) (ρ 32 k) 1000 ∧ bdd (ρ 29 k) (ρ 32 k) 1000
theorem R17.congr {ρ ρ' : Rho} (h : R17 ρ) (hr : agr [26, 27, 28, 29, 32] ρ ρ') : R17 ρ' := by
  unfold R17
  rw [hr 26 (by decide), hr 27 (by decide), hr 28 (by decide), hr 29 (by decide), hr 32 (by decide)]
  exact h
def Rel (V : Rho) (L : Lst) (N : Cnt) (ρ : Rho) (t nw i : Nat) : Prop := R1 V ρ ∧ R2 V N ∧ R3 L N ρ ∧ R4 V ρ ∧ R5 N ρ nw ∧ R6 N ρ ∧ R7 V N ρ ∧ R8 V N ρ ∧ R9 L N ρ ∧ R10 L N ρ ∧ R11 V N ρ nw i ∧ R12 V L N ρ t ∧ R13 V L N ρ t nw ∧ R14 N ρ t ∧ R15 N ρ ∧ R16 N ρ ∧ R17 ρ
section RL
variable {V : Rho} {L : Lst} {N : Cnt} {ρ : Rho} {t nw i : Nat}
theorem Rel.r1 (h : Rel V L N ρ t nw i) : R1 V ρ := h.1
theorem Rel.r2 (h : Rel V L N ρ t nw i) : R2 V N := h.2.1
theorem Rel.r3 (h : Rel V L N ρ t nw i) : R3 L N ρ := h.2.2.1
theorem Rel.r4 (h : Rel V L N ρ t nw i) : R4 V ρ := h.2.2.2.1
theorem Rel.r5 (h : Rel V L N ρ t nw i) : R5 N ρ nw := h.2.2.2.2.1
theorem Rel.r6 (h : Rel V L N ρ t nw i) : R6 N ρ := h.2.2.2.2.2.1
theorem Rel.r7 (h : Rel V L N ρ t nw i) : R7 V N ρ := h.2.2.2.2.2.2.1
theorem Rel.r8 (h : Rel V L N ρ t nw i) : R8 V N ρ := h.2.2.2.2.2.2.2.1
theorem Rel.r9 (h : Rel V L N ρ t nw i) : R9 L N ρ := h.2.2.2.2.2.2.2.2.1
theorem Rel.r10 (h : Rel V L N ρ t nw i) : R10 L N ρ := h.2.2.2.2.2.2.2.2.2.1
theorem Rel.r11 (h : Rel V L N ρ t nw i) : R11 V N ρ nw i := h.2.2.2.2.2.2.2.2.2.2.1
theorem Rel.r12 (h : Rel V L N ρ t nw i) : R12 V L N ρ t := h.2.2.2.2.2.2.2.2.2.2.2.1
theorem Rel.r13 (h : Rel V L N ρ t nw i) : R13 V L N ρ t nw := h.2.2.2.2.2.2.2.2.2.2.2.2.1
theorem Rel.r14 (h : Rel V L N ρ t nw i) : R14 N ρ t := h.2.2.2.2.2.2.2.2.2.2.2.2.2.1
theorem Rel.r15 (h : Rel V L N ρ t nw i) : R15 N ρ := h.2.2.2.2.2.2.2.2.2.2.2.2.2.2.1
theorem Rel.r16 (h : Rel V L N ρ t nw i) : R16 N ρ := h.2.2.2.2.2.2.2.2.2.2.2.2.2.2.2.1
theorem Rel.r17 (h : Rel V L N ρ t nw i) : R17 ρ := h.2.2.2.2.2.2.2.2.2.2.2.2.2.2.2.2
/-- a column of the class is one of the reference -/
theorem Rel.c (h : Rel V L N ρ t nw i) (c d : Nat) (hc : (c, d) ∈ eqT) : V c = ρ d := h.1 (c, d) hc
/-- columns of the reference that nothing rests on -/
theorem Rel.idle (h : Rel V L N ρ t nw i) {ρ' : Rho} (hr : chg [36, 37, 38, 39] ρ ρ') : Rel V L N ρ' t nw i :=
  ⟨fun q hq => (h.1 q hq).trans (hr q.2 (by revert q; decide)).symm, h.r2, h.r3.congr (hr.agr (by decide)), h.r4.congr (fun _ _ => rfl) (hr.agr (by decide)), h.r5.congr (hr.agr (by decide)), h.r6.congr (hr.agr (by decide)), h.r7.congr (fun _ _ => rfl) (hr.agr (by decide)), h.r8.congr (fun _ _ => rfl) (hr.agr (by decide)), h.r9.congr (hr.agr (by decide)), h.r10.congr (hr.agr (by decide)), h.r11.congr (fun _ _ => rfl) (hr.agr (by decide)), h.r12.congr (fun _ _ => rfl) (hr.agr (by decide)), h.r13.congr (fun _ _ => rfl) (hr.agr (by decide)), h.r14.congr (hr.agr (by decide)), h.r15.congr (hr.agr (by decide)), h.r16.congr (hr.agr (by decide)), h.r17.congr (hr.agr (by decide))⟩
theorem Rel.later (h : Rel V L N ρ t nw i) : Rel V L N ρ (t + 1) nw i := by
  refine ⟨h.r1, h.r2, h.r3, h.r4, h.r5, h.r6, h.r7, h.r8, h.r9, h.r10, h.r11, ⟨fun k hk => ?_, h.r12.2⟩, ?_, ⟨h.r14.1, by have := h.r14.2; omega⟩, h.r15, h.r16, h.r17⟩
  · obtain ⟨a, b, c⟩ := h.r12.1 k hk
    exact ⟨a, by omega, c⟩
  · obtain ⟨F, ⟨a, b⟩, c⟩ := h.r13
    exact ⟨F, ⟨fun hh hi => by obtain ⟨q1, q2, q3, q4⟩ := a hh hi; exact ⟨q1, by omega, q3, q4⟩, by omega⟩, c⟩
end RL
