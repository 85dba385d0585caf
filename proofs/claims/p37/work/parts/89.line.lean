/-! THE LAW'S LINE: the letters are those of the numbers -/
section LN
variable {V : Rho} {L : Lst} {N : Cnt} {ρ : Rho} {t nw i k p c b w j M m v : Nat} {γ : Nat → Nat → Nat} {ε : Nat → Int32} {a : Rho} {W : CW} {T pre post : List Nat} {kk : GS → Int32 → Int32 → Int32 → Option Int32}
/-- the letters that the class shows -/
def LT (W : CW) (k : Nat) (T : List Nat) : Prop := T.length < 2 ^ 20 ∧ ∀ j, j < 2 ^ 31 → aq_lineAt W (nI k) (nI j) = some (lnA T (nI j))
theorem LT.at (h : LT W k T) (hT : T = pre ++ c :: post) : aq_lineAt W (nI k) (nI pre.length) = some (nI c) := by
  have hl := h.1
  have hlen : T.length = pre.length + (post.length + 1) := by rw [hT, List.length_append, List.length_cons]
  rw [h.2 _ (by omega)]
  unfold lnA
  rw [nI_clamp (by omega), if_pos (by omega), hT, List.getD_eq_getElem?_getD, List.getElem?_append_right (Nat.le_refl _), Nat.sub_self]
  rfl
theorem rd25 (h : LT W k T) (hv : v < 2 ^ 31) : ∀ (i n : Nat) (pre : List Nat), i ≤ 8 → i + 2 ≤ n → T = pre ++ (dl v i ++ post) → fl_reads_25 n (W, a) (nI k) (nI v) (nI (10 ^ i)) (nI pre.length) = some (nI (pre ++ dl v i).length) := by
  have hl := h.1
  intro i
  induction i with
  | zero =>
    intro n pre _ hn hT
    obtain ⟨n, rfl⟩ : ∃ z, n = z + 1 + 1 := ⟨n - 2, by omega⟩
    have hlen : T.length = pre.length + (post.length + 1) := by rw [hT, List.length_append]; rfl
    have hat := h.at (pre := pre) (c := 48 + v / 10 ^ 0 % 10) (post := post) hT
    rw [fl_reads_25, if_neg (show ¬ nI (10 ^ 0) ≤ 0 by decide), if_neg (nI_pos (by omega))]
    dsimp only
    rw [hat]
    simp only [po_b]
    rw [if_neg (show ¬ nI (10 ^ 0) = 0 by decide), dig hv (by decide) (by decide), if_pos (by first | rfl | trivial)]
    unfold fl_reads_63
    simp only [po_b]
    rw [show nI (10 ^ 0) / 10 = 0 by decide, fl_reads_25, if_pos (by decide), nI_1, List.length_append]
    rfl
  | succ i ih =>
    intro n pre hi hn hT
    obtain ⟨n, rfl⟩ : ∃ z, n = z + 1 := ⟨n - 1, by omega⟩
    have hp := sb_pow (i + 1) (by omega)
    have hp0 : 0 < 10 ^ (i + 1) := Nat.pow_pos (by decide)
    have hT' : T = pre ++ (48 + v / 10 ^ (i + 1) % 10) :: (dl v i ++ post) := hT
    have hlen : T.length = pre.length + ((dl v i ++ post).length + 1) := by rw [hT', List.length_append, List.length_cons]
    have hat := h.at hT'
    have hT2 : T = (pre ++ [48 + v / 10 ^ (i + 1) % 10]) ++ (dl v i ++ post) := by
      rw [hT', List.append_assoc]
      rfl
    have i1 := ih n (pre ++ [48 + v / 10 ^ (i + 1) % 10]) (by omega) (by omega) hT2
    rw [fl_reads_25, if_neg (nI_nle hp0 hp), if_neg (nI_pos (by omega))]
    dsimp only
    rw [hat]
    simp only [po_b]
    rw [if_neg (nI_ne0 hp0 hp), dig hv hp0 hp, if_pos (by first | rfl | trivial)]
    unfold fl_reads_63
    simp only [po_b]
    rw [p10d i (by omega), nI_1, show pre.length + 1 = (pre ++ [48 + v / 10 ^ (i + 1) % 10]).length by rw [List.length_append]; rfl, i1, List.append_assoc]
    rfl
theorem rd6 (h : LT W k T) (hv : v ≤ 50000001) (hT : T = pre ++ (dgs v ++ post)) : ∀ (d i n : Nat), i + d = sb_dg v - 1 → d + 1 ≤ n → fl_reads_6 n (W, a) (nI k) (nI v) (nI (10 ^ i)) (nI pre.length) = some (nI (pre ++ dgs v).length) := by
  obtain ⟨s1, s2, s3⟩ := dg_spec hv
  have s0 := (sb_dg_in v).1
  intro d
  induction d with
  | zero =>
    intro i n hi hn
    obtain ⟨n, rfl⟩ : ∃ z, n = z + 1 := ⟨n - 1, by omega⟩
    have hp := sb_pow i (by omega)
    have hp0 : 0 < 10 ^ i := Nat.pow_pos (by decide)
    have hlt : v / 10 ^ i < 10 := by
      refine Nat.div_lt_of_lt_mul ?_
      rw [← Nat.pow_succ, show i.succ = sb_dg v by omega]
      exact s1
    have e : dgs v = dl v i := by rw [← dl_dgs, show sb_dg v - 1 = i by omega]
    rw [fl_reads_6, if_neg (nI_ne0 hp0 hp), pk_div (by omega) hp0 hp, if_pos (show nI (v / 10 ^ i) ≤ 9 from nI_le (b := 9) (Nat.le_of_lt_succ hlt) (by decide)), rd25 h (by omega) i 11 pre (by omega) (by omega) (by rw [← e]; exact hT), e]
  | succ d ih =>
    intro i n hi hn
    obtain ⟨n, rfl⟩ : ∃ z, n = z + 1 := ⟨n - 1, by omega⟩
    have hp := sb_pow i (by omega)
    have hp0 : 0 < 10 ^ i := Nat.pow_pos (by decide)
    have hge : 10 ≤ v / 10 ^ i := by
      rw [Nat.le_div_iff_mul_le hp0, Nat.mul_comm, ← Nat.pow_succ]
      exact Nat.le_trans (Nat.pow_le_pow_right (by decide) (by omega)) (s2 (by omega))
    rw [fl_reads_6, if_neg (nI_ne0 hp0 hp), pk_div (by omega) hp0 hp, if_neg (show ¬ nI (v / 10 ^ i) ≤ 9 from nI_ge (a := 9) (by omega) (Nat.lt_of_le_of_lt (Nat.div_le_self _ _) (by omega)))]
    simp only [po_b]
    rw [p10m i (by omega)]
    exact ih (i + 1) n (by omega) (by omega)
/-- a number and its sign -/
theorem rd_one (h : LT W k T) (hv : v ≤ 50000001) (hpre : 0 < pre.length) (hT : T = pre ++ (dgs v ++ c :: post)) {x : Int32} : fl_isLine_185 kk (W, a) (nI k) (nI pre.length) x (nI v) (nI c) = kk (W, a) (nI k) (nI ((pre ++ dgs v) ++ [c]).length) (x + 1) := by
  have hl := h.1
  have s0 := (sb_dg_in v).1
  obtain ⟨s1, s2, s3⟩ := dg_spec hv
  have hT2 : T = (pre ++ dgs v) ++ c :: post := by rw [hT, List.append_assoc]
  have hlen : T.length = (pre ++ dgs v).length + (post.length + 1) := by rw [hT2, List.length_append, List.length_cons]
  have hpos : 0 < (pre ++ dgs v).length := by rw [List.length_append]; omega
  have f : fl_reads (W, a) (nI k) (nI pre.length) (nI v) = some (nI (pre ++ dgs v).length) := rd6 h hv hT (sb_dg v - 1) 0 FU (by omega) (by have : FU = 3000 := rfl; omega)
  unfold fl_isLine_185 fl_isLine_218
  rw [f]
  simp only [po_b]
  rw [if_neg (nI_nle hpos (by omega)), h.at hT2]
  simp only [po_b]
  rw [if_pos (by first | rfl | trivial), nI_1, show (pre ++ dgs v).length + 1 = ((pre ++ dgs v) ++ [c]).length from (List.length_append (as := pre ++ dgs v) (bs := [c])).symm]
theorem w_isLine (h : JJ ((V, L, N), a) ρ γ ε M t nw) (hk : k < N 4) : fl_isLine ((V, L, N), a) (nI k) = some 1 := by
  obtain ⟨⟨hR, hJ, hP⟩, hN, -, n64⟩ := id h
  have hR : Rel V L N ρ t nw 0 := hR
  have n64 : N 4 ≤ 64 := n64
  have hcl := nI_clamp (show k < 2 ^ 31 by omega)
  have g64 := ng (n := 64) (show k < 64 by omega) (by omega)
  obtain ⟨⟨a1, a2, a3, a4, a5, a6, a7⟩, -⟩ := h.lg hk
  have n0 : a 0 k = nI (gP γ k) := (hN k hk).1
  obtain ⟨vp, vc, vs, vh, vo, e23, e24, e27, e28, e29, wp, wc, ws, wh, wo, w26⟩ := leg_nums hR hk
  have hn1 := hR.r3.2.1.2.2.1
  have ep : γ 0 k = vp := pn_inj (by omega) (by omega) (a1.symm.trans e23)
  have ec : γ 1 k = vc := pn_inj (by omega) (by omega) (a2.symm.trans e24)
  obtain ⟨s, hs, -, es⟩ := pn_of w26
  obtain ⟨T, hT⟩ : ∃ T, T = lineT vp vc vs vh vo (ρ 26 k) := ⟨_, rfl⟩
  have hLT : LT (V, L, N) k T := by
    refine ⟨?_, fun j hj => ?_⟩
    · rw [hT]
      have d1 := dg1 wp
      have d2 := dg2 (v := vc) (by omega)
      have d3 := dg5 ws
      have d4 := dg8 (v := vh) (by omega)
      have d5 := dg8 (v := vo) (by omega)
      unfold lineT
      simp only [List.length_append, List.length_singleton, List.length_nil, dgs_len]
      omega
    · rw [hT]
      exact q_lineAt hR hk hj e23 e24 e27 e28 e29 wp (by omega) ws wh wo w26
  have t1 : T = [80] ++ (dgs vp ++ 67 :: (dgs vc ++ 58 :: (dgs vs ++ 61 :: (dgs vh ++ 43 :: (dgs vo ++ sgn (ρ 26 k) :: []))))) := by
    rw [hT]
    unfold lineT
    simp only [List.append_assoc, List.nil_append, List.cons_append]
  have t2 : T = ([80] ++ dgs vp ++ [67]) ++ (dgs vc ++ 58 :: (dgs vs ++ 61 :: (dgs vh ++ 43 :: (dgs vo ++ sgn (ρ 26 k) :: [])))) := by
    rw [t1]
    simp only [List.append_assoc, List.nil_append, List.cons_append]
  have t3 : T = ([80] ++ dgs vp ++ [67] ++ dgs vc ++ [58]) ++ (dgs vs ++ 61 :: (dgs vh ++ 43 :: (dgs vo ++ sgn (ρ 26 k) :: []))) := by
    rw [t1]
    simp only [List.append_assoc, List.nil_append, List.cons_append]
  have t4 : T = ([80] ++ dgs vp ++ [67] ++ dgs vc ++ [58] ++ dgs vs ++ [61]) ++ (dgs vh ++ 43 :: (dgs vo ++ sgn (ρ 26 k) :: [])) := by
    rw [t1]
    simp only [List.append_assoc, List.nil_append, List.cons_append]
  have t5 : T = ([80] ++ dgs vp ++ [67] ++ dgs vc ++ [58] ++ dgs vs ++ [61] ++ dgs vh ++ [43]) ++ (dgs vo ++ sgn (ρ 26 k) :: []) := by
    rw [t1]
    simp only [List.append_assoc, List.nil_append, List.cons_append]
  have t6 : T = [80] ++ dgs vp ++ [67] ++ dgs vc ++ [58] ++ dgs vs ++ [61] ++ dgs vh ++ [43] ++ dgs vo ++ [sgn (ρ 26 k)] := by
    rw [t1]
    simp only [List.append_assoc, List.nil_append, List.cons_append]
  have pos : ∀ (x y : List Nat), 0 < (x ++ (80 :: y)).length := fun x y => by
    rw [List.length_append, List.length_cons]
    omega
  have ln : ∀ (x : List Nat) (y : List Nat), T = x ++ y → x.length < 2 ^ 20 := fun x y e => by
    have := hLT.1
    rw [e, List.length_append] at this
    omega
  have l1 : 0 < ([80] : List Nat).length := by decide
  have l2 : 0 < ([80] ++ dgs vp ++ [67] : List Nat).length := by simp
  have l3 : 0 < ([80] ++ dgs vp ++ [67] ++ dgs vc ++ [58] : List Nat).length := by simp
  have l4 : 0 < ([80] ++ dgs vp ++ [67] ++ dgs vc ++ [58] ++ dgs vs ++ [61] : List Nat).length := by simp
  have l5 : 0 < ([80] ++ dgs vp ++ [67] ++ dgs vc ++ [58] ++ dgs vs ++ [61] ++ dgs vh ++ [43] : List Nat).length := by simp
  have l6 : 0 < T.length := by rw [t6]; simp
  have r1 := rd_one (a := a) (kk := fl_isLine_20 5) (x := 0) hLT (v := vp) (by omega) l1 t1
  have r2 := rd_one (a := a) (kk := fl_isLine_20 4) (x := 1) hLT (v := vc) (by omega) l2 t2
  have r3 := rd_one (a := a) (kk := fl_isLine_20 3) (x := 2) hLT (v := vs) (by omega) l3 t3
  have r4 := rd_one (a := a) (kk := fl_isLine_20 2) (x := 3) hLT (v := vh) (by omega) l4 t4
  have r5 := rd_one (a := a) (kk := fl_isLine_20 1) (x := 4) hLT (v := vo) (by omega) l5 t5
  have g : ∀ (x : List Nat) (y : List Nat), T = x ++ y → 0 < x.length → ¬ nI x.length ≤ 0 := fun x y e h0 => nI_nle h0 (by have := ln x y e; omega)
  have at0 : aq_lineAt (V, L, N) (nI k) 0 = some (nI 80) := hLT.at (pre := []) t1
  unfold fl_isLine fl_isLine_16
  dsimp only
  rw [at0]
  simp only [po_b]
  rw [if_pos (show nI 80 = 80 by decide)]
  -- a phone
  rw [fl_isLine_20, if_neg (show ¬ (5 : Int32) ≤ 0 by decide), if_neg (show ¬ (1 : Int32) ≤ 0 by decide), if_pos rfl, hcl, if_neg g64]
  dsimp only
  rw [n0, pt_phone a3 a4 a5 a6 a7, ep]
  simp only [po_b]
  unfold fl_isLine_97
  rw [if_pos rfl]
  refine r1.trans ?_
  -- a call
  rw [fl_isLine_20, if_neg (show ¬ (5 : Int32) ≤ 0 + 1 by decide), if_neg (g _ _ t2 l2), if_neg (show ¬ (0 : Int32) + 1 = 0 by decide), if_pos (show (0 : Int32) + 1 = 1 by decide), hcl, if_neg g64]
  dsimp only
  rw [n0, pt_call a3 a4 a5 a6 a7, ec]
  simp only [po_b]
  unfold fl_isLine_97
  rw [if_neg (show ¬ (0 : Int32) + 1 = 0 by decide), if_pos (show (0 : Int32) + 1 = 1 by decide)]
  refine r2.trans ?_
  -- seconds
  rw [fl_isLine_20, if_neg (show ¬ (5 : Int32) ≤ 1 + 1 by decide), if_neg (g _ _ t3 l3), if_neg (show ¬ (1 : Int32) + 1 = 0 by decide), if_neg (show ¬ (1 : Int32) + 1 = 1 by decide), if_pos (show (1 : Int32) + 1 = 2 by decide)]
  dsimp only
  rw [q_seconds hR hk, e27]
  simp only [po_b]
  unfold fl_isLine_97
  rw [if_neg (show ¬ (1 : Int32) + 1 = 0 by decide), if_neg (show ¬ (1 : Int32) + 1 = 1 by decide), if_pos (show (1 : Int32) + 1 = 2 by decide)]
  refine r3.trans ?_
  -- what it was charged
  rw [fl_isLine_20, if_neg (show ¬ (5 : Int32) ≤ 2 + 1 by decide), if_neg (g _ _ t4 l4), if_neg (show ¬ (2 : Int32) + 1 = 0 by decide), if_neg (show ¬ (2 : Int32) + 1 = 1 by decide), if_neg (show ¬ (2 : Int32) + 1 = 2 by decide), if_pos (show (2 : Int32) + 1 = 3 by decide)]
  dsimp only
  rw [q_charged hR hk, e28]
  simp only [po_b]
  unfold fl_isLine_97
  rw [if_neg (show ¬ (2 : Int32) + 1 = 0 by decide), if_neg (show ¬ (2 : Int32) + 1 = 1 by decide), if_neg (show ¬ (2 : Int32) + 1 = 2 by decide), if_pos (show (2 : Int32) + 1 = 3 by decide)]
  refine r4.trans ?_
  -- what was covered
  rw [fl_isLine_20, if_neg (show ¬ (5 : Int32) ≤ 3 + 1 by decide), if_neg (g _ _ t5 l5), if_neg (show ¬ (3 : Int32) + 1 = 0 by decide), if_neg (show ¬ (3 : Int32) + 1 = 1 by decide), if_neg (show ¬ (3 : Int32) + 1 = 2 by decide), if_neg (show ¬ (3 : Int32) + 1 = 3 by decide)]
  dsimp only
  rw [q_covered hR hk, e29]
  simp only [po_b]
  unfold fl_isLine_97
  rw [if_neg (show ¬ (3 : Int32) + 1 = 0 by decide), if_neg (show ¬ (3 : Int32) + 1 = 1 by decide), if_neg (show ¬ (3 : Int32) + 1 = 2 by decide), if_neg (show ¬ (3 : Int32) + 1 = 3 by decide)]
  dsimp only
  rw [q_stateOf hR hk]
  simp only [po_b]
  have fin : fl_isLine_20 1 ((V, L, N), a) (nI k) (nI T.length) (4 + 1) = some 1 := by
    rw [fl_isLine_20, if_pos (by decide)]
    unfold fl_isLine_225
    dsimp only
    rw [if_neg (nI_nle l6 (by have := hLT.1; omega)), hLT.2 _ (by have := hLT.1; omega)]
    simp only [po_b]
    unfold lnA
    rw [nI_clamp (by have := hLT.1; omega), if_neg (Nat.lt_irrefl _), if_pos rfl]
  rw [← t6, fin] at r5
  rw [show (3 : Int32) + 1 = 4 by decide]
  have sg : ∀ q : Nat, sgn (ρ 26 k) = q → fl_isLine_185 (fl_isLine_20 1) ((V, L, N), a) (nI k) (nI ([80] ++ dgs vp ++ [67] ++ dgs vc ++ [58] ++ dgs vs ++ [61] ++ dgs vh ++ [43] : List Nat).length) 4 (nI vo) (nI q) = some 1 := fun q e => by
    rw [← e]
    exact r5
  rcases (show s = 0 ∨ s = 1 ∨ s = 2 ∨ s = 3 by omega) with rfl | rfl | rfl | rfl
  · rw [es, if_pos (by decide)]
    exact sg 126 (by rw [es]; rfl)
  · rw [es, if_neg (by decide), if_pos (by decide)]
    exact sg 46 (by rw [es]; rfl)
  · rw [es, if_neg (by decide), if_neg (by decide), if_pos (by decide)]
    exact sg 33 (by rw [es]; rfl)
  · rw [es, if_neg (by decide), if_neg (by decide), if_neg (by decide)]
    exact sg 63 (by rw [es]; rfl)
end LN
