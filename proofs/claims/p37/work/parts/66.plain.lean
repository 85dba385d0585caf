/-! lineAt: both sides answer alike -/
def wg (ρ : Rho) (w g : Int32) : Rho := cs (cs ρ 37 0 w) 38 0 g
theorem wg_sign {ρ : Rho} {w g c : Int32} : fr_sign (wg ρ w g) c = some (wg ρ (w - 1) (if w = 0 then c else g)) := by
  have e : ∀ x, fr_sign_16 (wg ρ w g) x = some (wg ρ (w - 1) x) := fun x => by
    unfold fr_sign_16
    simp only [po_b]
    rw [show cs (wg ρ w g) 38 0 x 37 0 = w from rfl]
    refine congrArg some ?_
    funext a b
    by_cases h1 : a = 37 ∧ b = 0
    · obtain ⟨rfl, rfl⟩ := h1; rfl
    · by_cases h2 : a = 38 ∧ b = 0
      · obtain ⟨rfl, rfl⟩ := h2; rfl
      · unfold wg cs
        simp only [if_neg h1, if_neg h2]
  unfold fr_sign
  rw [show wg ρ w g 37 0 = w from rfl, show wg ρ w g 38 0 = g from rfl]
  by_cases h : w = 0
  · rw [if_pos h, if_pos h, e]
  · rw [if_neg h, if_neg h, e]
/-- what is wanted and what was got, behind a text -/
def rn (t : List Nat) (w g : Int32) : Int32 × Int32 := t.foldl (fun p c => (p.1 - 1, if p.1 = 0 then nI c else p.2)) (w, g)
theorem rn_app {t u : List Nat} {w g : Int32} : rn (t ++ u) w g = rn u (rn t w g).1 (rn t w g).2 := by unfold rn; rw [List.foldl_append]
theorem rn_cons {c : Nat} {t : List Nat} {w g : Int32} : rn (c :: t) w g = rn t (w - 1) (if w = 0 then nI c else g) := rfl
theorem rn_m {m : Nat} : -nI m - 1 = -nI (m + 1) := by rw [← nI_1, Int32.neg_add, Int32.sub_eq_add_neg]
theorem rn_neg : ∀ (t : List Nat) (m : Nat) (g : Int32), 1 ≤ m → m + t.length < 2 ^ 30 → (rn t (-nI m) g).2 = g := by
  intro t
  induction t with
  | nil => intro m g _ _; rfl
  | cons c t ih =>
    intro m g h1 h2
    rw [List.length_cons] at h2
    rw [rn_cons, rn_m, if_neg (fun z => by
      have h3 := sb_negT (w := m) (by omega)
      rw [z, Int32.toInt_zero] at h3
      omega)]
    exact ih (m + 1) g (by omega) (by omega)
theorem rn_pos : ∀ (t : List Nat) (j : Nat) (g : Int32), j < 2 ^ 31 → t.length < 2 ^ 29 → (rn t (nI j) g).2 = if j < t.length then nI (t.getD j 0) else g := by
  intro t
  induction t with
  | nil => intro j g _ _; exact (if_neg (Nat.not_lt_zero j)).symm
  | cons c t ih =>
    intro j g h1 h2
    rw [List.length_cons] at h2 ⊢
    cases j with
    | zero =>
      rw [rn_cons, show nI 0 - 1 = -nI 1 by decide, if_pos (show nI 0 = 0 from rfl), rn_neg t 1 _ (Nat.le_refl 1) (by omega), if_pos (Nat.succ_pos _)]
      rfl
    | succ j =>
      rw [rn_cons, if_neg (nI_ne0 (Nat.succ_pos j) h1), show nI (j + 1) - 1 = nI j from pk_sub (a := j + 1) (b := 1) (by omega), ih j g (by omega) (by omega)]
      by_cases q : j < t.length
      · rw [if_pos q, if_pos (Nat.succ_lt_succ q)]
        rfl
      · rw [if_neg q, if_neg (fun z => q (Nat.lt_of_succ_lt_succ z))]
/-- the state of the reference behind a text -/
def SL (R : Rho) (t : List Nat) (y : Int32) : Rho := wg R (rn t y (-1)).1 (rn t y (-1)).2
theorem SL_at {R : Rho} {t : List Nat} {y : Int32} {c i : Nat} (h1 : c ≠ 37) (h2 : c ≠ 38) : SL R t y c i = R c i := by
  unfold SL wg
  rw [cs_ne h2, cs_ne h1]
theorem SL_sign {R : Rho} {t : List Nat} {y x : Int32} {c : Nat} (hx : x = nI c) : fr_sign (SL R t y) x = some (SL R (t ++ [c]) y) := by
  subst hx
  unfold SL
  rw [wg_sign, rn_app, rn_cons]
  rfl
/-- digits from the place i down -/
def dl (v : Nat) : Nat → List Nat
  | 0 => [48 + v / 10 ^ 0 % 10]
  | i + 1 => (48 + v / 10 ^ (i + 1) % 10) :: dl v i
theorem dl_eq {v : Nat} : ∀ i, dl v i = (List.range (i + 1)).map (fun z => 48 + v / 10 ^ (i - z) % 10) := by
  intro i
  induction i with
  | zero => rfl
  | succ i ih =>
    rw [dl, ih, List.range_succ_eq_map (n := i + 1), List.map_cons, List.map_map]
    refine congrArg (List.cons _) (List.map_congr_left (fun z _ => ?_))
    show _ = 48 + v / 10 ^ (i + 1 - (z + 1)) % 10
    rw [show i + 1 - (z + 1) = i - z by omega]
theorem dl_dgs {v : Nat} : dl v (sb_dg v - 1) = dgs v := by
  have h := (sb_dg_in v).1
  rw [dl_eq]
  unfold dgs
  rw [show sb_dg v - 1 + 1 = sb_dg v by omega]
  rfl
theorem dg_spec {v : Nat} (h : v ≤ 50000001) : v < 10 ^ (sb_dg v) ∧ (1 < sb_dg v → 10 ^ (sb_dg v - 1) ≤ v) ∧ sb_dg v ≤ 8 := by
  unfold sb_dg
  (repeat' split) <;> simp <;> omega
theorem p10d : ∀ i, i < 9 → nI (10 ^ (i + 1)) / 10 = nI (10 ^ i) := by decide +kernel
theorem p10m : ∀ i, i < 9 → nI (10 ^ i) * 10 = nI (10 ^ (i + 1)) := by decide +kernel
theorem dig {v d : Nat} (hv : v < 2 ^ 31) (h0 : 0 < d) (hd : d < 2 ^ 31) : (48 : Int32) + ((nI v / nI d) - (nI v / nI d) / 10 * 10) = nI (48 + v / d % 10) := by
  rw [pk_div hv h0 hd]
  have h1 : nI (v / d) - nI (v / d) / 10 * 10 = nI (v / d % 10) := pk_rem (a := v / d) (d := 10) (Nat.lt_of_le_of_lt (Nat.div_le_self _ _) hv) (by decide) (by decide)
  rw [h1]
  exact nI_add 48 _
theorem num18 {R : Rho} {v : Nat} {y : Int32} (hv : v < 2 ^ 31) : ∀ (i n : Nat) (t : List Nat), i ≤ 8 → i + 2 ≤ n → fr_number_18 n (SL R t y) (nI v) (nI (10 ^ i)) = some (SL R (t ++ dl v i) y) := by
  intro i
  induction i with
  | zero =>
    intro n t _ hn
    obtain ⟨n, rfl⟩ : ∃ z, n = z + 1 + 1 := ⟨n - 2, by omega⟩
    rw [fr_number_18, if_neg (by decide), if_neg (by decide), dig hv (by decide) (by decide), SL_sign rfl]
    simp only [po_b]
    rw [show nI (10 ^ 0) / 10 = 0 by decide, fr_number_18, if_pos (by decide)]
    rfl
  | succ i ih =>
    intro n t hi hn
    obtain ⟨n, rfl⟩ : ∃ z, n = z + 1 := ⟨n - 1, by omega⟩
    have hp := sb_pow (i + 1) (by omega)
    have hp0 : 0 < 10 ^ (i + 1) := Nat.pow_pos (by decide)
    rw [fr_number_18, if_neg (nI_nle hp0 hp), if_neg (nI_ne0 hp0 hp), dig hv hp0 hp, SL_sign rfl]
    simp only [po_b]
    rw [p10d i (by omega), ih n _ (by omega) (by omega), List.append_assoc]
    rfl
theorem num2 {R : Rho} {v : Nat} {y : Int32} (hv : v ≤ 50000001) {t : List Nat} : ∀ (d i n : Nat), i + d = sb_dg v - 1 → d + 1 ≤ n → fr_number_2 n (SL R t y) (nI v) (nI (10 ^ i)) = some (SL R (t ++ dgs v) y) := by
  obtain ⟨s1, s2, s3⟩ := dg_spec hv
  have s0 := (sb_dg_in v).1
  intro d
  induction d with
  | zero =>
    intro i n hi hn
    obtain ⟨n, rfl⟩ : ∃ z, n = z + 1 := ⟨n - 1, by omega⟩
    have hp := sb_pow i (by omega)
    have hp0 : 0 < 10 ^ i := Nat.pow_pos (by decide)
    have hlt : v / 10 ^ i < 10 := by
      refine Nat.div_lt_of_lt_mul ?_
      rw [← Nat.pow_succ, show i.succ = sb_dg v by omega]
      exact s1
    rw [fr_number_2, if_neg (nI_ne0 hp0 hp), pk_div (by omega) hp0 hp, if_pos (show nI (v / 10 ^ i) ≤ 9 from nI_le (b := 9) (Nat.le_of_lt_succ hlt) (by decide)), num18 (by omega) i FU t (by omega) (by have : FU = 3000 := rfl; omega), show i = sb_dg v - 1 by omega, dl_dgs]
  | succ d ih =>
    intro i n hi hn
    obtain ⟨n, rfl⟩ : ∃ z, n = z + 1 := ⟨n - 1, by omega⟩
    have hp := sb_pow i (by omega)
    have hp0 : 0 < 10 ^ i := Nat.pow_pos (by decide)
    have hge : 10 ≤ v / 10 ^ i := by
      rw [Nat.le_div_iff_mul_le hp0, Nat.mul_comm, ← Nat.pow_succ]
      exact Nat.le_trans (Nat.pow_le_pow_right (by decide) (by omega)) (s2 (by omega))
    rw [fr_number_2, if_neg (nI_ne0 hp0 hp), pk_div (by omega) hp0 hp, if_neg (show ¬ nI (v / 10 ^ i) ≤ 9 from nI_ge (a := 9) (by omega) (Nat.lt_of_le_of_lt (Nat.div_le_self _ _) (by omega)))]
    simp only [po_b]
    rw [p10m i (by omega)]
    exact ih (i + 1) n (by omega) (by omega)
theorem SL_num {R : Rho} {v : Nat} {x y : Int32} (hv : v ≤ 50000001) {t : List Nat} (hx : x = nI v) : fr_number (SL R t y) x = some (SL R (t ++ dgs v) y) := by
  subst hx
  have h := dg_spec hv
  exact num2 hv (sb_dg v - 1) 0 FU (by omega) (by have : FU = 3000 := rfl; omega)
theorem bnd {α β : Type} {a : Option α} {v : α} (h : a = some v) {f : α → Option β} : a.bind f = f v := by rw [h]; rfl
theorem line_ref {ρ : Rho} {k j vp vc vs vh vo : Nat} (hk : k < 80) (hj : j < 2 ^ 31) (e23 : ρ 23 k = nI vp) (e24 : ρ 24 k = nI vc) (e27 : ρ 27 k = nI vs) (e28 : ρ 28 k = nI vh) (e29 : ρ 29 k = nI vo) (wp : vp < 10) (wc : vc < 100) (ws : vs < 100000) (wh : vh < 50000002) (wo : vo < 50000002) (e26 : vp_in (ρ 26 k) 4) : fr_lineAt_18 ρ (nI k) (nI j) 0 = some (SL (cs ρ 39 0 0) (lineT vp vc vs vh vo (ρ 26 k)) (nI j), lnA (lineT vp vc vs vh vo (ρ 26 k)) (nI j)) := by
  have g : ¬ (nI k < 0 ∨ 80 ≤ (nI k).toNatClampNeg) := vp_in_nI hk (by decide)
  have hcl : (nI k).toNatClampNeg = k := nI_clamp (by omega)
  have at' : ∀ (t : List Nat) (c : Nat), c ≠ 37 → c ≠ 38 → c ≠ 39 → SL (cs ρ 39 0 0) t (nI j) c (nI k).toNatClampNeg = ρ c k := fun t c h1 h2 h3 => by rw [SL_at h1 h2, cs_ne h3, hcl]
  unfold fr_lineAt_18 fr_can
  simp only [po_b, if_true]
  rw [if_neg (show ¬ (1 : Int32) = 0 by decide)]
  refine (bnd (SL_sign (R := cs ρ 39 0 0) (t := []) (y := nI j) (c := 80) rfl)).trans ?_
  refine (if_neg g).trans ((bnd (SL_num (v := vp) (by omega) ((at' _ 23 (by decide) (by decide) (by decide)).trans e23))).trans ?_)
  refine (bnd (SL_sign (c := 67) rfl)).trans ?_
  refine (if_neg g).trans ((bnd (SL_num (v := vc) (by omega) ((at' _ 24 (by decide) (by decide) (by decide)).trans e24))).trans ?_)
  refine (bnd (SL_sign (c := 58) rfl)).trans ?_
  refine (if_neg g).trans ((bnd (SL_num (v := vs) (by omega) ((at' _ 27 (by decide) (by decide) (by decide)).trans e27))).trans ?_)
  refine (bnd (SL_sign (c := 61) rfl)).trans ?_
  refine (if_neg g).trans ((bnd (SL_num (v := vh) (by omega) ((at' _ 28 (by decide) (by decide) (by decide)).trans e28))).trans ?_)
  refine (bnd (SL_sign (c := 43) rfl)).trans ?_
  refine (if_neg g).trans ((bnd (SL_num (v := vo) (by omega) ((at' _ 29 (by decide) (by decide) (by decide)).trans e29))).trans ?_)
  refine (if_neg g).trans ?_
  rw [at' _ 26 (by decide) (by decide) (by decide)]
  have fin : ∀ (c : Nat), c = sgn (ρ 26 k) → (some (SL (cs ρ 39 0 0) (([] ++ [80] ++ dgs vp ++ [67] ++ dgs vc ++ [58] ++ dgs vs ++ [61] ++ dgs vh ++ [43] ++ dgs vo) ++ [c]) (nI j), SL (cs ρ 39 0 0) (([] ++ [80] ++ dgs vp ++ [67] ++ dgs vc ++ [58] ++ dgs vs ++ [61] ++ dgs vh ++ [43] ++ dgs vo) ++ [c]) (nI j) 38 0) : Option (Rho × Int32)) = some (SL (cs ρ 39 0 0) (lineT vp vc vs vh vo (ρ 26 k)) (nI j), lnA (lineT vp vc vs vh vo (ρ 26 k)) (nI j)) := by
    intro c hc
    subst hc
    have hlen : (lineT vp vc vs vh vo (ρ 26 k)).length < 2 ^ 29 := by
      have d1 := dg1 wp
      have d2 := dg2 wc
      have d3 := dg5 ws
      have d4 := dg8 (v := vh) (by omega)
      have d5 := dg8 (v := vo) (by omega)
      unfold lineT
      simp only [List.length_append, List.length_singleton, List.length_nil, dgs_len]
      omega
    have h1 := rn_pos (lineT vp vc vs vh vo (ρ 26 k)) j (-1) hj hlen
    have h2 : SL (cs ρ 39 0 0) (lineT vp vc vs vh vo (ρ 26 k)) (nI j) 38 0 = lnA (lineT vp vc vs vh vo (ρ 26 k)) (nI j) := by
      unfold lnA
      rw [nI_clamp hj]
      exact h1
    exact congrArg (fun z => some (SL (cs ρ 39 0 0) (lineT vp vc vs vh vo (ρ 26 k)) (nI j), z)) h2
  obtain ⟨s, hs, -, es⟩ := pn_of e26
  rcases (show s = 0 ∨ s = 1 ∨ s = 2 ∨ s = 3 by omega) with rfl | rfl | rfl | rfl
  · refine (if_pos es).trans ((bnd (SL_sign (c := 126) rfl)).trans (fin 126 (by rw [es]; rfl)))
  · refine (if_neg (by rw [es]; decide)).trans ((if_pos es).trans ((bnd (SL_sign (c := 46) rfl)).trans (fin 46 (by rw [es]; rfl))))
  · refine (if_neg (by rw [es]; decide)).trans ((if_neg (by rw [es]; decide)).trans ((if_pos es).trans ((bnd (SL_sign (c := 33) rfl)).trans (fin 33 (by rw [es]; rfl)))))
  · refine (if_neg (by rw [es]; decide)).trans ((if_neg (by rw [es]; decide)).trans ((if_neg (by rw [es]; decide)).trans ((bnd (SL_sign (c := 63) rfl)).trans (fin 63 (by rw [es]; rfl)))))
theorem line_bad {ρ : Rho} {x y : Int32} : fr_lineAt_17 ρ x y = some (cs ρ 39 0 1, 0) := by
  unfold fr_lineAt_17 fr_lineAt_18 fr_can
  simp only [po_b]
  rw [if_neg (show ¬ (1 : Int32) = 0 by decide)]
  simp only [po_b, if_true]
theorem f_lineAt {V : Rho} {L : Lst} {N : Cnt} {ρ : Rho} {t nw : Nat} (h : Rel V L N ρ t nw 0) (x y : Int32) : OKQ V L N (fc_lineAt V L N x y) (fr_lineAt ρ x y) cd1 t (E26 ρ) := by
  have hn4 := h.n4
  have e14 : L 14 0 = iot (N 4) := h.r3.2.2.2.2.2
  have e22 : ρ 22 0 = nI (N 4) := h.r3.2.2.1.2.2
  unfold fc_lineAt fr_lineAt
  rcases ix x (n := N 4) (by omega) with ⟨k, hk, rfl⟩ | hx
  · rw [leA_ok e14 (by omega) hk, isLeg_ok e22 (by omega) hk]
    simp only [po_b, Sum.elim_inl]
    rw [if_neg (show ¬ (1 : Int32) = 0 by decide)]
    by_cases hy : y < 0
    · rw [if_pos hy, if_pos hy, line_bad]
      exact Or.inl ⟨1, _, 0, rfl, rfl, cs_at, by decide, h.err 1⟩
    · rw [if_neg hy, if_neg hy, nI_clamp (show k < 2 ^ 31 by omega)]
      obtain ⟨j, hj, rfl⟩ := nI_of hy
      have hnw := h.r5.2.2.2.2.2.2.2
      obtain ⟨a23, a24, -⟩ := h.r5.2.2.1 k hk
      obtain ⟨vp, wp, -, e23⟩ := pn_of a23
      obtain ⟨vc, wc, -, e24⟩ := pn_of a24
      have hN1 : N 1 ≤ 40 := h.r3.2.1.2.2.1
      obtain ⟨w26, b27, b28, b29⟩ := h.r17 k
      obtain ⟨u, hu, -, e32⟩ := pn_of (h.r11 k hk).1
      have hu : u ≤ nw := by rw [if_pos rfl] at hu; omega
      have hu5 : u ≤ 50000 := by omega
      rw [e32] at b27 b28 b29
      obtain ⟨vs, ws, ws2, e27⟩ := pn_of (bdd_in b27 hu5 (by decide))
      obtain ⟨vh, wh, wh2, e28⟩ := pn_of (bdd_in b28 hu5 (by decide))
      obtain ⟨vo, wo, wo2, e29⟩ := pn_of (bdd_in b29 hu5 (by decide))
      have ws3 : vs < 100000 := by
        have := b27.2
        rw [e27, nI_clamp ws2, nI_clamp (by omega)] at this
        omega
      have p1 : V 100 (V 81 k).toNatClampNeg = nI vp := by
        rw [h.c 81 23 (by decide), e23, nI_clamp (by omega)]
        exact h.r2 100 (by decide) vp (by rw [show 100 / 20 = 5 by decide, h.r3.1.2.2.2.2.1]; exact wp)
      have p2 : V 20 (V 82 k).toNatClampNeg = nI vc := by
        rw [h.c 82 24 (by decide), e24, nI_clamp (by omega)]
        exact h.r2 20 (by decide) vc wc
      have p3 : V 88 k = nI vs := by rw [h.c 88 27 (by decide), e27]
      have p4 : V 89 k = nI vh := by rw [h.c 89 28 (by decide), e28]
      have p5 : V 90 k = nI vo := by rw [h.c 90 29 (by decide), e29]
      have p6 : V 87 k = ρ 26 k := by rw [h.c 87 26 (by decide)]
      have hB : lnB V k = true := lnB_iff.mpr ⟨by rw [p1]; exact vp_in_nI wp (by decide), by rw [p2]; exact vp_in_nI (by omega) (by decide), by rw [p3]; exact vp_in_nI ws3 (by decide), by rw [p4]; exact vp_in_nI (by omega) (by decide), by rw [p5]; exact vp_in_nI (by omega) (by decide)⟩
      have hT : lnT V k = lineT vp vc vs vh vo (ρ 26 k) := by
        unfold lnT
        rw [p1, p2, p3, p4, p5, p6, nI_clamp (show vp < 2 ^ 31 by omega), nI_clamp (show vc < 2 ^ 31 by omega), nI_clamp ws2, nI_clamp wh2, nI_clamp wo2]
      rw [if_pos hB, hT, line_ref (by omega) hj e23 e24 e27 e28 e29 wp (by omega) ws3 (by omega) (by omega) w26]
      exact Or.inr ⟨_, _, rfl, rfl, (SL_at (by decide) (by decide)).trans cs_at, ⟨nw, h.idle (((chg.rf.st (by decide)).st (by decide)).st (by decide))⟩, Nat.le_of_eq (E26_eq rfl).symm⟩
  · rw [leA_bad e14 hx, isLeg_bad e22 (by omega) hx]
    simp only [po_b, Sum.elim_inr, if_true]
    rw [line_bad]
    exact Or.inl ⟨1, _, 0, rfl, rfl, cs_at, by decide, h.err 1⟩
