theorem cs_at {V : Rho} {k i : Nat} {x : Int32} : cs V k i x k i = x := if_pos ⟨rfl, rfl⟩
theorem cs_col {V : Rho} {k k' i i' : Nat} {x : Int32} (h : Nat.beq k' k = false) : cs V k i x k' i' = V k' i' := if_neg (fun z => by rw [z.1] at h; simp at h)
theorem axt_adu {N : Cnt} {ad : Adr} {k q : Nat} (hk : k < 12) : axt N ad (adu ad k (N k) q) := fun k' i' hex _ => adu_ne (fun z => by
  obtain ⟨rfl, rfl⟩ := z
  have := hex.2
  rw [ow_self hk] at this
  omega)
theorem axt_adu2 {N : Cnt} {ad : Adr} {k lk q q2 : Nat} (hk : (k = 1 ∧ lk = 17) ∨ (k = 4 ∧ lk = 18) ∨ (k = 6 ∧ lk = 16) ∨ (k = 9 ∧ lk = 15)) : axt N ad (adu (adu ad k (N k) q) lk (N k) q2) := fun k' i' hex h3 => by
  have hk12 : k < 12 := by omega
  have hlk : ow lk = k := by rcases hk with ⟨rfl, rfl⟩ | ⟨rfl, rfl⟩ | ⟨rfl, rfl⟩ | ⟨rfl, rfl⟩ <;> rfl
  have h1 := hex.2
  rw [adu_ne (fun z => by
    obtain ⟨rfl, rfl⟩ := z
    rw [hlk] at h1
    omega), adu_ne (fun z => by
    obtain ⟨rfl, rfl⟩ := z
    rw [ow_self hk12] at h1
    omega)]
theorem axt.mono {N N' : Cnt} {ad ad' : Adr} (h : axt N' ad ad') (hN : ∀ k, N k ≤ N' k) : axt N ad ad' := fun k i hex h3 => h k i ⟨hex.1, Nat.lt_of_lt_of_le hex.2 (hN _)⟩ h3
theorem axt.comp {N : Cnt} {ad ad' ad'' : Adr} (h : axt N ad ad') (h' : axt N ad' ad'') : axt N ad ad'' := fun k i hex h3 => (h' k i hex h3).trans (h k i hex h3)
section MK
variable {D : va_G} {dA : Nat → ClassId} {A : Nat → Prop} {V V' : Rho} {L L' : Lst} {N N' : Cnt} {ad ad' : Adr} {xs : va_W} {H : Heap} {q q1 q2 : Nat} {a1 a2 a3 a4 a5 : Int32}
theorem mk_Event (hb : ¬ 100000 ≤ N 3) (hp2 : vp_in a3 (N 2)) (eV : (cs (cs (cs V 60 (N 3) a1) 61 (N 3) a2) 62 (N 3) a3) = V') (eN : nup N 3 = N') (ead : ad' = adu ad 3 (N 3) q) (hG : cx D dA A V L N ad (xs ++ [(q, .inr (6, [.int a1, .int a2, .ref (ad 2 a3.toNatClampNeg)]))]) H) : cx D dA A V' L N' ad' xs H := by
  subst eN
  subst ead
  have h0 : V' 60 (N 3) = a1 := by rw [← eV]; rw [cs_col rfl, cs_col rfl, cs_at]
  have h1 : V' 61 (N 3) = a2 := by rw [← eV]; rw [cs_col rfl, cs_at]
  have h2 : V' 62 (N 3) = a3 := by rw [← eV]; rw [cs_at]
  refine cx_new1 (k := 3) (by omega) hG (fun k' i f h1 h2 h3 => ?_) ?_ (fun f hf => ?_) (cnum_nup hG.2.2.2.2.2.2.2.2.1 hb (by decide) (fun _ => by decide) (fun z => absurd z (by decide)) (fun z => absurd z (by decide)))
  · rw [← eV, cs_new (k := 3) (f0 := 2) (by decide) h2 h3, cs_new (k := 3) (f0 := 1) (by decide) h2 h3, cs_new (k := 3) (f0 := 0) (by decide) h2 h3]
  · show _ = [cv (adu ad 3 (N 3) q) 0 (V' 60 (N 3)) (N 3), cv (adu ad 3 (N 3) q) 0 (V' 61 (N 3)) (N 3), cv (adu ad 3 (N 3) q) 1002 (V' 62 (N 3)) (N 3)]
    rw [h0, h1, h2]
    show _ = ([.int a1, .int a2, .ref (adu ad 3 (N 3) q 2 a3.toNatClampNeg)] : List Value)
    rw [adu_ne (by omega)]
  · have hf : f < 3 := hf
    rcases (show f = 0 ∨ f = 1 ∨ f = 2 by omega) with rfl | rfl | rfl
    · trivial
    · trivial
    · show vp_in (V' 62 (N 3)) (nup N 3 2)
      rw [h2, nup_ne (by decide)]
      exact hp2
theorem mk_RateStep (hb : ¬ 100000 ≤ N 7) (eV : (cs (cs V 140 (N 7) a1) 141 (N 7) a2) = V') (eN : nup N 7 = N') (ead : ad' = adu ad 7 (N 7) q) (hG : cx D dA A V L N ad (xs ++ [(q, .inr (10, [.int a1, .int a2]))]) H) : cx D dA A V' L N' ad' xs H := by
  subst eN
  subst ead
  have h0 : V' 140 (N 7) = a1 := by rw [← eV]; rw [cs_col rfl, cs_at]
  have h1 : V' 141 (N 7) = a2 := by rw [← eV]; rw [cs_at]
  refine cx_new1 (k := 7) (by omega) hG (fun k' i f h1 h2 h3 => ?_) ?_ (fun f hf => ?_) (cnum_nup hG.2.2.2.2.2.2.2.2.1 hb (by decide) (fun _ => by decide) (fun z => absurd z (by decide)) (fun z => absurd z (by decide)))
  · rw [← eV, cs_new (k := 7) (f0 := 1) (by decide) h2 h3, cs_new (k := 7) (f0 := 0) (by decide) h2 h3]
  · show _ = [cv (adu ad 7 (N 7) q) 0 (V' 140 (N 7)) (N 7), cv (adu ad 7 (N 7) q) 0 (V' 141 (N 7)) (N 7)]
    rw [h0, h1]
    show _ = ([.int a1, .int a2] : List Value)
    rfl
  · have hf : f < 2 := hf
    rcases (show f = 0 ∨ f = 1 by omega) with rfl | rfl
    · trivial
    · trivial
theorem mk_Bundle (hb : ¬ 100000 ≤ N 0) (eV : (cs (cs (cs (cs V 0 (N 0) a1) 1 (N 0) a2) 2 (N 0) a3) 3 (N 0) a4) = V') (eN : nup N 0 = N') (ead : ad' = adu ad 0 (N 0) q) (hG : cx D dA A V L N ad (xs ++ [(q, .inr (3, [.int a1, .int a2, .int a3, .int a4]))]) H) : cx D dA A V' L N' ad' xs H := by
  subst eN
  subst ead
  have h0 : V' 0 (N 0) = a1 := by rw [← eV]; rw [cs_col rfl, cs_col rfl, cs_col rfl, cs_at]
  have h1 : V' 1 (N 0) = a2 := by rw [← eV]; rw [cs_col rfl, cs_col rfl, cs_at]
  have h2 : V' 2 (N 0) = a3 := by rw [← eV]; rw [cs_col rfl, cs_at]
  have h3 : V' 3 (N 0) = a4 := by rw [← eV]; rw [cs_at]
  refine cx_new1 (k := 0) (by omega) hG (fun k' i f h1 h2 h3 => ?_) ?_ (fun f hf => ?_) (cnum_nup hG.2.2.2.2.2.2.2.2.1 hb (by decide) (fun _ => by decide) (fun z => absurd z (by decide)) (fun z => absurd z (by decide)))
  · rw [← eV, cs_new (k := 0) (f0 := 3) (by decide) h2 h3, cs_new (k := 0) (f0 := 2) (by decide) h2 h3, cs_new (k := 0) (f0 := 1) (by decide) h2 h3, cs_new (k := 0) (f0 := 0) (by decide) h2 h3]
  · show _ = [cv (adu ad 0 (N 0) q) 0 (V' 0 (N 0)) (N 0), cv (adu ad 0 (N 0) q) 0 (V' 1 (N 0)) (N 0), cv (adu ad 0 (N 0) q) 0 (V' 2 (N 0)) (N 0), cv (adu ad 0 (N 0) q) 0 (V' 3 (N 0)) (N 0)]
    rw [h0, h1, h2, h3]
    show _ = ([.int a1, .int a2, .int a3, .int a4] : List Value)
    rfl
  · have hf : f < 4 := hf
    rcases (show f = 0 ∨ f = 1 ∨ f = 2 ∨ f = 3 by omega) with rfl | rfl | rfl | rfl
    · trivial
    · trivial
    · trivial
    · trivial
theorem mk_Slice (hb : ¬ 100000 ≤ N 8) (eV : (cs (cs (cs V 160 (N 8) 0) 161 (N 8) 0) 162 (N 8) (-1)) = V') (eN : nup N 8 = N') (ead : ad' = adu ad 8 (N 8) q) (hG : cx D dA A V L N ad (xs ++ [(q, .inr (11, [.int 0, .int 0, .null]))]) H) : cx D dA A V' L N' ad' xs H := by
  subst eN
  subst ead
  have h0 : V' 160 (N 8) = 0 := by rw [← eV]; rw [cs_col rfl, cs_col rfl, cs_at]
  have h1 : V' 161 (N 8) = 0 := by rw [← eV]; rw [cs_col rfl, cs_at]
  have h2 : V' 162 (N 8) = (-1) := by rw [← eV]; rw [cs_at]
  refine cx_new1 (k := 8) (by omega) hG (fun k' i f h1 h2 h3 => ?_) ?_ (fun f hf => ?_) (cnum_nup hG.2.2.2.2.2.2.2.2.1 hb (by decide) (fun _ => by decide) (fun z => absurd z (by decide)) (fun z => absurd z (by decide)))
  · rw [← eV, cs_new (k := 8) (f0 := 2) (by decide) h2 h3, cs_new (k := 8) (f0 := 1) (by decide) h2 h3, cs_new (k := 8) (f0 := 0) (by decide) h2 h3]
  · show _ = [cv (adu ad 8 (N 8) q) 0 (V' 160 (N 8)) (N 8), cv (adu ad 8 (N 8) q) 0 (V' 161 (N 8)) (N 8), cv (adu ad 8 (N 8) q) 2000 (V' 162 (N 8)) (N 8)]
    rw [h0, h1, h2]
    show _ = ([.int 0, .int 0, va_rf (qn (adu ad 8 (N 8) q 0) (-1))] : List Value)
    rw [qn_nullv]
  · have hf : f < 3 := hf
    rcases (show f = 0 ∨ f = 1 ∨ f = 2 by omega) with rfl | rfl | rfl
    · trivial
    · trivial
    · show V' 162 (N 8) = -1 ∨ _
      exact Or.inl h2
theorem mk_Call (hb : ¬ 100000 ≤ N 1) (hp1 : vp_in a2 (N 5)) (eV : (cs (cs V 20 (N 1) a1) 21 (N 1) a2) = V') (eL : lput L 17 (N 1) [] = L') (eN : nup N 1 = N') (ead : ad' = adu (adu ad 1 (N 1) q) 17 (N 1) q2) (hG : cx D dA A V L N ad (xs ++ [(q, .inr (4, [.int a1, .ref (ad 5 a2.toNatClampNeg), .ref q2]))] ++ [(q2, .inr (2, [.int 0, .ref (dA 99), .int 0]))]) H) : cx D dA A V' L' N' ad' xs H := by
  subst eN
  subst ead
  subst eL
  have h0 : V' 20 (N 1) = a1 := by rw [← eV]; rw [cs_col rfl, cs_at]
  have h1 : V' 21 (N 1) = a2 := by rw [← eV]; rw [cs_at]
  refine cx_new2 (k := 1) (lk := 17) (by omega) hG (fun k' i f h1 h2 h3 => ?_) ?_ (fun f hf => ?_) (cnum_nup hG.2.2.2.2.2.2.2.2.1 hb (by decide) (fun _ => by decide) (fun z => absurd z (by decide)) (fun z => absurd z (by decide)))
  · rw [← eV, cs_new (k := 1) (f0 := 1) (by decide) h2 h3, cs_new (k := 1) (f0 := 0) (by decide) h2 h3]
  · show _ = [cv (adu (adu ad 1 (N 1) q) 17 (N 1) q2) 0 (V' 20 (N 1)) (N 1), cv (adu (adu ad 1 (N 1) q) 17 (N 1) q2) 1005 (V' 21 (N 1)) (N 1), cv (adu (adu ad 1 (N 1) q) 17 (N 1) q2) 3017 (V' 22 (N 1)) (N 1)]
    rw [h0, h1]
    show _ = ([.int a1, .ref ((adu (adu ad 1 (N 1) q) 17 (N 1) q2) 5 a2.toNatClampNeg), .ref ((adu (adu ad 1 (N 1) q) 17 (N 1) q2) 17 (N 1))] : List Value)
    rw [adu_ne (k' := 5) (i' := a2.toNatClampNeg) (ad := adu ad 1 (N 1) q) (by omega), adu_ne (k' := 5) (i' := a2.toNatClampNeg) (ad := ad) (by omega), adu_self]
  · have hf : f < 3 := hf
    rcases (show f = 0 ∨ f = 1 ∨ f = 2 by omega) with rfl | rfl | rfl
    · trivial
    · show vp_in (V' 21 (N 1)) (nup N 1 5)
      rw [h1, nup_ne (by decide)]
      exact hp1
    · trivial
theorem mk_Leg0 (hb : ¬ 100000 ≤ N 4) {b9 : Int32} (hp1 : vp_in a2 (N 5)) (hp2 : vp_in a3 (N 1)) (hp3 : vp_in a4 (N 9)) (hs : ad 8 (N 4) = q1) (h48 : N 4 < N 8) (eV : (cs (cs (cs (cs (cs (cs (cs (cs (cs (cs V 80 (N 4) a1) 81 (N 4) a2) 82 (N 4) a3) 83 (N 4) a4) 84 (N 4) a5) 87 (N 4) 0) 88 (N 4) 0) 89 (N 4) 0) 90 (N 4) 0) 91 (N 4) b9) = V') (eL : lput L 18 (N 4) [] = L') (eN : nup N 4 = N') (ead : ad' = adu (adu ad 4 (N 4) q) 18 (N 4) q2) (hG : cx D dA A V L N ad (xs ++ [(q, .inr (7, [.int a1, .ref (ad 5 a2.toNatClampNeg), .ref (ad 1 a3.toNatClampNeg), .ref (ad 9 a4.toNatClampNeg), .int a5, .ref q1, .ref q2, .int 0, .int 0, .int 0, .int 0, .int b9]))] ++ [(q2, .inr (2, [.int 0, .ref (dA 99), .int 0]))]) H) : cx D dA A V' L' N' ad' xs H := by
  subst eN
  subst ead
  subst eL
  have h0 : V' 80 (N 4) = a1 := by rw [← eV]; rw [cs_col rfl, cs_col rfl, cs_col rfl, cs_col rfl, cs_col rfl, cs_col rfl, cs_col rfl, cs_col rfl, cs_col rfl, cs_at]
  have h1 : V' 81 (N 4) = a2 := by rw [← eV]; rw [cs_col rfl, cs_col rfl, cs_col rfl, cs_col rfl, cs_col rfl, cs_col rfl, cs_col rfl, cs_col rfl, cs_at]
  have h2 : V' 82 (N 4) = a3 := by rw [← eV]; rw [cs_col rfl, cs_col rfl, cs_col rfl, cs_col rfl, cs_col rfl, cs_col rfl, cs_col rfl, cs_at]
  have h3 : V' 83 (N 4) = a4 := by rw [← eV]; rw [cs_col rfl, cs_col rfl, cs_col rfl, cs_col rfl, cs_col rfl, cs_col rfl, cs_at]
  have h4 : V' 84 (N 4) = a5 := by rw [← eV]; rw [cs_col rfl, cs_col rfl, cs_col rfl, cs_col rfl, cs_col rfl, cs_at]
  have h7 : V' 87 (N 4) = 0 := by rw [← eV]; rw [cs_col rfl, cs_col rfl, cs_col rfl, cs_col rfl, cs_at]
  have h8 : V' 88 (N 4) = 0 := by rw [← eV]; rw [cs_col rfl, cs_col rfl, cs_col rfl, cs_at]
  have h9 : V' 89 (N 4) = 0 := by rw [← eV]; rw [cs_col rfl, cs_col rfl, cs_at]
  have h10 : V' 90 (N 4) = 0 := by rw [← eV]; rw [cs_col rfl, cs_at]
  have h11 : V' 91 (N 4) = b9 := by rw [← eV]; rw [cs_at]
  refine cx_new2 (k := 4) (lk := 18) (by omega) hG (fun k' i f h1 h2 h3 => ?_) ?_ (fun f hf => ?_) (cnum_nup hG.2.2.2.2.2.2.2.2.1 hb (by decide) (fun _ => by decide) (fun _ => h48) (fun z => absurd z (by decide)))
  · rw [← eV, cs_new (k := 4) (f0 := 11) (by decide) h2 h3, cs_new (k := 4) (f0 := 10) (by decide) h2 h3, cs_new (k := 4) (f0 := 9) (by decide) h2 h3, cs_new (k := 4) (f0 := 8) (by decide) h2 h3, cs_new (k := 4) (f0 := 7) (by decide) h2 h3, cs_new (k := 4) (f0 := 4) (by decide) h2 h3, cs_new (k := 4) (f0 := 3) (by decide) h2 h3, cs_new (k := 4) (f0 := 2) (by decide) h2 h3, cs_new (k := 4) (f0 := 1) (by decide) h2 h3, cs_new (k := 4) (f0 := 0) (by decide) h2 h3]
  · show _ = [cv (adu (adu ad 4 (N 4) q) 18 (N 4) q2) 0 (V' 80 (N 4)) (N 4), cv (adu (adu ad 4 (N 4) q) 18 (N 4) q2) 1005 (V' 81 (N 4)) (N 4), cv (adu (adu ad 4 (N 4) q) 18 (N 4) q2) 1001 (V' 82 (N 4)) (N 4), cv (adu (adu ad 4 (N 4) q) 18 (N 4) q2) 1009 (V' 83 (N 4)) (N 4), cv (adu (adu ad 4 (N 4) q) 18 (N 4) q2) 0 (V' 84 (N 4)) (N 4), cv (adu (adu ad 4 (N 4) q) 18 (N 4) q2) 3008 (V' 85 (N 4)) (N 4), cv (adu (adu ad 4 (N 4) q) 18 (N 4) q2) 3018 (V' 86 (N 4)) (N 4), cv (adu (adu ad 4 (N 4) q) 18 (N 4) q2) 0 (V' 87 (N 4)) (N 4), cv (adu (adu ad 4 (N 4) q) 18 (N 4) q2) 0 (V' 88 (N 4)) (N 4), cv (adu (adu ad 4 (N 4) q) 18 (N 4) q2) 0 (V' 89 (N 4)) (N 4), cv (adu (adu ad 4 (N 4) q) 18 (N 4) q2) 0 (V' 90 (N 4)) (N 4), cv (adu (adu ad 4 (N 4) q) 18 (N 4) q2) 0 (V' 91 (N 4)) (N 4)]
    rw [h0, h1, h2, h3, h4, h7, h8, h9, h10, h11]
    show _ = ([.int a1, .ref ((adu (adu ad 4 (N 4) q) 18 (N 4) q2) 5 a2.toNatClampNeg), .ref ((adu (adu ad 4 (N 4) q) 18 (N 4) q2) 1 a3.toNatClampNeg), .ref ((adu (adu ad 4 (N 4) q) 18 (N 4) q2) 9 a4.toNatClampNeg), .int a5, .ref ((adu (adu ad 4 (N 4) q) 18 (N 4) q2) 8 (N 4)), .ref ((adu (adu ad 4 (N 4) q) 18 (N 4) q2) 18 (N 4)), .int 0, .int 0, .int 0, .int 0, .int b9] : List Value)
    rw [adu_ne (k' := 5) (i' := a2.toNatClampNeg) (ad := adu ad 4 (N 4) q) (by omega), adu_ne (k' := 5) (i' := a2.toNatClampNeg) (ad := ad) (by omega), adu_ne (k' := 1) (i' := a3.toNatClampNeg) (ad := adu ad 4 (N 4) q) (by omega), adu_ne (k' := 1) (i' := a3.toNatClampNeg) (ad := ad) (by omega), adu_ne (k' := 9) (i' := a4.toNatClampNeg) (ad := adu ad 4 (N 4) q) (by omega), adu_ne (k' := 9) (i' := a4.toNatClampNeg) (ad := ad) (by omega), adu_ne (k' := 8) (i' := (N 4)) (ad := adu ad 4 (N 4) q) (by omega), adu_ne (k' := 8) (i' := (N 4)) (ad := ad) (by omega), hs, adu_self]
  · have hf : f < 12 := hf
    rcases (show f = 0 ∨ f = 1 ∨ f = 2 ∨ f = 3 ∨ f = 4 ∨ f = 5 ∨ f = 6 ∨ f = 7 ∨ f = 8 ∨ f = 9 ∨ f = 10 ∨ f = 11 by omega) with rfl | rfl | rfl | rfl | rfl | rfl | rfl | rfl | rfl | rfl | rfl | rfl
    · trivial
    · show vp_in (V' 81 (N 4)) (nup N 4 5)
      rw [h1, nup_ne (by decide)]
      exact hp1
    · show vp_in (V' 82 (N 4)) (nup N 4 1)
      rw [h2, nup_ne (by decide)]
      exact hp2
    · show vp_in (V' 83 (N 4)) (nup N 4 9)
      rw [h3, nup_ne (by decide)]
      exact hp3
    · trivial
    · trivial
    · trivial
    · trivial
    · trivial
    · trivial
    · trivial
    · trivial
theorem mk_Leg {b9 : Int32} (hb : ¬ (100000 ≤ N 4 ∨ ¬ N 8 = N 4)) (hp1 : vp_in a2 (N 5)) (hp2 : vp_in a3 (N 1)) (hp3 : vp_in a4 (N 9)) (eV : (cs (cs (cs (cs (cs (cs (cs (cs (cs (cs (cs (cs (cs V 160 (N 4) 0) 161 (N 4) 0) 162 (N 4) (-1)) 80 (N 4) a1) 81 (N 4) a2) 82 (N 4) a3) 83 (N 4) a4) 84 (N 4) a5) 87 (N 4) 0) 88 (N 4) 0) 89 (N 4) 0) 90 (N 4) 0) 91 (N 4) b9) = V') (eL : lput L 18 (N 4) [] = L') (eN : nup (nup N 8) 4 = N') (ead : ad' = adu (adu (adu ad 8 (N 4) q1) 4 (N 4) q) 18 (N 4) q2) (hG : cx D dA A V L N ad (xs ++ [(q, .inr (7, [.int a1, .ref (ad 5 a2.toNatClampNeg), .ref (ad 1 a3.toNatClampNeg), .ref (ad 9 a4.toNatClampNeg), .int a5, .ref q1, .ref q2, .int 0, .int 0, .int 0, .int 0, .int b9]))] ++ [(q1, .inr (11, [.int 0, .int 0, .null]))] ++ [(q2, .inr (2, [.int 0, .ref (dA 99), .int 0]))]) H) : cx D dA A V' L' N' ad' xs H := by
  have hb1 : ¬ 100000 ≤ N 4 := fun z => hb (Or.inl z)
  have h84 : N 8 = N 4 := Decidable.byContradiction (fun z => hb (Or.inr z))
  have e4 : nup N 8 4 = N 4 := nup_ne (by decide)
  have hG2 := mk_Slice (N := N) (by rw [h84]; exact hb1) rfl rfl rfl (cx_swap hG)
  rw [← e4] at hb1 eV eL ead
  have e8 : N 8 = nup N 8 4 := by rw [e4, h84]
  rw [e8] at hG2
  have hne : ∀ k, k ≠ 8 → ∀ x : Int32, adu ad 8 (nup N 8 4) q1 k x.toNatClampNeg = ad k x.toNatClampNeg := fun k hk x => adu_ne (fun z => hk z.1)
  refine mk_Leg0 (N := nup N 8) (q1 := q1) (q := q) (q2 := q2) (xs := xs) (ad := adu ad 8 (nup N 8 4) q1) hb1 (by rw [nup_ne (by decide)]; exact hp1) (by rw [nup_ne (by decide)]; exact hp2) (by rw [nup_ne (by decide)]; exact hp3) adu_self (by rw [e4, nup_self]; omega) eV eL eN ead ?_
  rw [hne 5 (by decide), hne 1 (by decide), hne 9 (by decide)]
  exact hG2
end MK
