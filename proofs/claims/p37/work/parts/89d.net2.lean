/-! THE LAW'S OWN WALK: the steps of a net -/
/-- what stays from step to step -/
def JK (σ : GS) (ρ : Rho) (k : Nat) : Prop := ∃ γ ε M t nw, JJ σ ρ γ ε M t nw ∧ t ≤ 2 * k ∧ nw ≤ 200 * k ∧ M ≤ 20000 * k
section NU
variable {p : Program} {l : Launch} {e : Env} {s : State} {m : MethodId} {args : Array Value} {below : List Frame} {meth : Method} {c : Code} {D : va_G} {dA : Nat → ClassId} {A : Nat → Prop} {ar : Nat → Nat} {ob b Ls : Nat} {sc : Nat → Int32} {cells slots pc at0 k x y : Nat} {Q : State → Prop} {lo : List (Nat × Value)} {rest : List Value} {G : Heap → Prop}
variable {V : Rho} {L : Lst} {N : Cnt} {a ρ : Rho} {t nw M : Nat} {γ : Nat → Nat → Nat} {ε : Nat → Int32} {σ : GS}
theorem n_113 (X : zc p l s m args meth c cL_net RL D dA A) (Y : zY s A b Ls sc) (hml : c.maxLocals = 9) (h : JK σ ρ k) (hk : k < 80) {wh : Nat} (hwh : wh < 30) (hx : x < 2 ^ 30) (hy : y < 2 ^ 30) (hcs : nCs (E26 ρ) k cells slots)
    (kk : ∀ σ' ρ' cells slots, JK σ' ρ' (k + 1) → nCs (E26 ρ') (k + 1) cells slots → zz p l e nRm s m args below meth c A (gw D dA A σ' ob ar) cells slots Q 27 [(0, .ref b), (1, .int (nI at0)), (2, .ref ob), (3, .ref (ar 0)), (4, .ref (ar 1)), (5, .ref (ar 2)), (6, .int (nI (k + 1)))] [] []) : zz p l e nRm s m args below meth c A (gw D dA A σ ob ar) cells slots Q 113 [(0, .ref b), (1, .int (nI at0)), (2, .ref ob), (3, .ref (ar 0)), (4, .ref (ar 1)), (5, .ref (ar 2)), (6, .int (nI k)), (7, .int (nI x)), (8, .int (nI y))] [] [.int (nI wh), .ref ob] := by
  obtain ⟨hc1, hc2⟩ := hcs
  obtain ⟨γ, ε, M, t, nw, hJ, b1, b2, b3⟩ := h
  obtain ⟨⟨V, L, N⟩, a⟩ := σ
  obtain ⟨d, σ', ρ', γ', ε', M', t', nw', ⟨g1, g2, g3⟩, hs, hJ', hE⟩ := w_step hJ (by omega) (by omega) (by omega) hwh hx hy
  obtain ⟨⟨V', L', N'⟩, a'⟩ := σ'
  obtain ⟨a2, γ2, ε2, hl, hJ2⟩ := w_areLegs hJ' (by omega) (by omega)
  have hE80 : E26 ρ' ≤ 80 := E26_le
  refine z_iload X dL_net_113 rfl ?_
  refine z_iload X dL_net_115 rfl ?_
  refine z_aload_n X dL_net_117 rfl rfl ?_
  refine z_aload X dL_net_118 rfl ?_
  refine z_aload X dL_net_120 rfl ?_
  refine z_lSi (As := [.ref ob, .int (nI wh), .int (nI x), .int (nI y), .ref (ar 0), .ref (ar 1), .ref (ar 2)]) (rest := []) (nA := 7) (mc := 4 * d + 27) (ms := 1826 * d + 13082) (r0 := 1) (pu := fun (_ : Unit) => True) (G1 := fun _ => gw D dA A ((V', L', N'), a') ob ar) X Y (ll_step l X.2.2.2.2.2.2.2.2 X.2.2.2.2.2.2.1 Y.2.2.2 hs) n_307 n_308 n_0 n_309 nh_yL_step ⟨rfl, rfl, Nat.le_of_ble_eq_true rfl, Nat.le_of_ble_eq_true rfl⟩ rfl rfl (Nat.le_of_ble_eq_true rfl) dL_net_122 ⟨by show _ ≤ 23264; omega, by show _ ≤ 1785057; omega⟩ (fun _ _ => ?_)
  refine z_if_eq (tgt := 140) X dL_net_125 (by decide) (fun z => absurd z (by decide)) (fun _ => ?_)
  refine z_aload_n X dL_net_128 rfl rfl ?_
  refine z_aload_n X dL_net_129 rfl rfl ?_
  refine z_aload X dL_net_130 rfl ?_
  refine z_aload X dL_net_132 rfl ?_
  refine z_lSi (As := [.ref ob, .ref (ar 0), .ref (ar 1), .ref (ar 2)]) (rest := []) (nA := 4) (mc := 0) (ms := 0) (r0 := 1) (pu := fun (_ : Unit) => True) (G1 := fun _ => gw D dA A ((V', L', N'), a2) ob ar) X Y (ll_areLegs l X.2.2.2.2.2.2.2.2 X.2.2.2.2.2.2.1 Y.2.2.2 hl) n_893 n_894 n_0 n_895 nh_yL_areLegs ⟨rfl, rfl, Nat.le_of_ble_eq_true rfl, Nat.le_of_ble_eq_true rfl⟩ rfl rfl (Nat.le_of_ble_eq_true rfl) dL_net_134 ⟨by show _ ≤ 23264; omega, by show _ ≤ 1785057; omega⟩ (fun _ _ => ?_)
  refine z_if_ne (tgt := 142) X dL_net_137 (by decide) (fun z => absurd z (by decide)) (fun _ => ?_)
  exact n_142 X Y hml hJ2 (by omega) (by omega) hk hy ⟨by omega, by omega⟩ (fun cells slots hc => kk _ _ cells slots ⟨γ2, ε2, M', t', nw', hJ2, by omega, by omega, by omega⟩ hc)
theorem n_27 (X : zc p l s m args meth c cL_net RL D dA A) (Y : zY s A b Ls sc) (hml : c.maxLocals = 9) (hL : Ls < 2 ^ 31) (hat : at0 ≤ 1000)
    (kend : ∀ σ ρ cells slots, JK σ ρ 80 → nCs (E26 ρ) 80 cells slots → zz p l e nRm s m args below meth c A (gw D dA A σ ob ar) cells slots Q 217 [(0, .ref b), (1, .int (nI at0)), (2, .ref ob), (3, .ref (ar 0)), (4, .ref (ar 1)), (5, .ref (ar 2)), (6, .int (nI 80))] [] []) (n : Nat) : ∀ (k : Nat) (σ : GS) (ρ : Rho) (cells slots : Nat), k + n = 80 → JK σ ρ k → nCs (E26 ρ) k cells slots → zz p l e nRm s m args below meth c A (gw D dA A σ ob ar) cells slots Q 27 [(0, .ref b), (1, .int (nI at0)), (2, .ref ob), (3, .ref (ar 0)), (4, .ref (ar 1)), (5, .ref (ar 2)), (6, .int (nI k))] [] [] := by
  induction n with
  | zero =>
    intro k σ ρ cells slots h1 h hc
    obtain rfl : k = 80 := by omega
    refine z_iload X dL_net_27 rfl ?_
    refine z_bipush (v := 80) X dL_net_29 (by decide) ?_
    refine z_icmp_ge (tgt := 217) X dL_net_31 (by decide) (fun _ => kend σ ρ cells slots h hc) (fun q => absurd (show (80 : Int32) ≤ nI 80 by decide) q)
  | succ n ih =>
    intro k σ ρ cells slots h1 h hc
    have hk : k < 80 := by omega
    have hE80 : E26 ρ ≤ 80 := E26_le
    obtain ⟨hc1, hc2⟩ := id hc
    have e30 : (1073741824 : Int32) = nI 1073741824 := by decide
    have ei : ∀ q : Nat, nI at0 + 3 * nI k + nI q = nI (at0 + 3 * k + q) := fun q => by
      rw [show (3 : Int32) = nI 3 from rfl, pk_mul, nI_add, nI_add]
    have ei0 : nI at0 + 3 * nI k = nI (at0 + 3 * k) := by
      rw [show (3 : Int32) = nI 3 from rfl, pk_mul, nI_add]
    refine z_iload X dL_net_27 rfl ?_
    refine z_bipush (v := 80) X dL_net_29 (by decide) ?_
    refine z_icmp_ge (tgt := 217) X dL_net_31 (by decide) (fun q => absurd q (nI_ge (b := 80) hk (by decide))) (fun _ => ?_)
    refine z_aload_n X dL_net_34 rfl rfl ?_
    refine z_iload_n X dL_net_35 rfl rfl ?_
    refine z_iconst (v := 3) X dL_net_36 (by decide) ?_
    refine z_iload X dL_net_37 rfl ?_
    refine z_imul X dL_net_39 ?_
    refine z_iadd X dL_net_40 ?_
    refine z_iconst (v := nI 1) X dL_net_41 (by decide) ?_
    refine z_iadd X dL_net_42 ?_
    refine z_ldc X n_300 dL_net_43 ?_
    rw [ei, e30]
    refine z_draw X Y hL (by omega) (by decide) (by decide) (Nat.le_of_ble_eq_true rfl) dL_net_45 ⟨by omega, by omega⟩ (fun x hx => ?_)
    refine z_istore (lo' := [(7, .int (nI x)), (0, .ref b), (1, .int (nI at0)), (2, .ref ob), (3, .ref (ar 0)), (4, .ref (ar 1)), (5, .ref (ar 2)), (6, .int (nI k))]) X dL_net_48 (by rw [hml]; decide) rfl rfl ?_
    refine z_aload_n X dL_net_50 rfl rfl ?_
    refine z_iload_n X dL_net_51 rfl rfl ?_
    refine z_iconst (v := 3) X dL_net_52 (by decide) ?_
    refine z_iload X dL_net_53 rfl ?_
    refine z_imul X dL_net_55 ?_
    refine z_iadd X dL_net_56 ?_
    refine z_iconst (v := nI 2) X dL_net_57 (by decide) ?_
    refine z_iadd X dL_net_58 ?_
    refine z_ldc X n_300 dL_net_59 ?_
    rw [ei, e30]
    refine z_draw X Y hL (by omega) (by decide) (by decide) (Nat.le_of_ble_eq_true rfl) dL_net_61 ⟨by omega, by omega⟩ (fun y hy => ?_)
    refine z_istore (lo' := [(8, .int (nI y)), (7, .int (nI x)), (0, .ref b), (1, .int (nI at0)), (2, .ref ob), (3, .ref (ar 0)), (4, .ref (ar 1)), (5, .ref (ar 2)), (6, .int (nI k))]) X dL_net_64 (by rw [hml]; decide) rfl rfl ?_
    refine zz.pick (lo' := [(0, .ref b), (1, .int (nI at0)), (2, .ref ob), (3, .ref (ar 0)), (4, .ref (ar 1)), (5, .ref (ar 2)), (6, .int (nI k)), (7, .int (nI x)), (8, .int (nI y))]) [0, 1, 2, 3, 4, 5, 6, 7, 8] rfl ?_
    have go : ∀ wh, wh < 30 → zz p l e nRm s m args below meth c A (gw D dA A σ ob ar) cells slots Q 113 [(0, .ref b), (1, .int (nI at0)), (2, .ref ob), (3, .ref (ar 0)), (4, .ref (ar 1)), (5, .ref (ar 2)), (6, .int (nI k)), (7, .int (nI x)), (8, .int (nI y))] [] [.int (nI wh), .ref ob] := fun wh hwh => n_113 X Y hml h hk hwh hx hy hc (fun σ' ρ' cells slots h' hc' => ih (k + 1) σ' ρ' cells slots (by omega) h' hc')
    refine z_aload_n X dL_net_66 rfl rfl ?_
    refine z_iload X dL_net_67 rfl ?_
    refine z_iconst (v := 2) X dL_net_69 (by decide) ?_
    refine z_icmp_ge (tgt := 78) X dL_net_70 (by decide) (fun _ => ?_) (fun _ => ?_)
    · refine z_iload X dL_net_78 rfl ?_
      refine z_bipush (v := 6) X dL_net_80 (by decide) ?_
      refine z_icmp_ge (tgt := 90) X dL_net_82 (by decide) (fun _ => ?_) (fun _ => ?_)
      · refine z_iload X dL_net_90 rfl ?_
        refine z_bipush (v := 9) X dL_net_92 (by decide) ?_
        refine z_icmp_ge (tgt := 101) X dL_net_94 (by decide) (fun _ => ?_) (fun _ => ?_)
        · refine z_aload_n X dL_net_101 rfl rfl ?_
          refine z_iload_n X dL_net_102 rfl rfl ?_
          refine z_iconst (v := 3) X dL_net_103 (by decide) ?_
          refine z_iload X dL_net_104 rfl ?_
          refine z_imul X dL_net_106 ?_
          refine z_iadd X dL_net_107 ?_
          refine z_bipush (v := nI 30) X dL_net_108 (by decide) ?_
          rw [ei0]
          exact z_draw X Y hL (by omega) (by decide) (by decide) (Nat.le_of_ble_eq_true rfl) dL_net_110 ⟨by omega, by omega⟩ (fun wh hwh => go wh hwh)
        · refine z_iconst (v := nI 0) X dL_net_97 (by decide) ?_
          refine z_goto (tgt := 113) X dL_net_98 (by decide) ?_
          exact go 0 (by decide)
      · refine z_bipush (v := nI 12) X dL_net_85 (by decide) ?_
        refine z_goto (tgt := 113) X dL_net_87 (by decide) ?_
        exact go 12 (by decide)
    · refine z_bipush (v := nI 22) X dL_net_73 (by decide) ?_
      refine z_goto (tgt := 113) X dL_net_75 (by decide) ?_
      exact go 22 (by decide)
end NU
