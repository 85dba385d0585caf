/-! THE LAW'S OWN WALK: a net -/
abbrev nRm : Room := { frames := 18, cells := 23264, slots := 1785057, locals := 756 }
/-- what a net has used when k steps are done, E legs being over -/
def nCs (E k cells slots : Nat) : Prop := cells ≤ 64 + 27 * k + 4 * E + 1036 * (k / 4) ∧ slots ≤ 417 + 13082 * k + 1826 * E + 29600 * (k / 4)
section NT
variable {p : Program} {l : Launch} {e : Env} {s : State} {m : MethodId} {args : Array Value} {below : List Frame} {meth : Method} {c : Code} {D : va_G} {dA : Nat → ClassId} {A : Nat → Prop} {ar : Nat → Nat} {ob b Ls : Nat} {sc : Nat → Int32} {cells slots pc at0 k x y : Nat} {Q : State → Prop} {lo : List (Nat × Value)} {rest : List Value} {G : Heap → Prop}
variable {V : Rho} {L : Lst} {N : Cnt} {a ρ : Rho} {t nw M : Nat} {γ : Nat → Nat → Nat} {ε : Nat → Int32} {σ : GS}
theorem dr_ok (hL : Ls < 2 ^ 31) {n d : Nat} (hn : n < 2 ^ 31) (hd0 : 0 < d) (hd : d < 2 ^ 31) : ∃ r, r < d ∧ fl_draw Ls sc σ (nI n) (nI d) = some (nI r) := by
  have key : ∀ x : Int32, ∃ r, r < d ∧ fl_draw_23 Ls sc σ (nI d) x = some (nI r) := fun x => by
    obtain ⟨j, hj, ej⟩ := pk_andE x (m := 2147483647) 31 (by decide)
    refine ⟨j % d, Nat.mod_lt _ hd0, ?_⟩
    unfold fl_draw_23
    rw [if_neg (nI_ne0 hd0 hd), ej, pk_rem hj hd0 hd]
  unfold fl_draw
  by_cases h : Int32.ofNat Ls ≤ nI n
  · rw [if_pos h]
    exact key _
  · have hlt : n < Ls := by
      rcases Nat.lt_or_ge n Ls with z | z
      · exact z
      · exact absurd (show nI Ls ≤ nI n from nI_le z hn) h
    rw [if_neg h, nI_clamp hn, if_neg (ng hlt hL)]
    exact key _
theorem z_draw (X : zc p l s m args meth c cL_net RL D dA A) (Y : zY s A b Ls sc) (hL : Ls < 2 ^ 31) {n d : Nat} (hn : n < 2 ^ 31) (hd0 : 0 < d) (hd : d < 2 ^ 31) (hcat : (rest.map fun v => v.category).sum ≤ 8) (hdg : decode cL_net pc = .ok (.invokestatic 165, 3)) (hf : cells ≤ 23264 ∧ slots ≤ 1785057)
    (kk : ∀ r, r < d → zz p l e nRm s m args below meth c A (gw D dA A σ ob ar) cells slots Q (pc + 3) lo [] (.int (nI r) :: rest)) : zz p l e nRm s m args below meth c A (gw D dA A σ ob ar) cells slots Q pc lo [] (.int (nI d) :: .int (nI n) :: .ref b :: rest) := by
  obtain ⟨r, hr, er⟩ := dr_ok (sc := sc) (σ := σ) hL hn hd0 hd
  exact z_lSi (As := [.ref b, .int (nI n), .int (nI d)]) (rest := rest) (nA := 3) (mc := 0) (ms := 0) (r0 := nI r) (pu := fun (_ : Unit) => True) (G1 := fun _ => gw D dA A σ ob ar) X Y (ll_draw l X.2.2.2.2.2.2.2.2 X.2.2.2.2.2.2.1 Y.2.2.2 er) n_301 n_302 n_0 n_303 nh_yL_draw ⟨rfl, rfl, Nat.le_of_ble_eq_true rfl, Nat.le_of_ble_eq_true rfl⟩ rfl rfl hcat hdg hf (fun _ _ => kk r hr)
/-- a step is done: the next -/
theorem n_211 (X : zc p l s m args meth c cL_net RL D dA A) (hml : c.maxLocals = 9) (kk : zz p l e nRm s m args below meth c A G cells slots Q 27 [(0, .ref b), (1, .int (nI at0)), (2, .ref ob), (3, .ref (ar 0)), (4, .ref (ar 1)), (5, .ref (ar 2)), (6, .int (nI (k + 1)))] [] []) : zz p l e nRm s m args below meth c A G cells slots Q 211 [(0, .ref b), (1, .int (nI at0)), (2, .ref ob), (3, .ref (ar 0)), (4, .ref (ar 1)), (5, .ref (ar 2)), (6, .int (nI k)), (7, .int (nI x)), (8, .int (nI y))] [] [] := by
  refine z_iinc (v := nI (k + 1)) X dL_net_211 rfl (nI_1 k) (by rw [hml]; decide) rfl rfl ?_
  refine z_goto (tgt := 27) X dL_net_214 (by decide) ?_
  refine zz.pick (lo' := [(0, .ref b), (1, .int (nI at0)), (2, .ref ob), (3, .ref (ar 0)), (4, .ref (ar 1)), (5, .ref (ar 2)), (6, .int (nI (k + 1)))]) [0, 1, 2, 3, 4, 5, 6] rfl ?_
  exact kk
/-- a line, every fourth step -/
theorem n_177 (X : zc p l s m args meth c cL_net RL D dA A) (Y : zY s A b Ls sc) (hml : c.maxLocals = 9) (h : JJ ((V, L, N), a) ρ γ ε M t nw) (hk : k < 80) (hy : y < 2 ^ 30) (hcs : cells ≤ 64 + 27 * (k + 1) + 4 * E26 ρ + 1036 * (k / 4) ∧ slots ≤ 417 + 13082 * (k + 1) + 1826 * E26 ρ + 29600 * (k / 4))
    (kk : ∀ cells slots, nCs (E26 ρ) (k + 1) cells slots → zz p l e nRm s m args below meth c A (gw D dA A ((V, L, N), a) ob ar) cells slots Q 27 [(0, .ref b), (1, .int (nI at0)), (2, .ref ob), (3, .ref (ar 0)), (4, .ref (ar 1)), (5, .ref (ar 2)), (6, .int (nI (k + 1)))] [] []) : zz p l e nRm s m args below meth c A (gw D dA A ((V, L, N), a) ob ar) cells slots Q 177 [(0, .ref b), (1, .int (nI at0)), (2, .ref ob), (3, .ref (ar 0)), (4, .ref (ar 1)), (5, .ref (ar 2)), (6, .int (nI k)), (7, .int (nI x)), (8, .int (nI y))] [] [] := by
  have hE : E26 ρ ≤ 80 := E26_le
  have c2 : a 2 2 = nI (N 4) := h.2.2.1.2.2.1
  have n64 : N 4 ≤ 64 := h.2.2.2
  have go : zz p l e nRm s m args below meth c A (gw D dA A ((V, L, N), a) ob ar) cells slots Q 211 [(0, .ref b), (1, .int (nI at0)), (2, .ref ob), (3, .ref (ar 0)), (4, .ref (ar 1)), (5, .ref (ar 2)), (6, .int (nI k)), (7, .int (nI x)), (8, .int (nI y))] [] [] := n_211 X hml (kk _ _ ⟨by omega, by omega⟩)
  refine z_iload X dL_net_177 rfl ?_
  refine z_iconst (v := 4) X dL_net_179 (by decide) ?_
  refine z_irem X dL_net_180 (by decide) ?_
  rw [rmd 4 (show k < 2 ^ 31 by omega) (by decide) (by decide)]
  refine z_iconst (v := 3) X dL_net_181 (by decide) ?_
  refine z_icmp_ne (tgt := 211) X dL_net_182 (by decide) (fun q => ?_) (fun _ => go)
  have hk3 : k % 4 = 3 := pn_inj (b := 3) (by omega) (by omega) q
  refine z_aload X dL_net_185 rfl ?_
  refine z_iconst (v := 2) X dL_net_187 (by decide) ?_
  refine l_ald X 2 (by decide) (by decide) dL_net_188 ?_
  rw [show (((V, L, N), a) : GS).2 2 (2 : Int32).toNatClampNeg = nI (N 4) from c2]
  refine z_if_le (tgt := 211) X dL_net_189 (by decide) (fun _ => go) (fun q0 => ?_)
  have hn4 : 0 < N 4 := by
    rcases Nat.eq_zero_or_pos (N 4) with z | z
    · exact absurd (show nI (N 4) ≤ 0 by rw [z]; decide) q0
    · exact z
  have hmod := Nat.mod_lt (y / 5) hn4
  refine z_aload_n X dL_net_192 rfl rfl ?_
  refine z_iload X dL_net_193 rfl ?_
  refine z_iconst (v := 5) X dL_net_195 (by decide) ?_
  refine z_idiv X dL_net_196 (by decide) ?_
  rw [dvd9 5 (show y < 2 ^ 31 by omega) (by decide) (by decide)]
  refine z_aload X dL_net_197 rfl ?_
  refine z_iconst (v := 2) X dL_net_199 (by decide) ?_
  refine l_ald X 2 (by decide) (by decide) dL_net_200 ?_
  rw [show (((V, L, N), a) : GS).2 2 (2 : Int32).toNatClampNeg = nI (N 4) from c2]
  refine z_irem X dL_net_201 (nI_ne0 hn4 (by omega)) ?_
  rw [pk_rem (show y / 5 < 2 ^ 31 by omega) hn4 (by omega)]
  refine z_aload_n X dL_net_202 rfl rfl ?_
  refine z_lSi (As := [.ref ob, .int (nI (y / 5 % N 4)), .ref (ar 0)]) (rest := []) (nA := 3) (mc := 1036) (ms := 29600) (r0 := 1) (pu := fun (_ : Unit) => True) (G1 := fun _ => gw D dA A ((V, L, N), a) ob ar) X Y (ll_isLine l X.2.2.2.2.2.2.2.2 X.2.2.2.2.2.2.1 Y.2.2.2 (w_isLine h hmod)) n_967 n_968 n_0 n_969 nh_yL_isLine ⟨rfl, rfl, Nat.le_of_ble_eq_true rfl, Nat.le_of_ble_eq_true rfl⟩ rfl rfl (Nat.le_of_ble_eq_true rfl) dL_net_203 ⟨by show _ ≤ 23264; omega, by show _ ≤ 1785057; omega⟩ (fun _ _ => ?_)
  refine z_if_ne (tgt := 211) X dL_net_206 (by decide) (fun z => absurd z (by decide)) (fun _ => ?_)
  exact n_211 X hml (kk _ _ ⟨by omega, by omega⟩)
/-- calls, every fifth step -/
theorem n_159 (X : zc p l s m args meth c cL_net RL D dA A) (Y : zY s A b Ls sc) (hml : c.maxLocals = 9) (h : JJ ((V, L, N), a) ρ γ ε M t nw) (ht : t ≤ 500) (hk : k < 80) (hy : y < 2 ^ 30) (hcs : cells ≤ 64 + 27 * (k + 1) + 4 * E26 ρ + 1036 * (k / 4) ∧ slots ≤ 417 + 13082 * (k + 1) + 1826 * E26 ρ + 29600 * (k / 4))
    (kk : ∀ cells slots, nCs (E26 ρ) (k + 1) cells slots → zz p l e nRm s m args below meth c A (gw D dA A ((V, L, N), a) ob ar) cells slots Q 27 [(0, .ref b), (1, .int (nI at0)), (2, .ref ob), (3, .ref (ar 0)), (4, .ref (ar 1)), (5, .ref (ar 2)), (6, .int (nI (k + 1)))] [] []) : zz p l e nRm s m args below meth c A (gw D dA A ((V, L, N), a) ob ar) cells slots Q 159 [(0, .ref b), (1, .int (nI at0)), (2, .ref ob), (3, .ref (ar 0)), (4, .ref (ar 1)), (5, .ref (ar 2)), (6, .int (nI k)), (7, .int (nI x)), (8, .int (nI y))] [] [] := by
  have hE : E26 ρ ≤ 80 := E26_le
  refine z_iload X dL_net_159 rfl ?_
  refine z_iconst (v := 5) X dL_net_161 (by decide) ?_
  refine z_irem X dL_net_162 (by decide) ?_
  refine z_iconst (v := 4) X dL_net_163 (by decide) ?_
  refine z_icmp_ne (tgt := 177) X dL_net_164 (by decide) (fun q => ?_) (fun _ => n_177 X Y hml h hk hy hcs kk)
  refine z_aload_n X dL_net_167 rfl rfl ?_
  refine z_aload_n X dL_net_168 rfl rfl ?_
  refine z_aload X dL_net_169 rfl ?_
  refine z_lSi (As := [.ref ob, .ref (ar 0), .ref (ar 2)]) (rest := []) (nA := 3) (mc := 0) (ms := 0) (r0 := 1) (pu := fun (_ : Unit) => True) (G1 := fun _ => gw D dA A ((V, L, N), a) ob ar) X Y (ll_areCalls l X.2.2.2.2.2.2.2.2 X.2.2.2.2.2.2.1 Y.2.2.2 (w_areCalls h ht)) n_960 n_961 n_0 n_962 nh_yL_areCalls ⟨rfl, rfl, Nat.le_of_ble_eq_true rfl, Nat.le_of_ble_eq_true rfl⟩ rfl rfl (Nat.le_of_ble_eq_true rfl) dL_net_171 ⟨by show _ ≤ 23264; omega, by show _ ≤ 1785057; omega⟩ (fun _ _ => ?_)
  refine z_if_eq (tgt := 209) X dL_net_174 (by decide) (fun z => absurd z (by decide)) (fun _ => ?_)
  exact n_177 X Y hml h hk hy hcs kk
/-- money, every third step -/
theorem n_142 (X : zc p l s m args meth c cL_net RL D dA A) (Y : zY s A b Ls sc) (hml : c.maxLocals = 9) (h : JJ ((V, L, N), a) ρ γ ε M t nw) (ht : t ≤ 500) (hM : M ≤ 5000000) (hk : k < 80) (hy : y < 2 ^ 30) (hcs : cells ≤ 64 + 27 * (k + 1) + 4 * E26 ρ + 1036 * (k / 4) ∧ slots ≤ 417 + 13082 * (k + 1) + 1826 * E26 ρ + 29600 * (k / 4))
    (kk : ∀ cells slots, nCs (E26 ρ) (k + 1) cells slots → zz p l e nRm s m args below meth c A (gw D dA A ((V, L, N), a) ob ar) cells slots Q 27 [(0, .ref b), (1, .int (nI at0)), (2, .ref ob), (3, .ref (ar 0)), (4, .ref (ar 1)), (5, .ref (ar 2)), (6, .int (nI (k + 1)))] [] []) : zz p l e nRm s m args below meth c A (gw D dA A ((V, L, N), a) ob ar) cells slots Q 142 [(0, .ref b), (1, .int (nI at0)), (2, .ref ob), (3, .ref (ar 0)), (4, .ref (ar 1)), (5, .ref (ar 2)), (6, .int (nI k)), (7, .int (nI x)), (8, .int (nI y))] [] [] := by
  have hE : E26 ρ ≤ 80 := E26_le
  refine z_iload X dL_net_142 rfl ?_
  refine z_iconst (v := 3) X dL_net_144 (by decide) ?_
  refine z_irem X dL_net_145 (by decide) ?_
  refine z_iconst (v := 2) X dL_net_146 (by decide) ?_
  refine z_icmp_ne (tgt := 159) X dL_net_147 (by decide) (fun q => ?_) (fun _ => n_159 X Y hml h ht hk hy hcs kk)
  refine z_aload_n X dL_net_150 rfl rfl ?_
  refine z_aload X dL_net_151 rfl ?_
  refine z_lSi (As := [.ref ob, .ref (ar 2)]) (rest := []) (nA := 2) (mc := 0) (ms := 0) (r0 := 1) (pu := fun (_ : Unit) => True) (G1 := fun _ => gw D dA A ((V, L, N), a) ob ar) X Y (ll_isWhole l X.2.2.2.2.2.2.2.2 X.2.2.2.2.2.2.1 Y.2.2.2 (w_isWhole h ht hM)) n_941 n_942 n_0 n_943 nh_yL_isWhole ⟨rfl, rfl, Nat.le_of_ble_eq_true rfl, Nat.le_of_ble_eq_true rfl⟩ rfl rfl (Nat.le_of_ble_eq_true rfl) dL_net_153 ⟨by show _ ≤ 23264; omega, by show _ ≤ 1785057; omega⟩ (fun _ _ => ?_)
  refine z_if_eq (tgt := 209) X dL_net_156 (by decide) (fun z => absurd z (by decide)) (fun _ => ?_)
  exact n_159 X Y hml h ht hk hy hcs kk
end NT
