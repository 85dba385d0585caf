-- thrown()I
def fr_thrown (ρ : Rho)  : Option (Int32) := some ((ρ 39 0))
-- can(I)Z
def fr_can (ρ : Rho) (a1 : Int32) : Option (Rho × Int32) := (some (cs ρ 39 0 (a1))).bind fun ρ1 => (if a1 = 0 then some (ρ1, 1)
  else some (ρ1, 0))
-- isIn(III)Z
def fr_isIn (ρ : Rho) (a1 : Int32) (a2 : Int32) (a3 : Int32) : Option (Int32) := (if a1 < a2 then some (0)
  else (if a3 < a1 then some (0)
  else some (1)))
-- isCell(I)Z
def fr_isCell (ρ : Rho) (a1 : Int32) : Option (Int32) := (fr_isIn ρ (a1) (0) (7)).bind fun o1 => if o1 = 0 ∨ o1 = 1 then some (o1) else none
-- isPhone(I)Z
def fr_isPhone (ρ : Rho) (a1 : Int32) : Option (Int32) := (fr_isIn ρ (a1) (0) (9)).bind fun o1 => if o1 = 0 ∨ o1 = 1 then some (o1) else none
-- isWallet(I)Z
def fr_isWallet (ρ : Rho) (a1 : Int32) : Option (Int32) := (fr_isIn ρ (a1) (0) (3)).bind fun o1 => if o1 = 0 ∨ o1 = 1 then some (o1) else none
-- isZone(I)Z
def fr_isZone (ρ : Rho) (a1 : Int32) : Option (Int32) := (fr_isIn ρ (a1) (0) (2)).bind fun o1 => if o1 = 0 ∨ o1 = 1 then some (o1) else none
-- isCall(I)Z
def fr_isCall (ρ : Rho) (a1 : Int32) : Option (Int32) := (fr_isIn ρ (a1) (0) (((ρ 20 0) - 1))).bind fun o1 => if o1 = 0 ∨ o1 = 1 then some (o1) else none
-- isLeg(I)Z
def fr_isLeg (ρ : Rho) (a1 : Int32) : Option (Int32) := (fr_isIn ρ (a1) (0) (((ρ 22 0) - 1))).bind fun o1 => if o1 = 0 ∨ o1 = 1 then some (o1) else none
-- setZone(II)I
def fr_setZone_35 (ρ : Rho) (v1 : Int32) (v2 : Int32) (s1 : Int32) : Option (Rho × Int32) := (fr_can ρ (s1)).bind fun o1 => (if o1.2 = 0 then some (o1.1, 0)
  else if v1 < 0 ∨ 8 ≤ (v1).toNatClampNeg then none else (some ((o1.1 2 (v1).toNatClampNeg))).bind fun x3 => if v1 < 0 ∨ 8 ≤ (v1).toNatClampNeg then none else (some (cs o1.1 2 (v1).toNatClampNeg (v2))).bind fun ρ4 => some (ρ4, x3))
def fr_setZone (ρ : Rho) (a1 : Int32) (a2 : Int32) : Option (Rho × Int32) := (fr_isCell ρ (a1)).bind fun o1 => (if o1 = 0 then fr_setZone_35 ρ a1 a2 1
  else (fr_isZone ρ (a2)).bind fun o2 => (if o2 = 0 then fr_setZone_35 ρ a1 a2 2
  else (if (ρ 20 0) ≤ 0 then fr_setZone_35 ρ a1 a2 0
  else fr_setZone_35 ρ a1 a2 3)))
-- legsIn(I)I
def fr_legsIn_36 (k4 : Rho → Int32 → Int32 → Int32 → Option (Int32)) (ρ : Rho) (v1 : Int32) (v3 : Int32) (s0 : Int32) (s1 : Int32) : Option (Int32) := (some ((s0 + s1))).bind fun x1 => (some (v3 + 1)).bind fun x2 => k4 ρ v1 x1 x2
def fr_legsIn_35 (k4 : Rho → Int32 → Int32 → Int32 → Option (Int32)) (ρ : Rho) (v1 : Int32) (v3 : Int32) (s0 : Int32) : Option (Int32) := fr_legsIn_36 k4 ρ v1 v3 s0 0
def fr_legsIn_4 : Nat → Rho → Int32 → Int32 → Int32 → Option (Int32)
  | 0, _, _, _, _ => none
  | n + 1, ρ, v1, v2, v3 => (if 10 ≤ v3 then some (v2)
  else if v3 < 0 ∨ 10 ≤ (v3).toNatClampNeg then none else (if (ρ 9 (v3).toNatClampNeg) = (-1) then fr_legsIn_35 (fr_legsIn_4 n) ρ v1 v3 v2
  else if v3 < 0 ∨ 10 ≤ (v3).toNatClampNeg then none else (if (ρ 6 (v3).toNatClampNeg) = v1 then fr_legsIn_36 (fr_legsIn_4 n) ρ v1 v3 v2 1
  else fr_legsIn_35 (fr_legsIn_4 n) ρ v1 v3 v2)))
def fr_legsIn (ρ : Rho) (a1 : Int32) : Option (Int32) := fr_legsIn_4 FU ρ a1 0 0
-- setChannels(III)I
def fr_setChannels_48 (ρ : Rho) (v1 : Int32) (v2 : Int32) (v3 : Int32) (s1 : Int32) : Option (Rho × Int32) := (fr_can ρ (s1)).bind fun o1 => (if o1.2 = 0 then some (o1.1, 0)
  else if v1 < 0 ∨ 8 ≤ (v1).toNatClampNeg then none else (some (cs o1.1 3 (v1).toNatClampNeg (v2))).bind fun ρ2 => if v1 < 0 ∨ 8 ≤ (v1).toNatClampNeg then none else (some (cs ρ2 4 (v1).toNatClampNeg (v3))).bind fun ρ4 => (fr_legsIn ρ4 (v1)).bind fun o6 => some (ρ4, o6))
def fr_setChannels_24 (ρ : Rho) (v1 : Int32) (v2 : Int32) (v3 : Int32) (s0 : Int32) : Option (Rho × Int32) := (fr_isCell ρ (v1)).bind fun o1 => (if o1 = 0 then fr_setChannels_48 ρ v1 v2 v3 1
  else (if s0 = 0 then fr_setChannels_48 ρ v1 v2 v3 2
  else fr_setChannels_48 ρ v1 v2 v3 0))
def fr_setChannels_23 (ρ : Rho) (v1 : Int32) (v2 : Int32) (v3 : Int32) : Option (Rho × Int32) := fr_setChannels_24 ρ v1 v2 v3 0
def fr_setChannels (ρ : Rho) (a1 : Int32) (a2 : Int32) (a3 : Int32) : Option (Rho × Int32) := (fr_isIn ρ (a2) (0) (10)).bind fun o1 => (if o1 = 0 then fr_setChannels_23 ρ a1 a2 a3
  else (fr_isIn ρ (a3) (0) (a2)).bind fun o2 => (if o2 = 0 then fr_setChannels_23 ρ a1 a2 a3
  else fr_setChannels_24 ρ a1 a2 a3 1))
-- setRate(IZI)I
def fr_setRate_41 (ρ : Rho) (v1 : Int32) (v3 : Int32) (s0 : Int32) : Option (Rho × Int32) := (some ((s0 + v1))).bind fun x1 => if x1 < 0 ∨ 6 ≤ (x1).toNatClampNeg then none else (some ((ρ 5 (x1).toNatClampNeg))).bind fun x3 => if x1 < 0 ∨ 6 ≤ (x1).toNatClampNeg then none else (some (cs ρ 5 (x1).toNatClampNeg (v3))).bind fun ρ4 => some (ρ4, x3)
def fr_setRate_24 (ρ : Rho) (v1 : Int32) (v2 : Int32) (v3 : Int32) (s1 : Int32) : Option (Rho × Int32) := (fr_can ρ (s1)).bind fun o1 => (if o1.2 = 0 then some (o1.1, 0)
  else (if v2 = 0 then fr_setRate_41 o1.1 v1 v3 0
  else fr_setRate_41 o1.1 v1 v3 3))
def fr_setRate_23 (ρ : Rho) (v1 : Int32) (v2 : Int32) (v3 : Int32) : Option (Rho × Int32) := fr_setRate_24 ρ v1 v2 v3 1
def fr_setRate (ρ : Rho) (a1 : Int32) (a2 : Int32) (a3 : Int32) : Option (Rho × Int32) := (fr_isZone ρ (a1)).bind fun o1 => (if o1 = 0 then fr_setRate_23 ρ a1 a2 a3
  else (fr_isIn ρ (a3) (0) (1000)).bind fun o2 => (if o2 = 0 then fr_setRate_23 ρ a1 a2 a3
  else fr_setRate_24 ρ a1 a2 a3 0))
-- setSlice(I)I
def fr_setSlice_16 (ρ : Rho) (v1 : Int32) (s1 : Int32) : Option (Rho × Int32) := (fr_can ρ (s1)).bind fun o1 => (if o1.2 = 0 then some (o1.1, 0)
  else (some ((o1.1 1 0))).bind fun x2 => (some (cs o1.1 1 0 (v1))).bind fun ρ3 => some (ρ3, x2))
def fr_setSlice (ρ : Rho) (a1 : Int32) : Option (Rho × Int32) := (fr_isIn ρ (a1) (1) (100)).bind fun o1 => (if o1 = 0 then fr_setSlice_16 ρ a1 1
  else fr_setSlice_16 ρ a1 0)
-- setCap(II)I
def fr_setCap_27 (ρ : Rho) (v1 : Int32) (v2 : Int32) (s1 : Int32) : Option (Rho × Int32) := (fr_can ρ (s1)).bind fun o1 => (if o1.2 = 0 then some (o1.1, 0)
  else if v1 < 0 ∨ 10 ≤ (v1).toNatClampNeg then none else (some ((o1.1 8 (v1).toNatClampNeg))).bind fun x3 => if v1 < 0 ∨ 10 ≤ (v1).toNatClampNeg then none else (some (cs o1.1 8 (v1).toNatClampNeg (v2))).bind fun ρ4 => some (ρ4, x3))
def fr_setCap (ρ : Rho) (a1 : Int32) (a2 : Int32) : Option (Rho × Int32) := (fr_isPhone ρ (a1)).bind fun o1 => (if o1 = 0 then fr_setCap_27 ρ a1 a2 1
  else (fr_isIn ρ (a2) ((-1)) (1000000)).bind fun o2 => (if o2 = 0 then fr_setCap_27 ρ a1 a2 2
  else fr_setCap_27 ρ a1 a2 0))
-- setWallet(II)I
def fr_setWallet_44 (ρ : Rho) (v1 : Int32) (v2 : Int32) (s1 : Int32) : Option (Rho × Int32) := (fr_can ρ (s1)).bind fun o1 => (if o1.2 = 0 then some (o1.1, 0)
  else if v1 < 0 ∨ 10 ≤ (v1).toNatClampNeg then none else (some ((o1.1 7 (v1).toNatClampNeg))).bind fun x3 => if v1 < 0 ∨ 10 ≤ (v1).toNatClampNeg then none else (some (cs o1.1 7 (v1).toNatClampNeg (v2))).bind fun ρ4 => some (ρ4, x3))
def fr_setWallet_19 (ρ : Rho) (v1 : Int32) (v2 : Int32) (s0 : Int32) : Option (Rho × Int32) := (if s0 = 0 then fr_setWallet_44 ρ v1 v2 1
  else if v1 < 0 ∨ 10 ≤ (v1).toNatClampNeg then none else (if (ρ 9 (v1).toNatClampNeg) = (-1) then fr_setWallet_44 ρ v1 v2 0
  else fr_setWallet_44 ρ v1 v2 2))
def fr_setWallet_18 (ρ : Rho) (v1 : Int32) (v2 : Int32) : Option (Rho × Int32) := fr_setWallet_19 ρ v1 v2 0
def fr_setWallet (ρ : Rho) (a1 : Int32) (a2 : Int32) : Option (Rho × Int32) := (fr_isPhone ρ (a1)).bind fun o1 => (if o1 = 0 then fr_setWallet_18 ρ a1 a2
  else (fr_isWallet ρ (a2)).bind fun o2 => (if o2 = 0 then fr_setWallet_18 ρ a1 a2
  else fr_setWallet_19 ρ a1 a2 1))
-- top(II)I
def fr_top_27 (ρ : Rho) (v1 : Int32) (v2 : Int32) (s1 : Int32) : Option (Rho × Int32) := (fr_can ρ (s1)).bind fun o1 => (if o1.2 = 0 then some (o1.1, 0)
  else if v1 < 0 ∨ 4 ≤ (v1).toNatClampNeg then none else if v1 < 0 ∨ 4 ≤ (v1).toNatClampNeg then none else (some (cs o1.1 12 (v1).toNatClampNeg (((o1.1 12 (v1).toNatClampNeg) + v2)))).bind fun ρ3 => if v1 < 0 ∨ 4 ≤ (v1).toNatClampNeg then none else some (ρ3, (ρ3 12 (v1).toNatClampNeg)))
def fr_top (ρ : Rho) (a1 : Int32) (a2 : Int32) : Option (Rho × Int32) := (fr_isWallet ρ (a1)).bind fun o1 => (if o1 = 0 then fr_top_27 ρ a1 a2 1
  else (fr_isIn ρ (a2) (1) (1000000)).bind fun o2 => (if o2 = 0 then fr_top_27 ρ a1 a2 2
  else fr_top_27 ρ a1 a2 0))
-- give(III)I
def fr_give_77 (ρ : Rho) (v1 : Int32) (v2 : Int32) (v3 : Int32) (s1 : Int32) : Option (Rho × Int32) := (fr_can ρ (s1)).bind fun o1 => (if o1.2 = 0 then some (o1.1, 0)
  else if v1 < 0 ∨ 4 ≤ (v1).toNatClampNeg then none else if v1 < 0 ∨ 4 ≤ (v1).toNatClampNeg then none else (some (cs o1.1 12 (v1).toNatClampNeg (((o1.1 12 (v1).toNatClampNeg) - v3)))).bind fun ρ3 => if v2 < 0 ∨ 4 ≤ (v2).toNatClampNeg then none else if v2 < 0 ∨ 4 ≤ (v2).toNatClampNeg then none else (some (cs ρ3 12 (v2).toNatClampNeg (((ρ3 12 (v2).toNatClampNeg) + v3)))).bind fun ρ6 => if v1 < 0 ∨ 4 ≤ (v1).toNatClampNeg then none else some (ρ6, (ρ6 12 (v1).toNatClampNeg)))
def fr_give_41 (ρ : Rho) (v1 : Int32) (v2 : Int32) (v3 : Int32) (v4 : Int32) (s0 : Int32) : Option (Rho × Int32) := (if v4 = 0 then fr_give_77 ρ v1 v2 v3 1
  else (if s0 = 0 then fr_give_77 ρ v1 v2 v3 2
  else if v1 < 0 ∨ 4 ≤ (v1).toNatClampNeg then none else (if v3 ≤ (ρ 12 (v1).toNatClampNeg) then fr_give_77 ρ v1 v2 v3 0
  else fr_give_77 ρ v1 v2 v3 3)))
def fr_give_40 (ρ : Rho) (v1 : Int32) (v2 : Int32) (v3 : Int32) (v4 : Int32) : Option (Rho × Int32) := fr_give_41 ρ v1 v2 v3 v4 0
def fr_give_19 (ρ : Rho) (v1 : Int32) (v2 : Int32) (v3 : Int32) (s0 : Int32) : Option (Rho × Int32) := (if v1 = v2 then fr_give_40 ρ v1 v2 v3 s0
  else (fr_isIn ρ (v3) (1) (1000000)).bind fun o1 => (if o1 = 0 then fr_give_40 ρ v1 v2 v3 s0
  else fr_give_41 ρ v1 v2 v3 s0 1))
def fr_give_18 (ρ : Rho) (v1 : Int32) (v2 : Int32) (v3 : Int32) : Option (Rho × Int32) := fr_give_19 ρ v1 v2 v3 0
def fr_give (ρ : Rho) (a1 : Int32) (a2 : Int32) (a3 : Int32) : Option (Rho × Int32) := (fr_isWallet ρ (a1)).bind fun o1 => (if o1 = 0 then fr_give_18 ρ a1 a2 a3
  else (fr_isWallet ρ (a2)).bind fun o2 => (if o2 = 0 then fr_give_18 ρ a1 a2 a3
  else fr_give_19 ρ a1 a2 a3 1))
-- today()I
def fr_today (ρ : Rho)  : Option (Int32) := some (((ρ 0 0) / 2400))
-- buy(IIIIII)I
def fr_buy_107 (ρ : Rho) (v1 : Int32) (v2 : Int32) (v3 : Int32) (v4 : Int32) (v5 : Int32) (v6 : Int32) (s1 : Int32) : Option (Rho × Int32) := (fr_can ρ (s1)).bind fun o1 => (if o1.2 = 0 then some (o1.1, 0)
  else if v1 < 0 ∨ 4 ≤ (v1).toNatClampNeg then none else if v1 < 0 ∨ 4 ≤ (v1).toNatClampNeg then none else (some (cs o1.1 12 (v1).toNatClampNeg (((o1.1 12 (v1).toNatClampNeg) - v6)))).bind fun ρ3 => if (ρ3 14 0) < 0 ∨ 40 ≤ ((ρ3 14 0)).toNatClampNeg then none else (some (cs ρ3 15 ((ρ3 14 0)).toNatClampNeg (v1))).bind fun ρ5 => if (ρ5 14 0) < 0 ∨ 40 ≤ ((ρ5 14 0)).toNatClampNeg then none else (some (cs ρ5 16 ((ρ5 14 0)).toNatClampNeg (v2))).bind fun ρ7 => if (ρ7 14 0) < 0 ∨ 40 ≤ ((ρ7 14 0)).toNatClampNeg then none else (some (cs ρ7 17 ((ρ7 14 0)).toNatClampNeg (v3))).bind fun ρ9 => (fr_today ρ9).bind fun o11 => if (ρ9 14 0) < 0 ∨ 40 ≤ ((ρ9 14 0)).toNatClampNeg then none else (some (cs ρ9 18 ((ρ9 14 0)).toNatClampNeg ((o11 + v4)))).bind fun ρ12 => if (ρ12 14 0) < 0 ∨ 40 ≤ ((ρ12 14 0)).toNatClampNeg then none else (some (cs ρ12 19 ((ρ12 14 0)).toNatClampNeg (v5))).bind fun ρ14 => (some (cs ρ14 14 0 (((ρ14 14 0) + 1)))).bind fun ρ16 => some (ρ16, ((ρ16 14 0) - 1)))
def fr_buy_102 (ρ : Rho) (v1 : Int32) (v2 : Int32) (v3 : Int32) (v4 : Int32) (v5 : Int32) (v6 : Int32) : Option (Rho × Int32) := fr_buy_107 ρ v1 v2 v3 v4 v5 v6 3
def fr_buy_59 (ρ : Rho) (v1 : Int32) (v2 : Int32) (v3 : Int32) (v4 : Int32) (v5 : Int32) (v6 : Int32) (s0 : Int32) : Option (Rho × Int32) := (fr_isWallet ρ (v1)).bind fun o1 => (if o1 = 0 then fr_buy_107 ρ v1 v2 v3 v4 v5 v6 1
  else (if s0 = 0 then fr_buy_107 ρ v1 v2 v3 v4 v5 v6 2
  else if v1 < 0 ∨ 4 ≤ (v1).toNatClampNeg then none else (if (ρ 12 (v1).toNatClampNeg) < v6 then fr_buy_102 ρ v1 v2 v3 v4 v5 v6
  else (if (ρ 14 0) = 40 then fr_buy_102 ρ v1 v2 v3 v4 v5 v6
  else fr_buy_107 ρ v1 v2 v3 v4 v5 v6 0))))
def fr_buy_58 (ρ : Rho) (v1 : Int32) (v2 : Int32) (v3 : Int32) (v4 : Int32) (v5 : Int32) (v6 : Int32) : Option (Rho × Int32) := fr_buy_59 ρ v1 v2 v3 v4 v5 v6 0
def fr_buy (ρ : Rho) (a1 : Int32) (a2 : Int32) (a3 : Int32) (a4 : Int32) (a5 : Int32) (a6 : Int32) : Option (Rho × Int32) := (fr_isIn ρ (a2) (1) (7)).bind fun o1 => (if o1 = 0 then fr_buy_58 ρ a1 a2 a3 a4 a5 a6
  else (fr_isIn ρ (a3) (1) (5000)).bind fun o2 => (if o2 = 0 then fr_buy_58 ρ a1 a2 a3 a4 a5 a6
  else (fr_isIn ρ (a4) (1) (30)).bind fun o3 => (if o3 = 0 then fr_buy_58 ρ a1 a2 a3 a4 a5 a6
  else (fr_isIn ρ (a5) (0) (9)).bind fun o4 => (if o4 = 0 then fr_buy_58 ρ a1 a2 a3 a4 a5 a6
  else (fr_isIn ρ (a6) (0) (1000000)).bind fun o5 => (if o5 = 0 then fr_buy_58 ρ a1 a2 a3 a4 a5 a6
  else fr_buy_59 ρ a1 a2 a3 a4 a5 a6 1)))))
-- free(I)I
def fr_free_13 (ρ : Rho) (v1 : Int32) (s1 : Int32) : Option (Rho × Int32) := (fr_can ρ (s1)).bind fun o1 => (if o1.2 = 0 then some (o1.1, 0)
  else if v1 < 0 ∨ 4 ≤ (v1).toNatClampNeg then none else some (o1.1, (o1.1 12 (v1).toNatClampNeg)))
def fr_free (ρ : Rho) (a1 : Int32) : Option (Rho × Int32) := (fr_isWallet ρ (a1)).bind fun o1 => (if o1 = 0 then fr_free_13 ρ a1 1
  else fr_free_13 ρ a1 0)
-- moneyIn(I)I
def fr_moneyIn (ρ : Rho) (a1 : Int32) : Option (Int32) := if a1 < 0 ∨ 80 ≤ (a1).toNatClampNeg then none else (if (ρ 33 (a1).toNatClampNeg) = (-1) then if a1 < 0 ∨ 80 ≤ (a1).toNatClampNeg then none else if a1 < 0 ∨ 80 ≤ (a1).toNatClampNeg then none else some (((ρ 34 (a1).toNatClampNeg) * (ρ 35 (a1).toNatClampNeg)))
  else some (0))
-- aside(I)I
def fr_aside_32 (k4 : Rho → Int32 → Int32 → Int32 → Option (Rho × Int32)) (ρ : Rho) (v1 : Int32) (v3 : Int32) (s0 : Int32) (s1 : Int32) : Option (Rho × Int32) := (some ((s0 + s1))).bind fun x1 => (some (v3 + 1)).bind fun x2 => k4 ρ v1 x1 x2
def fr_aside_4 : Nat → Rho → Int32 → Int32 → Int32 → Option (Rho × Int32)
  | 0, _, _, _, _ => none
  | n + 1, ρ, v1, v2, v3 => (if (ρ 22 0) ≤ v3 then (fr_isWallet ρ (v1)).bind fun o1 => (if o1 = 0 then (fr_can ρ (1)).bind fun o2 => (if o2.2 = 0 then some (o2.1, 0)
  else some (o2.1, v2))
  else (fr_can ρ (0)).bind fun o3 => (if o3.2 = 0 then some (o3.1, 0)
  else some (o3.1, v2)))
  else if v3 < 0 ∨ 80 ≤ (v3).toNatClampNeg then none else (if (ρ 25 (v3).toNatClampNeg) = v1 then (fr_moneyIn ρ (v3)).bind fun o5 => fr_aside_32 (fr_aside_4 n) ρ v1 v3 v2 o5
  else fr_aside_32 (fr_aside_4 n) ρ v1 v3 v2 0))
def fr_aside (ρ : Rho) (a1 : Int32) : Option (Rho × Int32) := fr_aside_4 FU ρ a1 0 0
-- spent(I)I
def fr_spent_13 (ρ : Rho) (v1 : Int32) (s1 : Int32) : Option (Rho × Int32) := (fr_can ρ (s1)).bind fun o1 => (if o1.2 = 0 then some (o1.1, 0)
  else if v1 < 0 ∨ 4 ≤ (v1).toNatClampNeg then none else some (o1.1, (o1.1 13 (v1).toNatClampNeg)))
def fr_spent (ρ : Rho) (a1 : Int32) : Option (Rho × Int32) := (fr_isWallet ρ (a1)).bind fun o1 => (if o1 = 0 then fr_spent_13 ρ a1 1
  else fr_spent_13 ρ a1 0)
-- isOver(I)Z
def fr_isOver (ρ : Rho) (a1 : Int32) : Option (Int32) := (fr_today ρ).bind fun o1 => if a1 < 0 ∨ 40 ≤ (a1).toNatClampNeg then none else (if o1 < (ρ 18 (a1).toNatClampNeg) then some (0)
  else some (1))
-- left(I)I
def fr_left_20 (ρ : Rho) (v1 : Int32) (s1 : Int32) : Option (Rho × Int32) := (fr_can ρ (s1)).bind fun o1 => (if o1.2 = 0 then some (o1.1, 0)
  else (fr_isOver o1.1 (v1)).bind fun o2 => (if o2 = 0 then if v1 < 0 ∨ 40 ≤ (v1).toNatClampNeg then none else some (o1.1, (o1.1 17 (v1).toNatClampNeg))
  else some (o1.1, 0)))
def fr_left (ρ : Rho) (a1 : Int32) : Option (Rho × Int32) := (fr_isIn ρ (a1) (0) (((ρ 14 0) - 1))).bind fun o1 => (if o1 = 0 then fr_left_20 ρ a1 1
  else fr_left_20 ρ a1 0)
-- rateNow(I)I
def fr_rateNow_31 (ρ : Rho) (v1 : Int32) (s1 : Int32) : Option (Int32) := if v1 < 0 ∨ 10 ≤ (v1).toNatClampNeg then none else if (ρ 6 (v1).toNatClampNeg) < 0 ∨ 8 ≤ ((ρ 6 (v1).toNatClampNeg)).toNatClampNeg then none else if (s1 + (ρ 2 ((ρ 6 (v1).toNatClampNeg)).toNatClampNeg)) < 0 ∨ 6 ≤ ((s1 + (ρ 2 ((ρ 6 (v1).toNatClampNeg)).toNatClampNeg))).toNatClampNeg then none else some ((ρ 5 ((s1 + (ρ 2 ((ρ 6 (v1).toNatClampNeg)).toNatClampNeg))).toNatClampNeg))
def fr_rateNow (ρ : Rho) (a1 : Int32) : Option (Int32) := (fr_isIn ρ ((((ρ 0 0) / 100) - ((ρ 0 0) / 100) / 24 * 24)) (8) (19)).bind fun o1 => (if o1 = 0 then fr_rateNow_31 ρ a1 0
  else fr_rateNow_31 ρ a1 3)
-- goesBack(II)V
def fr_goesBack (ρ : Rho) (a1 : Int32) (a2 : Int32) : Option (Rho) := if a1 < 0 ∨ 80 ≤ (a1).toNatClampNeg then none else (some ((ρ 33 (a1).toNatClampNeg))).bind fun x2 => if a1 < 0 ∨ 80 ≤ (a1).toNatClampNeg then none else if a1 < 0 ∨ 80 ≤ (a1).toNatClampNeg then none else (some (cs ρ 34 (a1).toNatClampNeg (((ρ 34 (a1).toNatClampNeg) - a2)))).bind fun ρ4 => (if x2 = (-1) then if a1 < 0 ∨ 80 ≤ (a1).toNatClampNeg then none else if (ρ4 25 (a1).toNatClampNeg) < 0 ∨ 4 ≤ ((ρ4 25 (a1).toNatClampNeg)).toNatClampNeg then none else if a1 < 0 ∨ 80 ≤ (a1).toNatClampNeg then none else if (ρ4 25 (a1).toNatClampNeg) < 0 ∨ 4 ≤ ((ρ4 25 (a1).toNatClampNeg)).toNatClampNeg then none else (some (cs ρ4 12 ((ρ4 25 (a1).toNatClampNeg)).toNatClampNeg (((ρ4 12 ((ρ4 25 (a1).toNatClampNeg)).toNatClampNeg) + (a2 * (ρ4 35 (a1).toNatClampNeg)))))).bind fun ρ9 => some ρ9
  else (if x2 < 0 then some ρ4
  else if x2 < 0 ∨ 40 ≤ (x2).toNatClampNeg then none else if x2 < 0 ∨ 40 ≤ (x2).toNatClampNeg then none else (some (cs ρ4 17 (x2).toNatClampNeg (((ρ4 17 (x2).toNatClampNeg) + a2)))).bind fun ρ12 => some ρ12))
-- allGoesBack(I)V
def fr_allGoesBack (ρ : Rho) (a1 : Int32) : Option (Rho) := if a1 < 0 ∨ 80 ≤ (a1).toNatClampNeg then none else (fr_goesBack ρ (a1) ((ρ 34 (a1).toNatClampNeg))).bind fun o2 => if a1 < 0 ∨ 80 ≤ (a1).toNatClampNeg then none else (some (cs o2 33 (a1).toNatClampNeg ((-2)))).bind fun ρ3 => some ρ3
-- isAhead(II)Z
def fr_isAhead (ρ : Rho) (a1 : Int32) (a2 : Int32) : Option (Int32) := if a1 < 0 ∨ 40 ≤ (a1).toNatClampNeg then none else if a2 < 0 ∨ 40 ≤ (a2).toNatClampNeg then none else (if (ρ 19 (a1).toNatClampNeg) = (ρ 19 (a2).toNatClampNeg) then if a1 < 0 ∨ 40 ≤ (a1).toNatClampNeg then none else if a2 < 0 ∨ 40 ≤ (a2).toNatClampNeg then none else (if (ρ 18 (a2).toNatClampNeg) ≤ (ρ 18 (a1).toNatClampNeg) then some (0)
  else some (1))
  else if a1 < 0 ∨ 40 ≤ (a1).toNatClampNeg then none else if a2 < 0 ∨ 40 ≤ (a2).toNatClampNeg then none else (if (ρ 19 (a2).toNatClampNeg) ≤ (ρ 19 (a1).toNatClampNeg) then some (0)
  else some (1)))
-- bundleFor(I)I
def fr_bundleFor_114 (k22 : Rho → Int32 → Int32 → Int32 → Int32 → Option (Int32)) (ρ : Rho) (v1 : Int32) (v3 : Int32) (v4 : Int32) (s0 : Int32) : Option (Int32) := (some (v4 + 1)).bind fun x1 => k22 ρ v1 s0 v3 x1
def fr_bundleFor_113 (k22 : Rho → Int32 → Int32 → Int32 → Int32 → Option (Int32)) (ρ : Rho) (v1 : Int32) (v2 : Int32) (v3 : Int32) (v4 : Int32) : Option (Int32) := fr_bundleFor_114 k22 ρ v1 v3 v4 v2
def fr_bundleFor_108 (k22 : Rho → Int32 → Int32 → Int32 → Int32 → Option (Int32)) (ρ : Rho) (v1 : Int32) (v3 : Int32) (v4 : Int32) : Option (Int32) := fr_bundleFor_114 k22 ρ v1 v3 v4 v4
def fr_bundleFor_86 (k22 : Rho → Int32 → Int32 → Int32 → Int32 → Option (Int32)) (ρ : Rho) (v1 : Int32) (v2 : Int32) (v3 : Int32) (v4 : Int32) (s0 : Int32) : Option (Int32) := (if s0 = 0 then fr_bundleFor_113 k22 ρ v1 v2 v3 v4
  else (if v2 = (-1) then fr_bundleFor_108 k22 ρ v1 v3 v4
  else (fr_isAhead ρ (v4) (v2)).bind fun o1 => (if o1 = 0 then fr_bundleFor_113 k22 ρ v1 v2 v3 v4
  else fr_bundleFor_108 k22 ρ v1 v3 v4)))
def fr_bundleFor_85 (k22 : Rho → Int32 → Int32 → Int32 → Int32 → Option (Int32)) (ρ : Rho) (v1 : Int32) (v2 : Int32) (v3 : Int32) (v4 : Int32) : Option (Int32) := fr_bundleFor_86 k22 ρ v1 v2 v3 v4 0
def fr_bundleFor_22 : Nat → Rho → Int32 → Int32 → Int32 → Int32 → Option (Int32)
  | 0, _, _, _, _, _ => none
  | n + 1, ρ, v1, v2, v3, v4 => (if (ρ 14 0) ≤ v4 then some (v2)
  else if v4 < 0 ∨ 40 ≤ (v4).toNatClampNeg then none else if v1 < 0 ∨ 80 ≤ (v1).toNatClampNeg then none else (if (ρ 15 (v4).toNatClampNeg) = (ρ 25 (v1).toNatClampNeg) then if v4 < 0 ∨ 40 ≤ (v4).toNatClampNeg then none else (if (((ρ 16 (v4).toNatClampNeg) >>> (v3 &&& 31)) &&& 1) = 1 then (fr_isOver ρ (v4)).bind fun o4 => (if o4 = 0 then if v4 < 0 ∨ 40 ≤ (v4).toNatClampNeg then none else (if (ρ 17 (v4).toNatClampNeg) ≤ 0 then fr_bundleFor_85 (fr_bundleFor_22 n) ρ v1 v2 v3 v4
  else fr_bundleFor_86 (fr_bundleFor_22 n) ρ v1 v2 v3 v4 1)
  else fr_bundleFor_85 (fr_bundleFor_22 n) ρ v1 v2 v3 v4)
  else fr_bundleFor_85 (fr_bundleFor_22 n) ρ v1 v2 v3 v4)
  else fr_bundleFor_85 (fr_bundleFor_22 n) ρ v1 v2 v3 v4))
def fr_bundleFor (ρ : Rho) (a1 : Int32) : Option (Int32) := if a1 < 0 ∨ 80 ≤ (a1).toNatClampNeg then none else if (ρ 23 (a1).toNatClampNeg) < 0 ∨ 10 ≤ ((ρ 23 (a1).toNatClampNeg)).toNatClampNeg then none else if (ρ 6 ((ρ 23 (a1).toNatClampNeg)).toNatClampNeg) < 0 ∨ 8 ≤ ((ρ 6 ((ρ 23 (a1).toNatClampNeg)).toNatClampNeg)).toNatClampNeg then none else (some ((ρ 2 ((ρ 6 ((ρ 23 (a1).toNatClampNeg)).toNatClampNeg)).toNatClampNeg))).bind fun x4 => fr_bundleFor_22 FU ρ a1 (-1) x4 0
-- costToday(I)I
def fr_costToday (ρ : Rho) (a1 : Int32) : Option (Int32) := if a1 < 0 ∨ 10 ≤ (a1).toNatClampNeg then none else (fr_today ρ).bind fun o2 => (if (ρ 11 (a1).toNatClampNeg) = o2 then if a1 < 0 ∨ 10 ≤ (a1).toNatClampNeg then none else some ((ρ 10 (a1).toNatClampNeg))
  else some (0))
-- lets(II)I
def fr_lets (ρ : Rho) (a1 : Int32) (a2 : Int32) : Option (Int32) := if a1 < 0 ∨ 10 ≤ (a1).toNatClampNeg then none else (if (ρ 8 (a1).toNatClampNeg) = (-1) then some ((ρ 1 0))
  else if a1 < 0 ∨ 10 ≤ (a1).toNatClampNeg then none else (fr_costToday ρ (a1)).bind fun o3 => (some (((ρ 8 (a1).toNatClampNeg) - o3))).bind fun x4 => (if 0 ≤ x4 then if a2 = 0 then none else some ((x4 / a2))
  else some (0)))
-- giverTo(I)I
def fr_giverTo_115 (k4 : Rho → Int32 → Int32 → Int32 → Option (Int32)) (ρ : Rho) (v1 : Int32) (v3 : Int32) (s0 : Int32) : Option (Int32) := (some (v3 + 1)).bind fun x1 => k4 ρ v1 s0 x1
def fr_giverTo_114 (k4 : Rho → Int32 → Int32 → Int32 → Option (Int32)) (ρ : Rho) (v1 : Int32) (v2 : Int32) (v3 : Int32) : Option (Int32) := fr_giverTo_115 k4 ρ v1 v3 v2
def fr_giverTo_109 (k4 : Rho → Int32 → Int32 → Int32 → Option (Int32)) (ρ : Rho) (v1 : Int32) (v3 : Int32) (v4 : Int32) : Option (Int32) := fr_giverTo_115 k4 ρ v1 v3 v4
def fr_giverTo_83 (k4 : Rho → Int32 → Int32 → Int32 → Option (Int32)) (ρ : Rho) (v1 : Int32) (v2 : Int32) (v3 : Int32) (v4 : Int32) (s0 : Int32) : Option (Int32) := (if s0 = 0 then fr_giverTo_114 k4 ρ v1 v2 v3
  else (if v2 = (-1) then fr_giverTo_109 k4 ρ v1 v3 v4
  else (fr_moneyIn ρ (v4)).bind fun o1 => (fr_moneyIn ρ (v2)).bind fun o2 => (if o1 ≤ o2 then fr_giverTo_114 k4 ρ v1 v2 v3
  else fr_giverTo_109 k4 ρ v1 v3 v4)))
def fr_giverTo_82 (k4 : Rho → Int32 → Int32 → Int32 → Option (Int32)) (ρ : Rho) (v1 : Int32) (v2 : Int32) (v3 : Int32) (v4 : Int32) : Option (Int32) := fr_giverTo_83 k4 ρ v1 v2 v3 v4 0
def fr_giverTo_4 : Nat → Rho → Int32 → Int32 → Int32 → Option (Int32)
  | 0, _, _, _, _ => none
  | n + 1, ρ, v1, v2, v3 => (if 10 ≤ v3 then some (v2)
  else if v3 < 0 ∨ 10 ≤ (v3).toNatClampNeg then none else (some ((ρ 9 (v3).toNatClampNeg))).bind fun x2 => (if x2 = (-1) then fr_giverTo_82 (fr_giverTo_4 n) ρ v1 v2 v3 x2
  else (if x2 = v1 then fr_giverTo_82 (fr_giverTo_4 n) ρ v1 v2 v3 x2
  else if x2 < 0 ∨ 80 ≤ (x2).toNatClampNeg then none else if v1 < 0 ∨ 80 ≤ (v1).toNatClampNeg then none else (if (ρ 25 (x2).toNatClampNeg) = (ρ 25 (v1).toNatClampNeg) then if x2 < 0 ∨ 80 ≤ (x2).toNatClampNeg then none else (if (ρ 33 (x2).toNatClampNeg) = (-1) then if x2 < 0 ∨ 80 ≤ (x2).toNatClampNeg then none else (if (ρ 35 (x2).toNatClampNeg) ≤ 0 then fr_giverTo_82 (fr_giverTo_4 n) ρ v1 v2 v3 x2
  else if x2 < 0 ∨ 80 ≤ (x2).toNatClampNeg then none else (if (ρ 34 (x2).toNatClampNeg) < 2 then fr_giverTo_82 (fr_giverTo_4 n) ρ v1 v2 v3 x2
  else fr_giverTo_83 (fr_giverTo_4 n) ρ v1 v2 v3 x2 1))
  else fr_giverTo_82 (fr_giverTo_4 n) ρ v1 v2 v3 x2)
  else fr_giverTo_82 (fr_giverTo_4 n) ρ v1 v2 v3 x2))))
def fr_giverTo (ρ : Rho) (a1 : Int32) : Option (Int32) := fr_giverTo_4 FU ρ a1 (-1) 0
-- moneyFor(I)I
def fr_moneyFor_159 (ρ : Rho) (v1 : Int32) (v2 : Int32) (s0 : Int32) : Option (Rho × Int32) := if v1 < 0 ∨ 80 ≤ (v1).toNatClampNeg then none else if (ρ 25 (v1).toNatClampNeg) < 0 ∨ 4 ≤ ((ρ 25 (v1).toNatClampNeg)).toNatClampNeg then none else if (ρ 25 (v1).toNatClampNeg) < 0 ∨ 4 ≤ ((ρ 25 (v1).toNatClampNeg)).toNatClampNeg then none else (some (cs ρ 12 ((ρ 25 (v1).toNatClampNeg)).toNatClampNeg (((ρ 12 ((ρ 25 (v1).toNatClampNeg)).toNatClampNeg) - (s0 * v2))))).bind fun ρ3 => some (ρ3, s0)
def fr_moneyFor_145 (ρ : Rho) (v1 : Int32) (v2 : Int32) (v3 : Int32) (s0 : Int32) : Option (Rho × Int32) := (if s0 ≤ v3 then fr_moneyFor_159 ρ v1 v2 s0
  else fr_moneyFor_159 ρ v1 v2 v3)
def fr_moneyFor_107 (k62 : Rho → Int32 → Int32 → Int32 → Int32 → Option (Rho × Int32)) (ρ : Rho) (v1 : Int32) (v2 : Int32) (v3 : Int32) (s0 : Int32) : Option (Rho × Int32) := k62 ρ v1 v2 v3 s0
def fr_moneyFor_62 : Nat → Rho → Int32 → Int32 → Int32 → Int32 → Option (Rho × Int32)
  | 0, _, _, _, _, _ => none
  | n + 1, ρ, v1, v2, v3, v4 => (if v4 = (-1) then if v1 < 0 ∨ 80 ≤ (v1).toNatClampNeg then none else if (ρ 25 (v1).toNatClampNeg) < 0 ∨ 4 ≤ ((ρ 25 (v1).toNatClampNeg)).toNatClampNeg then none else if v2 = 0 then none else (some (((ρ 12 ((ρ 25 (v1).toNatClampNeg)).toNatClampNeg) / v2))).bind fun x4 => (if (ρ 1 0) ≤ x4 then fr_moneyFor_145 ρ v1 v2 v3 (ρ 1 0)
  else fr_moneyFor_145 ρ v1 v2 v3 x4)
  else if v4 < 0 ∨ 80 ≤ (v4).toNatClampNeg then none else (fr_goesBack ρ (v4) (((ρ 34 (v4).toNatClampNeg) / 2))).bind fun o6 => if v1 < 0 ∨ 80 ≤ (v1).toNatClampNeg then none else if (o6 25 (v1).toNatClampNeg) < 0 ∨ 4 ≤ ((o6 25 (v1).toNatClampNeg)).toNatClampNeg then none else (if v2 ≤ (o6 12 ((o6 25 (v1).toNatClampNeg)).toNatClampNeg) then fr_moneyFor_107 (fr_moneyFor_62 n) o6 v1 v2 v3 (-1)
  else (fr_giverTo o6 (v1)).bind fun o9 => fr_moneyFor_107 (fr_moneyFor_62 n) o6 v1 v2 v3 o9))
def fr_moneyFor_60 (ρ : Rho) (v1 : Int32) (v2 : Int32) (v3 : Int32) (s0 : Int32) : Option (Rho × Int32) := fr_moneyFor_62 FU ρ v1 v2 v3 s0
def fr_moneyFor_59 (ρ : Rho) (v1 : Int32) (v2 : Int32) (v3 : Int32) : Option (Rho × Int32) := fr_moneyFor_60 ρ v1 v2 v3 (-1)
def fr_moneyFor (ρ : Rho) (a1 : Int32) : Option (Rho × Int32) := if a1 < 0 ∨ 80 ≤ (a1).toNatClampNeg then none else (fr_rateNow ρ ((ρ 23 (a1).toNatClampNeg))).bind fun o2 => (if o2 = 0 then some (ρ, (ρ 1 0))
  else if a1 < 0 ∨ 80 ≤ (a1).toNatClampNeg then none else (fr_lets ρ ((ρ 23 (a1).toNatClampNeg)) (o2)).bind fun o4 => (if o4 ≤ 0 then fr_moneyFor_59 ρ a1 o2 o4
  else if a1 < 0 ∨ 80 ≤ (a1).toNatClampNeg then none else if (ρ 25 (a1).toNatClampNeg) < 0 ∨ 4 ≤ ((ρ 25 (a1).toNatClampNeg)).toNatClampNeg then none else (if o2 ≤ (ρ 12 ((ρ 25 (a1).toNatClampNeg)).toNatClampNeg) then fr_moneyFor_59 ρ a1 o2 o4
  else (fr_giverTo ρ (a1)).bind fun o7 => fr_moneyFor_60 ρ a1 o2 o4 o7)))
-- turned(I)I
def fr_turned (ρ : Rho) (a1 : Int32) : Option (Int32) := some (((a1 <<< (5 &&& 31)) ||| (((a1 : Int32).toUInt32 >>> ((27 : Int32).toUInt32 &&& Int32.toUInt32 31)).toInt32)))
-- notes(IIII)V
def fr_notes (ρ : Rho) (a1 : Int32) (a2 : Int32) (a3 : Int32) (a4 : Int32) : Option (Rho) := if a1 < 0 ∨ 80 ≤ (a1).toNatClampNeg then none else (fr_turned ρ ((ρ 31 (a1).toNatClampNeg))).bind fun o2 => if a1 < 0 ∨ 80 ≤ (a1).toNatClampNeg then none else (some (cs ρ 31 (a1).toNatClampNeg (((o2 + (31 * a3)) ^^^ ((8 * a2) + a4))))).bind fun ρ3 => some ρ3
-- stops(III)V
def fr_stops (ρ : Rho) (a1 : Int32) (a2 : Int32) (a3 : Int32) : Option (Rho) := (fr_allGoesBack ρ (a1)).bind fun o1 => if a1 < 0 ∨ 80 ≤ (a1).toNatClampNeg then none else (some (cs o1 26 (a1).toNatClampNeg (a2))).bind fun ρ2 => if a1 < 0 ∨ 80 ≤ (a1).toNatClampNeg then none else if (ρ2 23 (a1).toNatClampNeg) < 0 ∨ 10 ≤ ((ρ2 23 (a1).toNatClampNeg)).toNatClampNeg then none else (some (cs ρ2 9 ((ρ2 23 (a1).toNatClampNeg)).toNatClampNeg ((-1)))).bind fun ρ5 => if a1 < 0 ∨ 80 ≤ (a1).toNatClampNeg then none else (if (ρ5 32 (a1).toNatClampNeg) ≤ (ρ5 0 0) then (fr_notes ρ5 (a1) (2) ((ρ5 0 0)) (a3)).bind fun o8 => some o8
  else if a1 < 0 ∨ 80 ≤ (a1).toNatClampNeg then none else (fr_notes ρ5 (a1) (2) ((ρ5 32 (a1).toNatClampNeg)) (a3)).bind fun o10 => some o10)
-- partiesOf(I)I
def fr_partiesOf_41 (k4 : Rho → Int32 → Int32 → Int32 → Option (Int32)) (ρ : Rho) (v1 : Int32) (v3 : Int32) (s0 : Int32) (s1 : Int32) : Option (Int32) := (some ((s0 + s1))).bind fun x1 => (some (v3 + 1)).bind fun x2 => k4 ρ v1 x1 x2
def fr_partiesOf_40 (k4 : Rho → Int32 → Int32 → Int32 → Option (Int32)) (ρ : Rho) (v1 : Int32) (v3 : Int32) (s0 : Int32) : Option (Int32) := fr_partiesOf_41 k4 ρ v1 v3 s0 0
def fr_partiesOf_4 : Nat → Rho → Int32 → Int32 → Int32 → Option (Int32)
  | 0, _, _, _, _ => none
  | n + 1, ρ, v1, v2, v3 => (if 10 ≤ v3 then some (v2)
  else if v3 < 0 ∨ 10 ≤ (v3).toNatClampNeg then none else (if (ρ 9 (v3).toNatClampNeg) = (-1) then fr_partiesOf_40 (fr_partiesOf_4 n) ρ v1 v3 v2
  else if v3 < 0 ∨ 10 ≤ (v3).toNatClampNeg then none else if (ρ 9 (v3).toNatClampNeg) < 0 ∨ 80 ≤ ((ρ 9 (v3).toNatClampNeg)).toNatClampNeg then none else (if (ρ 24 ((ρ 9 (v3).toNatClampNeg)).toNatClampNeg) = v1 then fr_partiesOf_41 (fr_partiesOf_4 n) ρ v1 v3 v2 1
  else fr_partiesOf_40 (fr_partiesOf_4 n) ρ v1 v3 v2)))
def fr_partiesOf (ρ : Rho) (a1 : Int32) : Option (Int32) := fr_partiesOf_4 FU ρ a1 0 0
-- closes(III)V
def fr_closes_82 (k24 : Rho → Int32 → Int32 → Option (Rho)) (ρ : Rho) (v1 : Int32) (v4 : Int32) : Option (Rho) := (some (v4 + 1)).bind fun x1 => k24 ρ v1 x1
def fr_closes_24 : Nat → Rho → Int32 → Int32 → Option (Rho)
  | 0, _, _, _ => none
  | n + 1, ρ, v1, v4 => (if 10 ≤ v4 then some ρ
  else if v4 < 0 ∨ 10 ≤ (v4).toNatClampNeg then none else (if (ρ 9 (v4).toNatClampNeg) = (-1) then fr_closes_82 (fr_closes_24 n) ρ v1 v4
  else if v4 < 0 ∨ 10 ≤ (v4).toNatClampNeg then none else if (ρ 9 (v4).toNatClampNeg) < 0 ∨ 80 ≤ ((ρ 9 (v4).toNatClampNeg)).toNatClampNeg then none else if v1 < 0 ∨ 80 ≤ (v1).toNatClampNeg then none else (if (ρ 24 ((ρ 9 (v4).toNatClampNeg)).toNatClampNeg) = (ρ 24 (v1).toNatClampNeg) then if v4 < 0 ∨ 10 ≤ (v4).toNatClampNeg then none else if v4 < 0 ∨ 10 ≤ (v4).toNatClampNeg then none else (fr_stops ρ ((ρ 9 (v4).toNatClampNeg)) (1) ((ρ 6 (v4).toNatClampNeg))).bind fun o7 => fr_closes_82 (fr_closes_24 n) o7 v1 v4
  else fr_closes_82 (fr_closes_24 n) ρ v1 v4)))
def fr_closes (ρ : Rho) (a1 : Int32) (a2 : Int32) (a3 : Int32) : Option (Rho) := (fr_stops ρ (a1) (a2) (a3)).bind fun o1 => if a1 < 0 ∨ 80 ≤ (a1).toNatClampNeg then none else (fr_partiesOf o1 ((o1 24 (a1).toNatClampNeg))).bind fun o3 => (if o3 = 1 then fr_closes_24 FU o1 a1 0
  else some o1)
-- getsSlice(I)V
def fr_getsSlice_37 (ρ : Rho) (v1 : Int32) (v2 : Int32) (s0 : Int32) : Option (Rho) := if v2 < 0 ∨ 40 ≤ (v2).toNatClampNeg then none else if v2 < 0 ∨ 40 ≤ (v2).toNatClampNeg then none else (some (cs ρ 17 (v2).toNatClampNeg (((ρ 17 (v2).toNatClampNeg) - s0)))).bind fun ρ2 => if v1 < 0 ∨ 80 ≤ (v1).toNatClampNeg then none else (some (cs ρ2 33 (v1).toNatClampNeg (v2))).bind fun ρ4 => if v1 < 0 ∨ 80 ≤ (v1).toNatClampNeg then none else (some (cs ρ4 34 (v1).toNatClampNeg (s0))).bind fun ρ6 => some ρ6
def fr_getsSlice (ρ : Rho) (a1 : Int32) : Option (Rho) := (fr_bundleFor ρ (a1)).bind fun o1 => (if o1 = (-1) then (fr_moneyFor ρ (a1)).bind fun o2 => (some (o2.2)).bind fun x3 => if a1 < 0 ∨ 80 ≤ (a1).toNatClampNeg then none else (some (cs o2.1 33 (a1).toNatClampNeg ((-1)))).bind fun ρ4 => if a1 < 0 ∨ 80 ≤ (a1).toNatClampNeg then none else (some (cs ρ4 34 (a1).toNatClampNeg (x3))).bind fun ρ6 => if a1 < 0 ∨ 80 ≤ (a1).toNatClampNeg then none else (fr_rateNow ρ6 ((ρ6 23 (a1).toNatClampNeg))).bind fun o9 => if a1 < 0 ∨ 80 ≤ (a1).toNatClampNeg then none else (some (cs ρ6 35 (a1).toNatClampNeg (o9))).bind fun ρ10 => (if x3 = 0 then (some (cs ρ10 36 0 (((ρ10 36 0) + 1)))).bind fun ρ12 => if a1 < 0 ∨ 80 ≤ (a1).toNatClampNeg then none else if (ρ12 23 (a1).toNatClampNeg) < 0 ∨ 10 ≤ ((ρ12 23 (a1).toNatClampNeg)).toNatClampNeg then none else (fr_closes ρ12 (a1) (2) ((ρ12 6 ((ρ12 23 (a1).toNatClampNeg)).toNatClampNeg))).bind fun o15 => some o15
  else some ρ10)
  else if o1 < 0 ∨ 40 ≤ (o1).toNatClampNeg then none else (if (ρ 1 0) ≤ (ρ 17 (o1).toNatClampNeg) then fr_getsSlice_37 ρ a1 o1 (ρ 1 0)
  else if o1 < 0 ∨ 40 ≤ (o1).toNatClampNeg then none else fr_getsSlice_37 ρ a1 o1 (ρ 17 (o1).toNatClampNeg)))
-- begins(III)I
def fr_begins (ρ : Rho) (a1 : Int32) (a2 : Int32) (a3 : Int32) : Option (Rho × Int32) := (some ((ρ 22 0))).bind fun x1 => (some (cs ρ 22 0 (((ρ 22 0) + 1)))).bind fun ρ2 => if x1 < 0 ∨ 80 ≤ (x1).toNatClampNeg then none else (some (cs ρ2 23 (x1).toNatClampNeg (a1))).bind fun ρ3 => if x1 < 0 ∨ 80 ≤ (x1).toNatClampNeg then none else (some (cs ρ3 24 (x1).toNatClampNeg (a2))).bind fun ρ5 => if x1 < 0 ∨ 80 ≤ (x1).toNatClampNeg then none else (some (cs ρ5 25 (x1).toNatClampNeg (a3))).bind fun ρ7 => if x1 < 0 ∨ 80 ≤ (x1).toNatClampNeg then none else (some (cs ρ7 30 (x1).toNatClampNeg (a1))).bind fun ρ9 => if x1 < 0 ∨ 80 ≤ (x1).toNatClampNeg then none else (some (cs ρ9 31 (x1).toNatClampNeg (a1))).bind fun ρ11 => if x1 < 0 ∨ 80 ≤ (x1).toNatClampNeg then none else (some (cs ρ11 33 (x1).toNatClampNeg ((-2)))).bind fun ρ13 => if x1 < 0 ∨ 80 ≤ (x1).toNatClampNeg then none else (some (cs ρ13 32 (x1).toNatClampNeg ((ρ13 0 0)))).bind fun ρ15 => if a1 < 0 ∨ 10 ≤ (a1).toNatClampNeg then none else (some (cs ρ15 9 (a1).toNatClampNeg (x1))).bind fun ρ17 => if a1 < 0 ∨ 10 ≤ (a1).toNatClampNeg then none else (fr_notes ρ17 (x1) (0) ((ρ17 0 0)) ((ρ17 6 (a1).toNatClampNeg))).bind fun o20 => some (o20, x1)
-- hasChannels(II)Z
def fr_hasChannels (ρ : Rho) (a1 : Int32) (a2 : Int32) : Option (Int32) := (fr_legsIn ρ (a1)).bind fun o1 => if a1 < 0 ∨ 8 ≤ (a1).toNatClampNeg then none else if a1 < 0 ∨ 8 ≤ (a1).toNatClampNeg then none else (if ((ρ 3 (a1).toNatClampNeg) - (ρ 4 (a1).toNatClampNeg)) < (o1 + a2) then some (0)
  else some (1))
-- begin(IIZ)I
def fr_begin_242 (ρ : Rho) (v7 : Int32) (v8 : Int32) (s1 : Int32) (s2 : Int32) (s4 : Int32) : Option (Rho × Int32) := if s4 < 0 ∨ 10 ≤ (s4).toNatClampNeg then none else (fr_begins ρ (s1) (s2) ((ρ 7 (s4).toNatClampNeg))).bind fun o2 => (some (o2.2)).bind fun x3 => (fr_getsSlice o2.1 (v8)).bind fun o4 => if x3 < 0 ∨ 80 ≤ (x3).toNatClampNeg then none else (if (o4 26 (x3).toNatClampNeg) = 0 then (fr_getsSlice o4 (x3)).bind fun o6 => some (o6, v7)
  else some (o4, v7))
def fr_begin_178 (ρ : Rho) (v1 : Int32) (v2 : Int32) (v3 : Int32) (s1 : Int32) : Option (Rho × Int32) := (fr_can ρ (s1)).bind fun o1 => (if o1.2 = 0 then some (o1.1, 0)
  else (some ((o1.1 20 0))).bind fun x2 => (some (cs o1.1 20 0 (((o1.1 20 0) + 1)))).bind fun ρ3 => if x2 < 0 ∨ 40 ≤ (x2).toNatClampNeg then none else (some (cs ρ3 21 (x2).toNatClampNeg (v1))).bind fun ρ4 => if v1 < 0 ∨ 10 ≤ (v1).toNatClampNeg then none else (fr_begins ρ4 (v1) (x2) ((ρ4 7 (v1).toNatClampNeg))).bind fun o7 => (some (o7.2)).bind fun x8 => (if v3 = 0 then fr_begin_242 o7.1 x2 x8 v2 x2 v2
  else fr_begin_242 o7.1 x2 x8 v2 x2 v1))
def fr_begin_147 (ρ : Rho) (v1 : Int32) (v2 : Int32) (v3 : Int32) (v4 : Int32) (s0 : Int32) : Option (Rho × Int32) := (if v4 = 0 then fr_begin_178 ρ v1 v2 v3 1
  else (if v1 = v2 then fr_begin_178 ρ v1 v2 v3 2
  else (if s0 = 0 then fr_begin_178 ρ v1 v2 v3 0
  else fr_begin_178 ρ v1 v2 v3 3)))
def fr_begin_142 (ρ : Rho) (v1 : Int32) (v2 : Int32) (v3 : Int32) (v4 : Int32) : Option (Rho × Int32) := fr_begin_147 ρ v1 v2 v3 v4 1
def fr_begin_122 (ρ : Rho) (v1 : Int32) (v2 : Int32) (v3 : Int32) (v4 : Int32) (s1 : Int32) (s2 : Int32) : Option (Rho × Int32) := (fr_hasChannels ρ (s1) (s2)).bind fun o1 => (if o1 = 0 then fr_begin_142 ρ v1 v2 v3 v4
  else if v2 < 0 ∨ 10 ≤ (v2).toNatClampNeg then none else (fr_hasChannels ρ ((ρ 6 (v2).toNatClampNeg)) (1)).bind fun o3 => (if o3 = 0 then fr_begin_142 ρ v1 v2 v3 v4
  else fr_begin_147 ρ v1 v2 v3 v4 0))
def fr_begin_98 (ρ : Rho) (v1 : Int32) (v2 : Int32) (v3 : Int32) (v4 : Int32) (v5 : Int32) (s0 : Int32) : Option (Rho × Int32) := (if v5 = 0 then if v1 < 0 ∨ 10 ≤ (v1).toNatClampNeg then none else (if s0 = 0 then fr_begin_122 ρ v1 v2 v3 v4 (ρ 6 (v1).toNatClampNeg) 1
  else fr_begin_122 ρ v1 v2 v3 v4 (ρ 6 (v1).toNatClampNeg) 2)
  else fr_begin_142 ρ v1 v2 v3 v4)
def fr_begin_97 (ρ : Rho) (v1 : Int32) (v2 : Int32) (v3 : Int32) (v4 : Int32) (v5 : Int32) : Option (Rho × Int32) := fr_begin_98 ρ v1 v2 v3 v4 v5 0
def fr_begin_71 (ρ : Rho) (v1 : Int32) (v2 : Int32) (v3 : Int32) (v4 : Int32) (s0 : Int32) : Option (Rho × Int32) := (if v4 = 0 then fr_begin_97 ρ v1 v2 v3 v4 s0
  else if v1 < 0 ∨ 10 ≤ (v1).toNatClampNeg then none else if v2 < 0 ∨ 10 ≤ (v2).toNatClampNeg then none else (if (ρ 6 (v1).toNatClampNeg) = (ρ 6 (v2).toNatClampNeg) then fr_begin_98 ρ v1 v2 v3 v4 s0 1
  else fr_begin_97 ρ v1 v2 v3 v4 s0))
def fr_begin_66 (ρ : Rho) (v1 : Int32) (v2 : Int32) (v3 : Int32) (v4 : Int32) : Option (Rho × Int32) := fr_begin_71 ρ v1 v2 v3 v4 1
def fr_begin_19 (ρ : Rho) (v1 : Int32) (v2 : Int32) (v3 : Int32) (s0 : Int32) : Option (Rho × Int32) := (if s0 = 0 then fr_begin_66 ρ v1 v2 v3 s0
  else if v1 < 0 ∨ 10 ≤ (v1).toNatClampNeg then none else (if (ρ 9 (v1).toNatClampNeg) = (-1) then if v2 < 0 ∨ 10 ≤ (v2).toNatClampNeg then none else (if (ρ 9 (v2).toNatClampNeg) = (-1) then (if (ρ 20 0) = 40 then fr_begin_66 ρ v1 v2 v3 s0
  else (if ((ρ 22 0) + 2) ≤ 80 then fr_begin_71 ρ v1 v2 v3 s0 0
  else fr_begin_66 ρ v1 v2 v3 s0))
  else fr_begin_66 ρ v1 v2 v3 s0)
  else fr_begin_66 ρ v1 v2 v3 s0))
def fr_begin_18 (ρ : Rho) (v1 : Int32) (v2 : Int32) (v3 : Int32) : Option (Rho × Int32) := fr_begin_19 ρ v1 v2 v3 0
def fr_begin (ρ : Rho) (a1 : Int32) (a2 : Int32) (a3 : Int32) : Option (Rho × Int32) := (fr_isPhone ρ (a1)).bind fun o1 => (if o1 = 0 then fr_begin_18 ρ a1 a2 a3
  else (fr_isPhone ρ (a2)).bind fun o2 => (if o2 = 0 then fr_begin_18 ρ a1 a2 a3
  else fr_begin_19 ρ a1 a2 a3 1))
-- join(IIZ)I
def fr_join_133 (ρ : Rho) (s1 : Int32) (s2 : Int32) (s4 : Int32) : Option (Rho × Int32) := if s4 < 0 ∨ 10 ≤ (s4).toNatClampNeg then none else (fr_begins ρ (s1) (s2) ((ρ 7 (s4).toNatClampNeg))).bind fun o2 => (some (o2.2)).bind fun x3 => (fr_getsSlice o2.1 (x3)).bind fun o4 => some (o4, x3)
def fr_join_104 (ρ : Rho) (v1 : Int32) (v2 : Int32) (v3 : Int32) (s1 : Int32) : Option (Rho × Int32) := (fr_can ρ (s1)).bind fun o1 => (if o1.2 = 0 then some (o1.1, 0)
  else (if v3 = 0 then fr_join_133 o1.1 v1 v2 v1
  else if v2 < 0 ∨ 40 ≤ (v2).toNatClampNeg then none else fr_join_133 o1.1 v1 v2 (o1.1 21 (v2).toNatClampNeg)))
def fr_join_82 (ρ : Rho) (v1 : Int32) (v2 : Int32) (v3 : Int32) (v4 : Int32) (s0 : Int32) : Option (Rho × Int32) := (if v4 = 0 then fr_join_104 ρ v1 v2 v3 1
  else (if s0 = 0 then fr_join_104 ρ v1 v2 v3 0
  else fr_join_104 ρ v1 v2 v3 2))
def fr_join_81 (ρ : Rho) (v1 : Int32) (v2 : Int32) (v3 : Int32) (v4 : Int32) : Option (Rho × Int32) := fr_join_82 ρ v1 v2 v3 v4 0
def fr_join_77 (ρ : Rho) (v1 : Int32) (v2 : Int32) (v3 : Int32) (v4 : Int32) : Option (Rho × Int32) := fr_join_82 ρ v1 v2 v3 v4 1
def fr_join_20 (ρ : Rho) (v1 : Int32) (v2 : Int32) (v3 : Int32) (s0 : Int32) : Option (Rho × Int32) := (if s0 = 0 then fr_join_81 ρ v1 v2 v3 s0
  else if v1 < 0 ∨ 10 ≤ (v1).toNatClampNeg then none else (if (ρ 9 (v1).toNatClampNeg) = (-1) then (fr_partiesOf ρ (v2)).bind fun o2 => (if o2 = 0 then fr_join_77 ρ v1 v2 v3 s0
  else (fr_partiesOf ρ (v2)).bind fun o3 => (if o3 = 4 then fr_join_77 ρ v1 v2 v3 s0
  else if v1 < 0 ∨ 10 ≤ (v1).toNatClampNeg then none else (fr_hasChannels ρ ((ρ 6 (v1).toNatClampNeg)) (1)).bind fun o5 => (if o5 = 0 then fr_join_77 ρ v1 v2 v3 s0
  else (if (ρ 22 0) = 80 then fr_join_77 ρ v1 v2 v3 s0
  else fr_join_81 ρ v1 v2 v3 s0))))
  else fr_join_77 ρ v1 v2 v3 s0))
def fr_join_19 (ρ : Rho) (v1 : Int32) (v2 : Int32) (v3 : Int32) : Option (Rho × Int32) := fr_join_20 ρ v1 v2 v3 0
def fr_join (ρ : Rho) (a1 : Int32) (a2 : Int32) (a3 : Int32) : Option (Rho × Int32) := (fr_isPhone ρ (a1)).bind fun o1 => (if o1 = 0 then fr_join_19 ρ a1 a2 a3
  else (fr_isCall ρ (a2)).bind fun o2 => (if o2 = 0 then fr_join_19 ρ a1 a2 a3
  else fr_join_20 ρ a1 a2 a3 1))
-- leave(I)I
def fr_leave_29 (ρ : Rho) (v1 : Int32) (s1 : Int32) : Option (Rho × Int32) := (fr_can ρ (s1)).bind fun o1 => (if o1.2 = 0 then some (o1.1, 0)
  else if v1 < 0 ∨ 10 ≤ (v1).toNatClampNeg then none else (some ((o1.1 9 (v1).toNatClampNeg))).bind fun x3 => if v1 < 0 ∨ 10 ≤ (v1).toNatClampNeg then none else (fr_closes o1.1 (x3) (1) ((o1.1 6 (v1).toNatClampNeg))).bind fun o5 => if x3 < 0 ∨ 80 ≤ (x3).toNatClampNeg then none else (fr_partiesOf o5 ((o5 24 (x3).toNatClampNeg))).bind fun o7 => some (o5, o7))
def fr_leave (ρ : Rho) (a1 : Int32) : Option (Rho × Int32) := (fr_isPhone ρ (a1)).bind fun o1 => (if o1 = 0 then fr_leave_29 ρ a1 1
  else if a1 < 0 ∨ 10 ≤ (a1).toNatClampNeg then none else (if (ρ 9 (a1).toNatClampNeg) = (-1) then fr_leave_29 ρ a1 2
  else fr_leave_29 ρ a1 0))
-- areNeighbours(II)Z
def fr_areNeighbours (ρ : Rho) (a1 : Int32) (a2 : Int32) : Option (Int32) := (if ((a1 + 1) - (a1 + 1) / 8 * 8) = a2 then some (1)
  else (if ((a2 + 1) - (a2 + 1) / 8 * 8) = a1 then some (1)
  else some (0)))
-- move(II)Z
def fr_move_87 (ρ : Rho) (v1 : Int32) (v2 : Int32) (v3 : Int32) (v4 : Int32) (s0 : Int32) : Option (Rho × Int32) := if v1 < 0 ∨ 10 ≤ (v1).toNatClampNeg then none else (some (cs ρ 6 (v1).toNatClampNeg (v2))).bind fun ρ1 => (if v4 = (-1) then some (ρ1, 0)
  else (if s0 = 0 then (fr_closes ρ1 (v4) (3) (v3)).bind fun o3 => if s0 = 0 ∨ s0 = 1 then some (o3, s0) else none
  else (fr_notes ρ1 (v4) (1) ((ρ1 0 0)) (v2)).bind fun o4 => if s0 = 0 ∨ s0 = 1 then some (o4, s0) else none))
def fr_move_86 (ρ : Rho) (v1 : Int32) (v2 : Int32) (v3 : Int32) (v4 : Int32) : Option (Rho × Int32) := fr_move_87 ρ v1 v2 v3 v4 0
def fr_move_20 (ρ : Rho) (v1 : Int32) (v2 : Int32) (s1 : Int32) : Option (Rho × Int32) := (fr_can ρ (s1)).bind fun o1 => (if o1.2 = 0 then some (o1.1, 0)
  else if v1 < 0 ∨ 10 ≤ (v1).toNatClampNeg then none else (some ((o1.1 6 (v1).toNatClampNeg))).bind fun x3 => if v1 < 0 ∨ 10 ≤ (v1).toNatClampNeg then none else (some ((o1.1 9 (v1).toNatClampNeg))).bind fun x5 => (if x3 = v2 then (if x5 = (-1) then some (o1.1, 0)
  else some (o1.1, 1))
  else (fr_areNeighbours o1.1 (x3) (v2)).bind fun o6 => (if o6 = 0 then fr_move_86 o1.1 v1 v2 x3 x5
  else (fr_legsIn o1.1 (v2)).bind fun o7 => if v2 < 0 ∨ 8 ≤ (v2).toNatClampNeg then none else (if (o1.1 3 (v2).toNatClampNeg) ≤ o7 then fr_move_86 o1.1 v1 v2 x3 x5
  else fr_move_87 o1.1 v1 v2 x3 x5 1))))
def fr_move_19 (ρ : Rho) (v1 : Int32) (v2 : Int32) : Option (Rho × Int32) := fr_move_20 ρ v1 v2 1
def fr_move (ρ : Rho) (a1 : Int32) (a2 : Int32) : Option (Rho × Int32) := (fr_isPhone ρ (a1)).bind fun o1 => (if o1 = 0 then fr_move_19 ρ a1 a2
  else (fr_isCell ρ (a2)).bind fun o2 => (if o2 = 0 then fr_move_19 ρ a1 a2
  else fr_move_20 ρ a1 a2 0))
-- rates(I)V
def fr_rates (ρ : Rho) (a1 : Int32) : Option (Rho) := if a1 < 0 ∨ 80 ≤ (a1).toNatClampNeg then none else (some ((ρ 23 (a1).toNatClampNeg))).bind fun x2 => (fr_rateNow ρ (x2)).bind fun o3 => if a1 < 0 ∨ 80 ≤ (a1).toNatClampNeg then none else if a1 < 0 ∨ 80 ≤ (a1).toNatClampNeg then none else (some (cs ρ 34 (a1).toNatClampNeg (((ρ 34 (a1).toNatClampNeg) - 1)))).bind fun ρ5 => if a1 < 0 ∨ 80 ≤ (a1).toNatClampNeg then none else if a1 < 0 ∨ 80 ≤ (a1).toNatClampNeg then none else (some (cs ρ5 27 (a1).toNatClampNeg (((ρ5 27 (a1).toNatClampNeg) + 1)))).bind fun ρ8 => if a1 < 0 ∨ 80 ≤ (a1).toNatClampNeg then none else (some (cs ρ8 32 (a1).toNatClampNeg (((ρ8 0 0) + 1)))).bind fun ρ10 => if a1 < 0 ∨ 80 ≤ (a1).toNatClampNeg then none else if a1 < 0 ∨ 80 ≤ (a1).toNatClampNeg then none else (some (cs ρ10 30 (a1).toNatClampNeg ((((3 * (ρ10 30 (a1).toNatClampNeg)) + o3)).toInt8.toInt32))).bind fun ρ13 => if a1 < 0 ∨ 80 ≤ (a1).toNatClampNeg then none else (if (ρ13 33 (a1).toNatClampNeg) = (-1) then if a1 < 0 ∨ 80 ≤ (a1).toNatClampNeg then none else if a1 < 0 ∨ 80 ≤ (a1).toNatClampNeg then none else (some (cs ρ13 28 (a1).toNatClampNeg (((ρ13 28 (a1).toNatClampNeg) + o3)))).bind fun ρ17 => if a1 < 0 ∨ 80 ≤ (a1).toNatClampNeg then none else if (ρ17 25 (a1).toNatClampNeg) < 0 ∨ 4 ≤ ((ρ17 25 (a1).toNatClampNeg)).toNatClampNeg then none else if (ρ17 25 (a1).toNatClampNeg) < 0 ∨ 4 ≤ ((ρ17 25 (a1).toNatClampNeg)).toNatClampNeg then none else (some (cs ρ17 13 ((ρ17 25 (a1).toNatClampNeg)).toNatClampNeg (((ρ17 13 ((ρ17 25 (a1).toNatClampNeg)).toNatClampNeg) + o3)))).bind fun ρ21 => (fr_costToday ρ21 (x2)).bind fun o23 => if x2 < 0 ∨ 10 ≤ (x2).toNatClampNeg then none else (some (cs ρ21 10 (x2).toNatClampNeg ((o23 + o3)))).bind fun ρ24 => (fr_today ρ24).bind fun o26 => if x2 < 0 ∨ 10 ≤ (x2).toNatClampNeg then none else (some (cs ρ24 11 (x2).toNatClampNeg (o26))).bind fun ρ27 => some ρ27
  else if a1 < 0 ∨ 80 ≤ (a1).toNatClampNeg then none else if a1 < 0 ∨ 80 ≤ (a1).toNatClampNeg then none else (some (cs ρ13 29 (a1).toNatClampNeg (((ρ13 29 (a1).toNatClampNeg) + o3)))).bind fun ρ30 => some ρ30)
-- lives(I)V
def fr_lives_107 (ρ : Rho) (v1 : Int32) : Option (Rho) := if v1 < 0 ∨ 80 ≤ (v1).toNatClampNeg then none else (if (ρ 26 (v1).toNatClampNeg) = 0 then (fr_rates ρ (v1)).bind fun o2 => some o2
  else some ρ)
def fr_lives_93 (ρ : Rho) (v1 : Int32) : Option (Rho) := if v1 < 0 ∨ 80 ≤ (v1).toNatClampNeg then none else (if (ρ 34 (v1).toNatClampNeg) = 0 then (fr_getsSlice ρ (v1)).bind fun o2 => fr_lives_107 o2 v1
  else fr_lives_107 ρ v1)
def fr_lives_81 (ρ : Rho) (v1 : Int32) (s0 : Int32) : Option (Rho) := (if s0 = 0 then fr_lives_93 ρ v1
  else (fr_allGoesBack ρ (v1)).bind fun o1 => fr_lives_93 o1 v1)
def fr_lives_80 (ρ : Rho) (v1 : Int32) : Option (Rho) := fr_lives_81 ρ v1 0
def fr_lives_76 (ρ : Rho) (v1 : Int32) : Option (Rho) := fr_lives_81 ρ v1 1
def fr_lives (ρ : Rho) (a1 : Int32) : Option (Rho) := if a1 < 0 ∨ 80 ≤ (a1).toNatClampNeg then none else (some ((ρ 23 (a1).toNatClampNeg))).bind fun x2 => if a1 < 0 ∨ 80 ≤ (a1).toNatClampNeg then none else (some ((ρ 33 (a1).toNatClampNeg))).bind fun x4 => (if x4 = (-1) then if a1 < 0 ∨ 80 ≤ (a1).toNatClampNeg then none else (fr_rateNow ρ (x2)).bind fun o6 => (if (ρ 35 (a1).toNatClampNeg) = o6 then fr_lives_81 ρ a1 0
  else fr_lives_81 ρ a1 1)
  else (if x4 < 0 then fr_lives_80 ρ a1
  else (fr_isOver ρ (x4)).bind fun o7 => (if o7 = 0 then if x4 < 0 ∨ 40 ≤ (x4).toNatClampNeg then none else if x2 < 0 ∨ 10 ≤ (x2).toNatClampNeg then none else if (ρ 6 (x2).toNatClampNeg) < 0 ∨ 8 ≤ ((ρ 6 (x2).toNatClampNeg)).toNatClampNeg then none else (if (((ρ 16 (x4).toNatClampNeg) >>> ((ρ 2 ((ρ 6 (x2).toNatClampNeg)).toNatClampNeg) &&& 31)) &&& 1) = 0 then fr_lives_76 ρ a1
  else fr_lives_80 ρ a1)
  else fr_lives_76 ρ a1)))
-- pass(I)I
def fr_pass_80 (k47 : Rho → Int32 → Int32 → Option (Rho × Int32)) (k54 : Rho → Int32 → Int32 → Int32 → Option (Rho × Int32)) (ρ : Rho) (v1 : Int32) (v2 : Int32) (v3 : Int32) : Option (Rho × Int32) := (some (v3 + 1)).bind fun x1 => k54 ρ v1 v2 x1
def fr_pass_54 (k47 : Rho → Int32 → Int32 → Option (Rho × Int32)) : Nat → Rho → Int32 → Int32 → Int32 → Option (Rho × Int32)
  | 0, _, _, _, _ => none
  | n + 1, ρ, v1, v2, v3 => (if 10 ≤ v3 then (some (cs ρ 0 0 (((ρ 0 0) + 1)))).bind fun ρ1 => (some (v2 + 1)).bind fun x2 => k47 ρ1 v1 x2
  else if v3 < 0 ∨ 10 ≤ (v3).toNatClampNeg then none else (if (ρ 9 (v3).toNatClampNeg) = (-1) then fr_pass_80 k47 (fr_pass_54 k47 n) ρ v1 v2 v3
  else if v3 < 0 ∨ 10 ≤ (v3).toNatClampNeg then none else (fr_lives ρ ((ρ 9 (v3).toNatClampNeg))).bind fun o5 => fr_pass_80 k47 (fr_pass_54 k47 n) o5 v1 v2 v3))
def fr_pass_47 : Nat → Rho → Int32 → Int32 → Option (Rho × Int32)
  | 0, _, _, _ => none
  | n + 1, ρ, v1, v2 => (if v1 ≤ v2 then some (ρ, (ρ 36 0))
  else fr_pass_54 (fr_pass_47 n) FU ρ v1 v2 0)
def fr_pass_32 (ρ : Rho) (v1 : Int32) (s1 : Int32) : Option (Rho × Int32) := (fr_can ρ (s1)).bind fun o1 => (if o1.2 = 0 then some (o1.1, 0)
  else (some (cs o1.1 36 0 (0))).bind fun ρ2 => fr_pass_47 FU ρ2 v1 0)
def fr_pass (ρ : Rho) (a1 : Int32) : Option (Rho × Int32) := (fr_isIn ρ (a1) (1) (500)).bind fun o1 => (if o1 = 0 then fr_pass_32 ρ a1 1
  else (if ((ρ 0 0) + a1) ≤ 50000 then fr_pass_32 ρ a1 0
  else fr_pass_32 ρ a1 2))
-- now()I
def fr_now (ρ : Rho)  : Option (Rho × Int32) := (some (cs ρ 39 0 (0))).bind fun ρ1 => some (ρ1, (ρ1 0 0))
-- isAsked(I)Z
def fr_isAsked (ρ : Rho) (a1 : Int32) : Option (Rho × Int32) := (fr_isPhone ρ (a1)).bind fun o1 => (if o1 = 0 then (fr_can ρ (1)).bind fun o2 => if o2.2 = 0 ∨ o2.2 = 1 then some (o2.1, o2.2) else none
  else (fr_can ρ (0)).bind fun o3 => if o3.2 = 0 ∨ o3.2 = 1 then some (o3.1, o3.2) else none)
-- cellOf(I)I
def fr_cellOf (ρ : Rho) (a1 : Int32) : Option (Rho × Int32) := (fr_isAsked ρ (a1)).bind fun o1 => (if o1.2 = 0 then some (o1.1, 0)
  else if a1 < 0 ∨ 10 ≤ (a1).toNatClampNeg then none else some (o1.1, (o1.1 6 (a1).toNatClampNeg)))
-- rateOf(I)I
def fr_rateOf (ρ : Rho) (a1 : Int32) : Option (Rho × Int32) := (fr_isAsked ρ (a1)).bind fun o1 => (if o1.2 = 0 then some (o1.1, 0)
  else (fr_rateNow o1.1 (a1)).bind fun o2 => some (o1.1, o2))
-- legOf(I)I
def fr_legOf (ρ : Rho) (a1 : Int32) : Option (Rho × Int32) := (fr_isAsked ρ (a1)).bind fun o1 => (if o1.2 = 0 then some (o1.1, 0)
  else if a1 < 0 ∨ 10 ≤ (a1).toNatClampNeg then none else some (o1.1, (o1.1 9 (a1).toNatClampNeg)))
-- sliceOf(I)I
def fr_sliceOf (ρ : Rho) (a1 : Int32) : Option (Rho × Int32) := (fr_isAsked ρ (a1)).bind fun o1 => (if o1.2 = 0 then some (o1.1, 0)
  else if a1 < 0 ∨ 10 ≤ (a1).toNatClampNeg then none else (if (o1.1 9 (a1).toNatClampNeg) = (-1) then some (o1.1, 0)
  else if a1 < 0 ∨ 10 ≤ (a1).toNatClampNeg then none else if (o1.1 9 (a1).toNatClampNeg) < 0 ∨ 80 ≤ ((o1.1 9 (a1).toNatClampNeg)).toNatClampNeg then none else some (o1.1, (o1.1 34 ((o1.1 9 (a1).toNatClampNeg)).toNatClampNeg))))
-- parties(I)I
def fr_parties_14 (ρ : Rho) (v1 : Int32) (s1 : Int32) : Option (Rho × Int32) := (fr_can ρ (s1)).bind fun o1 => (if o1.2 = 0 then some (o1.1, 0)
  else (fr_partiesOf o1.1 (v1)).bind fun o2 => some (o1.1, o2))
def fr_parties (ρ : Rho) (a1 : Int32) : Option (Rho × Int32) := (fr_isCall ρ (a1)).bind fun o1 => (if o1 = 0 then fr_parties_14 ρ a1 1
  else fr_parties_14 ρ a1 0)
-- legs()I
def fr_legs (ρ : Rho)  : Option (Rho × Int32) := (some (cs ρ 39 0 (0))).bind fun ρ1 => some (ρ1, (ρ1 22 0))
-- isAskedOf(I)Z
def fr_isAskedOf (ρ : Rho) (a1 : Int32) : Option (Rho × Int32) := (fr_isLeg ρ (a1)).bind fun o1 => (if o1 = 0 then (fr_can ρ (1)).bind fun o2 => if o2.2 = 0 ∨ o2.2 = 1 then some (o2.1, o2.2) else none
  else (fr_can ρ (0)).bind fun o3 => if o3.2 = 0 ∨ o3.2 = 1 then some (o3.1, o3.2) else none)
-- stateOf(I)I
def fr_stateOf (ρ : Rho) (a1 : Int32) : Option (Rho × Int32) := (fr_isAskedOf ρ (a1)).bind fun o1 => (if o1.2 = 0 then some (o1.1, 0)
  else if a1 < 0 ∨ 80 ≤ (a1).toNatClampNeg then none else some (o1.1, (o1.1 26 (a1).toNatClampNeg)))
-- seconds(I)I
def fr_seconds (ρ : Rho) (a1 : Int32) : Option (Rho × Int32) := (fr_isAskedOf ρ (a1)).bind fun o1 => (if o1.2 = 0 then some (o1.1, 0)
  else if a1 < 0 ∨ 80 ≤ (a1).toNatClampNeg then none else some (o1.1, (o1.1 27 (a1).toNatClampNeg)))
-- charged(I)I
def fr_charged (ρ : Rho) (a1 : Int32) : Option (Rho × Int32) := (fr_isAskedOf ρ (a1)).bind fun o1 => (if o1.2 = 0 then some (o1.1, 0)
  else if a1 < 0 ∨ 80 ≤ (a1).toNatClampNeg then none else some (o1.1, (o1.1 28 (a1).toNatClampNeg)))
-- covered(I)I
def fr_covered (ρ : Rho) (a1 : Int32) : Option (Rho × Int32) := (fr_isAskedOf ρ (a1)).bind fun o1 => (if o1.2 = 0 then some (o1.1, 0)
  else if a1 < 0 ∨ 80 ≤ (a1).toNatClampNeg then none else some (o1.1, (o1.1 29 (a1).toNatClampNeg)))
-- ratedByEvents(I)I
def fr_ratedByEvents (ρ : Rho) (a1 : Int32) : Option (Rho × Int32) := (fr_isAskedOf ρ (a1)).bind fun o1 => (if o1.2 = 0 then some (o1.1, 0)
  else if a1 < 0 ∨ 80 ≤ (a1).toNatClampNeg then none else if a1 < 0 ∨ 80 ≤ (a1).toNatClampNeg then none else some (o1.1, ((o1.1 28 (a1).toNatClampNeg) + (o1.1 29 (a1).toNatClampNeg))))
-- tag(I)I
def fr_tag (ρ : Rho) (a1 : Int32) : Option (Rho × Int32) := (fr_isAskedOf ρ (a1)).bind fun o1 => (if o1.2 = 0 then some (o1.1, 0)
  else if a1 < 0 ∨ 80 ≤ (a1).toNatClampNeg then none else some (o1.1, (o1.1 30 (a1).toNatClampNeg)))
-- sealOf(I)I
def fr_sealOf (ρ : Rho) (a1 : Int32) : Option (Int32) := if a1 < 0 ∨ 80 ≤ (a1).toNatClampNeg then none else if a1 < 0 ∨ 80 ≤ (a1).toNatClampNeg then none else some (((ρ 31 (a1).toNatClampNeg) ^^^ ((((ρ 31 (a1).toNatClampNeg) : Int32).toUInt32 >>> ((16 : Int32).toUInt32 &&& Int32.toUInt32 31)).toInt32)))
-- seal(I)I
def fr_seal (ρ : Rho) (a1 : Int32) : Option (Rho × Int32) := (fr_isAskedOf ρ (a1)).bind fun o1 => (if o1.2 = 0 then some (o1.1, 0)
  else (fr_sealOf o1.1 (a1)).bind fun o2 => some (o1.1, o2))
-- stamp(I)I
def fr_stamp_71 (k30 : Rho → Int32 → Int32 → Int64 → Option (Rho × Int32)) (ρ : Rho) (v1 : Int32) (v4 : Int32) (s0 : Int64) : Option (Rho × Int32) := (some (v4 + 1)).bind fun x1 => k30 ρ v1 x1 (s0)
def fr_stamp_30 : Nat → Rho → Int32 → Int32 → Int64 → Option (Rho × Int32)
  | 0, _, _, _, _ => none
  | n + 1, ρ, v1, v4, u2 => (if (ρ 22 0) ≤ v4 then some (ρ, (((u2 >>> ((32 : Int32).toInt64 &&& 63)) : Int64).toInt32 ^^^ (u2 : Int64).toInt32))
  else if v4 < 0 ∨ 80 ≤ (v4).toNatClampNeg then none else (if (ρ 24 (v4).toNatClampNeg) = v1 then (fr_sealOf ρ (v4)).bind fun o2 => fr_stamp_71 (fr_stamp_30 n) ρ v1 v4 (((u2 <<< ((7 : Int32).toInt64 &&& 63)) ||| (((u2 : Int64).toUInt64 >>> (((57 : Int32).toInt64).toUInt64 &&& Int64.toUInt64 63)).toInt64)) + (o2 : Int32).toInt64)
  else fr_stamp_71 (fr_stamp_30 n) ρ v1 v4 u2))
def fr_stamp_14 (ρ : Rho) (v1 : Int32) (s1 : Int32) : Option (Rho × Int32) := (fr_can ρ (s1)).bind fun o1 => (if o1.2 = 0 then some (o1.1, 0)
  else (some (((v1 : Int32).toInt64 + 1))).bind fun x2 => fr_stamp_30 FU o1.1 v1 0 (x2))
def fr_stamp (ρ : Rho) (a1 : Int32) : Option (Rho × Int32) := (fr_isCall ρ (a1)).bind fun o1 => (if o1 = 0 then fr_stamp_14 ρ a1 1
  else fr_stamp_14 ρ a1 0)
-- sign(I)V
def fr_sign_16 (ρ : Rho) (s1 : Int32) : Option (Rho) := (some (cs ρ 38 0 (s1))).bind fun ρ1 => (some (cs ρ1 37 0 (((ρ1 37 0) - 1)))).bind fun ρ2 => some ρ2
def fr_sign (ρ : Rho) (a1 : Int32) : Option (Rho) := (if (ρ 37 0) = 0 then fr_sign_16 ρ a1
  else fr_sign_16 ρ (ρ 38 0))
-- number(I)V
def fr_number_18 : Nat → Rho → Int32 → Int32 → Option (Rho)
  | 0, _, _, _ => none
  | n + 1, ρ, v1, v2 => (if v2 ≤ 0 then some ρ
  else if v2 = 0 then none else (fr_sign ρ ((48 + ((v1 / v2) - (v1 / v2) / 10 * 10)))).bind fun o2 => (some ((v2 / 10))).bind fun x3 => fr_number_18 n o2 v1 x3)
def fr_number_2 : Nat → Rho → Int32 → Int32 → Option (Rho)
  | 0, _, _, _ => none
  | n + 1, ρ, v1, v2 => if v2 = 0 then none else (if (v1 / v2) ≤ 9 then fr_number_18 FU ρ v1 v2
  else (some ((v2 * 10))).bind fun x2 => fr_number_2 n ρ v1 x2)
def fr_number (ρ : Rho) (a1 : Int32) : Option (Rho) := fr_number_2 FU ρ a1 1
-- lineAt(II)I
def fr_lineAt_18 (ρ : Rho) (v1 : Int32) (v2 : Int32) (s1 : Int32) : Option (Rho × Int32) := (fr_can ρ (s1)).bind fun o1 => (if o1.2 = 0 then some (o1.1, 0)
  else (some (cs o1.1 37 0 (v2))).bind fun ρ2 => (some (cs ρ2 38 0 ((-1)))).bind fun ρ3 => (fr_sign ρ3 (80)).bind fun o4 => if v1 < 0 ∨ 80 ≤ (v1).toNatClampNeg then none else (fr_number o4 ((o4 23 (v1).toNatClampNeg))).bind fun o6 => (fr_sign o6 (67)).bind fun o7 => if v1 < 0 ∨ 80 ≤ (v1).toNatClampNeg then none else (fr_number o7 ((o7 24 (v1).toNatClampNeg))).bind fun o9 => (fr_sign o9 (58)).bind fun o10 => if v1 < 0 ∨ 80 ≤ (v1).toNatClampNeg then none else (fr_number o10 ((o10 27 (v1).toNatClampNeg))).bind fun o12 => (fr_sign o12 (61)).bind fun o13 => if v1 < 0 ∨ 80 ≤ (v1).toNatClampNeg then none else (fr_number o13 ((o13 28 (v1).toNatClampNeg))).bind fun o15 => (fr_sign o15 (43)).bind fun o16 => if v1 < 0 ∨ 80 ≤ (v1).toNatClampNeg then none else (fr_number o16 ((o16 29 (v1).toNatClampNeg))).bind fun o18 => if v1 < 0 ∨ 80 ≤ (v1).toNatClampNeg then none else (some ((o18 26 (v1).toNatClampNeg))).bind fun x20 => (if x20 = 0 then (fr_sign o18 (126)).bind fun o21 => some (o21, (o21 38 0))
  else (if x20 = 1 then (fr_sign o18 (46)).bind fun o22 => some (o22, (o22 38 0))
  else (if x20 = 2 then (fr_sign o18 (33)).bind fun o23 => some (o23, (o23 38 0))
  else (fr_sign o18 (63)).bind fun o24 => some (o24, (o24 38 0))))))
def fr_lineAt_17 (ρ : Rho) (v1 : Int32) (v2 : Int32) : Option (Rho × Int32) := fr_lineAt_18 ρ v1 v2 1
def fr_lineAt (ρ : Rho) (a1 : Int32) (a2 : Int32) : Option (Rho × Int32) := (fr_isLeg ρ (a1)).bind fun o1 => (if o1 = 0 then fr_lineAt_17 ρ a1 a2
  else (if a2 < 0 then fr_lineAt_17 ρ a1 a2
  else fr_lineAt_18 ρ a1 a2 0))
